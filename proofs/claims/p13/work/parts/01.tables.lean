-- ===== PART A: goes FIRST, ahead of the names: the tables' words, and 'selects' of the private methods out of them =====
/-- a private method of a class that the tables say can be made, by its rows of tables_1 -/
def lw_okq (q : MethodName × Nat) : Prop := (q.1.cls ≠ "java/lang/invoke/MethodHandle" ∧ q.1.cls ≠ "java/lang/invoke/VarHandle") ∧ Cond.instantiable q.1.cls q.2 ∈ tables_1 ∧ Cond.privateMethod q.1 ∈ tables_1 ∧ Cond.instanceMethod q.1 ∈ tables_1
theorem ti_1 {w : Cond} (h : w ∈ tables_1_1) : w ∈ tables_1 := show w ∈ tables_1_1 ++ (tables_1_2 ++ (tables_1_3 ++ (tables_1_4 ++ (tables_1_5 ++ (tables_1_6 ++ (tables_1_7 ++ tables_1_8)))))) from List.mem_append_left _ h
theorem ti_2 {w : Cond} (h : w ∈ tables_1_2) : w ∈ tables_1 := show w ∈ tables_1_1 ++ (tables_1_2 ++ (tables_1_3 ++ (tables_1_4 ++ (tables_1_5 ++ (tables_1_6 ++ (tables_1_7 ++ tables_1_8)))))) from List.mem_append_right _ (List.mem_append_left _ h)
theorem ti_3 {w : Cond} (h : w ∈ tables_1_3) : w ∈ tables_1 := show w ∈ tables_1_1 ++ (tables_1_2 ++ (tables_1_3 ++ (tables_1_4 ++ (tables_1_5 ++ (tables_1_6 ++ (tables_1_7 ++ tables_1_8)))))) from List.mem_append_right _ (List.mem_append_right _ (List.mem_append_left _ h))
theorem ti_4 {w : Cond} (h : w ∈ tables_1_4) : w ∈ tables_1 := show w ∈ tables_1_1 ++ (tables_1_2 ++ (tables_1_3 ++ (tables_1_4 ++ (tables_1_5 ++ (tables_1_6 ++ (tables_1_7 ++ tables_1_8)))))) from List.mem_append_right _ (List.mem_append_right _ (List.mem_append_right _ (List.mem_append_left _ h)))
theorem ti_5 {w : Cond} (h : w ∈ tables_1_5) : w ∈ tables_1 := show w ∈ tables_1_1 ++ (tables_1_2 ++ (tables_1_3 ++ (tables_1_4 ++ (tables_1_5 ++ (tables_1_6 ++ (tables_1_7 ++ tables_1_8)))))) from List.mem_append_right _ (List.mem_append_right _ (List.mem_append_right _ (List.mem_append_right _ (List.mem_append_left _ h))))
theorem ti_6 {w : Cond} (h : w ∈ tables_1_6) : w ∈ tables_1 := show w ∈ tables_1_1 ++ (tables_1_2 ++ (tables_1_3 ++ (tables_1_4 ++ (tables_1_5 ++ (tables_1_6 ++ (tables_1_7 ++ tables_1_8)))))) from List.mem_append_right _ (List.mem_append_right _ (List.mem_append_right _ (List.mem_append_right _ (List.mem_append_right _ (List.mem_append_left _ h)))))
theorem ti_7 {w : Cond} (h : w ∈ tables_1_7) : w ∈ tables_1 := show w ∈ tables_1_1 ++ (tables_1_2 ++ (tables_1_3 ++ (tables_1_4 ++ (tables_1_5 ++ (tables_1_6 ++ (tables_1_7 ++ tables_1_8)))))) from List.mem_append_right _ (List.mem_append_right _ (List.mem_append_right _ (List.mem_append_right _ (List.mem_append_right _ (List.mem_append_right _ (List.mem_append_left _ h))))))
theorem ti_8 {w : Cond} (h : w ∈ tables_1_8) : w ∈ tables_1 := show w ∈ tables_1_1 ++ (tables_1_2 ++ (tables_1_3 ++ (tables_1_4 ++ (tables_1_5 ++ (tables_1_6 ++ (tables_1_7 ++ tables_1_8)))))) from List.mem_append_right _ (List.mem_append_right _ (List.mem_append_right _ (List.mem_append_right _ (List.mem_append_right _ (List.mem_append_right _ (List.mem_append_right _ (h)))))))
theorem lw_p0 : lw_okq (⟨"ShortcutDuty$Reader", "advance", "()V"⟩, 8) := ⟨⟨by decide +kernel, by decide +kernel⟩, ti_1 (List.mem_of_getElem? (i := 45) rfl), ti_2 (List.mem_of_getElem? (i := 188) rfl), ti_2 (List.mem_of_getElem? (i := 189) rfl)⟩
theorem lw_p1 : lw_okq (⟨"ShortcutDuty$Reader", "readKingdom", "()V"⟩, 8) := ⟨⟨by decide +kernel, by decide +kernel⟩, ti_1 (List.mem_of_getElem? (i := 45) rfl), ti_2 (List.mem_of_getElem? (i := 207) rfl), ti_2 (List.mem_of_getElem? (i := 208) rfl)⟩
theorem lw_p2 : lw_okq (⟨"ShortcutDuty$Reader", "takeWord", "(Ljava/lang/String;)V"⟩, 8) := ⟨⟨by decide +kernel, by decide +kernel⟩, ti_1 (List.mem_of_getElem? (i := 45) rfl), ti_2 (List.mem_of_getElem? (i := 212) rfl), ti_2 (List.mem_of_getElem? (i := 213) rfl)⟩
theorem lw_p3 : lw_okq (⟨"ShortcutDuty$Reader", "isWord", "(Ljava/lang/String;)Z"⟩, 8) := ⟨⟨by decide +kernel, by decide +kernel⟩, ti_1 (List.mem_of_getElem? (i := 45) rfl), ti_2 (List.mem_of_getElem? (i := 216) rfl), ti_2 (List.mem_of_getElem? (i := 217) rfl)⟩
theorem lw_p4 : lw_okq (⟨"ShortcutDuty$Reader", "fail", "(II)V"⟩, 8) := ⟨⟨by decide +kernel, by decide +kernel⟩, ti_1 (List.mem_of_getElem? (i := 45) rfl), ti_3 (List.mem_of_getElem? (i := 28) rfl), ti_3 (List.mem_of_getElem? (i := 29) rfl)⟩
theorem lw_p5 : lw_okq (⟨"ShortcutDuty$Reader", "takeNamed", "(Ljava/lang/String;II)I"⟩, 8) := ⟨⟨by decide +kernel, by decide +kernel⟩, ti_1 (List.mem_of_getElem? (i := 45) rfl), ti_3 (List.mem_of_getElem? (i := 33) rfl), ti_3 (List.mem_of_getElem? (i := 34) rfl)⟩
theorem lw_p6 : lw_okq (⟨"ShortcutDuty$Reader", "takeNumber", "(II)I"⟩, 8) := ⟨⟨by decide +kernel, by decide +kernel⟩, ti_1 (List.mem_of_getElem? (i := 45) rfl), ti_3 (List.mem_of_getElem? (i := 37) rfl), ti_3 (List.mem_of_getElem? (i := 38) rfl)⟩
theorem lw_p7 : lw_okq (⟨"ShortcutDuty$Reader", "readLink", "(I)V"⟩, 8) := ⟨⟨by decide +kernel, by decide +kernel⟩, ti_1 (List.mem_of_getElem? (i := 45) rfl), ti_3 (List.mem_of_getElem? (i := 46) rfl), ti_3 (List.mem_of_getElem? (i := 47) rfl)⟩
theorem lw_p8 : lw_okq (⟨"ShortcutDuty$Reader", "takeOtherPlace", "(IZ)I"⟩, 8) := ⟨⟨by decide +kernel, by decide +kernel⟩, ti_1 (List.mem_of_getElem? (i := 45) rfl), ti_3 (List.mem_of_getElem? (i := 59) rfl), ti_3 (List.mem_of_getElem? (i := 60) rfl)⟩
theorem lw_p9 : lw_okq (⟨"ShortcutDuty$Reader", "readFlood", "()V"⟩, 8) := ⟨⟨by decide +kernel, by decide +kernel⟩, ti_1 (List.mem_of_getElem? (i := 45) rfl), ti_3 (List.mem_of_getElem? (i := 77) rfl), ti_3 (List.mem_of_getElem? (i := 78) rfl)⟩
theorem lw_p10 : lw_okq (⟨"ShortcutDuty$Reader", "readWalk", "()V"⟩, 8) := ⟨⟨by decide +kernel, by decide +kernel⟩, ti_1 (List.mem_of_getElem? (i := 45) rfl), ti_3 (List.mem_of_getElem? (i := 83) rfl), ti_3 (List.mem_of_getElem? (i := 84) rfl)⟩
theorem lw_p11 : lw_okq (⟨"ShortcutDuty$Reader", "readLaw", "()V"⟩, 8) := ⟨⟨by decide +kernel, by decide +kernel⟩, ti_1 (List.mem_of_getElem? (i := 45) rfl), ti_3 (List.mem_of_getElem? (i := 93) rfl), ti_3 (List.mem_of_getElem? (i := 94) rfl)⟩
theorem lw_p12 : lw_okq (⟨"ShortcutDuty", "arePlaces", "(II)Z"⟩, 11) := ⟨⟨by decide +kernel, by decide +kernel⟩, ti_1 (List.mem_of_getElem? (i := 20) rfl), ti_3 (List.mem_of_getElem? (i := 138) rfl), ti_3 (List.mem_of_getElem? (i := 139) rfl)⟩
theorem lw_p13 : lw_okq (⟨"ShortcutDuty$Realm", "nextByRoad", "(II)I"⟩, 12) := ⟨⟨by decide +kernel, by decide +kernel⟩, ti_1 (List.mem_of_getElem? (i := 78) rfl), ti_3 (List.mem_of_getElem? (i := 159) rfl), ti_3 (List.mem_of_getElem? (i := 160) rfl)⟩
theorem lw_p14 : lw_okq (⟨"ShortcutDuty", "isJourney", "(III)Z"⟩, 11) := ⟨⟨by decide +kernel, by decide +kernel⟩, ti_1 (List.mem_of_getElem? (i := 20) rfl), ti_3 (List.mem_of_getElem? (i := 183) rfl), ti_3 (List.mem_of_getElem? (i := 184) rfl)⟩
theorem lw_p15 : lw_okq (⟨"ShortcutDuty", "isLawful", "(LShortcutDuty$Realm;I)Z"⟩, 11) := ⟨⟨by decide +kernel, by decide +kernel⟩, ti_1 (List.mem_of_getElem? (i := 20) rfl), ti_3 (List.mem_of_getElem? (i := 217) rfl), ti_3 (List.mem_of_getElem? (i := 218) rfl)⟩
def lw_privs_1 : List (MethodName × Nat) := [(⟨"ShortcutDuty$Reader", "advance", "()V"⟩, 8), (⟨"ShortcutDuty$Reader", "readKingdom", "()V"⟩, 8), (⟨"ShortcutDuty$Reader", "takeWord", "(Ljava/lang/String;)V"⟩, 8), (⟨"ShortcutDuty$Reader", "isWord", "(Ljava/lang/String;)Z"⟩, 8), (⟨"ShortcutDuty$Reader", "fail", "(II)V"⟩, 8), (⟨"ShortcutDuty$Reader", "takeNamed", "(Ljava/lang/String;II)I"⟩, 8), (⟨"ShortcutDuty$Reader", "takeNumber", "(II)I"⟩, 8), (⟨"ShortcutDuty$Reader", "readLink", "(I)V"⟩, 8), (⟨"ShortcutDuty$Reader", "takeOtherPlace", "(IZ)I"⟩, 8), (⟨"ShortcutDuty$Reader", "readFlood", "()V"⟩, 8), (⟨"ShortcutDuty$Reader", "readWalk", "()V"⟩, 8), (⟨"ShortcutDuty$Reader", "readLaw", "()V"⟩, 8), (⟨"ShortcutDuty", "arePlaces", "(II)Z"⟩, 11), (⟨"ShortcutDuty$Realm", "nextByRoad", "(II)I"⟩, 12), (⟨"ShortcutDuty", "isJourney", "(III)Z"⟩, 11), (⟨"ShortcutDuty", "isLawful", "(LShortcutDuty$Realm;I)Z"⟩, 11)]
theorem lw_r1 : ∀ q ∈ lw_privs_1, lw_okq q := List.forall_mem_cons.mpr ⟨lw_p0, List.forall_mem_cons.mpr ⟨lw_p1, List.forall_mem_cons.mpr ⟨lw_p2, List.forall_mem_cons.mpr ⟨lw_p3, List.forall_mem_cons.mpr ⟨lw_p4, List.forall_mem_cons.mpr ⟨lw_p5, List.forall_mem_cons.mpr ⟨lw_p6, List.forall_mem_cons.mpr ⟨lw_p7, List.forall_mem_cons.mpr ⟨lw_p8, List.forall_mem_cons.mpr ⟨lw_p9, List.forall_mem_cons.mpr ⟨lw_p10, List.forall_mem_cons.mpr ⟨lw_p11, List.forall_mem_cons.mpr ⟨lw_p12, List.forall_mem_cons.mpr ⟨lw_p13, List.forall_mem_cons.mpr ⟨lw_p14, List.forall_mem_cons.mpr ⟨lw_p15, fun _ h => absurd h List.not_mem_nil⟩⟩⟩⟩⟩⟩⟩⟩⟩⟩⟩⟩⟩⟩⟩⟩
theorem lw_p16 : lw_okq (⟨"ShortcutDuty$Trip", "goBy", "(LShortcutDuty$Link;)V"⟩, 8) := ⟨⟨by decide +kernel, by decide +kernel⟩, ti_2 (List.mem_of_getElem? (i := 70) rfl), ti_3 (List.mem_of_getElem? (i := 227) rfl), ti_3 (List.mem_of_getElem? (i := 228) rfl)⟩
theorem lw_p17 : lw_okq (⟨"ShortcutDuty", "refusalOf", "(I)I"⟩, 11) := ⟨⟨by decide +kernel, by decide +kernel⟩, ti_1 (List.mem_of_getElem? (i := 20) rfl), ti_4 (List.mem_of_getElem? (i := 20) rfl), ti_4 (List.mem_of_getElem? (i := 21) rfl)⟩
theorem lw_p18 : lw_okq (⟨"ShortcutDuty", "dutySum", "(LShortcutDuty$Realm;II)I"⟩, 11) := ⟨⟨by decide +kernel, by decide +kernel⟩, ti_1 (List.mem_of_getElem? (i := 20) rfl), ti_4 (List.mem_of_getElem? (i := 40) rfl), ti_4 (List.mem_of_getElem? (i := 41) rfl)⟩
theorem lw_p19 : lw_okq (⟨"ShortcutDuty$Ways", "reckonSteps", "()V"⟩, 13) := ⟨⟨by decide +kernel, by decide +kernel⟩, ti_2 (List.mem_of_getElem? (i := 20) rfl), ti_4 (List.mem_of_getElem? (i := 75) rfl), ti_4 (List.mem_of_getElem? (i := 76) rfl)⟩
theorem lw_p20 : lw_okq (⟨"ShortcutDuty$Ways", "note", "(IIII)V"⟩, 13) := ⟨⟨by decide +kernel, by decide +kernel⟩, ti_2 (List.mem_of_getElem? (i := 20) rfl), ti_4 (List.mem_of_getElem? (i := 88) rfl), ti_4 (List.mem_of_getElem? (i := 89) rfl)⟩
theorem lw_p21 : lw_okq (⟨"ShortcutDuty", "bestSum", "(LShortcutDuty$Realm;I)I"⟩, 11) := ⟨⟨by decide +kernel, by decide +kernel⟩, ti_1 (List.mem_of_getElem? (i := 20) rfl), ti_4 (List.mem_of_getElem? (i := 149) rfl), ti_4 (List.mem_of_getElem? (i := 150) rfl)⟩
theorem lw_p22 : lw_okq (⟨"ShortcutDuty", "findForWalk", "(LShortcutDuty$Realm;I)V"⟩, 11) := ⟨⟨by decide +kernel, by decide +kernel⟩, ti_1 (List.mem_of_getElem? (i := 20) rfl), ti_4 (List.mem_of_getElem? (i := 153) rfl), ti_4 (List.mem_of_getElem? (i := 154) rfl)⟩
theorem lw_p23 : lw_okq (⟨"ShortcutDuty", "bestShare", "(II)I"⟩, 11) := ⟨⟨by decide +kernel, by decide +kernel⟩, ti_1 (List.mem_of_getElem? (i := 20) rfl), ti_4 (List.mem_of_getElem? (i := 157) rfl), ti_4 (List.mem_of_getElem? (i := 158) rfl)⟩
theorem lw_p24 : lw_okq (⟨"ShortcutDuty", "bendDraft", "(II)V"⟩, 11) := ⟨⟨by decide +kernel, by decide +kernel⟩, ti_1 (List.mem_of_getElem? (i := 20) rfl), ti_4 (List.mem_of_getElem? (i := 190) rfl), ti_4 (List.mem_of_getElem? (i := 191) rfl)⟩
theorem lw_p25 : lw_okq (⟨"ShortcutDuty", "noteOwing", "()V"⟩, 11) := ⟨⟨by decide +kernel, by decide +kernel⟩, ti_1 (List.mem_of_getElem? (i := 20) rfl), ti_4 (List.mem_of_getElem? (i := 202) rfl), ti_4 (List.mem_of_getElem? (i := 203) rfl)⟩
theorem lw_p26 : lw_okq (⟨"ShortcutDuty", "meetsAllOwing", "(I)Z"⟩, 11) := ⟨⟨by decide +kernel, by decide +kernel⟩, ti_1 (List.mem_of_getElem? (i := 20) rfl), ti_4 (List.mem_of_getElem? (i := 212) rfl), ti_4 (List.mem_of_getElem? (i := 213) rfl)⟩
theorem lw_p27 : lw_okq (⟨"ShortcutDuty", "draftLaw", "(II)V"⟩, 11) := ⟨⟨by decide +kernel, by decide +kernel⟩, ti_1 (List.mem_of_getElem? (i := 20) rfl), ti_4 (List.mem_of_getElem? (i := 220) rfl), ti_4 (List.mem_of_getElem? (i := 221) rfl)⟩
theorem lw_p28 : lw_okq (⟨"ShortcutDutyModel", "four", "(I)V"⟩, 45) := ⟨⟨by decide +kernel, by decide +kernel⟩, ti_5 (List.mem_of_getElem? (i := 104) rfl), ti_6 (List.mem_of_getElem? (i := 31) rfl), ti_6 (List.mem_of_getElem? (i := 32) rfl)⟩
theorem lw_p29 : lw_okq (⟨"ShortcutDutyModel", "clears", "()V"⟩, 45) := ⟨⟨by decide +kernel, by decide +kernel⟩, ti_5 (List.mem_of_getElem? (i := 104) rfl), ti_6 (List.mem_of_getElem? (i := 47) rfl), ti_6 (List.mem_of_getElem? (i := 48) rfl)⟩
theorem lw_p30 : lw_okq (⟨"ShortcutDutyModel", "begins", "()V"⟩, 45) := ⟨⟨by decide +kernel, by decide +kernel⟩, ti_5 (List.mem_of_getElem? (i := 104) rfl), ti_6 (List.mem_of_getElem? (i := 51) rfl), ti_6 (List.mem_of_getElem? (i := 52) rfl)⟩
theorem lw_p31 : lw_okq (⟨"ShortcutDutyModel", "next", "()V"⟩, 45) := ⟨⟨by decide +kernel, by decide +kernel⟩, ti_5 (List.mem_of_getElem? (i := 104) rfl), ti_6 (List.mem_of_getElem? (i := 55) rfl), ti_6 (List.mem_of_getElem? (i := 56) rfl)⟩
def lw_privs_2 : List (MethodName × Nat) := [(⟨"ShortcutDuty$Trip", "goBy", "(LShortcutDuty$Link;)V"⟩, 8), (⟨"ShortcutDuty", "refusalOf", "(I)I"⟩, 11), (⟨"ShortcutDuty", "dutySum", "(LShortcutDuty$Realm;II)I"⟩, 11), (⟨"ShortcutDuty$Ways", "reckonSteps", "()V"⟩, 13), (⟨"ShortcutDuty$Ways", "note", "(IIII)V"⟩, 13), (⟨"ShortcutDuty", "bestSum", "(LShortcutDuty$Realm;I)I"⟩, 11), (⟨"ShortcutDuty", "findForWalk", "(LShortcutDuty$Realm;I)V"⟩, 11), (⟨"ShortcutDuty", "bestShare", "(II)I"⟩, 11), (⟨"ShortcutDuty", "bendDraft", "(II)V"⟩, 11), (⟨"ShortcutDuty", "noteOwing", "()V"⟩, 11), (⟨"ShortcutDuty", "meetsAllOwing", "(I)Z"⟩, 11), (⟨"ShortcutDuty", "draftLaw", "(II)V"⟩, 11), (⟨"ShortcutDutyModel", "four", "(I)V"⟩, 45), (⟨"ShortcutDutyModel", "clears", "()V"⟩, 45), (⟨"ShortcutDutyModel", "begins", "()V"⟩, 45), (⟨"ShortcutDutyModel", "next", "()V"⟩, 45)]
theorem lw_r2 : ∀ q ∈ lw_privs_2, lw_okq q := List.forall_mem_cons.mpr ⟨lw_p16, List.forall_mem_cons.mpr ⟨lw_p17, List.forall_mem_cons.mpr ⟨lw_p18, List.forall_mem_cons.mpr ⟨lw_p19, List.forall_mem_cons.mpr ⟨lw_p20, List.forall_mem_cons.mpr ⟨lw_p21, List.forall_mem_cons.mpr ⟨lw_p22, List.forall_mem_cons.mpr ⟨lw_p23, List.forall_mem_cons.mpr ⟨lw_p24, List.forall_mem_cons.mpr ⟨lw_p25, List.forall_mem_cons.mpr ⟨lw_p26, List.forall_mem_cons.mpr ⟨lw_p27, List.forall_mem_cons.mpr ⟨lw_p28, List.forall_mem_cons.mpr ⟨lw_p29, List.forall_mem_cons.mpr ⟨lw_p30, List.forall_mem_cons.mpr ⟨lw_p31, fun _ h => absurd h List.not_mem_nil⟩⟩⟩⟩⟩⟩⟩⟩⟩⟩⟩⟩⟩⟩⟩⟩
theorem lw_p32 : lw_okq (⟨"ShortcutDutyModel", "isByte", "(III)Z"⟩, 45) := ⟨⟨by decide +kernel, by decide +kernel⟩, ti_5 (List.mem_of_getElem? (i := 104) rfl), ti_6 (List.mem_of_getElem? (i := 59) rfl), ti_6 (List.mem_of_getElem? (i := 60) rfl)⟩
theorem lw_p33 : lw_okq (⟨"ShortcutDutyModel", "isGood", "()Z"⟩, 45) := ⟨⟨by decide +kernel, by decide +kernel⟩, ti_5 (List.mem_of_getElem? (i := 104) rfl), ti_6 (List.mem_of_getElem? (i := 68) rfl), ti_6 (List.mem_of_getElem? (i := 69) rfl)⟩
theorem lw_p34 : lw_okq (⟨"ShortcutDutyModel", "first", "()V"⟩, 45) := ⟨⟨by decide +kernel, by decide +kernel⟩, ti_5 (List.mem_of_getElem? (i := 104) rfl), ti_6 (List.mem_of_getElem? (i := 72) rfl), ti_6 (List.mem_of_getElem? (i := 73) rfl)⟩
theorem lw_p35 : lw_okq (⟨"ShortcutDutyModel", "asks", "(J)V"⟩, 45) := ⟨⟨by decide +kernel, by decide +kernel⟩, ti_5 (List.mem_of_getElem? (i := 104) rfl), ti_6 (List.mem_of_getElem? (i := 77) rfl), ti_6 (List.mem_of_getElem? (i := 78) rfl)⟩
theorem lw_p36 : lw_okq (⟨"ShortcutDutyModel", "takes", "(J)Z"⟩, 45) := ⟨⟨by decide +kernel, by decide +kernel⟩, ti_5 (List.mem_of_getElem? (i := 104) rfl), ti_6 (List.mem_of_getElem? (i := 81) rfl), ti_6 (List.mem_of_getElem? (i := 82) rfl)⟩
theorem lw_p37 : lw_okq (⟨"ShortcutDutyModel", "is", "(J)Z"⟩, 45) := ⟨⟨by decide +kernel, by decide +kernel⟩, ti_5 (List.mem_of_getElem? (i := 104) rfl), ti_6 (List.mem_of_getElem? (i := 85) rfl), ti_6 (List.mem_of_getElem? (i := 86) rfl)⟩
theorem lw_p38 : lw_okq (⟨"ShortcutDutyModel", "fails", "(I)V"⟩, 45) := ⟨⟨by decide +kernel, by decide +kernel⟩, ti_5 (List.mem_of_getElem? (i := 104) rfl), ti_6 (List.mem_of_getElem? (i := 89) rfl), ti_6 (List.mem_of_getElem? (i := 90) rfl)⟩
theorem lw_p39 : lw_okq (⟨"ShortcutDutyModel", "number", "(JII)I"⟩, 45) := ⟨⟨by decide +kernel, by decide +kernel⟩, ti_5 (List.mem_of_getElem? (i := 104) rfl), ti_6 (List.mem_of_getElem? (i := 94) rfl), ti_6 (List.mem_of_getElem? (i := 95) rfl)⟩
theorem lw_p40 : lw_okq (⟨"ShortcutDutyModel", "number", "(II)I"⟩, 45) := ⟨⟨by decide +kernel, by decide +kernel⟩, ti_5 (List.mem_of_getElem? (i := 104) rfl), ti_6 (List.mem_of_getElem? (i := 98) rfl), ti_6 (List.mem_of_getElem? (i := 99) rfl)⟩
theorem lw_p41 : lw_okq (⟨"ShortcutDutyModel", "line", "()V"⟩, 45) := ⟨⟨by decide +kernel, by decide +kernel⟩, ti_5 (List.mem_of_getElem? (i := 104) rfl), ti_6 (List.mem_of_getElem? (i := 106) rfl), ti_6 (List.mem_of_getElem? (i := 107) rfl)⟩
theorem lw_p42 : lw_okq (⟨"ShortcutDutyModel", "hasRead", "(I)I"⟩, 45) := ⟨⟨by decide +kernel, by decide +kernel⟩, ti_5 (List.mem_of_getElem? (i := 104) rfl), ti_6 (List.mem_of_getElem? (i := 115) rfl), ti_6 (List.mem_of_getElem? (i := 116) rfl)⟩
theorem lw_p43 : lw_okq (⟨"ShortcutDutyModel", "roadLine", "()V"⟩, 45) := ⟨⟨by decide +kernel, by decide +kernel⟩, ti_5 (List.mem_of_getElem? (i := 104) rfl), ti_6 (List.mem_of_getElem? (i := 119) rfl), ti_6 (List.mem_of_getElem? (i := 120) rfl)⟩
theorem lw_p44 : lw_okq (⟨"ShortcutDutyModel", "isRoadTold", "(II)Z"⟩, 45) := ⟨⟨by decide +kernel, by decide +kernel⟩, ti_5 (List.mem_of_getElem? (i := 104) rfl), ti_6 (List.mem_of_getElem? (i := 124) rfl), ti_6 (List.mem_of_getElem? (i := 125) rfl)⟩
theorem lw_p45 : lw_okq (⟨"ShortcutDutyModel", "other", "(Z)I"⟩, 45) := ⟨⟨by decide +kernel, by decide +kernel⟩, ti_5 (List.mem_of_getElem? (i := 104) rfl), ti_6 (List.mem_of_getElem? (i := 131) rfl), ti_6 (List.mem_of_getElem? (i := 132) rfl)⟩
theorem lw_p46 : lw_okq (⟨"ShortcutDutyModel", "walkLine", "()V"⟩, 45) := ⟨⟨by decide +kernel, by decide +kernel⟩, ti_5 (List.mem_of_getElem? (i := 104) rfl), ti_6 (List.mem_of_getElem? (i := 135) rfl), ti_6 (List.mem_of_getElem? (i := 136) rfl)⟩
theorem lw_p47 : lw_okq (⟨"ShortcutDutyModel", "laneLine", "(I)V"⟩, 45) := ⟨⟨by decide +kernel, by decide +kernel⟩, ti_5 (List.mem_of_getElem? (i := 104) rfl), ti_6 (List.mem_of_getElem? (i := 143) rfl), ti_6 (List.mem_of_getElem? (i := 144) rfl)⟩
def lw_privs_3 : List (MethodName × Nat) := [(⟨"ShortcutDutyModel", "isByte", "(III)Z"⟩, 45), (⟨"ShortcutDutyModel", "isGood", "()Z"⟩, 45), (⟨"ShortcutDutyModel", "first", "()V"⟩, 45), (⟨"ShortcutDutyModel", "asks", "(J)V"⟩, 45), (⟨"ShortcutDutyModel", "takes", "(J)Z"⟩, 45), (⟨"ShortcutDutyModel", "is", "(J)Z"⟩, 45), (⟨"ShortcutDutyModel", "fails", "(I)V"⟩, 45), (⟨"ShortcutDutyModel", "number", "(JII)I"⟩, 45), (⟨"ShortcutDutyModel", "number", "(II)I"⟩, 45), (⟨"ShortcutDutyModel", "line", "()V"⟩, 45), (⟨"ShortcutDutyModel", "hasRead", "(I)I"⟩, 45), (⟨"ShortcutDutyModel", "roadLine", "()V"⟩, 45), (⟨"ShortcutDutyModel", "isRoadTold", "(II)Z"⟩, 45), (⟨"ShortcutDutyModel", "other", "(Z)I"⟩, 45), (⟨"ShortcutDutyModel", "walkLine", "()V"⟩, 45), (⟨"ShortcutDutyModel", "laneLine", "(I)V"⟩, 45)]
theorem lw_r3 : ∀ q ∈ lw_privs_3, lw_okq q := List.forall_mem_cons.mpr ⟨lw_p32, List.forall_mem_cons.mpr ⟨lw_p33, List.forall_mem_cons.mpr ⟨lw_p34, List.forall_mem_cons.mpr ⟨lw_p35, List.forall_mem_cons.mpr ⟨lw_p36, List.forall_mem_cons.mpr ⟨lw_p37, List.forall_mem_cons.mpr ⟨lw_p38, List.forall_mem_cons.mpr ⟨lw_p39, List.forall_mem_cons.mpr ⟨lw_p40, List.forall_mem_cons.mpr ⟨lw_p41, List.forall_mem_cons.mpr ⟨lw_p42, List.forall_mem_cons.mpr ⟨lw_p43, List.forall_mem_cons.mpr ⟨lw_p44, List.forall_mem_cons.mpr ⟨lw_p45, List.forall_mem_cons.mpr ⟨lw_p46, List.forall_mem_cons.mpr ⟨lw_p47, fun _ h => absurd h List.not_mem_nil⟩⟩⟩⟩⟩⟩⟩⟩⟩⟩⟩⟩⟩⟩⟩⟩
theorem lw_p48 : lw_okq (⟨"ShortcutDutyModel", "lawLine", "()V"⟩, 45) := ⟨⟨by decide +kernel, by decide +kernel⟩, ti_5 (List.mem_of_getElem? (i := 104) rfl), ti_6 (List.mem_of_getElem? (i := 150) rfl), ti_6 (List.mem_of_getElem? (i := 151) rfl)⟩
theorem lw_p49 : lw_okq (⟨"ShortcutDutyModel", "ends", "()V"⟩, 45) := ⟨⟨by decide +kernel, by decide +kernel⟩, ti_5 (List.mem_of_getElem? (i := 104) rfl), ti_6 (List.mem_of_getElem? (i := 156) rfl), ti_6 (List.mem_of_getElem? (i := 157) rfl)⟩
theorem lw_p50 : lw_okq (⟨"ShortcutDutyModel", "isOver", "()V"⟩, 45) := ⟨⟨by decide +kernel, by decide +kernel⟩, ti_5 (List.mem_of_getElem? (i := 104) rfl), ti_6 (List.mem_of_getElem? (i := 160) rfl), ti_6 (List.mem_of_getElem? (i := 161) rfl)⟩
theorem lw_p51 : lw_okq (⟨"ShortcutDutyModel", "copyKingdom", "(II)V"⟩, 45) := ⟨⟨by decide +kernel, by decide +kernel⟩, ti_5 (List.mem_of_getElem? (i := 104) rfl), ti_6 (List.mem_of_getElem? (i := 164) rfl), ti_6 (List.mem_of_getElem? (i := 165) rfl)⟩
theorem lw_p52 : lw_okq (⟨"ShortcutDutyModel", "isPlace", "(I)Z"⟩, 45) := ⟨⟨by decide +kernel, by decide +kernel⟩, ti_5 (List.mem_of_getElem? (i := 104) rfl), ti_6 (List.mem_of_getElem? (i := 175) rfl), ti_6 (List.mem_of_getElem? (i := 176) rfl)⟩
theorem lw_p53 : lw_okq (⟨"ShortcutDutyModel", "byRoad", "(II)I"⟩, 45) := ⟨⟨by decide +kernel, by decide +kernel⟩, ti_5 (List.mem_of_getElem? (i := 104) rfl), ti_6 (List.mem_of_getElem? (i := 179) rfl), ti_6 (List.mem_of_getElem? (i := 180) rfl)⟩
theorem lw_p54 : lw_okq (⟨"ShortcutDutyModel", "laysFar", "(I)V"⟩, 45) := ⟨⟨by decide +kernel, by decide +kernel⟩, ti_5 (List.mem_of_getElem? (i := 104) rfl), ti_6 (List.mem_of_getElem? (i := 183) rfl), ti_6 (List.mem_of_getElem? (i := 184) rfl)⟩
theorem lw_p55 : lw_okq (⟨"ShortcutDutyModel", "roadOf", "(II)I"⟩, 45) := ⟨⟨by decide +kernel, by decide +kernel⟩, ti_5 (List.mem_of_getElem? (i := 104) rfl), ti_6 (List.mem_of_getElem? (i := 191) rfl), ti_6 (List.mem_of_getElem? (i := 192) rfl)⟩
theorem lw_p56 : lw_okq (⟨"ShortcutDutyModel", "isDay", "(I)Z"⟩, 45) := ⟨⟨by decide +kernel, by decide +kernel⟩, ti_5 (List.mem_of_getElem? (i := 104) rfl), ti_6 (List.mem_of_getElem? (i := 199) rfl), ti_6 (List.mem_of_getElem? (i := 200) rfl)⟩
theorem lw_p57 : lw_okq (⟨"ShortcutDutyModel", "isOpen", "(II)Z"⟩, 45) := ⟨⟨by decide +kernel, by decide +kernel⟩, ti_5 (List.mem_of_getElem? (i := 104) rfl), ti_6 (List.mem_of_getElem? (i := 203) rfl), ti_6 (List.mem_of_getElem? (i := 204) rfl)⟩
theorem lw_p58 : lw_okq (⟨"ShortcutDutyModel", "areTwo", "(II)Z"⟩, 45) := ⟨⟨by decide +kernel, by decide +kernel⟩, ti_5 (List.mem_of_getElem? (i := 104) rfl), ti_6 (List.mem_of_getElem? (i := 211) rfl), ti_6 (List.mem_of_getElem? (i := 212) rfl)⟩
theorem lw_p59 : lw_okq (⟨"ShortcutDutyModel", "joined", "(III)I"⟩, 45) := ⟨⟨by decide +kernel, by decide +kernel⟩, ti_5 (List.mem_of_getElem? (i := 104) rfl), ti_6 (List.mem_of_getElem? (i := 215) rfl), ti_6 (List.mem_of_getElem? (i := 216) rfl)⟩
theorem lw_p60 : lw_okq (⟨"ShortcutDutyModel", "isWalk", "(I)Z"⟩, 45) := ⟨⟨by decide +kernel, by decide +kernel⟩, ti_5 (List.mem_of_getElem? (i := 104) rfl), ti_6 (List.mem_of_getElem? (i := 223) rfl), ti_6 (List.mem_of_getElem? (i := 224) rfl)⟩
theorem lw_p61 : lw_okq (⟨"ShortcutDutyModel", "of", "(II)I"⟩, 45) := ⟨⟨by decide +kernel, by decide +kernel⟩, ti_5 (List.mem_of_getElem? (i := 104) rfl), ti_6 (List.mem_of_getElem? (i := 228) rfl), ti_6 (List.mem_of_getElem? (i := 229) rfl)⟩
theorem lw_p62 : lw_okq (⟨"ShortcutDutyModel", "from", "(I)I"⟩, 45) := ⟨⟨by decide +kernel, by decide +kernel⟩, ti_5 (List.mem_of_getElem? (i := 104) rfl), ti_6 (List.mem_of_getElem? (i := 232) rfl), ti_6 (List.mem_of_getElem? (i := 233) rfl)⟩
theorem lw_p63 : lw_okq (⟨"ShortcutDutyModel", "to", "(I)I"⟩, 45) := ⟨⟨by decide +kernel, by decide +kernel⟩, ti_5 (List.mem_of_getElem? (i := 104) rfl), ti_6 (List.mem_of_getElem? (i := 236) rfl), ti_6 (List.mem_of_getElem? (i := 237) rfl)⟩
def lw_privs_4 : List (MethodName × Nat) := [(⟨"ShortcutDutyModel", "lawLine", "()V"⟩, 45), (⟨"ShortcutDutyModel", "ends", "()V"⟩, 45), (⟨"ShortcutDutyModel", "isOver", "()V"⟩, 45), (⟨"ShortcutDutyModel", "copyKingdom", "(II)V"⟩, 45), (⟨"ShortcutDutyModel", "isPlace", "(I)Z"⟩, 45), (⟨"ShortcutDutyModel", "byRoad", "(II)I"⟩, 45), (⟨"ShortcutDutyModel", "laysFar", "(I)V"⟩, 45), (⟨"ShortcutDutyModel", "roadOf", "(II)I"⟩, 45), (⟨"ShortcutDutyModel", "isDay", "(I)Z"⟩, 45), (⟨"ShortcutDutyModel", "isOpen", "(II)Z"⟩, 45), (⟨"ShortcutDutyModel", "areTwo", "(II)Z"⟩, 45), (⟨"ShortcutDutyModel", "joined", "(III)I"⟩, 45), (⟨"ShortcutDutyModel", "isWalk", "(I)Z"⟩, 45), (⟨"ShortcutDutyModel", "of", "(II)I"⟩, 45), (⟨"ShortcutDutyModel", "from", "(I)I"⟩, 45), (⟨"ShortcutDutyModel", "to", "(I)I"⟩, 45)]
theorem lw_r4 : ∀ q ∈ lw_privs_4, lw_okq q := List.forall_mem_cons.mpr ⟨lw_p48, List.forall_mem_cons.mpr ⟨lw_p49, List.forall_mem_cons.mpr ⟨lw_p50, List.forall_mem_cons.mpr ⟨lw_p51, List.forall_mem_cons.mpr ⟨lw_p52, List.forall_mem_cons.mpr ⟨lw_p53, List.forall_mem_cons.mpr ⟨lw_p54, List.forall_mem_cons.mpr ⟨lw_p55, List.forall_mem_cons.mpr ⟨lw_p56, List.forall_mem_cons.mpr ⟨lw_p57, List.forall_mem_cons.mpr ⟨lw_p58, List.forall_mem_cons.mpr ⟨lw_p59, List.forall_mem_cons.mpr ⟨lw_p60, List.forall_mem_cons.mpr ⟨lw_p61, List.forall_mem_cons.mpr ⟨lw_p62, List.forall_mem_cons.mpr ⟨lw_p63, fun _ h => absurd h List.not_mem_nil⟩⟩⟩⟩⟩⟩⟩⟩⟩⟩⟩⟩⟩⟩⟩⟩
theorem lw_p64 : lw_okq (⟨"ShortcutDutyModel", "many0", "(I)I"⟩, 45) := ⟨⟨by decide +kernel, by decide +kernel⟩, ti_5 (List.mem_of_getElem? (i := 104) rfl), ti_7 (List.mem_of_getElem? (i := 0) rfl), ti_7 (List.mem_of_getElem? (i := 1) rfl)⟩
theorem lw_p65 : lw_okq (⟨"ShortcutDutyModel", "isKingdom", "()Z"⟩, 45) := ⟨⟨by decide +kernel, by decide +kernel⟩, ti_5 (List.mem_of_getElem? (i := 104) rfl), ti_7 (List.mem_of_getElem? (i := 8) rfl), ti_7 (List.mem_of_getElem? (i := 9) rfl)⟩
theorem lw_p66 : lw_okq (⟨"ShortcutDutyModel", "goesAs", "(I)Z"⟩, 45) := ⟨⟨by decide +kernel, by decide +kernel⟩, ti_5 (List.mem_of_getElem? (i := 104) rfl), ti_7 (List.mem_of_getElem? (i := 12) rfl), ti_7 (List.mem_of_getElem? (i := 13) rfl)⟩
theorem lw_p67 : lw_okq (⟨"ShortcutDutyModel", "looks", "(I)I"⟩, 45) := ⟨⟨by decide +kernel, by decide +kernel⟩, ti_5 (List.mem_of_getElem? (i := 104) rfl), ti_7 (List.mem_of_getElem? (i := 16) rfl), ti_7 (List.mem_of_getElem? (i := 17) rfl)⟩
theorem lw_p68 : lw_okq (⟨"ShortcutDutyModel", "longOf", "(I)I"⟩, 45) := ⟨⟨by decide +kernel, by decide +kernel⟩, ti_5 (List.mem_of_getElem? (i := 104) rfl), ti_7 (List.mem_of_getElem? (i := 20) rfl), ti_7 (List.mem_of_getElem? (i := 21) rfl)⟩
theorem lw_p69 : lw_okq (⟨"ShortcutDutyModel", "savedOf", "(I)I"⟩, 45) := ⟨⟨by decide +kernel, by decide +kernel⟩, ti_5 (List.mem_of_getElem? (i := 104) rfl), ti_7 (List.mem_of_getElem? (i := 36) rfl), ti_7 (List.mem_of_getElem? (i := 37) rfl)⟩
theorem lw_p70 : lw_okq (⟨"ShortcutDutyModel", "dutyOf", "(I)I"⟩, 45) := ⟨⟨by decide +kernel, by decide +kernel⟩, ti_5 (List.mem_of_getElem? (i := 104) rfl), ti_7 (List.mem_of_getElem? (i := 44) rfl), ti_7 (List.mem_of_getElem? (i := 45) rfl)⟩
theorem lw_p71 : lw_okq (⟨"ShortcutDutyModel", "dutyOf", "(II)I"⟩, 45) := ⟨⟨by decide +kernel, by decide +kernel⟩, ti_5 (List.mem_of_getElem? (i := 104) rfl), ti_7 (List.mem_of_getElem? (i := 48) rfl), ti_7 (List.mem_of_getElem? (i := 49) rfl)⟩
theorem lw_p72 : lw_okq (⟨"ShortcutDutyModel", "hasBoat", "()Z"⟩, 45) := ⟨⟨by decide +kernel, by decide +kernel⟩, ti_5 (List.mem_of_getElem? (i := 104) rfl), ti_7 (List.mem_of_getElem? (i := 52) rfl), ti_7 (List.mem_of_getElem? (i := 53) rfl)⟩
theorem lw_p73 : lw_okq (⟨"ShortcutDutyModel", "sumOf", "(II)I"⟩, 45) := ⟨⟨by decide +kernel, by decide +kernel⟩, ti_5 (List.mem_of_getElem? (i := 104) rfl), ti_7 (List.mem_of_getElem? (i := 65) rfl), ti_7 (List.mem_of_getElem? (i := 66) rfl)⟩
theorem lw_p74 : lw_okq (⟨"ShortcutDutyModel", "told", "(JI)J"⟩, 45) := ⟨⟨by decide +kernel, by decide +kernel⟩, ti_5 (List.mem_of_getElem? (i := 104) rfl), ti_7 (List.mem_of_getElem? (i := 78) rfl), ti_7 (List.mem_of_getElem? (i := 79) rfl)⟩
theorem lw_p75 : lw_okq (⟨"ShortcutDutyModel", "isTrip", "(III)Z"⟩, 45) := ⟨⟨by decide +kernel, by decide +kernel⟩, ti_5 (List.mem_of_getElem? (i := 104) rfl), ti_7 (List.mem_of_getElem? (i := 94) rfl), ti_7 (List.mem_of_getElem? (i := 95) rfl)⟩
theorem lw_p76 : lw_okq (⟨"ShortcutDutyModel", "seeks", "(IIIII)V"⟩, 45) := ⟨⟨by decide +kernel, by decide +kernel⟩, ti_5 (List.mem_of_getElem? (i := 104) rfl), ti_7 (List.mem_of_getElem? (i := 98) rfl), ti_7 (List.mem_of_getElem? (i := 99) rfl)⟩
theorem lw_p77 : lw_okq (⟨"ShortcutDutyModel", "goesOn", "(III)V"⟩, 45) := ⟨⟨by decide +kernel, by decide +kernel⟩, ti_5 (List.mem_of_getElem? (i := 104) rfl), ti_7 (List.mem_of_getElem? (i := 103) rfl), ti_7 (List.mem_of_getElem? (i := 104) rfl)⟩
theorem lw_p78 : lw_okq (⟨"ShortcutDutyModel", "meets", "()V"⟩, 45) := ⟨⟨by decide +kernel, by decide +kernel⟩, ti_5 (List.mem_of_getElem? (i := 104) rfl), ti_7 (List.mem_of_getElem? (i := 107) rfl), ti_7 (List.mem_of_getElem? (i := 108) rfl)⟩
theorem lw_p79 : lw_okq (⟨"ShortcutDutyModel", "allOf", "(I)I"⟩, 45) := ⟨⟨by decide +kernel, by decide +kernel⟩, ti_5 (List.mem_of_getElem? (i := 104) rfl), ti_7 (List.mem_of_getElem? (i := 135) rfl), ti_7 (List.mem_of_getElem? (i := 136) rfl)⟩
def lw_privs_5 : List (MethodName × Nat) := [(⟨"ShortcutDutyModel", "many0", "(I)I"⟩, 45), (⟨"ShortcutDutyModel", "isKingdom", "()Z"⟩, 45), (⟨"ShortcutDutyModel", "goesAs", "(I)Z"⟩, 45), (⟨"ShortcutDutyModel", "looks", "(I)I"⟩, 45), (⟨"ShortcutDutyModel", "longOf", "(I)I"⟩, 45), (⟨"ShortcutDutyModel", "savedOf", "(I)I"⟩, 45), (⟨"ShortcutDutyModel", "dutyOf", "(I)I"⟩, 45), (⟨"ShortcutDutyModel", "dutyOf", "(II)I"⟩, 45), (⟨"ShortcutDutyModel", "hasBoat", "()Z"⟩, 45), (⟨"ShortcutDutyModel", "sumOf", "(II)I"⟩, 45), (⟨"ShortcutDutyModel", "told", "(JI)J"⟩, 45), (⟨"ShortcutDutyModel", "isTrip", "(III)Z"⟩, 45), (⟨"ShortcutDutyModel", "seeks", "(IIIII)V"⟩, 45), (⟨"ShortcutDutyModel", "goesOn", "(III)V"⟩, 45), (⟨"ShortcutDutyModel", "meets", "()V"⟩, 45), (⟨"ShortcutDutyModel", "allOf", "(I)I"⟩, 45)]
theorem lw_r5 : ∀ q ∈ lw_privs_5, lw_okq q := List.forall_mem_cons.mpr ⟨lw_p64, List.forall_mem_cons.mpr ⟨lw_p65, List.forall_mem_cons.mpr ⟨lw_p66, List.forall_mem_cons.mpr ⟨lw_p67, List.forall_mem_cons.mpr ⟨lw_p68, List.forall_mem_cons.mpr ⟨lw_p69, List.forall_mem_cons.mpr ⟨lw_p70, List.forall_mem_cons.mpr ⟨lw_p71, List.forall_mem_cons.mpr ⟨lw_p72, List.forall_mem_cons.mpr ⟨lw_p73, List.forall_mem_cons.mpr ⟨lw_p74, List.forall_mem_cons.mpr ⟨lw_p75, List.forall_mem_cons.mpr ⟨lw_p76, List.forall_mem_cons.mpr ⟨lw_p77, List.forall_mem_cons.mpr ⟨lw_p78, List.forall_mem_cons.mpr ⟨lw_p79, fun _ h => absurd h List.not_mem_nil⟩⟩⟩⟩⟩⟩⟩⟩⟩⟩⟩⟩⟩⟩⟩⟩
theorem lw_p80 : lw_okq (⟨"ShortcutDutyModel", "allWith", "(IIII)I"⟩, 45) := ⟨⟨by decide +kernel, by decide +kernel⟩, ti_5 (List.mem_of_getElem? (i := 104) rfl), ti_7 (List.mem_of_getElem? (i := 147) rfl), ti_7 (List.mem_of_getElem? (i := 148) rfl)⟩
theorem lw_p81 : lw_okq (⟨"ShortcutDutyModel", "thinks", "(III)V"⟩, 45) := ⟨⟨by decide +kernel, by decide +kernel⟩, ti_5 (List.mem_of_getElem? (i := 104) rfl), ti_7 (List.mem_of_getElem? (i := 151) rfl), ti_7 (List.mem_of_getElem? (i := 152) rfl)⟩
theorem lw_p82 : lw_okq (⟨"ShortcutDutyModel", "allBent", "(III)I"⟩, 45) := ⟨⟨by decide +kernel, by decide +kernel⟩, ti_5 (List.mem_of_getElem? (i := 104) rfl), ti_7 (List.mem_of_getElem? (i := 164) rfl), ti_7 (List.mem_of_getElem? (i := 165) rfl)⟩
theorem lw_p83 : lw_okq (⟨"ShortcutDutyModel", "takingsBy", "(II)I"⟩, 45) := ⟨⟨by decide +kernel, by decide +kernel⟩, ti_5 (List.mem_of_getElem? (i := 104) rfl), ti_7 (List.mem_of_getElem? (i := 183) rfl), ti_7 (List.mem_of_getElem? (i := 184) rfl)⟩
theorem lw_p84 : lw_okq (⟨"ShortcutDutyModel", "owing", "(III)V"⟩, 45) := ⟨⟨by decide +kernel, by decide +kernel⟩, ti_5 (List.mem_of_getElem? (i := 104) rfl), ti_7 (List.mem_of_getElem? (i := 200) rfl), ti_7 (List.mem_of_getElem? (i := 201) rfl)⟩
theorem lw_p85 : lw_okq (⟨"ShortcutDutyModel", "isSeenBy", "(J)Z"⟩, 45) := ⟨⟨by decide +kernel, by decide +kernel⟩, ti_5 (List.mem_of_getElem? (i := 104) rfl), ti_7 (List.mem_of_getElem? (i := 224) rfl), ti_7 (List.mem_of_getElem? (i := 225) rfl)⟩
def lw_privs_6 : List (MethodName × Nat) := [(⟨"ShortcutDutyModel", "allWith", "(IIII)I"⟩, 45), (⟨"ShortcutDutyModel", "thinks", "(III)V"⟩, 45), (⟨"ShortcutDutyModel", "allBent", "(III)I"⟩, 45), (⟨"ShortcutDutyModel", "takingsBy", "(II)I"⟩, 45), (⟨"ShortcutDutyModel", "owing", "(III)V"⟩, 45), (⟨"ShortcutDutyModel", "isSeenBy", "(J)Z"⟩, 45)]
theorem lw_r6 : ∀ q ∈ lw_privs_6, lw_okq q := List.forall_mem_cons.mpr ⟨lw_p80, List.forall_mem_cons.mpr ⟨lw_p81, List.forall_mem_cons.mpr ⟨lw_p82, List.forall_mem_cons.mpr ⟨lw_p83, List.forall_mem_cons.mpr ⟨lw_p84, List.forall_mem_cons.mpr ⟨lw_p85, fun _ h => absurd h List.not_mem_nil⟩⟩⟩⟩⟩⟩
def lw_privs : List (MethodName × Nat) := lw_privs_1 ++ (lw_privs_2 ++ (lw_privs_3 ++ (lw_privs_4 ++ (lw_privs_5 ++ (lw_privs_6)))))
def lw_tbl : List Cond := k2_sels lw_privs ++ tables_1
theorem lw_privs_ok : ∀ q ∈ lw_privs, lw_okq q := by
  show ∀ q ∈ lw_privs_1 ++ (lw_privs_2 ++ (lw_privs_3 ++ (lw_privs_4 ++ (lw_privs_5 ++ (lw_privs_6))))), lw_okq q
  exact List.forall_mem_append.mpr ⟨lw_r1, List.forall_mem_append.mpr ⟨lw_r2, List.forall_mem_append.mpr ⟨lw_r3, List.forall_mem_append.mpr ⟨lw_r4, List.forall_mem_append.mpr ⟨lw_r5, lw_r6⟩⟩⟩⟩⟩
def RX0 : String := "ShortcutDuty$Law"
def TX0 : u_T := fun k => match k with
  | 0 => ("ShortcutDuty$Law", "rate", "I", false)
  | 1 => ("ShortcutDuty$Law", "free", "I", false)
  | 2 => ("ShortcutDuty$Law", "time", "I", false)
  | 3 => ("ShortcutDuty$Law", "sundaysDue", "I", false)
  | _ => ("ShortcutDuty$Law", "loadsCount", "I", false)
def tyX0 : Nat → FieldType := fun k => match k with
  | 0 => .int
  | 1 => .int
  | 2 => .int
  | 3 => .int
  | _ => .int
theorem nmX0 : ∀ a, a < 5 → ∀ b, b < 5 → a ≠ b → (TX0 a).2.1 ≠ (TX0 b).2.1 := by decide +kernel
theorem tyX0_ok : ∀ k, k < 5 → parseFieldDescriptor (TX0 k).2.2.1 = some (tyX0 k) := by decide +kernel
def RX1 : String := "ShortcutDuty$Link"
def TX1 : u_T := fun k => match k with
  | 0 => ("ShortcutDuty$Link", "number", "I", true)
  | 1 => ("ShortcutDuty$Link", "kind", "I", false)
  | 2 => ("ShortcutDuty$Link", "ends", "I", false)
  | 3 => ("ShortcutDuty$Link", "span", "I", false)
  | 4 => ("ShortcutDuty$Link", "firstDay", "I", false)
  | 5 => ("ShortcutDuty$Link", "lastDay", "I", false)
  | _ => ("ShortcutDuty$Link", "watched", "I", false)
def tyX1 : Nat → FieldType := fun k => match k with
  | 0 => .int
  | 1 => .int
  | 2 => .int
  | 3 => .int
  | 4 => .int
  | 5 => .int
  | _ => .int
theorem nmX1 : ∀ a, a < 7 → ∀ b, b < 7 → a ≠ b → (TX1 a).2.1 ≠ (TX1 b).2.1 := by decide +kernel
theorem tyX1_ok : ∀ k, k < 7 → parseFieldDescriptor (TX1 k).2.2.1 = some (tyX1 k) := by decide +kernel
def RX2 : String := "ShortcutDuty$Reader"
def TX2 : u_T := fun k => match k with
  | 0 => ("ShortcutDuty$Reader", "source", "LShortcutDuty$Tape;", false)
  | 1 => ("ShortcutDuty$Reader", "target", "LShortcutDuty$Realm;", false)
  | 2 => ("ShortcutDuty$Reader", "fault", "I", false)
  | 3 => ("ShortcutDuty$Reader", "place", "I", false)
  | 4 => ("ShortcutDuty$Reader", "kind", "I", false)
  | 5 => ("ShortcutDuty$Reader", "start", "I", false)
  | 6 => ("ShortcutDuty$Reader", "stop", "I", false)
  | _ => ("ShortcutDuty$Reader", "value", "I", false)
def tyX2 : Nat → FieldType := fun k => match k with
  | 0 => .object "ShortcutDuty$Tape"
  | 1 => .object "ShortcutDuty$Realm"
  | 2 => .int
  | 3 => .int
  | 4 => .int
  | 5 => .int
  | 6 => .int
  | _ => .int
theorem nmX2 : ∀ a, a < 8 → ∀ b, b < 8 → a ≠ b → (TX2 a).2.1 ≠ (TX2 b).2.1 := by decide +kernel
theorem tyX2_ok : ∀ k, k < 8 → parseFieldDescriptor (TX2 k).2.2.1 = some (tyX2 k) := by decide +kernel
def RX3 : String := "ShortcutDuty$Realm"
def TX3 : u_T := fun k => match k with
  | 0 => ("ShortcutDuty$Realm", "places", "I", false)
  | 1 => ("ShortcutDuty$Realm", "days", "I", false)
  | 2 => ("ShortcutDuty$Realm", "lines", "I", false)
  | 3 => ("ShortcutDuty$Realm", "floods", "I", false)
  | 4 => ("ShortcutDuty$Realm", "law", "LShortcutDuty$Law;", true)
  | 5 => ("ShortcutDuty$Realm", "roads", "[LShortcutDuty$Link;", true)
  | 6 => ("ShortcutDuty$Realm", "roadCount", "I", false)
  | 7 => ("ShortcutDuty$Realm", "lanes", "[LShortcutDuty$Link;", true)
  | 8 => ("ShortcutDuty$Realm", "laneCount", "I", false)
  | 9 => ("ShortcutDuty$Realm", "walks", "[LShortcutDuty$Walk;", true)
  | 10 => ("ShortcutDuty$Realm", "walkCount", "I", false)
  | _ => ("ShortcutDuty$Realm", "distances", "[I", true)
def tyX3 : Nat → FieldType := fun k => match k with
  | 0 => .int
  | 1 => .int
  | 2 => .int
  | 3 => .int
  | 4 => .object "ShortcutDuty$Law"
  | 5 => .array (.object "ShortcutDuty$Link")
  | 6 => .int
  | 7 => .array (.object "ShortcutDuty$Link")
  | 8 => .int
  | 9 => .array (.object "ShortcutDuty$Walk")
  | 10 => .int
  | _ => .array .int
theorem nmX3 : ∀ a, a < 12 → ∀ b, b < 12 → a ≠ b → (TX3 a).2.1 ≠ (TX3 b).2.1 := by decide +kernel
theorem tyX3_ok : ∀ k, k < 12 → parseFieldDescriptor (TX3 k).2.2.1 = some (tyX3 k) := by decide +kernel
def RX4 : String := "ShortcutDuty$Slots"
def TX4 : u_T := fun k => match k with
  | 0 => ("ShortcutDuty$Slots", "values", "[J", true)
  | 1 => ("ShortcutDuty$Slots", "sizes", "[I", true)
  | _ => ("ShortcutDuty$Slots", "widths", "[I", true)
def tyX4 : Nat → FieldType := fun k => match k with
  | 0 => .array .long
  | 1 => .array .int
  | _ => .array .int
theorem nmX4 : ∀ a, a < 3 → ∀ b, b < 3 → a ≠ b → (TX4 a).2.1 ≠ (TX4 b).2.1 := by decide +kernel
theorem tyX4_ok : ∀ k, k < 3 → parseFieldDescriptor (TX4 k).2.2.1 = some (tyX4 k) := by decide +kernel
def RX5 : String := "ShortcutDuty$Tape"
def TX5 : u_T := fun k => match k with
  | 0 => ("ShortcutDuty$Tape", "bytes", "[B", true)
  | _ => ("ShortcutDuty$Tape", "size", "I", false)
def tyX5 : Nat → FieldType := fun k => match k with
  | 0 => .array .byte
  | _ => .int
theorem nmX5 : ∀ a, a < 2 → ∀ b, b < 2 → a ≠ b → (TX5 a).2.1 ≠ (TX5 b).2.1 := by decide +kernel
theorem tyX5_ok : ∀ k, k < 2 → parseFieldDescriptor (TX5 k).2.2.1 = some (tyX5 k) := by decide +kernel
def RX6 : String := "ShortcutDuty$Trip"
def TX6 : u_T := fun k => match k with
  | 0 => ("ShortcutDuty$Trip", "lawfulSteps", "I", false)
  | 1 => ("ShortcutDuty$Trip", "lawful", "Z", false)
  | 2 => ("ShortcutDuty$Trip", "total", "I", false)
  | 3 => ("ShortcutDuty$Trip", "laneBits", "I", false)
  | 4 => ("ShortcutDuty$Trip", "spared", "I", false)
  | 5 => ("ShortcutDuty$Trip", "owed", "I", false)
  | 6 => ("ShortcutDuty$Trip", "watches", "[I", true)
  | _ => ("ShortcutDuty$Trip", "watchCount", "I", false)
def tyX6 : Nat → FieldType := fun k => match k with
  | 0 => .int
  | 1 => .boolean
  | 2 => .int
  | 3 => .int
  | 4 => .int
  | 5 => .int
  | 6 => .array .int
  | _ => .int
theorem nmX6 : ∀ a, a < 8 → ∀ b, b < 8 → a ≠ b → (TX6 a).2.1 ≠ (TX6 b).2.1 := by decide +kernel
theorem tyX6_ok : ∀ k, k < 8 → parseFieldDescriptor (TX6 k).2.2.1 = some (tyX6 k) := by decide +kernel
def RX7 : String := "ShortcutDuty$Walk"
def TX7 : u_T := fun k => match k with
  | 0 => ("ShortcutDuty$Walk", "walker", "I", false)
  | 1 => ("ShortcutDuty$Walk", "load", "I", false)
  | 2 => ("ShortcutDuty$Walk", "day", "I", false)
  | 3 => ("ShortcutDuty$Walk", "stepCount", "I", false)
  | _ => ("ShortcutDuty$Walk", "stops", "[I", true)
def tyX7 : Nat → FieldType := fun k => match k with
  | 0 => .int
  | 1 => .int
  | 2 => .int
  | 3 => .int
  | _ => .array .int
theorem nmX7 : ∀ a, a < 5 → ∀ b, b < 5 → a ≠ b → (TX7 a).2.1 ≠ (TX7 b).2.1 := by decide +kernel
theorem tyX7_ok : ∀ k, k < 5 → parseFieldDescriptor (TX7 k).2.2.1 = some (tyX7 k) := by decide +kernel
def RX8 : String := "ShortcutDuty$Ways"
def TX8 : u_T := fun k => match k with
  | 0 => ("ShortcutDuty$Ways", "lengths", "[I", true)
  | 1 => ("ShortcutDuty$Ways", "laneBits", "[I", true)
  | 2 => ("ShortcutDuty$Ways", "sizes", "[I", true)
  | 3 => ("ShortcutDuty$Ways", "rows", "[I", true)
  | 4 => ("ShortcutDuty$Ways", "found", "I", false)
  | 5 => ("ShortcutDuty$Ways", "stepLengths", "[I", true)
  | 6 => ("ShortcutDuty$Ways", "stepLanes", "[I", true)
  | 7 => ("ShortcutDuty$Ways", "realm", "LShortcutDuty$Realm;", false)
  | 8 => ("ShortcutDuty$Ways", "roadLength", "I", false)
  | 9 => ("ShortcutDuty$Ways", "boats", "I", false)
  | 10 => ("ShortcutDuty$Ways", "goal", "I", false)
  | 11 => ("ShortcutDuty$Ways", "day", "I", false)
  | _ => ("ShortcutDuty$Ways", "load", "I", false)
def tyX8 : Nat → FieldType := fun k => match k with
  | 0 => .array .int
  | 1 => .array .int
  | 2 => .array .int
  | 3 => .array .int
  | 4 => .int
  | 5 => .array .int
  | 6 => .array .int
  | 7 => .object "ShortcutDuty$Realm"
  | 8 => .int
  | 9 => .int
  | 10 => .int
  | 11 => .int
  | _ => .int
theorem nmX8 : ∀ a, a < 13 → ∀ b, b < 13 → a ≠ b → (TX8 a).2.1 ≠ (TX8 b).2.1 := by decide +kernel
theorem tyX8_ok : ∀ k, k < 13 → parseFieldDescriptor (TX8 k).2.2.1 = some (tyX8 k) := by decide +kernel
def RX9 : String := "ShortcutDuty"
def TX9 : u_T := fun k => match k with
  | 0 => ("ShortcutDuty", "tape", "LShortcutDuty$Tape;", true)
  | 1 => ("ShortcutDuty", "reader", "LShortcutDuty$Reader;", true)
  | 2 => ("ShortcutDuty", "realm", "LShortcutDuty$Realm;", true)
  | 3 => ("ShortcutDuty", "draft", "LShortcutDuty$Realm;", true)
  | 4 => ("ShortcutDuty", "images", "[LShortcutDuty$Realm;", true)
  | 5 => ("ShortcutDuty", "kept", "[Z", true)
  | 6 => ("ShortcutDuty", "search", "LShortcutDuty$Ways;", true)
  | 7 => ("ShortcutDuty", "trip", "LShortcutDuty$Trip;", true)
  | 8 => ("ShortcutDuty", "slots", "LShortcutDuty$Slots;", true)
  | 9 => ("ShortcutDuty", "owingLanes", "[I", true)
  | _ => ("ShortcutDuty", "owing", "I", false)
def tyX9 : Nat → FieldType := fun k => match k with
  | 0 => .object "ShortcutDuty$Tape"
  | 1 => .object "ShortcutDuty$Reader"
  | 2 => .object "ShortcutDuty$Realm"
  | 3 => .object "ShortcutDuty$Realm"
  | 4 => .array (.object "ShortcutDuty$Realm")
  | 5 => .array .boolean
  | 6 => .object "ShortcutDuty$Ways"
  | 7 => .object "ShortcutDuty$Trip"
  | 8 => .object "ShortcutDuty$Slots"
  | 9 => .array .int
  | _ => .int
theorem nmX9 : ∀ a, a < 11 → ∀ b, b < 11 → a ≠ b → (TX9 a).2.1 ≠ (TX9 b).2.1 := by decide +kernel
theorem tyX9_ok : ∀ k, k < 11 → parseFieldDescriptor (TX9 k).2.2.1 = some (tyX9 k) := by decide +kernel
def RX10 : String := "ShortcutDutyModel"
def TX10 : u_T := fun k => match k with
  | 0 => ("ShortcutDutyModel", "thrown", "I", false)
  | 1 => ("ShortcutDutyModel", "width", "[I", true)
  | 2 => ("ShortcutDutyModel", "many", "[I", true)
  | 3 => ("ShortcutDutyModel", "cells", "[J", true)
  | 4 => ("ShortcutDutyModel", "moved", "[J", true)
  | 5 => ("ShortcutDutyModel", "tape", "[B", true)
  | 6 => ("ShortcutDutyModel", "taped", "I", false)
  | 7 => ("ShortcutDutyModel", "at", "I", false)
  | 8 => ("ShortcutDutyModel", "token", "I", false)
  | 9 => ("ShortcutDutyModel", "place", "I", false)
  | 10 => ("ShortcutDutyModel", "value", "I", false)
  | 11 => ("ShortcutDutyModel", "word", "J", false)
  | 12 => ("ShortcutDutyModel", "bad", "I", false)
  | 13 => ("ShortcutDutyModel", "badPlace", "I", false)
  | 14 => ("ShortcutDutyModel", "fault", "I", false)
  | 15 => ("ShortcutDutyModel", "faultPlace", "I", false)
  | 16 => ("ShortcutDutyModel", "lines", "[I", true)
  | 17 => ("ShortcutDutyModel", "has", "[I", true)
  | 18 => ("ShortcutDutyModel", "law", "[I", true)
  | 19 => ("ShortcutDutyModel", "flood", "[J", true)
  | 20 => ("ShortcutDutyModel", "road", "[I", true)
  | 21 => ("ShortcutDutyModel", "lane", "[I", true)
  | 22 => ("ShortcutDutyModel", "walk", "[I", true)
  | 23 => ("ShortcutDutyModel", "isKept", "[Z", true)
  | 24 => ("ShortcutDutyModel", "far", "[I", true)
  | 25 => ("ShortcutDutyModel", "hasMore", "Z", false)
  | 26 => ("ShortcutDutyModel", "row", "[I", true)
  | 27 => ("ShortcutDutyModel", "rowMany", "I", false)
  | 28 => ("ShortcutDutyModel", "rowLength", "I", false)
  | 29 => ("ShortcutDutyModel", "rowLanes", "I", false)
  | 30 => ("ShortcutDutyModel", "isWatched", "Z", false)
  | 31 => ("ShortcutDutyModel", "watch", "[I", true)
  | 32 => ("ShortcutDutyModel", "watches", "I", false)
  | 33 => ("ShortcutDutyModel", "aim", "I", false)
  | 34 => ("ShortcutDutyModel", "dayNow", "I", false)
  | 35 => ("ShortcutDutyModel", "loadNow", "I", false)
  | 36 => ("ShortcutDutyModel", "dutyNow", "I", false)
  | 37 => ("ShortcutDutyModel", "waysMany", "I", false)
  | 38 => ("ShortcutDutyModel", "leastCost", "I", false)
  | 39 => ("ShortcutDutyModel", "leastLength", "I", false)
  | 40 => ("ShortcutDutyModel", "leastDuty", "I", false)
  | 41 => ("ShortcutDutyModel", "leastMany", "I", false)
  | 42 => ("ShortcutDutyModel", "allLanes", "I", false)
  | 43 => ("ShortcutDutyModel", "best", "[I", true)
  | _ => ("ShortcutDutyModel", "lanesOf", "[I", true)
def tyX10 : Nat → FieldType := fun k => match k with
  | 0 => .int
  | 1 => .array .int
  | 2 => .array .int
  | 3 => .array .long
  | 4 => .array .long
  | 5 => .array .byte
  | 6 => .int
  | 7 => .int
  | 8 => .int
  | 9 => .int
  | 10 => .int
  | 11 => .long
  | 12 => .int
  | 13 => .int
  | 14 => .int
  | 15 => .int
  | 16 => .array .int
  | 17 => .array .int
  | 18 => .array .int
  | 19 => .array .long
  | 20 => .array .int
  | 21 => .array .int
  | 22 => .array .int
  | 23 => .array .boolean
  | 24 => .array .int
  | 25 => .boolean
  | 26 => .array .int
  | 27 => .int
  | 28 => .int
  | 29 => .int
  | 30 => .boolean
  | 31 => .array .int
  | 32 => .int
  | 33 => .int
  | 34 => .int
  | 35 => .int
  | 36 => .int
  | 37 => .int
  | 38 => .int
  | 39 => .int
  | 40 => .int
  | 41 => .int
  | 42 => .int
  | 43 => .array .int
  | _ => .array .int
theorem nmX10 : ∀ a, a < 45 → ∀ b, b < 45 → a ≠ b → (TX10 a).2.1 ≠ (TX10 b).2.1 := by decide +kernel
theorem tyX10_ok : ∀ k, k < 45 → parseFieldDescriptor (TX10 k).2.2.1 = some (tyX10 k) := by decide +kernel
def RL : String := "ShortcutDutyLaw"
abbrev vwCl : List vw_C := [(RX0, TX0, 5), (RX1, TX1, 7), (RX2, TX2, 8), (RX3, TX3, 12), (RX4, TX4, 3), (RX5, TX5, 2), (RX6, TX6, 8), (RX7, TX7, 5), (RX8, TX8, 13), (RX9, TX9, 11), (RX10, TX10, 45)]
