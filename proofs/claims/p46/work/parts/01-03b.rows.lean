section
-- ===== PART A: goes FIRST, ahead of the names: the tables' words, and 'selects' of the private methods out of them =====
/-- a private method of a class that the tables say can be made, by its rows of tables_1 -/
def lw_okq (q : MethodName × Nat) : Prop := (q.1.cls ≠ "java/lang/invoke/MethodHandle" ∧ q.1.cls ≠ "java/lang/invoke/VarHandle") ∧ Cond.instantiable q.1.cls q.2 ∈ tables_1 ∧ Cond.privateMethod q.1 ∈ tables_1 ∧ Cond.instanceMethod q.1 ∈ tables_1
theorem ti_1 {w : Cond} (h : w ∈ tables_1_1) : w ∈ tables_1 := show w ∈ tables_1_1 ++ (tables_1_2 ++ (tables_1_3 ++ (tables_1_4 ++ (tables_1_5 ++ (tables_1_6 ++ (tables_1_7 ++ tables_1_8)))))) from List.mem_append_left _ h
theorem ti_2 {w : Cond} (h : w ∈ tables_1_2) : w ∈ tables_1 := show w ∈ tables_1_1 ++ (tables_1_2 ++ (tables_1_3 ++ (tables_1_4 ++ (tables_1_5 ++ (tables_1_6 ++ (tables_1_7 ++ tables_1_8)))))) from List.mem_append_right _ (List.mem_append_left _ h)
theorem ti_3 {w : Cond} (h : w ∈ tables_1_3) : w ∈ tables_1 := show w ∈ tables_1_1 ++ (tables_1_2 ++ (tables_1_3 ++ (tables_1_4 ++ (tables_1_5 ++ (tables_1_6 ++ (tables_1_7 ++ tables_1_8)))))) from List.mem_append_right _ (List.mem_append_right _ (List.mem_append_left _ h))
theorem ti_4 {w : Cond} (h : w ∈ tables_1_4) : w ∈ tables_1 := show w ∈ tables_1_1 ++ (tables_1_2 ++ (tables_1_3 ++ (tables_1_4 ++ (tables_1_5 ++ (tables_1_6 ++ (tables_1_7 ++ tables_1_8)))))) from List.mem_append_right _ (List.mem_append_right _ (List.mem_append_right _ (List.mem_append_left _ h)))
theorem ti_5 {w : Cond} (h : w ∈ tables_1_5) : w ∈ tables_1 := show w ∈ tables_1_1 ++ (tables_1_2 ++ (tables_1_3 ++ (tables_1_4 ++ (tables_1_5 ++ (tables_1_6 ++ (tables_1_7 ++ tables_1_8)))))) from List.mem_append_right _ (List.mem_append_right _ (List.mem_append_right _ (List.mem_append_right _ (List.mem_append_left _ h))))
theorem ti_6 {w : Cond} (h : w ∈ tables_1_6) : w ∈ tables_1 := show w ∈ tables_1_1 ++ (tables_1_2 ++ (tables_1_3 ++ (tables_1_4 ++ (tables_1_5 ++ (tables_1_6 ++ (tables_1_7 ++ tables_1_8)))))) from List.mem_append_right _ (List.mem_append_right _ (List.mem_append_right _ (List.mem_append_right _ (List.mem_append_right _ (List.mem_append_left _ h)))))
theorem ti_7 {w : Cond} (h : w ∈ tables_1_7) : w ∈ tables_1 := show w ∈ tables_1_1 ++ (tables_1_2 ++ (tables_1_3 ++ (tables_1_4 ++ (tables_1_5 ++ (tables_1_6 ++ (tables_1_7 ++ tables_1_8)))))) from List.mem_append_right _ (List.mem_append_right _ (List.mem_append_right _ (List.mem_append_right _ (List.mem_append_right _ (List.mem_append_right _ (List.mem_append_left _ h))))))
theorem ti_8 {w : Cond} (h : w ∈ tables_1_8) : w ∈ tables_1 := show w ∈ tables_1_1 ++ (tables_1_2 ++ (tables_1_3 ++ (tables_1_4 ++ (tables_1_5 ++ (tables_1_6 ++ (tables_1_7 ++ tables_1_8)))))) from List.mem_append_right _ (List.mem_append_right _ (List.mem_append_right _ (List.mem_append_right _ (List.mem_append_right _ (List.mem_append_right _ (List.mem_append_right _ (h)))))))
theorem lw_p0 : lw_okq (⟨"ShortcutDuty$Reader", "advance", "()V"⟩, 8) := ⟨⟨by decide +kernel, by decide +kernel⟩, ti_1 (List.mem_of_getElem? (i := 45) rfl), ti_2 (List.mem_of_getElem? (i := 188) rfl), ti_2 (List.mem_of_getElem? (i := 189) rfl)⟩
theorem lw_p1 : lw_okq (⟨"ShortcutDuty$Reader", "readKingdom", "()V"⟩, 8) := ⟨⟨by decide +kernel, by decide +kernel⟩, ti_1 (List.mem_of_getElem? (i := 45) rfl), ti_2 (List.mem_of_getElem? (i := 207) rfl), ti_2 (List.mem_of_getElem? (i := 208) rfl)⟩
theorem lw_p2 : lw_okq (⟨"ShortcutDuty$Reader", "takeWord", "(Ljava/lang/String;)V"⟩, 8) := ⟨⟨by decide +kernel, by decide +kernel⟩, ti_1 (List.mem_of_getElem? (i := 45) rfl), ti_2 (List.mem_of_getElem? (i := 212) rfl), ti_2 (List.mem_of_getElem? (i := 213) rfl)⟩
theorem lw_p3 : lw_okq (⟨"ShortcutDuty$Reader", "isWord", "(Ljava/lang/String;)Z"⟩, 8) := ⟨⟨by decide +kernel, by decide +kernel⟩, ti_1 (List.mem_of_getElem? (i := 45) rfl), ti_2 (List.mem_of_getElem? (i := 216) rfl), ti_2 (List.mem_of_getElem? (i := 217) rfl)⟩
theorem lw_p4 : lw_okq (⟨"ShortcutDuty$Reader", "fail", "(II)V"⟩, 8) := ⟨⟨by decide +kernel, by decide +kernel⟩, ti_1 (List.mem_of_getElem? (i := 45) rfl), ti_3 (List.mem_of_getElem? (i := 28) rfl), ti_3 (List.mem_of_getElem? (i := 29) rfl)⟩
theorem lw_p5 : lw_okq (⟨"ShortcutDuty$Reader", "takeNamed", "(Ljava/lang/String;II)I"⟩, 8) := ⟨⟨by decide +kernel, by decide +kernel⟩, ti_1 (List.mem_of_getElem? (i := 45) rfl), ti_3 (List.mem_of_getElem? (i := 33) rfl), ti_3 (List.mem_of_getElem? (i := 34) rfl)⟩
theorem lw_p6 : lw_okq (⟨"ShortcutDuty$Reader", "takeNumber", "(II)I"⟩, 8) := ⟨⟨by decide +kernel, by decide +kernel⟩, ti_1 (List.mem_of_getElem? (i := 45) rfl), ti_3 (List.mem_of_getElem? (i := 37) rfl), ti_3 (List.mem_of_getElem? (i := 38) rfl)⟩
theorem lw_p7 : lw_okq (⟨"ShortcutDuty$Reader", "readLink", "(I)V"⟩, 8) := ⟨⟨by decide +kernel, by decide +kernel⟩, ti_1 (List.mem_of_getElem? (i := 45) rfl), ti_3 (List.mem_of_getElem? (i := 46) rfl), ti_3 (List.mem_of_getElem? (i := 47) rfl)⟩
theorem lw_p8 : lw_okq (⟨"ShortcutDuty$Reader", "takeOtherPlace", "(IZ)I"⟩, 8) := ⟨⟨by decide +kernel, by decide +kernel⟩, ti_1 (List.mem_of_getElem? (i := 45) rfl), ti_3 (List.mem_of_getElem? (i := 59) rfl), ti_3 (List.mem_of_getElem? (i := 60) rfl)⟩
theorem lw_p9 : lw_okq (⟨"ShortcutDuty$Reader", "readFlood", "()V"⟩, 8) := ⟨⟨by decide +kernel, by decide +kernel⟩, ti_1 (List.mem_of_getElem? (i := 45) rfl), ti_3 (List.mem_of_getElem? (i := 77) rfl), ti_3 (List.mem_of_getElem? (i := 78) rfl)⟩
theorem lw_p10 : lw_okq (⟨"ShortcutDuty$Reader", "readWalk", "()V"⟩, 8) := ⟨⟨by decide +kernel, by decide +kernel⟩, ti_1 (List.mem_of_getElem? (i := 45) rfl), ti_3 (List.mem_of_getElem? (i := 83) rfl), ti_3 (List.mem_of_getElem? (i := 84) rfl)⟩
theorem lw_p11 : lw_okq (⟨"ShortcutDuty$Reader", "readLaw", "()V"⟩, 8) := ⟨⟨by decide +kernel, by decide +kernel⟩, ti_1 (List.mem_of_getElem? (i := 45) rfl), ti_3 (List.mem_of_getElem? (i := 93) rfl), ti_3 (List.mem_of_getElem? (i := 94) rfl)⟩
theorem lw_p12 : lw_okq (⟨"ShortcutDuty", "arePlaces", "(II)Z"⟩, 11) := ⟨⟨by decide +kernel, by decide +kernel⟩, ti_1 (List.mem_of_getElem? (i := 20) rfl), ti_3 (List.mem_of_getElem? (i := 138) rfl), ti_3 (List.mem_of_getElem? (i := 139) rfl)⟩
theorem lw_p13 : lw_okq (⟨"ShortcutDuty$Realm", "nextByRoad", "(II)I"⟩, 12) := ⟨⟨by decide +kernel, by decide +kernel⟩, ti_1 (List.mem_of_getElem? (i := 78) rfl), ti_3 (List.mem_of_getElem? (i := 159) rfl), ti_3 (List.mem_of_getElem? (i := 160) rfl)⟩
theorem lw_p14 : lw_okq (⟨"ShortcutDuty", "isJourney", "(III)Z"⟩, 11) := ⟨⟨by decide +kernel, by decide +kernel⟩, ti_1 (List.mem_of_getElem? (i := 20) rfl), ti_3 (List.mem_of_getElem? (i := 183) rfl), ti_3 (List.mem_of_getElem? (i := 184) rfl)⟩
theorem lw_p15 : lw_okq (⟨"ShortcutDuty", "isLawful", "(LShortcutDuty$Realm;I)Z"⟩, 11) := ⟨⟨by decide +kernel, by decide +kernel⟩, ti_1 (List.mem_of_getElem? (i := 20) rfl), ti_3 (List.mem_of_getElem? (i := 217) rfl), ti_3 (List.mem_of_getElem? (i := 218) rfl)⟩
def lw_privs_1 : List (MethodName × Nat) := [(⟨"ShortcutDuty$Reader", "advance", "()V"⟩, 8), (⟨"ShortcutDuty$Reader", "readKingdom", "()V"⟩, 8), (⟨"ShortcutDuty$Reader", "takeWord", "(Ljava/lang/String;)V"⟩, 8), (⟨"ShortcutDuty$Reader", "isWord", "(Ljava/lang/String;)Z"⟩, 8), (⟨"ShortcutDuty$Reader", "fail", "(II)V"⟩, 8), (⟨"ShortcutDuty$Reader", "takeNamed", "(Ljava/lang/String;II)I"⟩, 8), (⟨"ShortcutDuty$Reader", "takeNumber", "(II)I"⟩, 8), (⟨"ShortcutDuty$Reader", "readLink", "(I)V"⟩, 8), (⟨"ShortcutDuty$Reader", "takeOtherPlace", "(IZ)I"⟩, 8), (⟨"ShortcutDuty$Reader", "readFlood", "()V"⟩, 8), (⟨"ShortcutDuty$Reader", "readWalk", "()V"⟩, 8), (⟨"ShortcutDuty$Reader", "readLaw", "()V"⟩, 8), (⟨"ShortcutDuty", "arePlaces", "(II)Z"⟩, 11), (⟨"ShortcutDuty$Realm", "nextByRoad", "(II)I"⟩, 12), (⟨"ShortcutDuty", "isJourney", "(III)Z"⟩, 11), (⟨"ShortcutDuty", "isLawful", "(LShortcutDuty$Realm;I)Z"⟩, 11)]
theorem lw_r1 : ∀ q ∈ lw_privs_1, lw_okq q := List.forall_mem_cons.mpr ⟨lw_p0, List.forall_mem_cons.mpr ⟨lw_p1, List.forall_mem_cons.mpr ⟨lw_p2, List.forall_mem_cons.mpr ⟨lw_p3, List.forall_mem_cons.mpr ⟨lw_p4, List.forall_mem_cons.mpr ⟨lw_p5, List.forall_mem_cons.mpr ⟨lw_p6, List.forall_mem_cons.mpr ⟨lw_p7, List.forall_mem_cons.mpr ⟨lw_p8, List.forall_mem_cons.mpr ⟨lw_p9, List.forall_mem_cons.mpr ⟨lw_p10, List.forall_mem_cons.mpr ⟨lw_p11, List.forall_mem_cons.mpr ⟨lw_p12, List.forall_mem_cons.mpr ⟨lw_p13, List.forall_mem_cons.mpr ⟨lw_p14, List.forall_mem_cons.mpr ⟨lw_p15, fun _ h => absurd h List.not_mem_nil⟩⟩⟩⟩⟩⟩⟩⟩⟩⟩⟩⟩⟩⟩⟩⟩
theorem lw_p16 : lw_okq (⟨"ShortcutDuty$Trip", "goBy", "(LShortcutDuty$Link;)V"⟩, 8) := ⟨⟨by decide +kernel, by decide +kernel⟩, ti_2 (List.mem_of_getElem? (i := 70) rfl), ti_3 (List.mem_of_getElem? (i := 227) rfl), ti_3 (List.mem_of_getElem? (i := 228) rfl)⟩
theorem lw_p17 : lw_okq (⟨"ShortcutDuty", "refusalOf", "(I)I"⟩, 11) := ⟨⟨by decide +kernel, by decide +kernel⟩, ti_1 (List.mem_of_getElem? (i := 20) rfl), ti_4 (List.mem_of_getElem? (i := 20) rfl), ti_4 (List.mem_of_getElem? (i := 21) rfl)⟩
theorem lw_p18 : lw_okq (⟨"ShortcutDuty", "dutySum", "(LShortcutDuty$Realm;II)I"⟩, 11) := ⟨⟨by decide +kernel, by decide +kernel⟩, ti_1 (List.mem_of_getElem? (i := 20) rfl), ti_4 (List.mem_of_getElem? (i := 40) rfl), ti_4 (List.mem_of_getElem? (i := 41) rfl)⟩
theorem lw_p19 : lw_okq (⟨"ShortcutDuty$Ways", "reckonSteps", "()V"⟩, 13) := ⟨⟨by decide +kernel, by decide +kernel⟩, ti_2 (List.mem_of_getElem? (i := 20) rfl), ti_4 (List.mem_of_getElem? (i := 75) rfl), ti_4 (List.mem_of_getElem? (i := 76) rfl)⟩
theorem lw_p20 : lw_okq (⟨"ShortcutDuty$Ways", "note", "(IIII)V"⟩, 13) := ⟨⟨by decide +kernel, by decide +kernel⟩, ti_2 (List.mem_of_getElem? (i := 20) rfl), ti_4 (List.mem_of_getElem? (i := 88) rfl), ti_4 (List.mem_of_getElem? (i := 89) rfl)⟩
theorem lw_p21 : lw_okq (⟨"ShortcutDuty", "bestSum", "(LShortcutDuty$Realm;I)I"⟩, 11) := ⟨⟨by decide +kernel, by decide +kernel⟩, ti_1 (List.mem_of_getElem? (i := 20) rfl), ti_4 (List.mem_of_getElem? (i := 149) rfl), ti_4 (List.mem_of_getElem? (i := 150) rfl)⟩
theorem lw_p22 : lw_okq (⟨"ShortcutDuty", "findForWalk", "(LShortcutDuty$Realm;I)V"⟩, 11) := ⟨⟨by decide +kernel, by decide +kernel⟩, ti_1 (List.mem_of_getElem? (i := 20) rfl), ti_4 (List.mem_of_getElem? (i := 153) rfl), ti_4 (List.mem_of_getElem? (i := 154) rfl)⟩
theorem lw_p23 : lw_okq (⟨"ShortcutDuty", "bestShare", "(II)I"⟩, 11) := ⟨⟨by decide +kernel, by decide +kernel⟩, ti_1 (List.mem_of_getElem? (i := 20) rfl), ti_4 (List.mem_of_getElem? (i := 157) rfl), ti_4 (List.mem_of_getElem? (i := 158) rfl)⟩
theorem lw_p24 : lw_okq (⟨"ShortcutDuty", "bendDraft", "(II)V"⟩, 11) := ⟨⟨by decide +kernel, by decide +kernel⟩, ti_1 (List.mem_of_getElem? (i := 20) rfl), ti_4 (List.mem_of_getElem? (i := 190) rfl), ti_4 (List.mem_of_getElem? (i := 191) rfl)⟩
theorem lw_p25 : lw_okq (⟨"ShortcutDuty", "noteOwing", "()V"⟩, 11) := ⟨⟨by decide +kernel, by decide +kernel⟩, ti_1 (List.mem_of_getElem? (i := 20) rfl), ti_4 (List.mem_of_getElem? (i := 202) rfl), ti_4 (List.mem_of_getElem? (i := 203) rfl)⟩
theorem lw_p26 : lw_okq (⟨"ShortcutDuty", "meetsAllOwing", "(I)Z"⟩, 11) := ⟨⟨by decide +kernel, by decide +kernel⟩, ti_1 (List.mem_of_getElem? (i := 20) rfl), ti_4 (List.mem_of_getElem? (i := 212) rfl), ti_4 (List.mem_of_getElem? (i := 213) rfl)⟩
theorem lw_p27 : lw_okq (⟨"ShortcutDuty", "draftLaw", "(II)V"⟩, 11) := ⟨⟨by decide +kernel, by decide +kernel⟩, ti_1 (List.mem_of_getElem? (i := 20) rfl), ti_4 (List.mem_of_getElem? (i := 220) rfl), ti_4 (List.mem_of_getElem? (i := 221) rfl)⟩
theorem lw_p28 : lw_okq (⟨"ShortcutDutyModel", "four", "(I)V"⟩, 45) := ⟨⟨by decide +kernel, by decide +kernel⟩, ti_5 (List.mem_of_getElem? (i := 104) rfl), ti_6 (List.mem_of_getElem? (i := 31) rfl), ti_6 (List.mem_of_getElem? (i := 32) rfl)⟩
theorem lw_p29 : lw_okq (⟨"ShortcutDutyModel", "clears", "()V"⟩, 45) := ⟨⟨by decide +kernel, by decide +kernel⟩, ti_5 (List.mem_of_getElem? (i := 104) rfl), ti_6 (List.mem_of_getElem? (i := 47) rfl), ti_6 (List.mem_of_getElem? (i := 48) rfl)⟩
theorem lw_p30 : lw_okq (⟨"ShortcutDutyModel", "begins", "()V"⟩, 45) := ⟨⟨by decide +kernel, by decide +kernel⟩, ti_5 (List.mem_of_getElem? (i := 104) rfl), ti_6 (List.mem_of_getElem? (i := 51) rfl), ti_6 (List.mem_of_getElem? (i := 52) rfl)⟩
theorem lw_p31 : lw_okq (⟨"ShortcutDutyModel", "next", "()V"⟩, 45) := ⟨⟨by decide +kernel, by decide +kernel⟩, ti_5 (List.mem_of_getElem? (i := 104) rfl), ti_6 (List.mem_of_getElem? (i := 55) rfl), ti_6 (List.mem_of_getElem? (i := 56) rfl)⟩
def lw_privs_2 : List (MethodName × Nat) := [(⟨"ShortcutDuty$Trip", "goBy", "(LShortcutDuty$Link;)V"⟩, 8), (⟨"ShortcutDuty", "refusalOf", "(I)I"⟩, 11), (⟨"ShortcutDuty", "dutySum", "(LShortcutDuty$Realm;II)I"⟩, 11), (⟨"ShortcutDuty$Ways", "reckonSteps", "()V"⟩, 13), (⟨"ShortcutDuty$Ways", "note", "(IIII)V"⟩, 13), (⟨"ShortcutDuty", "bestSum", "(LShortcutDuty$Realm;I)I"⟩, 11), (⟨"ShortcutDuty", "findForWalk", "(LShortcutDuty$Realm;I)V"⟩, 11), (⟨"ShortcutDuty", "bestShare", "(II)I"⟩, 11), (⟨"ShortcutDuty", "bendDraft", "(II)V"⟩, 11), (⟨"ShortcutDuty", "noteOwing", "()V"⟩, 11), (⟨"ShortcutDuty", "meetsAllOwing", "(I)Z"⟩, 11), (⟨"ShortcutDuty", "draftLaw", "(II)V"⟩, 11), (⟨"ShortcutDutyModel", "four", "(I)V"⟩, 45), (⟨"ShortcutDutyModel", "clears", "()V"⟩, 45), (⟨"ShortcutDutyModel", "begins", "()V"⟩, 45), (⟨"ShortcutDutyModel", "next", "()V"⟩, 45)]
theorem lw_r2 : ∀ q ∈ lw_privs_2, lw_okq q := List.forall_mem_cons.mpr ⟨lw_p16, List.forall_mem_cons.mpr ⟨lw_p17, List.forall_mem_cons.mpr ⟨lw_p18, List.forall_mem_cons.mpr ⟨lw_p19, List.forall_mem_cons.mpr ⟨lw_p20, List.forall_mem_cons.mpr ⟨lw_p21, List.forall_mem_cons.mpr ⟨lw_p22, List.forall_mem_cons.mpr ⟨lw_p23, List.forall_mem_cons.mpr ⟨lw_p24, List.forall_mem_cons.mpr ⟨lw_p25, List.forall_mem_cons.mpr ⟨lw_p26, List.forall_mem_cons.mpr ⟨lw_p27, List.forall_mem_cons.mpr ⟨lw_p28, List.forall_mem_cons.mpr ⟨lw_p29, List.forall_mem_cons.mpr ⟨lw_p30, List.forall_mem_cons.mpr ⟨lw_p31, fun _ h => absurd h List.not_mem_nil⟩⟩⟩⟩⟩⟩⟩⟩⟩⟩⟩⟩⟩⟩⟩⟩
theorem lw_p32 : lw_okq (⟨"ShortcutDutyModel", "isByte", "(III)Z"⟩, 45) := ⟨⟨by decide +kernel, by decide +kernel⟩, ti_5 (List.mem_of_getElem? (i := 104) rfl), ti_6 (List.mem_of_getElem? (i := 59) rfl), ti_6 (List.mem_of_getElem? (i := 60) rfl)⟩
theorem lw_p33 : lw_okq (⟨"ShortcutDutyModel", "isGood", "()Z"⟩, 45) := ⟨⟨by decide +kernel, by decide +kernel⟩, ti_5 (List.mem_of_getElem? (i := 104) rfl), ti_6 (List.mem_of_getElem? (i := 68) rfl), ti_6 (List.mem_of_getElem? (i := 69) rfl)⟩
theorem lw_p34 : lw_okq (⟨"ShortcutDutyModel", "first", "()V"⟩, 45) := ⟨⟨by decide +kernel, by decide +kernel⟩, ti_5 (List.mem_of_getElem? (i := 104) rfl), ti_6 (List.mem_of_getElem? (i := 72) rfl), ti_6 (List.mem_of_getElem? (i := 73) rfl)⟩
theorem lw_p35 : lw_okq (⟨"ShortcutDutyModel", "asks", "(J)V"⟩, 45) := ⟨⟨by decide +kernel, by decide +kernel⟩, ti_5 (List.mem_of_getElem? (i := 104) rfl), ti_6 (List.mem_of_getElem? (i := 77) rfl), ti_6 (List.mem_of_getElem? (i := 78) rfl)⟩
theorem lw_p36 : lw_okq (⟨"ShortcutDutyModel", "takes", "(J)Z"⟩, 45) := ⟨⟨by decide +kernel, by decide +kernel⟩, ti_5 (List.mem_of_getElem? (i := 104) rfl), ti_6 (List.mem_of_getElem? (i := 81) rfl), ti_6 (List.mem_of_getElem? (i := 82) rfl)⟩
theorem lw_p37 : lw_okq (⟨"ShortcutDutyModel", "is", "(J)Z"⟩, 45) := ⟨⟨by decide +kernel, by decide +kernel⟩, ti_5 (List.mem_of_getElem? (i := 104) rfl), ti_6 (List.mem_of_getElem? (i := 85) rfl), ti_6 (List.mem_of_getElem? (i := 86) rfl)⟩
theorem lw_p38 : lw_okq (⟨"ShortcutDutyModel", "fails", "(I)V"⟩, 45) := ⟨⟨by decide +kernel, by decide +kernel⟩, ti_5 (List.mem_of_getElem? (i := 104) rfl), ti_6 (List.mem_of_getElem? (i := 89) rfl), ti_6 (List.mem_of_getElem? (i := 90) rfl)⟩
theorem lw_p39 : lw_okq (⟨"ShortcutDutyModel", "number", "(JII)I"⟩, 45) := ⟨⟨by decide +kernel, by decide +kernel⟩, ti_5 (List.mem_of_getElem? (i := 104) rfl), ti_6 (List.mem_of_getElem? (i := 94) rfl), ti_6 (List.mem_of_getElem? (i := 95) rfl)⟩
theorem lw_p40 : lw_okq (⟨"ShortcutDutyModel", "number", "(II)I"⟩, 45) := ⟨⟨by decide +kernel, by decide +kernel⟩, ti_5 (List.mem_of_getElem? (i := 104) rfl), ti_6 (List.mem_of_getElem? (i := 98) rfl), ti_6 (List.mem_of_getElem? (i := 99) rfl)⟩
theorem lw_p41 : lw_okq (⟨"ShortcutDutyModel", "line", "()V"⟩, 45) := ⟨⟨by decide +kernel, by decide +kernel⟩, ti_5 (List.mem_of_getElem? (i := 104) rfl), ti_6 (List.mem_of_getElem? (i := 106) rfl), ti_6 (List.mem_of_getElem? (i := 107) rfl)⟩
theorem lw_p42 : lw_okq (⟨"ShortcutDutyModel", "hasRead", "(I)I"⟩, 45) := ⟨⟨by decide +kernel, by decide +kernel⟩, ti_5 (List.mem_of_getElem? (i := 104) rfl), ti_6 (List.mem_of_getElem? (i := 115) rfl), ti_6 (List.mem_of_getElem? (i := 116) rfl)⟩
theorem lw_p43 : lw_okq (⟨"ShortcutDutyModel", "roadLine", "()V"⟩, 45) := ⟨⟨by decide +kernel, by decide +kernel⟩, ti_5 (List.mem_of_getElem? (i := 104) rfl), ti_6 (List.mem_of_getElem? (i := 119) rfl), ti_6 (List.mem_of_getElem? (i := 120) rfl)⟩
theorem lw_p44 : lw_okq (⟨"ShortcutDutyModel", "isRoadTold", "(II)Z"⟩, 45) := ⟨⟨by decide +kernel, by decide +kernel⟩, ti_5 (List.mem_of_getElem? (i := 104) rfl), ti_6 (List.mem_of_getElem? (i := 124) rfl), ti_6 (List.mem_of_getElem? (i := 125) rfl)⟩
theorem lw_p45 : lw_okq (⟨"ShortcutDutyModel", "other", "(Z)I"⟩, 45) := ⟨⟨by decide +kernel, by decide +kernel⟩, ti_5 (List.mem_of_getElem? (i := 104) rfl), ti_6 (List.mem_of_getElem? (i := 131) rfl), ti_6 (List.mem_of_getElem? (i := 132) rfl)⟩
theorem lw_p46 : lw_okq (⟨"ShortcutDutyModel", "walkLine", "()V"⟩, 45) := ⟨⟨by decide +kernel, by decide +kernel⟩, ti_5 (List.mem_of_getElem? (i := 104) rfl), ti_6 (List.mem_of_getElem? (i := 135) rfl), ti_6 (List.mem_of_getElem? (i := 136) rfl)⟩
theorem lw_p47 : lw_okq (⟨"ShortcutDutyModel", "laneLine", "(I)V"⟩, 45) := ⟨⟨by decide +kernel, by decide +kernel⟩, ti_5 (List.mem_of_getElem? (i := 104) rfl), ti_6 (List.mem_of_getElem? (i := 143) rfl), ti_6 (List.mem_of_getElem? (i := 144) rfl)⟩
def lw_privs_3 : List (MethodName × Nat) := [(⟨"ShortcutDutyModel", "isByte", "(III)Z"⟩, 45), (⟨"ShortcutDutyModel", "isGood", "()Z"⟩, 45), (⟨"ShortcutDutyModel", "first", "()V"⟩, 45), (⟨"ShortcutDutyModel", "asks", "(J)V"⟩, 45), (⟨"ShortcutDutyModel", "takes", "(J)Z"⟩, 45), (⟨"ShortcutDutyModel", "is", "(J)Z"⟩, 45), (⟨"ShortcutDutyModel", "fails", "(I)V"⟩, 45), (⟨"ShortcutDutyModel", "number", "(JII)I"⟩, 45), (⟨"ShortcutDutyModel", "number", "(II)I"⟩, 45), (⟨"ShortcutDutyModel", "line", "()V"⟩, 45), (⟨"ShortcutDutyModel", "hasRead", "(I)I"⟩, 45), (⟨"ShortcutDutyModel", "roadLine", "()V"⟩, 45), (⟨"ShortcutDutyModel", "isRoadTold", "(II)Z"⟩, 45), (⟨"ShortcutDutyModel", "other", "(Z)I"⟩, 45), (⟨"ShortcutDutyModel", "walkLine", "()V"⟩, 45), (⟨"ShortcutDutyModel", "laneLine", "(I)V"⟩, 45)]
theorem lw_r3 : ∀ q ∈ lw_privs_3, lw_okq q := List.forall_mem_cons.mpr ⟨lw_p32, List.forall_mem_cons.mpr ⟨lw_p33, List.forall_mem_cons.mpr ⟨lw_p34, List.forall_mem_cons.mpr ⟨lw_p35, List.forall_mem_cons.mpr ⟨lw_p36, List.forall_mem_cons.mpr ⟨lw_p37, List.forall_mem_cons.mpr ⟨lw_p38, List.forall_mem_cons.mpr ⟨lw_p39, List.forall_mem_cons.mpr ⟨lw_p40, List.forall_mem_cons.mpr ⟨lw_p41, List.forall_mem_cons.mpr ⟨lw_p42, List.forall_mem_cons.mpr ⟨lw_p43, List.forall_mem_cons.mpr ⟨lw_p44, List.forall_mem_cons.mpr ⟨lw_p45, List.forall_mem_cons.mpr ⟨lw_p46, List.forall_mem_cons.mpr ⟨lw_p47, fun _ h => absurd h List.not_mem_nil⟩⟩⟩⟩⟩⟩⟩⟩⟩⟩⟩⟩⟩⟩⟩⟩
theorem lw_p48 : lw_okq (⟨"ShortcutDutyModel", "lawLine", "()V"⟩, 45) := ⟨⟨by decide +kernel, by decide +kernel⟩, ti_5 (List.mem_of_getElem? (i := 104) rfl), ti_6 (List.mem_of_getElem? (i := 150) rfl), ti_6 (List.mem_of_getElem? (i := 151) rfl)⟩
theorem lw_p49 : lw_okq (⟨"ShortcutDutyModel", "ends", "()V"⟩, 45) := ⟨⟨by decide +kernel, by decide +kernel⟩, ti_5 (List.mem_of_getElem? (i := 104) rfl), ti_6 (List.mem_of_getElem? (i := 156) rfl), ti_6 (List.mem_of_getElem? (i := 157) rfl)⟩
theorem lw_p50 : lw_okq (⟨"ShortcutDutyModel", "isOver", "()V"⟩, 45) := ⟨⟨by decide +kernel, by decide +kernel⟩, ti_5 (List.mem_of_getElem? (i := 104) rfl), ti_6 (List.mem_of_getElem? (i := 160) rfl), ti_6 (List.mem_of_getElem? (i := 161) rfl)⟩
theorem lw_p51 : lw_okq (⟨"ShortcutDutyModel", "copyKingdom", "(II)V"⟩, 45) := ⟨⟨by decide +kernel, by decide +kernel⟩, ti_5 (List.mem_of_getElem? (i := 104) rfl), ti_6 (List.mem_of_getElem? (i := 164) rfl), ti_6 (List.mem_of_getElem? (i := 165) rfl)⟩
theorem lw_p52 : lw_okq (⟨"ShortcutDutyModel", "isPlace", "(I)Z"⟩, 45) := ⟨⟨by decide +kernel, by decide +kernel⟩, ti_5 (List.mem_of_getElem? (i := 104) rfl), ti_6 (List.mem_of_getElem? (i := 175) rfl), ti_6 (List.mem_of_getElem? (i := 176) rfl)⟩
theorem lw_p53 : lw_okq (⟨"ShortcutDutyModel", "byRoad", "(II)I"⟩, 45) := ⟨⟨by decide +kernel, by decide +kernel⟩, ti_5 (List.mem_of_getElem? (i := 104) rfl), ti_6 (List.mem_of_getElem? (i := 179) rfl), ti_6 (List.mem_of_getElem? (i := 180) rfl)⟩
theorem lw_p54 : lw_okq (⟨"ShortcutDutyModel", "laysFar", "(I)V"⟩, 45) := ⟨⟨by decide +kernel, by decide +kernel⟩, ti_5 (List.mem_of_getElem? (i := 104) rfl), ti_6 (List.mem_of_getElem? (i := 183) rfl), ti_6 (List.mem_of_getElem? (i := 184) rfl)⟩
theorem lw_p55 : lw_okq (⟨"ShortcutDutyModel", "roadOf", "(II)I"⟩, 45) := ⟨⟨by decide +kernel, by decide +kernel⟩, ti_5 (List.mem_of_getElem? (i := 104) rfl), ti_6 (List.mem_of_getElem? (i := 191) rfl), ti_6 (List.mem_of_getElem? (i := 192) rfl)⟩
theorem lw_p56 : lw_okq (⟨"ShortcutDutyModel", "isDay", "(I)Z"⟩, 45) := ⟨⟨by decide +kernel, by decide +kernel⟩, ti_5 (List.mem_of_getElem? (i := 104) rfl), ti_6 (List.mem_of_getElem? (i := 199) rfl), ti_6 (List.mem_of_getElem? (i := 200) rfl)⟩
theorem lw_p57 : lw_okq (⟨"ShortcutDutyModel", "isOpen", "(II)Z"⟩, 45) := ⟨⟨by decide +kernel, by decide +kernel⟩, ti_5 (List.mem_of_getElem? (i := 104) rfl), ti_6 (List.mem_of_getElem? (i := 203) rfl), ti_6 (List.mem_of_getElem? (i := 204) rfl)⟩
theorem lw_p58 : lw_okq (⟨"ShortcutDutyModel", "areTwo", "(II)Z"⟩, 45) := ⟨⟨by decide +kernel, by decide +kernel⟩, ti_5 (List.mem_of_getElem? (i := 104) rfl), ti_6 (List.mem_of_getElem? (i := 211) rfl), ti_6 (List.mem_of_getElem? (i := 212) rfl)⟩
theorem lw_p59 : lw_okq (⟨"ShortcutDutyModel", "joined", "(III)I"⟩, 45) := ⟨⟨by decide +kernel, by decide +kernel⟩, ti_5 (List.mem_of_getElem? (i := 104) rfl), ti_6 (List.mem_of_getElem? (i := 215) rfl), ti_6 (List.mem_of_getElem? (i := 216) rfl)⟩
theorem lw_p60 : lw_okq (⟨"ShortcutDutyModel", "isWalk", "(I)Z"⟩, 45) := ⟨⟨by decide +kernel, by decide +kernel⟩, ti_5 (List.mem_of_getElem? (i := 104) rfl), ti_6 (List.mem_of_getElem? (i := 223) rfl), ti_6 (List.mem_of_getElem? (i := 224) rfl)⟩
theorem lw_p61 : lw_okq (⟨"ShortcutDutyModel", "of", "(II)I"⟩, 45) := ⟨⟨by decide +kernel, by decide +kernel⟩, ti_5 (List.mem_of_getElem? (i := 104) rfl), ti_6 (List.mem_of_getElem? (i := 228) rfl), ti_6 (List.mem_of_getElem? (i := 229) rfl)⟩
theorem lw_p62 : lw_okq (⟨"ShortcutDutyModel", "from", "(I)I"⟩, 45) := ⟨⟨by decide +kernel, by decide +kernel⟩, ti_5 (List.mem_of_getElem? (i := 104) rfl), ti_6 (List.mem_of_getElem? (i := 232) rfl), ti_6 (List.mem_of_getElem? (i := 233) rfl)⟩
theorem lw_p63 : lw_okq (⟨"ShortcutDutyModel", "to", "(I)I"⟩, 45) := ⟨⟨by decide +kernel, by decide +kernel⟩, ti_5 (List.mem_of_getElem? (i := 104) rfl), ti_6 (List.mem_of_getElem? (i := 236) rfl), ti_6 (List.mem_of_getElem? (i := 237) rfl)⟩
def lw_privs_4 : List (MethodName × Nat) := [(⟨"ShortcutDutyModel", "lawLine", "()V"⟩, 45), (⟨"ShortcutDutyModel", "ends", "()V"⟩, 45), (⟨"ShortcutDutyModel", "isOver", "()V"⟩, 45), (⟨"ShortcutDutyModel", "copyKingdom", "(II)V"⟩, 45), (⟨"ShortcutDutyModel", "isPlace", "(I)Z"⟩, 45), (⟨"ShortcutDutyModel", "byRoad", "(II)I"⟩, 45), (⟨"ShortcutDutyModel", "laysFar", "(I)V"⟩, 45), (⟨"ShortcutDutyModel", "roadOf", "(II)I"⟩, 45), (⟨"ShortcutDutyModel", "isDay", "(I)Z"⟩, 45), (⟨"ShortcutDutyModel", "isOpen", "(II)Z"⟩, 45), (⟨"ShortcutDutyModel", "areTwo", "(II)Z"⟩, 45), (⟨"ShortcutDutyModel", "joined", "(III)I"⟩, 45), (⟨"ShortcutDutyModel", "isWalk", "(I)Z"⟩, 45), (⟨"ShortcutDutyModel", "of", "(II)I"⟩, 45), (⟨"ShortcutDutyModel", "from", "(I)I"⟩, 45), (⟨"ShortcutDutyModel", "to", "(I)I"⟩, 45)]
theorem lw_r4 : ∀ q ∈ lw_privs_4, lw_okq q := List.forall_mem_cons.mpr ⟨lw_p48, List.forall_mem_cons.mpr ⟨lw_p49, List.forall_mem_cons.mpr ⟨lw_p50, List.forall_mem_cons.mpr ⟨lw_p51, List.forall_mem_cons.mpr ⟨lw_p52, List.forall_mem_cons.mpr ⟨lw_p53, List.forall_mem_cons.mpr ⟨lw_p54, List.forall_mem_cons.mpr ⟨lw_p55, List.forall_mem_cons.mpr ⟨lw_p56, List.forall_mem_cons.mpr ⟨lw_p57, List.forall_mem_cons.mpr ⟨lw_p58, List.forall_mem_cons.mpr ⟨lw_p59, List.forall_mem_cons.mpr ⟨lw_p60, List.forall_mem_cons.mpr ⟨lw_p61, List.forall_mem_cons.mpr ⟨lw_p62, List.forall_mem_cons.mpr ⟨lw_p63, fun _ h => absurd h List.not_mem_nil⟩⟩⟩⟩⟩⟩⟩⟩⟩⟩⟩⟩⟩⟩⟩⟩
theorem lw_p64 : lw_okq (⟨"ShortcutDutyModel", "many0", "(I)I"⟩, 45) := ⟨⟨by decide +kernel, by decide +kernel⟩, ti_5 (List.mem_of_getElem? (i := 104) rfl), ti_7 (List.mem_of_getElem? (i := 0) rfl), ti_7 (List.mem_of_getElem? (i := 1) rfl)⟩
theorem lw_p65 : lw_okq (⟨"ShortcutDutyModel", "isKingdom", "()Z"⟩, 45) := ⟨⟨by decide +kernel, by decide +kernel⟩, ti_5 (List.mem_of_getElem? (i := 104) rfl), ti_7 (List.mem_of_getElem? (i := 8) rfl), ti_7 (List.mem_of_getElem? (i := 9) rfl)⟩
theorem lw_p66 : lw_okq (⟨"ShortcutDutyModel", "goesAs", "(I)Z"⟩, 45) := ⟨⟨by decide +kernel, by decide +kernel⟩, ti_5 (List.mem_of_getElem? (i := 104) rfl), ti_7 (List.mem_of_getElem? (i := 12) rfl), ti_7 (List.mem_of_getElem? (i := 13) rfl)⟩
theorem lw_p67 : lw_okq (⟨"ShortcutDutyModel", "looks", "(I)I"⟩, 45) := ⟨⟨by decide +kernel, by decide +kernel⟩, ti_5 (List.mem_of_getElem? (i := 104) rfl), ti_7 (List.mem_of_getElem? (i := 16) rfl), ti_7 (List.mem_of_getElem? (i := 17) rfl)⟩
theorem lw_p68 : lw_okq (⟨"ShortcutDutyModel", "longOf", "(I)I"⟩, 45) := ⟨⟨by decide +kernel, by decide +kernel⟩, ti_5 (List.mem_of_getElem? (i := 104) rfl), ti_7 (List.mem_of_getElem? (i := 20) rfl), ti_7 (List.mem_of_getElem? (i := 21) rfl)⟩
theorem lw_p69 : lw_okq (⟨"ShortcutDutyModel", "savedOf", "(I)I"⟩, 45) := ⟨⟨by decide +kernel, by decide +kernel⟩, ti_5 (List.mem_of_getElem? (i := 104) rfl), ti_7 (List.mem_of_getElem? (i := 36) rfl), ti_7 (List.mem_of_getElem? (i := 37) rfl)⟩
theorem lw_p70 : lw_okq (⟨"ShortcutDutyModel", "dutyOf", "(I)I"⟩, 45) := ⟨⟨by decide +kernel, by decide +kernel⟩, ti_5 (List.mem_of_getElem? (i := 104) rfl), ti_7 (List.mem_of_getElem? (i := 44) rfl), ti_7 (List.mem_of_getElem? (i := 45) rfl)⟩
theorem lw_p71 : lw_okq (⟨"ShortcutDutyModel", "dutyOf", "(II)I"⟩, 45) := ⟨⟨by decide +kernel, by decide +kernel⟩, ti_5 (List.mem_of_getElem? (i := 104) rfl), ti_7 (List.mem_of_getElem? (i := 48) rfl), ti_7 (List.mem_of_getElem? (i := 49) rfl)⟩
theorem lw_p72 : lw_okq (⟨"ShortcutDutyModel", "hasBoat", "()Z"⟩, 45) := ⟨⟨by decide +kernel, by decide +kernel⟩, ti_5 (List.mem_of_getElem? (i := 104) rfl), ti_7 (List.mem_of_getElem? (i := 52) rfl), ti_7 (List.mem_of_getElem? (i := 53) rfl)⟩
theorem lw_p73 : lw_okq (⟨"ShortcutDutyModel", "sumOf", "(II)I"⟩, 45) := ⟨⟨by decide +kernel, by decide +kernel⟩, ti_5 (List.mem_of_getElem? (i := 104) rfl), ti_7 (List.mem_of_getElem? (i := 65) rfl), ti_7 (List.mem_of_getElem? (i := 66) rfl)⟩
theorem lw_p74 : lw_okq (⟨"ShortcutDutyModel", "told", "(JI)J"⟩, 45) := ⟨⟨by decide +kernel, by decide +kernel⟩, ti_5 (List.mem_of_getElem? (i := 104) rfl), ti_7 (List.mem_of_getElem? (i := 78) rfl), ti_7 (List.mem_of_getElem? (i := 79) rfl)⟩
theorem lw_p75 : lw_okq (⟨"ShortcutDutyModel", "isTrip", "(III)Z"⟩, 45) := ⟨⟨by decide +kernel, by decide +kernel⟩, ti_5 (List.mem_of_getElem? (i := 104) rfl), ti_7 (List.mem_of_getElem? (i := 94) rfl), ti_7 (List.mem_of_getElem? (i := 95) rfl)⟩
theorem lw_p76 : lw_okq (⟨"ShortcutDutyModel", "seeks", "(IIIII)V"⟩, 45) := ⟨⟨by decide +kernel, by decide +kernel⟩, ti_5 (List.mem_of_getElem? (i := 104) rfl), ti_7 (List.mem_of_getElem? (i := 98) rfl), ti_7 (List.mem_of_getElem? (i := 99) rfl)⟩
theorem lw_p77 : lw_okq (⟨"ShortcutDutyModel", "goesOn", "(III)V"⟩, 45) := ⟨⟨by decide +kernel, by decide +kernel⟩, ti_5 (List.mem_of_getElem? (i := 104) rfl), ti_7 (List.mem_of_getElem? (i := 103) rfl), ti_7 (List.mem_of_getElem? (i := 104) rfl)⟩
theorem lw_p78 : lw_okq (⟨"ShortcutDutyModel", "meets", "()V"⟩, 45) := ⟨⟨by decide +kernel, by decide +kernel⟩, ti_5 (List.mem_of_getElem? (i := 104) rfl), ti_7 (List.mem_of_getElem? (i := 107) rfl), ti_7 (List.mem_of_getElem? (i := 108) rfl)⟩
theorem lw_p79 : lw_okq (⟨"ShortcutDutyModel", "allOf", "(I)I"⟩, 45) := ⟨⟨by decide +kernel, by decide +kernel⟩, ti_5 (List.mem_of_getElem? (i := 104) rfl), ti_7 (List.mem_of_getElem? (i := 135) rfl), ti_7 (List.mem_of_getElem? (i := 136) rfl)⟩
def lw_privs_5 : List (MethodName × Nat) := [(⟨"ShortcutDutyModel", "many0", "(I)I"⟩, 45), (⟨"ShortcutDutyModel", "isKingdom", "()Z"⟩, 45), (⟨"ShortcutDutyModel", "goesAs", "(I)Z"⟩, 45), (⟨"ShortcutDutyModel", "looks", "(I)I"⟩, 45), (⟨"ShortcutDutyModel", "longOf", "(I)I"⟩, 45), (⟨"ShortcutDutyModel", "savedOf", "(I)I"⟩, 45), (⟨"ShortcutDutyModel", "dutyOf", "(I)I"⟩, 45), (⟨"ShortcutDutyModel", "dutyOf", "(II)I"⟩, 45), (⟨"ShortcutDutyModel", "hasBoat", "()Z"⟩, 45), (⟨"ShortcutDutyModel", "sumOf", "(II)I"⟩, 45), (⟨"ShortcutDutyModel", "told", "(JI)J"⟩, 45), (⟨"ShortcutDutyModel", "isTrip", "(III)Z"⟩, 45), (⟨"ShortcutDutyModel", "seeks", "(IIIII)V"⟩, 45), (⟨"ShortcutDutyModel", "goesOn", "(III)V"⟩, 45), (⟨"ShortcutDutyModel", "meets", "()V"⟩, 45), (⟨"ShortcutDutyModel", "allOf", "(I)I"⟩, 45)]
theorem lw_r5 : ∀ q ∈ lw_privs_5, lw_okq q := List.forall_mem_cons.mpr ⟨lw_p64, List.forall_mem_cons.mpr ⟨lw_p65, List.forall_mem_cons.mpr ⟨lw_p66, List.forall_mem_cons.mpr ⟨lw_p67, List.forall_mem_cons.mpr ⟨lw_p68, List.forall_mem_cons.mpr ⟨lw_p69, List.forall_mem_cons.mpr ⟨lw_p70, List.forall_mem_cons.mpr ⟨lw_p71, List.forall_mem_cons.mpr ⟨lw_p72, List.forall_mem_cons.mpr ⟨lw_p73, List.forall_mem_cons.mpr ⟨lw_p74, List.forall_mem_cons.mpr ⟨lw_p75, List.forall_mem_cons.mpr ⟨lw_p76, List.forall_mem_cons.mpr ⟨lw_p77, List.forall_mem_cons.mpr ⟨lw_p78, List.forall_mem_cons.mpr ⟨lw_p79, fun _ h => absurd h List.not_mem_nil⟩⟩⟩⟩⟩⟩⟩⟩⟩⟩⟩⟩⟩⟩⟩⟩
theorem lw_p80 : lw_okq (⟨"ShortcutDutyModel", "allWith", "(IIII)I"⟩, 45) := ⟨⟨by decide +kernel, by decide +kernel⟩, ti_5 (List.mem_of_getElem? (i := 104) rfl), ti_7 (List.mem_of_getElem? (i := 147) rfl), ti_7 (List.mem_of_getElem? (i := 148) rfl)⟩
theorem lw_p81 : lw_okq (⟨"ShortcutDutyModel", "thinks", "(III)V"⟩, 45) := ⟨⟨by decide +kernel, by decide +kernel⟩, ti_5 (List.mem_of_getElem? (i := 104) rfl), ti_7 (List.mem_of_getElem? (i := 151) rfl), ti_7 (List.mem_of_getElem? (i := 152) rfl)⟩
theorem lw_p82 : lw_okq (⟨"ShortcutDutyModel", "allBent", "(III)I"⟩, 45) := ⟨⟨by decide +kernel, by decide +kernel⟩, ti_5 (List.mem_of_getElem? (i := 104) rfl), ti_7 (List.mem_of_getElem? (i := 164) rfl), ti_7 (List.mem_of_getElem? (i := 165) rfl)⟩
theorem lw_p83 : lw_okq (⟨"ShortcutDutyModel", "takingsBy", "(II)I"⟩, 45) := ⟨⟨by decide +kernel, by decide +kernel⟩, ti_5 (List.mem_of_getElem? (i := 104) rfl), ti_7 (List.mem_of_getElem? (i := 183) rfl), ti_7 (List.mem_of_getElem? (i := 184) rfl)⟩
theorem lw_p84 : lw_okq (⟨"ShortcutDutyModel", "owing", "(III)V"⟩, 45) := ⟨⟨by decide +kernel, by decide +kernel⟩, ti_5 (List.mem_of_getElem? (i := 104) rfl), ti_7 (List.mem_of_getElem? (i := 200) rfl), ti_7 (List.mem_of_getElem? (i := 201) rfl)⟩
theorem lw_p85 : lw_okq (⟨"ShortcutDutyModel", "isSeenBy", "(J)Z"⟩, 45) := ⟨⟨by decide +kernel, by decide +kernel⟩, ti_5 (List.mem_of_getElem? (i := 104) rfl), ti_7 (List.mem_of_getElem? (i := 224) rfl), ti_7 (List.mem_of_getElem? (i := 225) rfl)⟩
def lw_privs_6 : List (MethodName × Nat) := [(⟨"ShortcutDutyModel", "allWith", "(IIII)I"⟩, 45), (⟨"ShortcutDutyModel", "thinks", "(III)V"⟩, 45), (⟨"ShortcutDutyModel", "allBent", "(III)I"⟩, 45), (⟨"ShortcutDutyModel", "takingsBy", "(II)I"⟩, 45), (⟨"ShortcutDutyModel", "owing", "(III)V"⟩, 45), (⟨"ShortcutDutyModel", "isSeenBy", "(J)Z"⟩, 45)]
theorem lw_r6 : ∀ q ∈ lw_privs_6, lw_okq q := List.forall_mem_cons.mpr ⟨lw_p80, List.forall_mem_cons.mpr ⟨lw_p81, List.forall_mem_cons.mpr ⟨lw_p82, List.forall_mem_cons.mpr ⟨lw_p83, List.forall_mem_cons.mpr ⟨lw_p84, List.forall_mem_cons.mpr ⟨lw_p85, fun _ h => absurd h List.not_mem_nil⟩⟩⟩⟩⟩⟩
def lw_privs : List (MethodName × Nat) := lw_privs_1 ++ (lw_privs_2 ++ (lw_privs_3 ++ (lw_privs_4 ++ (lw_privs_5 ++ (lw_privs_6)))))
def lw_tbl : List Cond := k2_sels lw_privs ++ tables_1
theorem lw_privs_ok : ∀ q ∈ lw_privs, lw_okq q := by
  show ∀ q ∈ lw_privs_1 ++ (lw_privs_2 ++ (lw_privs_3 ++ (lw_privs_4 ++ (lw_privs_5 ++ (lw_privs_6))))), lw_okq q
  exact List.forall_mem_append.mpr ⟨lw_r1, List.forall_mem_append.mpr ⟨lw_r2, List.forall_mem_append.mpr ⟨lw_r3, List.forall_mem_append.mpr ⟨lw_r4, List.forall_mem_append.mpr ⟨lw_r5, lw_r6⟩⟩⟩⟩⟩
def RX0 : String := "ShortcutDuty$Law"
def TX0 : u_T := fun k => match k with
  | 0 => ("ShortcutDuty$Law", "rate", "I", false)
  | 1 => ("ShortcutDuty$Law", "free", "I", false)
  | 2 => ("ShortcutDuty$Law", "time", "I", false)
  | 3 => ("ShortcutDuty$Law", "sundaysDue", "I", false)
  | _ => ("ShortcutDuty$Law", "loadsCount", "I", false)
def tyX0 : Nat → FieldType := fun k => match k with
  | 0 => .int
  | 1 => .int
  | 2 => .int
  | 3 => .int
  | _ => .int
theorem nmX0 : ∀ a, a < 5 → ∀ b, b < 5 → a ≠ b → (TX0 a).2.1 ≠ (TX0 b).2.1 := by decide +kernel
theorem tyX0_ok : ∀ k, k < 5 → parseFieldDescriptor (TX0 k).2.2.1 = some (tyX0 k) := by decide +kernel
def RX1 : String := "ShortcutDuty$Link"
def TX1 : u_T := fun k => match k with
  | 0 => ("ShortcutDuty$Link", "number", "I", true)
  | 1 => ("ShortcutDuty$Link", "kind", "I", false)
  | 2 => ("ShortcutDuty$Link", "ends", "I", false)
  | 3 => ("ShortcutDuty$Link", "span", "I", false)
  | 4 => ("ShortcutDuty$Link", "firstDay", "I", false)
  | 5 => ("ShortcutDuty$Link", "lastDay", "I", false)
  | _ => ("ShortcutDuty$Link", "watched", "I", false)
def tyX1 : Nat → FieldType := fun k => match k with
  | 0 => .int
  | 1 => .int
  | 2 => .int
  | 3 => .int
  | 4 => .int
  | 5 => .int
  | _ => .int
theorem nmX1 : ∀ a, a < 7 → ∀ b, b < 7 → a ≠ b → (TX1 a).2.1 ≠ (TX1 b).2.1 := by decide +kernel
theorem tyX1_ok : ∀ k, k < 7 → parseFieldDescriptor (TX1 k).2.2.1 = some (tyX1 k) := by decide +kernel
def RX2 : String := "ShortcutDuty$Reader"
def TX2 : u_T := fun k => match k with
  | 0 => ("ShortcutDuty$Reader", "source", "LShortcutDuty$Tape;", false)
  | 1 => ("ShortcutDuty$Reader", "target", "LShortcutDuty$Realm;", false)
  | 2 => ("ShortcutDuty$Reader", "fault", "I", false)
  | 3 => ("ShortcutDuty$Reader", "place", "I", false)
  | 4 => ("ShortcutDuty$Reader", "kind", "I", false)
  | 5 => ("ShortcutDuty$Reader", "start", "I", false)
  | 6 => ("ShortcutDuty$Reader", "stop", "I", false)
  | _ => ("ShortcutDuty$Reader", "value", "I", false)
def tyX2 : Nat → FieldType := fun k => match k with
  | 0 => .object "ShortcutDuty$Tape"
  | 1 => .object "ShortcutDuty$Realm"
  | 2 => .int
  | 3 => .int
  | 4 => .int
  | 5 => .int
  | 6 => .int
  | _ => .int
theorem nmX2 : ∀ a, a < 8 → ∀ b, b < 8 → a ≠ b → (TX2 a).2.1 ≠ (TX2 b).2.1 := by decide +kernel
theorem tyX2_ok : ∀ k, k < 8 → parseFieldDescriptor (TX2 k).2.2.1 = some (tyX2 k) := by decide +kernel
def RX3 : String := "ShortcutDuty$Realm"
def TX3 : u_T := fun k => match k with
  | 0 => ("ShortcutDuty$Realm", "places", "I", false)
  | 1 => ("ShortcutDuty$Realm", "days", "I", false)
  | 2 => ("ShortcutDuty$Realm", "lines", "I", false)
  | 3 => ("ShortcutDuty$Realm", "floods", "I", false)
  | 4 => ("ShortcutDuty$Realm", "law", "LShortcutDuty$Law;", true)
  | 5 => ("ShortcutDuty$Realm", "roads", "[LShortcutDuty$Link;", true)
  | 6 => ("ShortcutDuty$Realm", "roadCount", "I", false)
  | 7 => ("ShortcutDuty$Realm", "lanes", "[LShortcutDuty$Link;", true)
  | 8 => ("ShortcutDuty$Realm", "laneCount", "I", false)
  | 9 => ("ShortcutDuty$Realm", "walks", "[LShortcutDuty$Walk;", true)
  | 10 => ("ShortcutDuty$Realm", "walkCount", "I", false)
  | _ => ("ShortcutDuty$Realm", "distances", "[I", true)
def tyX3 : Nat → FieldType := fun k => match k with
  | 0 => .int
  | 1 => .int
  | 2 => .int
  | 3 => .int
  | 4 => .object "ShortcutDuty$Law"
  | 5 => .array (.object "ShortcutDuty$Link")
  | 6 => .int
  | 7 => .array (.object "ShortcutDuty$Link")
  | 8 => .int
  | 9 => .array (.object "ShortcutDuty$Walk")
  | 10 => .int
  | _ => .array .int
theorem nmX3 : ∀ a, a < 12 → ∀ b, b < 12 → a ≠ b → (TX3 a).2.1 ≠ (TX3 b).2.1 := by decide +kernel
theorem tyX3_ok : ∀ k, k < 12 → parseFieldDescriptor (TX3 k).2.2.1 = some (tyX3 k) := by decide +kernel
def RX4 : String := "ShortcutDuty$Slots"
def TX4 : u_T := fun k => match k with
  | 0 => ("ShortcutDuty$Slots", "values", "[J", true)
  | 1 => ("ShortcutDuty$Slots", "sizes", "[I", true)
  | _ => ("ShortcutDuty$Slots", "widths", "[I", true)
def tyX4 : Nat → FieldType := fun k => match k with
  | 0 => .array .long
  | 1 => .array .int
  | _ => .array .int
theorem nmX4 : ∀ a, a < 3 → ∀ b, b < 3 → a ≠ b → (TX4 a).2.1 ≠ (TX4 b).2.1 := by decide +kernel
theorem tyX4_ok : ∀ k, k < 3 → parseFieldDescriptor (TX4 k).2.2.1 = some (tyX4 k) := by decide +kernel
def RX5 : String := "ShortcutDuty$Tape"
def TX5 : u_T := fun k => match k with
  | 0 => ("ShortcutDuty$Tape", "bytes", "[B", true)
  | _ => ("ShortcutDuty$Tape", "size", "I", false)
def tyX5 : Nat → FieldType := fun k => match k with
  | 0 => .array .byte
  | _ => .int
theorem nmX5 : ∀ a, a < 2 → ∀ b, b < 2 → a ≠ b → (TX5 a).2.1 ≠ (TX5 b).2.1 := by decide +kernel
theorem tyX5_ok : ∀ k, k < 2 → parseFieldDescriptor (TX5 k).2.2.1 = some (tyX5 k) := by decide +kernel
def RX6 : String := "ShortcutDuty$Trip"
def TX6 : u_T := fun k => match k with
  | 0 => ("ShortcutDuty$Trip", "lawfulSteps", "I", false)
  | 1 => ("ShortcutDuty$Trip", "lawful", "Z", false)
  | 2 => ("ShortcutDuty$Trip", "total", "I", false)
  | 3 => ("ShortcutDuty$Trip", "laneBits", "I", false)
  | 4 => ("ShortcutDuty$Trip", "spared", "I", false)
  | 5 => ("ShortcutDuty$Trip", "owed", "I", false)
  | 6 => ("ShortcutDuty$Trip", "watches", "[I", true)
  | _ => ("ShortcutDuty$Trip", "watchCount", "I", false)
def tyX6 : Nat → FieldType := fun k => match k with
  | 0 => .int
  | 1 => .boolean
  | 2 => .int
  | 3 => .int
  | 4 => .int
  | 5 => .int
  | 6 => .array .int
  | _ => .int
theorem nmX6 : ∀ a, a < 8 → ∀ b, b < 8 → a ≠ b → (TX6 a).2.1 ≠ (TX6 b).2.1 := by decide +kernel
theorem tyX6_ok : ∀ k, k < 8 → parseFieldDescriptor (TX6 k).2.2.1 = some (tyX6 k) := by decide +kernel
def RX7 : String := "ShortcutDuty$Walk"
def TX7 : u_T := fun k => match k with
  | 0 => ("ShortcutDuty$Walk", "walker", "I", false)
  | 1 => ("ShortcutDuty$Walk", "load", "I", false)
  | 2 => ("ShortcutDuty$Walk", "day", "I", false)
  | 3 => ("ShortcutDuty$Walk", "stepCount", "I", false)
  | _ => ("ShortcutDuty$Walk", "stops", "[I", true)
def tyX7 : Nat → FieldType := fun k => match k with
  | 0 => .int
  | 1 => .int
  | 2 => .int
  | 3 => .int
  | _ => .array .int
theorem nmX7 : ∀ a, a < 5 → ∀ b, b < 5 → a ≠ b → (TX7 a).2.1 ≠ (TX7 b).2.1 := by decide +kernel
theorem tyX7_ok : ∀ k, k < 5 → parseFieldDescriptor (TX7 k).2.2.1 = some (tyX7 k) := by decide +kernel
def RX8 : String := "ShortcutDuty$Ways"
def TX8 : u_T := fun k => match k with
  | 0 => ("ShortcutDuty$Ways", "lengths", "[I", true)
  | 1 => ("ShortcutDuty$Ways", "laneBits", "[I", true)
  | 2 => ("ShortcutDuty$Ways", "sizes", "[I", true)
  | 3 => ("ShortcutDuty$Ways", "rows", "[I", true)
  | 4 => ("ShortcutDuty$Ways", "found", "I", false)
  | 5 => ("ShortcutDuty$Ways", "stepLengths", "[I", true)
  | 6 => ("ShortcutDuty$Ways", "stepLanes", "[I", true)
  | 7 => ("ShortcutDuty$Ways", "realm", "LShortcutDuty$Realm;", false)
  | 8 => ("ShortcutDuty$Ways", "roadLength", "I", false)
  | 9 => ("ShortcutDuty$Ways", "boats", "I", false)
  | 10 => ("ShortcutDuty$Ways", "goal", "I", false)
  | 11 => ("ShortcutDuty$Ways", "day", "I", false)
  | _ => ("ShortcutDuty$Ways", "load", "I", false)
def tyX8 : Nat → FieldType := fun k => match k with
  | 0 => .array .int
  | 1 => .array .int
  | 2 => .array .int
  | 3 => .array .int
  | 4 => .int
  | 5 => .array .int
  | 6 => .array .int
  | 7 => .object "ShortcutDuty$Realm"
  | 8 => .int
  | 9 => .int
  | 10 => .int
  | 11 => .int
  | _ => .int
theorem nmX8 : ∀ a, a < 13 → ∀ b, b < 13 → a ≠ b → (TX8 a).2.1 ≠ (TX8 b).2.1 := by decide +kernel
theorem tyX8_ok : ∀ k, k < 13 → parseFieldDescriptor (TX8 k).2.2.1 = some (tyX8 k) := by decide +kernel
def RX9 : String := "ShortcutDuty"
def TX9 : u_T := fun k => match k with
  | 0 => ("ShortcutDuty", "tape", "LShortcutDuty$Tape;", true)
  | 1 => ("ShortcutDuty", "reader", "LShortcutDuty$Reader;", true)
  | 2 => ("ShortcutDuty", "realm", "LShortcutDuty$Realm;", true)
  | 3 => ("ShortcutDuty", "draft", "LShortcutDuty$Realm;", true)
  | 4 => ("ShortcutDuty", "images", "[LShortcutDuty$Realm;", true)
  | 5 => ("ShortcutDuty", "kept", "[Z", true)
  | 6 => ("ShortcutDuty", "search", "LShortcutDuty$Ways;", true)
  | 7 => ("ShortcutDuty", "trip", "LShortcutDuty$Trip;", true)
  | 8 => ("ShortcutDuty", "slots", "LShortcutDuty$Slots;", true)
  | 9 => ("ShortcutDuty", "owingLanes", "[I", true)
  | _ => ("ShortcutDuty", "owing", "I", false)
def tyX9 : Nat → FieldType := fun k => match k with
  | 0 => .object "ShortcutDuty$Tape"
  | 1 => .object "ShortcutDuty$Reader"
  | 2 => .object "ShortcutDuty$Realm"
  | 3 => .object "ShortcutDuty$Realm"
  | 4 => .array (.object "ShortcutDuty$Realm")
  | 5 => .array .boolean
  | 6 => .object "ShortcutDuty$Ways"
  | 7 => .object "ShortcutDuty$Trip"
  | 8 => .object "ShortcutDuty$Slots"
  | 9 => .array .int
  | _ => .int
theorem nmX9 : ∀ a, a < 11 → ∀ b, b < 11 → a ≠ b → (TX9 a).2.1 ≠ (TX9 b).2.1 := by decide +kernel
theorem tyX9_ok : ∀ k, k < 11 → parseFieldDescriptor (TX9 k).2.2.1 = some (tyX9 k) := by decide +kernel
def RX10 : String := "ShortcutDutyModel"
def TX10 : u_T := fun k => match k with
  | 0 => ("ShortcutDutyModel", "thrown", "I", false)
  | 1 => ("ShortcutDutyModel", "width", "[I", true)
  | 2 => ("ShortcutDutyModel", "many", "[I", true)
  | 3 => ("ShortcutDutyModel", "cells", "[J", true)
  | 4 => ("ShortcutDutyModel", "moved", "[J", true)
  | 5 => ("ShortcutDutyModel", "tape", "[B", true)
  | 6 => ("ShortcutDutyModel", "taped", "I", false)
  | 7 => ("ShortcutDutyModel", "at", "I", false)
  | 8 => ("ShortcutDutyModel", "token", "I", false)
  | 9 => ("ShortcutDutyModel", "place", "I", false)
  | 10 => ("ShortcutDutyModel", "value", "I", false)
  | 11 => ("ShortcutDutyModel", "word", "J", false)
  | 12 => ("ShortcutDutyModel", "bad", "I", false)
  | 13 => ("ShortcutDutyModel", "badPlace", "I", false)
  | 14 => ("ShortcutDutyModel", "fault", "I", false)
  | 15 => ("ShortcutDutyModel", "faultPlace", "I", false)
  | 16 => ("ShortcutDutyModel", "lines", "[I", true)
  | 17 => ("ShortcutDutyModel", "has", "[I", true)
  | 18 => ("ShortcutDutyModel", "law", "[I", true)
  | 19 => ("ShortcutDutyModel", "flood", "[J", true)
  | 20 => ("ShortcutDutyModel", "road", "[I", true)
  | 21 => ("ShortcutDutyModel", "lane", "[I", true)
  | 22 => ("ShortcutDutyModel", "walk", "[I", true)
  | 23 => ("ShortcutDutyModel", "isKept", "[Z", true)
  | 24 => ("ShortcutDutyModel", "far", "[I", true)
  | 25 => ("ShortcutDutyModel", "hasMore", "Z", false)
  | 26 => ("ShortcutDutyModel", "row", "[I", true)
  | 27 => ("ShortcutDutyModel", "rowMany", "I", false)
  | 28 => ("ShortcutDutyModel", "rowLength", "I", false)
  | 29 => ("ShortcutDutyModel", "rowLanes", "I", false)
  | 30 => ("ShortcutDutyModel", "isWatched", "Z", false)
  | 31 => ("ShortcutDutyModel", "watch", "[I", true)
  | 32 => ("ShortcutDutyModel", "watches", "I", false)
  | 33 => ("ShortcutDutyModel", "aim", "I", false)
  | 34 => ("ShortcutDutyModel", "dayNow", "I", false)
  | 35 => ("ShortcutDutyModel", "loadNow", "I", false)
  | 36 => ("ShortcutDutyModel", "dutyNow", "I", false)
  | 37 => ("ShortcutDutyModel", "waysMany", "I", false)
  | 38 => ("ShortcutDutyModel", "leastCost", "I", false)
  | 39 => ("ShortcutDutyModel", "leastLength", "I", false)
  | 40 => ("ShortcutDutyModel", "leastDuty", "I", false)
  | 41 => ("ShortcutDutyModel", "leastMany", "I", false)
  | 42 => ("ShortcutDutyModel", "allLanes", "I", false)
  | 43 => ("ShortcutDutyModel", "best", "[I", true)
  | _ => ("ShortcutDutyModel", "lanesOf", "[I", true)
def tyX10 : Nat → FieldType := fun k => match k with
  | 0 => .int
  | 1 => .array .int
  | 2 => .array .int
  | 3 => .array .long
  | 4 => .array .long
  | 5 => .array .byte
  | 6 => .int
  | 7 => .int
  | 8 => .int
  | 9 => .int
  | 10 => .int
  | 11 => .long
  | 12 => .int
  | 13 => .int
  | 14 => .int
  | 15 => .int
  | 16 => .array .int
  | 17 => .array .int
  | 18 => .array .int
  | 19 => .array .long
  | 20 => .array .int
  | 21 => .array .int
  | 22 => .array .int
  | 23 => .array .boolean
  | 24 => .array .int
  | 25 => .boolean
  | 26 => .array .int
  | 27 => .int
  | 28 => .int
  | 29 => .int
  | 30 => .boolean
  | 31 => .array .int
  | 32 => .int
  | 33 => .int
  | 34 => .int
  | 35 => .int
  | 36 => .int
  | 37 => .int
  | 38 => .int
  | 39 => .int
  | 40 => .int
  | 41 => .int
  | 42 => .int
  | 43 => .array .int
  | _ => .array .int
theorem nmX10 : ∀ a, a < 45 → ∀ b, b < 45 → a ≠ b → (TX10 a).2.1 ≠ (TX10 b).2.1 := by decide +kernel
theorem tyX10_ok : ∀ k, k < 45 → parseFieldDescriptor (TX10 k).2.2.1 = some (tyX10 k) := by decide +kernel
def RL : String := "ShortcutDutyLaw"
abbrev vwCl : List vw_C := [(RX0, TX0, 5), (RX1, TX1, 7), (RX2, TX2, 8), (RX3, TX3, 12), (RX4, TX4, 3), (RX5, TX5, 2), (RX6, TX6, 8), (RX7, TX7, 5), (RX8, TX8, 13), (RX9, TX9, 11), (RX10, TX10, 45)]
end
section
/-! THE ABSTRACT MACHINE. One memory M : Nat → cell; references are places in it. Places 0 and 1 count the cells and slots that were made, 2 is the script, 3 .. 23 the String constants, 32 + k the k-th cell that was made. -/
abbrev AE : Type := (Nat × vp_A) ⊕ (Nat × List Value)
abbrev AM : Type := Nat → AE
abbrev AL : Type := List (Option Value)
abbrev AI : Type := Value ⊕ Instr ⊕ (Nat × Nat × Nat × Value)
abbrev MC : Type := List (Nat × List (Nat × AI × Nat))
abbrev MD : Type := Nat × Bool × Nat × Nat × MethodName × ByteArray × MC
def md_o (X : MD) : Nat := X.1
def md_i (X : MD) : Bool := X.2.1
def md_L (X : MD) : Nat := X.2.2.1
def md_r (X : MD) : Nat := X.2.2.2.1
def md_y (X : MD) : MethodName := X.2.2.2.2.1
def md_b (X : MD) : ByteArray := X.2.2.2.2.2.1
def md_c (X : MD) : MC := X.2.2.2.2.2.2
def lk {α : Type} : List (Nat × α) → Nat → Option α
  | [], _ => none
  | (p, x) :: t, pc => bif Nat.beq p pc then some x else lk t pc
def lk2 {α : Type} : List (Nat × List (Nat × α)) → Nat → Option α
  | [], _ => none
  | (hi, c) :: t, pc => bif Nat.ble pc hi then lk c pc else lk2 t pc
theorem lk_mem {α : Type} : ∀ {c : List (Nat × α)} {pc : Nat} {x : α}, lk c pc = some x → (pc, x) ∈ c
  | [], _, _, h => by simp [lk] at h
  | (p, y) :: t, pc, x, h => by
    unfold lk at h
    cases hb : Nat.beq p pc with
    | true =>
      rw [hb] at h
      have h1 : p = pc := Nat.eq_of_beq_eq_true hb
      have h2 : y = x := Option.some.inj h
      rw [h1, h2]
      exact List.mem_cons_self
    | false =>
      rw [hb] at h
      exact List.mem_cons_of_mem _ (lk_mem h)
theorem lk2_mem {α : Type} : ∀ {cs : List (Nat × List (Nat × α))} {pc : Nat} {x : α}, lk2 cs pc = some x → ∃ c ∈ cs, (pc, x) ∈ c.2
  | [], _, _, h => by simp [lk2] at h
  | (hi, c) :: t, pc, x, h => by
    unfold lk2 at h
    cases hb : Nat.ble pc hi with
    | true =>
      rw [hb] at h
      exact ⟨(hi, c), List.mem_cons_self, lk_mem h⟩
    | false =>
      rw [hb] at h
      obtain ⟨c', h1, h2⟩ := lk2_mem (cs := t) h
      exact ⟨c', List.mem_cons_of_mem _ h1, h2⟩
def cdx (X : MD) (pc : Nat) : Option (AI × Nat) := lk2 (md_c X) pc
-- locals
def gl : AL → Nat → Option Value
  | [], _ => none
  | a :: _, 0 => a
  | _ :: t, n + 1 => gl t n
def cl2 : Option Value → Option Value
  | some (.long _) => none
  | some (.double _) => none
  | o => o
/-- a value of one slot is stored -/
def st1 : AL → Nat → Value → AL
  | [], _, _ => []
  | _ :: t, 0, v => some v :: t
  | a :: t, n + 1, v => (match n with | 0 => cl2 a | _ + 1 => a) :: st1 t n v
/-- a long is stored -/
def st2 : AL → Nat → Value → AL
  | [], _, _ => []
  | _ :: t, 0, v => some v :: (match t with | [] => [] | _ :: u => none :: u)
  | a :: t, n + 1, v => (match n with | 0 => cl2 a | _ + 1 => a) :: st2 t n v
/-- the locals at a method's entry -/
def ent : List Value → Nat → AL
  | [], n => List.replicate n none
  | .long x :: t, n => some (.long x) :: none :: ent t (n - 2)
  | .double x :: t, n => some (.double x) :: none :: ent t (n - 2)
  | v :: t, n => some v :: ent t (n - 1)
-- memory
def cnt (M : AM) (i : Nat) : Nat := match M i with
  | .inr (n, _) => n
  | .inl _ => 0
def gv : List Value → Nat → Option Value
  | [], _ => none
  | a :: _, 0 => some a
  | _ :: t, n + 1 => gv t n
def mnew (M : AM) (e : AE) (sz : Nat) : AM := va_up (va_up (va_up M (32 + cnt M 0) e) 0 (.inr (cnt M 0 + 1, []))) 1 (.inr (cnt M 1 + sz, []))
def ain (i : Int32) (n : Nat) : Bool := !(decide (i < 0)) && Nat.blt i.toNatClampNeg n
def anar (t : Nat) (x : Int32) : Int32 := bif Nat.beq t 2 then vp_nar .byte x else vp_nar .boolean x
def tag_cls (t : Nat) : Nat := bif Nat.beq t 4 then 1 else bif Nat.beq t 5 then 7 else 3
-- plain instructions
def pstep (i : Instr) (st : List Value) : Option (List Value) := match i, st with
  | .iadd, .int y :: .int x :: r => some (.int (x + y) :: r)
  | .isub, .int y :: .int x :: r => some (.int (x - y) :: r)
  | .imul, .int y :: .int x :: r => some (.int (x * y) :: r)
  | .iand, .int y :: .int x :: r => some (.int (x &&& y) :: r)
  | .ior, .int y :: .int x :: r => some (.int (x ||| y) :: r)
  | .ishl, .int y :: .int x :: r => some (.int (x <<< (y &&& 31)) :: r)
  | .ishr, .int y :: .int x :: r => some (.int (x >>> (y &&& 31)) :: r)
  | .iushr, .int y :: .int x :: r => some (.int (x.toUInt32 >>> (y.toUInt32 &&& Int32.toUInt32 31)).toInt32 :: r)
  | .irem, .int y :: .int x :: r => bif y == 0 then none else some (.int (x - x / y * y) :: r)
  | .ladd, .long y :: .long x :: r => some (.long (x + y) :: r)
  | .lsub, .long y :: .long x :: r => some (.long (x - y) :: r)
  | .lmul, .long y :: .long x :: r => some (.long (x * y) :: r)
  | .land, .long y :: .long x :: r => some (.long (x &&& y) :: r)
  | .lor, .long y :: .long x :: r => some (.long (x ||| y) :: r)
  | .ldiv, .long y :: .long x :: r => bif y == 0 then none else some (.long (x / y) :: r)
  | .lrem, .long y :: .long x :: r => bif y == 0 then none else some (.long (x - x / y * y) :: r)
  | .lshl, .int y :: .long x :: r => some (.long (x <<< (y.toInt64 &&& 63)) :: r)
  | .lshr, .int y :: .long x :: r => some (.long (x >>> (y.toInt64 &&& 63)) :: r)
  | .lcmp, .long y :: .long x :: r => some (.int (lg_cmp x y) :: r)
  | .i2l, .int x :: r => some (.long x.toInt64 :: r)
  | .l2i, .long x :: r => some (.int x.toInt32 :: r)
  | .i2b, .int x :: r => some (.int x.toInt8.toInt32 :: r)
  | .i2s, .int x :: r => some (.int x.toInt16.toInt32 :: r)
  | .dup, .int x :: r => some (.int x :: .int x :: r)
  | .dup, .ref x :: r => some (.ref x :: .ref x :: r)
  | .dup2, .int y :: .ref x :: r => some (.int y :: .ref x :: .int y :: .ref x :: r)
  | .pop, .int x :: r => some r
  | .pop2, .long x :: r => some r
  | _, _ => none
def mstep (i : Instr) (st : List Value) (M : AM) : Option (List Value × AM) := match i, st with
  | .iaload, .int j :: .ref k :: r => (match M k with
    | .inl (t, n, .inl f) => bif (Nat.beq t 0 || Nat.beq t 7) && ain j n then some (.int (f j.toNatClampNeg) :: r, M) else none
    | _ => none)
  | .baload, .int j :: .ref k :: r => (match M k with
    | .inl (t, n, .inl f) => bif (Nat.beq t 2 || Nat.beq t 3) && ain j n then some (.int (f j.toNatClampNeg) :: r, M) else none
    | _ => none)
  | .laload, .int j :: .ref k :: r => (match M k with
    | .inl (t, n, .inr (.inl f)) => bif Nat.beq t 1 && ain j n then some (.long (f j.toNatClampNeg) :: r, M) else none
    | _ => none)
  | .aaload, .int j :: .ref k :: r => (match M k with
    | .inl (t, n, .inr (.inr (.inr (.inr f)))) => bif Nat.ble 4 t && Nat.ble t 6 && ain j n then some (va_rf (f j.toNatClampNeg) :: r, M) else none
    | _ => none)
  | .iastore, .int x :: .int j :: .ref k :: r => (match M k with
    | .inl (t, n, .inl f) => bif Nat.beq t 0 && ain j n then some (r, va_up M k (.inl (t, n, .inl (upd f j.toNatClampNeg x)))) else none
    | _ => none)
  | .bastore, .int x :: .int j :: .ref k :: r => (match M k with
    | .inl (t, n, .inl f) => bif (Nat.beq t 2 || Nat.beq t 3) && ain j n then some (r, va_up M k (.inl (t, n, .inl (upd f j.toNatClampNeg (anar t x))))) else none
    | _ => none)
  | .lastore, .long x :: .int j :: .ref k :: r => (match M k with
    | .inl (t, n, .inr (.inl f)) => bif Nat.beq t 1 && ain j n then some (r, va_up M k (.inl (t, n, .inr (.inl (vp_updL f j.toNatClampNeg x))))) else none
    | _ => none)
  | .aastore, .ref v :: .int j :: .ref k :: r => (match M k, M v with
    | .inl (t, n, .inr (.inr (.inr (.inr f)))), .inr (ci, _) => bif Nat.ble 4 t && Nat.ble t 6 && Nat.beq ci (tag_cls t) && Nat.ble 32 v && ain j n then some (r, va_up M k (.inl (t, n, .inr (.inr (.inr (.inr (va_up f j.toNatClampNeg (some v)))))))) else none
    | _, _ => none)
  | .arraylength, .ref k :: r => (match M k with
    | .inl (t, n, _) => bif Nat.beq t 8 then none else some (.int (Int32.ofNat n) :: r, M)
    | _ => none)
  | .newarray ty, .int n :: r => bif decide (n < 0) || Nat.blt 100000 n.toNatClampNeg then none else (match ty with
    | .int => some (.ref (32 + cnt M 0) :: r, mnew M (.inl (0, n.toNatClampNeg, .inl (fun _ => 0))) n.toNatClampNeg)
    | .long => some (.ref (32 + cnt M 0) :: r, mnew M (.inl (1, n.toNatClampNeg, .inr (.inl (fun _ => 0)))) n.toNatClampNeg)
    | .byte => some (.ref (32 + cnt M 0) :: r, mnew M (.inl (2, n.toNatClampNeg, .inl (fun _ => 0))) n.toNatClampNeg)
    | .boolean => some (.ref (32 + cnt M 0) :: r, mnew M (.inl (3, n.toNatClampNeg, .inl (fun _ => 0))) n.toNatClampNeg)
    | _ => none)
  | _, _ => none
-- fields
def fcode (ci j : Nat) : FieldType := match ci with
  | 0 => tyX0 j | 1 => tyX1 j | 2 => tyX2 j | 3 => tyX3 j | 4 => tyX4 j | 5 => tyX5 j | 6 => tyX6 j | 7 => tyX7 j | 8 => tyX8 j | 9 => tyX9 j | _ => tyX10 j
def fTX (ci : Nat) : u_T := match ci with
  | 0 => TX0 | 1 => TX1 | 2 => TX2 | 3 => TX3 | 4 => TX4 | 5 => TX5 | 6 => TX6 | 7 => TX7 | 8 => TX8 | 9 => TX9 | _ => TX10
def fN (ci : Nat) : Nat := match ci with
  | 0 => 5 | 1 => 7 | 2 => 8 | 3 => 12 | 4 => 3 | 5 => 2 | 6 => 8 | 7 => 5 | 8 => 13 | 9 => 11 | _ => 45
def cnm (o : Nat) : String := match o with
  | 0 => RX0 | 1 => RX1 | 2 => RX2 | 3 => RX3 | 4 => RX4 | 5 => RX5 | 6 => RX6 | 7 => RX7 | 8 => RX8 | 9 => RX9 | 10 => RX10 | 11 => RL | 12 => "java/lang/Math" | _ => "java/lang/Integer"
def pfit : FieldType → Value → Bool
  | .int, .int _ => true
  | .long, .long _ => true
  | .boolean, .int x => x == 0 || x == 1
  | .object _, .ref _ => true
  | .object _, .null => true
  | .array _, .ref _ => true
  | .array _, .null => true
  | _, _ => false
def dfv : FieldType → Value
  | .int => .int 0
  | .long => .long 0
  | .boolean => .int 0
  | .object _ => .null
  | .array _ => .null
  | _ => .retAddr 0
def nfs (ci : Nat) : List Value := (List.range (fN ci)).map (fun j => dfv (fcode ci j))
def jb (c : Nat) (x y : Int32) : Bool := match c with
  | 0 => decide (x = y)
  | 1 => !(decide (x = y))
  | 2 => decide (x < y)
  | 3 => decide (y ≤ x)
  | 4 => decide (y < x)
  | _ => decide (x ≤ y)
def swx (swl : List (Nat × Int × List Nat × Nat)) (a : Nat) (x : Int32) : Option Nat := match lk swl a with
  | some (lo, tg, d) => some (if x.toInt < lo then d else tg.getD (x.toInt - lo).toNat d)
  | none => none
def ostep (swl : List (Nat × Int × List Nat × Nat)) (o : Nat) (ini : Bool) (op a b : Nat) (v : Value) (pc len : Nat) (l : AL) (st : List Value) (M : AM) : Option (Nat × AL × List Value × AM) :=
  bif Nat.beq op 42 then (match gl l a with
    | some (.ref x) => some (pc + len, l, .ref x :: st, M)
    | some .null => some (pc + len, l, .null :: st, M)
    | _ => none)
  else bif Nat.beq op 40 then (match gl l a with
    | some (.int x) => some (pc + len, l, .int x :: st, M)
    | _ => none)
  else bif Nat.beq op 0 then (match st with
    | .ref k :: r => (match M k with
      | .inr (ci, fs) => bif Nat.beq ci a then (match gv fs b with
        | some w => some (pc + len, l, w :: r, M)
        | none => none) else none
      | .inl _ => none)
    | _ => none)
  else bif Nat.beq op 1 then (match st with
    | w :: .ref k :: r => (match M k with
      | .inr (ci, fs) => bif Nat.beq ci a && Nat.blt b fs.length && pfit (fcode a b) w && (bif (fTX a b).2.2.2 then ini && Nat.beq o a else true) then some (pc + len, l, r, va_up M k (.inr (ci, fs.set b w))) else none
      | .inl _ => none)
    | _ => none)
  else bif Nat.beq op 43 then (match st with
    | .int x :: r => some (pc + len, st1 l a (.int x), r, M)
    | _ => none)
  else bif Nat.beq op 32 then some (a, l, st, M)
  else bif Nat.beq op 46 then (match gl l a, v with
    | some (.int x), .int y => some (pc + len, st1 l a (.int (x + y)), st, M)
    | _, _ => none)
  else bif Nat.beq op 41 then (match gl l a with
    | some (.long x) => some (pc + len, l, .long x :: st, M)
    | _ => none)
  else bif Nat.beq op 44 then (match st with
    | .long x :: r => some (pc + len, st2 l a (.long x), r, M)
    | _ => none)
  else bif Nat.beq op 45 then (match st with
    | .ref x :: r => some (pc + len, st1 l a (.ref x), r, M)
    | .null :: r => some (pc + len, st1 l a .null, r, M)
    | _ => none)
  else bif Nat.ble 20 op && Nat.ble op 25 then (match st with
    | .int x :: r => some (bif jb (op - 20) x 0 then a else pc + len, l, r, M)
    | _ => none)
  else bif Nat.ble 26 op && Nat.ble op 31 then (match st with
    | .int y :: .int x :: r => some (bif jb (op - 26) x y then a else pc + len, l, r, M)
    | _ => none)
  else bif Nat.beq op 33 then (match st with
    | .null :: r => some (a, l, r, M)
    | .ref _ :: r => some (pc + len, l, r, M)
    | _ => none)
  else bif Nat.beq op 34 then (match st with
    | .null :: r => some (pc + len, l, r, M)
    | .ref _ :: r => some (a, l, r, M)
    | _ => none)
  else bif Nat.beq op 35 then (match st with
    | .int x :: r => (match swx swl a x with
      | some t => some (t, l, r, M)
      | none => none)
    | _ => none)
  else bif Nat.beq op 2 then some (pc + len, l, .ref (32 + cnt M 0) :: st, mnew M (.inr (a, nfs a)) (fN a))
  else bif Nat.beq op 3 then (match st with
    | .int n :: r => bif decide (n < 0) || Nat.blt 100000 n.toNatClampNeg then none else some (pc + len, l, .ref (32 + cnt M 0) :: r, mnew M (.inl (a, n.toNatClampNeg, .inr (.inr (.inr (.inr (fun _ => none)))))) n.toNatClampNeg)
    | _ => none)
  else none
def sstep (swl : List (Nat × Int × List Nat × Nat)) (X : MD) (pc : Nat) (l : AL) (st : List Value) (M : AM) : Option (Nat × AL × List Value × AM) := match cdx X pc with
  | none => none
  | some (.inl v, len) => some (pc + len, l, v :: st, M)
  | some (.inr (.inl i), len) => (match pstep i st with
    | some st' => some (pc + len, l, st', M)
    | none => (match mstep i st M with
      | some (st', M') => some (pc + len, l, st', M')
      | none => none))
  | some (.inr (.inr (op, a, b, v)), len) => ostep swl (md_o X) (md_i X) op a b v pc len l st M
/-- returns: 0 void, 1 int, 2 boolean, 3 long, 4 a reference -/
def rstep (rt : Nat) (i : Instr) (st : List Value) (M : AM) : Option (Option Value × AM) := match i, st with
  | .ireturn, [.int v] => bif Nat.beq rt 1 || (Nat.beq rt 2 && (v == 0 || v == 1)) then some (some (.int v), M) else none
  | .lreturn, [.long v] => bif Nat.beq rt 3 then some (some (.long v), M) else none
  | .areturn, [.ref v] => bif Nat.beq rt 4 then some (some (.ref v), M) else none
  | .areturn, [.null] => bif Nat.beq rt 4 then some (some .null, M) else none
  | .return_, [] => bif Nat.beq rt 0 then some (none, M) else none
  | _, _ => none
/-- what may lie below a call's values -/
def rok (r : List Value) : Bool := Nat.ble r.length 4 || Nat.ble (r.map (fun v => v.category)).sum 8
/-- what a call takes off the stack, if it may be made -/
def csplit (op b : Nat) (st : List Value) (M : AM) (Y : MD) : Option (List Value × List Value) :=
  bif Nat.beq op 4 then (bif Nat.ble b st.length && rok (st.drop b) then some ((st.take b).reverse, st.drop b) else none)
  else (match (st.drop b) with
    | .ref k :: r => bif Nat.beq op 5 then (match M k with
        | .inr (ci, _) => bif Nat.beq ci (md_o Y) && rok r && Nat.ble 32 k then some (.ref k :: (st.take b).reverse, r) else none
        | .inl _ => none)
      else bif Nat.beq op 6 && rok r then some (.ref k :: (st.take b).reverse, r) else none
    | _ => none)
/-- the JDK's own: 7 String.length, 8 String.charAt, 9 System.arraycopy, 10 Object.<init>, 11 Math.min, 12 Math.max -/
def bstep (op : Nat) (st : List Value) (M : AM) : Option (List Value × AM) :=
  bif Nat.beq op 10 then (match st with
    | .ref _ :: r => bif Nat.ble r.length 4 then some (r, M) else none
    | _ => none)
  else bif Nat.beq op 7 then (match st with
    | .ref k :: r => (match M k with
      | .inl (t, n, _) => bif Nat.beq t 8 && Nat.ble r.length 4 then some (.int (Int32.ofNat n) :: r, M) else none
      | .inr _ => none)
    | _ => none)
  else bif Nat.beq op 8 then (match st with
    | .int j :: .ref k :: r => (match M k with
      | .inl (t, n, .inl f) => bif Nat.beq t 8 && ain j n && Nat.ble r.length 4 then some (.int (f j.toNatClampNeg) :: r, M) else none
      | _ => none)
    | _ => none)
  else bif Nat.beq op 9 then (match st with
    | .int n :: .int dp :: .ref k :: .int sp :: .ref k0 :: r => bif decide (n < 0) || decide (dp < 0) || decide (sp < 0) || Nat.blt 4 r.length then none else (match M k0, M k with
      | .inl (t0, n0, .inl f), .inl (t1, n1, .inl g) => bif Nat.beq t0 0 && Nat.beq t1 0 && Nat.ble (sp.toNatClampNeg + n.toNatClampNeg) n0 && Nat.ble (dp.toNatClampNeg + n.toNatClampNeg) n1 then some (r, va_up M k (.inl (0, n1, .inl (va_cpy f g sp.toNatClampNeg dp.toNatClampNeg n.toNatClampNeg)))) else none
      | .inl (t0, n0, .inr (.inl f)), .inl (t1, n1, .inr (.inl g)) => bif Nat.beq t0 1 && Nat.beq t1 1 && Nat.ble (sp.toNatClampNeg + n.toNatClampNeg) n0 && Nat.ble (dp.toNatClampNeg + n.toNatClampNeg) n1 then some (r, va_up M k (.inl (1, n1, .inr (.inl (va_cpy f g sp.toNatClampNeg dp.toNatClampNeg n.toNatClampNeg))))) else none
      | _, _ => none)
    | _ => none)
  else bif Nat.beq op 11 then (match st with
    | .int y :: .int x :: r => bif Nat.ble r.length 4 then some (.int (if y < x then y else x) :: r, M) else none
    | _ => none)
  else bif Nat.beq op 12 then (match st with
    | .int y :: .int x :: r => bif Nat.ble r.length 4 then some (.int (if x < y then y else x) :: r, M) else none
    | _ => none)
  else none
end
section
/-! CODE TABLES, printed by wip/duty/gen_code.py out of the Statement's bytes and words. -/
def swl : List (Nat × Int × List Nat × Nat) := [(0, 0, [32, 45, 58, 71], 84), (1, 1, [32, 54], 71), (2, 0, [28, 33, 38], 42), (3, 0, [28, 36], 44), (4, 0, [64, 69, 74, 79, 84, 89], 94), (5, 0, [92, 102, 113], 124), (6, 0, [44, 54, 63], 73), (7, 0, [52, 60, 68, 76, 84, 92, 103, 111, 119], 127), (8, 0, [60, 60, 60, 60, 60, 67, 97, 104, 109], 142), (9, 0, [228, 291, 314, 327, 350, 383, 426, 459, 502, 535, 548, 571, 594, 617, 640, 663, 686, 709, 742, 775, 818, 861, 924, 987, 1030, 1053, 1106, 1129, 1172, 1195, 1218, 1251, 1274, 1307, 1340, 1373, 1396, 1449, 1482, 1515, 1538, 1561, 1584, 1627, 1700], 1763)]
def flT : List (Nat × List (Nat × Nat × Nat × Bool × Nat)) := [(1028, [(7, 0, 0, false, 175), (13, 0, 1, false, 178), (16, 0, 2, false, 181), (19, 0, 3, false, 184), (22, 0, 4, false, 186), (1007, 1, 0, false, 210), (1013, 1, 1, false, 212), (1016, 1, 2, false, 215), (1019, 1, 3, false, 218), (1022, 1, 4, false, 224), (1025, 1, 5, false, 227), (1028, 1, 6, false, 230)]), (2108, [(2009, 2, 3, false, 140), (2015, 2, 0, false, 136), (2019, 2, 1, false, 137), (2028, 2, 2, false, 138), (2031, 2, 6, false, 144), (2037, 2, 4, false, 142), (2040, 3, 2, true, 293), (2077, 2, 5, false, 143), (2096, 3, 0, true, 287), (2100, 3, 1, true, 290), (2102, 3, 4, true, 300), (2108, 0, 0, true, 176)]), (2176, [(2114, 0, 1, true, 179), (2118, 0, 2, true, 182), (2136, 1, 2, true, 216), (2139, 1, 3, true, 221), (2144, 1, 4, true, 225), (2147, 1, 5, true, 228), (2152, 1, 6, true, 232), (2159, 3, 3, true, 296), (2162, 3, 10, true, 316), (2165, 3, 9, true, 313), (2169, 7, 0, true, 257), (2176, 7, 1, true, 261)]), (3035, [(2178, 7, 2, true, 265), (2181, 7, 4, true, 272), (2187, 7, 3, true, 269), (2197, 0, 3, true, 185), (2200, 0, 4, true, 187), (2209, 2, 7, false, 145), (2218, 5, 0, true, 120), (2228, 5, 1, true, 123), (3012, 3, 4, false, 298), (3023, 3, 5, false, 303), (3030, 3, 7, false, 307), (3035, 3, 9, false, 311)]), (3093, [(3040, 3, 11, false, 318), (3044, 3, 0, false, 285), (3048, 3, 1, false, 289), (3051, 3, 2, false, 292), (3054, 3, 3, false, 295), (3057, 3, 6, false, 305), (3060, 3, 8, false, 309), (3063, 3, 10, false, 315), (3084, 1, 5, true, 229), (3087, 1, 2, true, 217), (3090, 1, 3, true, 222), (3093, 1, 1, true, 214)]), (6029, [(3096, 1, 4, true, 226), (3107, 1, 6, true, 233), (4011, 4, 0, false, 438), (4015, 4, 1, false, 439), (4019, 4, 2, false, 441), (5009, 5, 0, false, 119), (5013, 5, 1, false, 121), (6009, 6, 6, false, 413), (6015, 3, 9, true, 312), (6021, 6, 0, false, 401), (6025, 6, 1, false, 403), (6029, 6, 2, false, 405)]), (7015, [(6032, 6, 3, false, 407), (6035, 6, 7, false, 414), (6038, 7, 3, true, 268), (6047, 7, 2, true, 264), (6072, 6, 4, false, 409), (6078, 3, 4, true, 299), (6082, 7, 1, true, 260), (6091, 6, 5, false, 411), (6094, 1, 3, true, 219), (6102, 1, 6, true, 231), (7009, 7, 4, false, 271), (7015, 7, 0, false, 256)]), (8048, [(7019, 7, 1, false, 259), (7022, 7, 2, false, 263), (7025, 7, 3, false, 267), (8011, 8, 0, false, 351), (8015, 8, 1, false, 353), (8018, 8, 2, false, 354), (8021, 8, 3, false, 356), (8024, 8, 5, false, 359), (8027, 8, 6, false, 360), (8030, 8, 7, false, 361), (8040, 8, 8, false, 362), (8048, 8, 9, false, 363)]), (9030, [(8051, 8, 10, false, 364), (8054, 8, 11, false, 365), (8057, 8, 12, false, 366), (8060, 8, 4, false, 357), (8070, 3, 0, true, 286), (8077, 1, 3, true, 220), (8095, 3, 4, true, 301), (8108, 0, 2, true, 183), (9012, 9, 0, false, 451), (9019, 9, 1, false, 452), (9026, 9, 2, false, 453), (9030, 9, 3, false, 454)]), (9139, [(9033, 9, 4, false, 455), (9037, 9, 5, false, 456), (9044, 9, 6, false, 457), (9051, 9, 7, false, 458), (9058, 9, 8, false, 459), (9062, 9, 9, false, 460), (9074, 5, 1, true, 122), (9088, 2, 2, true, 139), (9098, 3, 2, true, 294), (9101, 2, 3, true, 141), (9123, 3, 7, true, 308), (9139, 1, 1, true, 213)]), (9205, [(9144, 1, 0, true, 211), (9150, 3, 9, true, 314), (9154, 7, 0, true, 258), (9159, 7, 1, true, 262), (9162, 7, 2, true, 266), (9172, 7, 3, true, 270), (9178, 3, 10, true, 317), (9189, 6, 0, true, 402), (9196, 6, 2, true, 406), (9199, 6, 4, true, 410), (9202, 6, 5, true, 412), (9205, 6, 3, true, 408)]), (9354, [(9237, 8, 0, true, 352), (9243, 8, 2, true, 355), (9249, 8, 4, true, 358), (9270, 3, 0, true, 288), (9280, 3, 6, true, 306), (9286, 9, 10, false, 461), (9289, 3, 8, true, 310), (9307, 3, 4, true, 302), (9311, 0, 1, true, 180), (9335, 4, 1, true, 440), (9339, 1, 3, true, 223), (9354, 3, 1, true, 291)]), (10031, [(9357, 3, 3, true, 297), (9369, 4, 2, true, 442), (9382, 6, 1, true, 404), (9386, 0, 0, true, 177), (9392, 3, 5, true, 304), (10007, 10, 1, false, 1156), (10013, 10, 2, false, 1157), (10016, 10, 3, false, 1158), (10020, 10, 4, false, 1159), (10023, 10, 5, false, 1160), (10027, 10, 15, false, 1170), (10031, 10, 16, false, 1171)]), (10068, [(10034, 10, 17, false, 1172), (10037, 10, 18, false, 1173), (10040, 10, 19, false, 1174), (10043, 10, 20, false, 1175), (10046, 10, 21, false, 1176), (10049, 10, 22, false, 1177), (10052, 10, 23, false, 1178), (10056, 10, 24, false, 1179), (10059, 10, 26, false, 1181), (10062, 10, 31, false, 1185), (10065, 10, 43, false, 1197), (10068, 10, 44, false, 1198)]), (10291, [(10071, 10, 0, false, 1155), (10088, 10, 6, false, 1161), (10095, 10, 7, false, 1162), (10102, 10, 9, false, 1164), (10105, 10, 10, false, 1165), (10108, 10, 11, false, 1166), (10112, 10, 8, false, 1163), (10123, 10, 12, false, 1167), (10126, 10, 13, false, 1168), (10150, 10, 14, false, 1169), (10274, 10, 25, false, 1180), (10291, 10, 28, false, 1183)]), (10385, [(10294, 10, 29, false, 1184), (10297, 10, 32, false, 1186), (10300, 10, 27, false, 1182), (10353, 10, 33, false, 1187), (10356, 10, 34, false, 1188), (10359, 10, 35, false, 1189), (10362, 10, 37, false, 1191), (10366, 10, 38, false, 1192), (10369, 10, 39, false, 1193), (10372, 10, 42, false, 1196), (10382, 10, 36, false, 1190), (10385, 10, 40, false, 1194)]), (10388, [(10388, 10, 41, false, 1195)])]
def mlT : List (Nat × List (Nat × Nat × Nat × Nat × Bool × Nat × Nat × Nat)) := [(2120, [(2023, 27, 5, 0, false, 509, 510, 511), (2034, 11, 5, 0, false, 513, 515, 0), (2043, 15, 5, 0, false, 532, 534, 1), (2048, 17, 5, 1, false, 541, 543, 3), (2054, 21, 5, 1, false, 611, 613, 7), (2066, 23, 5, 0, false, 642, 644, 9), (2071, 24, 5, 0, false, 648, 650, 10), (2074, 25, 5, 0, false, 658, 660, 11), (2080, 18, 5, 2, false, 593, 595, 4), (2086, 16, 5, 1, false, 537, 539, 2), (2092, 19, 5, 3, false, 598, 600, 5), (2120, 28, 5, 1, false, 615, 616, 617)]), (3066, [(2124, 6, 5, 1, false, 619, 620, 621), (2126, 20, 5, 2, false, 602, 604, 6), (2132, 22, 5, 2, false, 624, 626, 8), (2154, 30, 5, 1, false, 634, 635, 636), (2190, 69, 5, 1, false, 654, 655, 656), (2205, 29, 5, 2, false, 628, 629, 630), (2231, 12, 4, 1, false, 517, 518, 0), (3011, 0, 6, 0, true, 171, 172, 0), (3018, 1, 5, 0, false, 199, 200, 201), (3027, 5, 6, 1, false, 206, 207, 0), (3039, 68, 6, 0, false, 252, 253, 0), (3066, 2, 5, 1, false, 679, 680, 681)]), (6050, [(3070, 7, 5, 1, false, 683, 684, 685), (3073, 70, 5, 1, false, 687, 688, 689), (3082, 6, 5, 1, false, 978, 620, 621), (3099, 29, 5, 2, false, 669, 629, 630), (3103, 39, 5, 2, false, 756, 741, 742), (3111, 91, 4, 2, true, 671, 672, 0), (3120, 34, 5, 2, false, 723, 712, 713), (3123, 36, 5, 2, false, 724, 726, 13), (4022, 51, 5, 1, false, 1108, 1067, 1068), (4026, 56, 4, 2, false, 1133, 1134, 0), (6043, 69, 5, 1, false, 790, 655, 656), (6050, 40, 5, 3, false, 791, 753, 754)]), (8044, [(6054, 64, 5, 1, false, 792, 794, 16), (6058, 71, 5, 0, false, 800, 766, 767), (6062, 72, 5, 0, false, 801, 771, 772), (6065, 34, 5, 2, false, 802, 712, 713), (6069, 43, 4, 2, false, 803, 804, 0), (6075, 44, 5, 0, false, 809, 810, 811), (6085, 3, 5, 3, false, 813, 814, 815), (6099, 8, 5, 0, false, 796, 797, 798), (6107, 66, 4, 2, false, 863, 864, 0), (7034, 69, 5, 1, false, 769, 655, 656), (8034, 34, 5, 2, false, 878, 712, 713), (8044, 44, 5, 0, false, 879, 810, 811)]), (9011, [(8063, 75, 5, 0, false, 880, 882, 19), (8066, 76, 4, 6, false, 887, 888, 0), (8073, 40, 5, 3, false, 884, 753, 754), (8082, 8, 5, 0, false, 885, 797, 798), (8085, 91, 4, 2, true, 886, 672, 0), (8088, 77, 4, 2, false, 890, 891, 0), (8091, 78, 5, 4, false, 893, 895, 20), (8099, 43, 4, 2, false, 931, 804, 0), (8102, 3, 5, 3, false, 932, 814, 815), (8111, 82, 5, 2, false, 927, 928, 929), (8114, 81, 5, 1, false, 923, 924, 925), (9011, 59, 6, 0, false, 115, 116, 0)]), (9094, [(9018, 9, 6, 0, false, 132, 133, 0), (9025, 26, 6, 0, false, 165, 166, 0), (9043, 73, 6, 0, false, 347, 348, 0), (9050, 62, 6, 0, false, 397, 398, 0), (9057, 49, 6, 0, false, 434, 435, 0), (9066, 60, 5, 0, false, 489, 490, 491), (9070, 61, 5, 1, false, 493, 494, 495), (9078, 10, 5, 2, false, 505, 506, 507), (9082, 13, 5, 0, false, 524, 525, 526), (9085, 14, 5, 0, false, 528, 529, 530), (9091, 31, 5, 0, false, 665, 666, 667), (9094, 32, 5, 1, false, 675, 676, 677)]), (9175, [(9104, 94, 5, 2, false, 703, 705, 12), (9108, 34, 5, 2, false, 711, 712, 713), (9112, 35, 5, 3, false, 719, 720, 721), (9116, 37, 5, 1, false, 732, 733, 734), (9120, 38, 5, 1, false, 736, 737, 738), (9127, 39, 5, 2, false, 740, 741, 742), (9131, 98, 5, 3, false, 748, 750, 14), (9135, 40, 5, 3, false, 752, 753, 754), (9147, 41, 5, 1, false, 761, 762, 763), (9165, 71, 5, 0, false, 765, 766, 767), (9169, 72, 5, 0, false, 770, 771, 772), (9175, 42, 5, 0, false, 778, 779, 780)]), (9240, [(9181, 101, 5, 2, false, 782, 784, 15), (9185, 63, 5, 2, false, 786, 787, 788), (9192, 104, 5, 1, false, 825, 827, 17), (9208, 109, 5, 3, false, 845, 847, 18), (9214, 65, 5, 2, false, 858, 859, 860), (9218, 74, 5, 5, false, 874, 875, 876), (9222, 79, 5, 1, false, 897, 898, 899), (9225, 45, 5, 0, false, 905, 906, 907), (9228, 116, 4, 1, false, 913, 914, 0), (9231, 80, 5, 0, false, 919, 920, 921), (9234, 81, 5, 1, false, 933, 924, 925), (9240, 82, 5, 2, false, 934, 928, 929)]), (9300, [(9246, 83, 5, 2, false, 939, 940, 941), (9252, 121, 4, 1, false, 951, 952, 0), (9255, 122, 5, 2, false, 954, 956, 21), (9259, 126, 4, 1, false, 970, 971, 0), (9263, 46, 5, 0, false, 974, 975, 976), (9266, 47, 5, 3, false, 979, 980, 981), (9273, 48, 5, 1, false, 991, 992, 993), (9276, 129, 5, 2, false, 995, 997, 24), (9283, 265, 5, 0, false, 1007, 1009, 25), (9292, 264, 4, 1, false, 1011, 1012, 0), (9297, 132, 5, 1, false, 1017, 1019, 26), (9300, 117, 4, 3, false, 916, 917, 0)]), (9363, [(9303, 134, 5, 2, false, 1025, 1027, 27), (9316, 4, 5, 2, false, 1038, 1039, 1040), (9319, 123, 5, 2, false, 958, 960, 22), (9322, 84, 5, 1, false, 1046, 1047, 1048), (9326, 85, 5, 1, false, 1054, 1055, 1056), (9329, 50, 5, 1, false, 1062, 1063, 1064), (9332, 51, 5, 1, false, 1066, 1067, 1068), (9336, 52, 5, 2, false, 1070, 1071, 1072), (9347, 86, 5, 3, false, 1079, 1080, 1081), (9351, 67, 5, 1, false, 1088, 1089, 1090), (9360, 53, 5, 0, false, 1104, 1105, 1106), (9363, 54, 5, 3, false, 1121, 1122, 1123)]), (10133, [(9365, 55, 5, 3, false, 1129, 1130, 1131), (9372, 57, 5, 3, false, 1140, 1141, 1142), (9375, 58, 5, 5, false, 1144, 1145, 1146), (9379, 33, 5, 1, false, 707, 708, 709), (9389, 124, 5, 2, false, 962, 964, 23), (10076, 152, 4, 3, false, 1298, 1299, 0), (10080, 151, 4, 1, false, 1294, 1295, 0), (10084, 154, 4, 2, false, 1305, 1306, 0), (10091, 157, 5, 1, false, 1316, 1318, 28), (10098, 164, 5, 3, false, 1344, 1346, 32), (10129, 169, 5, 1, false, 1370, 1372, 37), (10133, 163, 5, 0, false, 1340, 1342, 31)]), (10207, [(10136, 168, 5, 1, false, 1366, 1368, 36), (10139, 170, 5, 1, false, 1374, 1376, 38), (10142, 167, 5, 1, false, 1362, 1364, 35), (10146, 172, 5, 2, false, 1383, 1385, 40), (10153, 174, 5, 1, false, 1400, 1402, 42), (10157, 177, 4, 4, false, 1413, 1414, 0), (10163, 176, 5, 2, false, 1409, 1411, 44), (10167, 178, 5, 1, false, 1416, 1418, 45), (10173, 171, 5, 3, false, 1379, 1381, 39), (10184, 165, 5, 0, false, 1353, 1355, 33), (10204, 175, 5, 0, false, 1404, 1406, 43), (10207, 179, 5, 0, false, 1420, 1422, 46)]), (10259, [(10210, 180, 5, 1, false, 1428, 1430, 47), (10217, 181, 5, 0, false, 1435, 1437, 48), (10230, 161, 5, 0, false, 1332, 1334, 29), (10233, 162, 5, 0, false, 1336, 1338, 30), (10236, 166, 5, 0, false, 1357, 1359, 34), (10239, 173, 5, 0, false, 1391, 1393, 41), (10242, 182, 5, 0, false, 1441, 1443, 49), (10245, 183, 5, 0, false, 1445, 1447, 50), (10248, 184, 5, 2, false, 1449, 1451, 51), (10252, 185, 4, 4, false, 1453, 1454, 0), (10256, 187, 5, 1, false, 1460, 1462, 52), (10259, 200, 5, 2, false, 1513, 1515, 61)]), (10312, [(10262, 203, 5, 1, false, 1525, 1527, 64), (10265, 189, 5, 1, false, 1468, 1470, 54), (10268, 188, 5, 2, false, 1464, 1466, 53), (10271, 191, 5, 2, false, 1476, 1478, 55), (10278, 194, 5, 2, false, 1488, 1490, 57), (10281, 193, 5, 1, false, 1484, 1486, 56), (10284, 196, 5, 2, false, 1496, 1498, 58), (10287, 197, 5, 3, false, 1500, 1502, 59), (10303, 208, 5, 1, false, 1545, 1547, 68), (10306, 216, 5, 0, false, 1577, 1579, 72), (10309, 212, 5, 1, false, 1561, 1563, 69), (10312, 207, 5, 1, false, 1541, 1543, 67)]), (10379, [(10315, 215, 5, 2, false, 1573, 1575, 71), (10318, 199, 5, 1, false, 1508, 1510, 60), (10323, 201, 5, 1, false, 1517, 1519, 62), (10326, 202, 5, 1, false, 1521, 1523, 63), (10329, 205, 5, 0, false, 1533, 1535, 65), (10332, 206, 5, 1, false, 1537, 1539, 66), (10335, 214, 5, 1, false, 1569, 1571, 70), (10339, 219, 5, 2, false, 1590, 1592, 73), (10344, 223, 4, 2, false, 1608, 1609, 0), (10350, 222, 5, 2, false, 1603, 1605, 74), (10375, 228, 5, 3, false, 1628, 1630, 77), (10379, 229, 5, 0, false, 1632, 1634, 78)]), (10443, [(10391, 226, 5, 3, false, 1619, 1621, 75), (10394, 227, 5, 5, false, 1623, 1625, 76), (10400, 232, 4, 1, false, 1644, 1645, 0), (10403, 236, 5, 1, false, 1660, 1662, 79), (10406, 240, 5, 3, false, 1676, 1678, 81), (10411, 238, 4, 1, false, 1668, 1669, 0), (10414, 239, 5, 4, false, 1672, 1674, 80), (10419, 243, 5, 3, false, 1689, 1691, 82), (10422, 246, 4, 1, false, 1701, 1702, 0), (10425, 248, 5, 2, false, 1708, 1710, 83), (10430, 252, 5, 3, false, 1725, 1727, 84), (10443, 257, 4, 1, false, 1746, 1747, 0)]), (11032, [(10446, 258, 5, 1, false, 1749, 1751, 85), (11009, 87, 6, 0, false, 107, 108, 0), (11012, 149, 6, 0, false, 1151, 1152, 0), (11013, 88, 5, 5, false, 485, 486, 487), (11017, 156, 5, 5, false, 1312, 1313, 1314), (11018, 89, 5, 1, false, 497, 498, 499), (11022, 158, 5, 1, false, 1320, 1321, 1322), (11023, 90, 5, 0, false, 501, 502, 503), (11027, 160, 5, 0, false, 1328, 1329, 1330), (11028, 92, 5, 1, false, 695, 696, 697), (11031, 159, 5, 1, false, 1324, 1325, 1326), (11032, 93, 5, 2, false, 699, 700, 701)]), (11058, [(11036, 186, 5, 2, false, 1456, 1457, 1458), (11037, 95, 5, 3, false, 715, 716, 717), (11041, 190, 5, 3, false, 1472, 1473, 1474), (11042, 96, 5, 2, false, 728, 729, 730), (11045, 192, 5, 2, false, 1480, 1481, 1482), (11046, 97, 5, 3, false, 744, 745, 746), (11049, 195, 5, 3, false, 1492, 1493, 1494), (11050, 99, 5, 2, false, 757, 758, 759), (11053, 198, 5, 2, false, 1504, 1505, 1506), (11054, 100, 5, 0, false, 774, 775, 776), (11057, 204, 5, 0, false, 1529, 1530, 1531), (11058, 102, 5, 1, false, 817, 818, 819)]), (11082, [(11061, 209, 5, 1, false, 1549, 1550, 1551), (11062, 103, 5, 1, false, 821, 822, 823), (11065, 210, 5, 1, false, 1553, 1554, 1555), (11066, 105, 5, 1, false, 829, 830, 831), (11069, 211, 5, 1, false, 1557, 1558, 1559), (11070, 106, 5, 1, false, 833, 834, 835), (11073, 213, 5, 1, false, 1565, 1566, 1567), (11074, 107, 5, 1, false, 837, 838, 839), (11077, 217, 5, 1, false, 1581, 1582, 1583), (11078, 108, 5, 1, false, 841, 842, 843), (11081, 218, 5, 1, false, 1585, 1586, 1587), (11082, 110, 5, 1, false, 849, 850, 851)]), (11107, [(11085, 220, 5, 1, false, 1594, 1595, 1596), (11086, 111, 5, 2, false, 853, 854, 855), (11090, 221, 5, 2, false, 1598, 1599, 1600), (11091, 112, 5, 2, false, 866, 867, 868), (11094, 224, 5, 2, false, 1611, 1612, 1613), (11095, 113, 5, 3, false, 870, 871, 872), (11098, 225, 5, 3, false, 1615, 1616, 1617), (11099, 114, 5, 3, false, 901, 902, 903), (11102, 230, 5, 3, false, 1636, 1637, 1638), (11103, 115, 5, 5, false, 909, 910, 911), (11106, 231, 5, 5, false, 1640, 1641, 1642), (11107, 118, 5, 5, false, 935, 936, 937)]), (11132, [(11110, 233, 5, 5, false, 1648, 1649, 1650), (11111, 119, 5, 3, false, 943, 944, 945), (11114, 234, 5, 3, false, 1652, 1653, 1654), (11115, 120, 5, 1, false, 947, 948, 949), (11118, 235, 5, 1, false, 1656, 1657, 1658), (11119, 125, 5, 4, false, 966, 967, 968), (11123, 237, 5, 4, false, 1664, 1665, 1666), (11124, 127, 5, 1, false, 983, 984, 985), (11127, 241, 5, 1, false, 1681, 1682, 1683), (11128, 128, 5, 3, false, 987, 988, 989), (11131, 242, 5, 3, false, 1685, 1686, 1687), (11132, 130, 5, 1, false, 999, 1000, 1001)]), (11156, [(11135, 244, 5, 1, false, 1693, 1694, 1695), (11136, 131, 5, 1, false, 1003, 1004, 1005), (11139, 245, 5, 1, false, 1697, 1698, 1699), (11140, 133, 5, 2, false, 1021, 1022, 1023), (11143, 247, 5, 2, false, 1704, 1705, 1706), (11144, 135, 5, 1, false, 1029, 1030, 1031), (11147, 249, 5, 1, false, 1712, 1713, 1714), (11148, 136, 5, 2, false, 1034, 1035, 1036), (11151, 250, 5, 2, false, 1717, 1718, 1719), (11152, 137, 5, 2, false, 1042, 1043, 1044), (11155, 251, 5, 2, false, 1721, 1722, 1723), (11156, 138, 5, 2, false, 1050, 1051, 1052)]), (11180, [(11159, 253, 5, 2, false, 1729, 1730, 1731), (11160, 139, 5, 1, false, 1058, 1059, 1060), (11163, 254, 5, 1, false, 1733, 1734, 1735), (11164, 140, 5, 4, false, 1074, 1075, 1076), (11167, 255, 5, 4, false, 1738, 1739, 1740), (11168, 141, 5, 2, false, 1083, 1084, 1085), (11171, 256, 5, 2, false, 1742, 1743, 1744), (11172, 142, 5, 2, false, 1096, 1097, 1098), (11175, 259, 5, 2, false, 1757, 1758, 1759), (11176, 143, 5, 1, false, 1100, 1101, 1102), (11179, 260, 5, 1, false, 1762, 1763, 1764), (11180, 144, 5, 1, false, 1109, 1110, 1111)]), (11202, [(11183, 261, 5, 1, false, 1766, 1767, 1768), (11184, 145, 5, 1, false, 1113, 1114, 1115), (11187, 262, 5, 1, false, 1771, 1772, 1773), (11188, 146, 5, 3, false, 1117, 1118, 1119), (11191, 150, 5, 3, false, 1290, 1291, 1292), (11194, 147, 5, 3, false, 1125, 1126, 1127), (11198, 153, 5, 3, false, 1301, 1302, 1303), (11199, 148, 5, 5, false, 1136, 1137, 1138), (11202, 155, 5, 5, false, 1308, 1309, 1310)])]
def blT : List (Nat × List (Nat × Nat × Nat)) := [(4030, [(1, 10, 174), (1001, 10, 209), (2003, 10, 135), (2212, 7, 545), (2224, 8, 555), (2234, 11, 520), (3003, 10, 168), (3076, 9, 694), (3115, 11, 674), (3126, 12, 806), (4003, 10, 437), (4030, 9, 1148)]), (10001, [(5001, 10, 118), (6003, 10, 400), (7003, 10, 255), (7028, 9, 691), (8003, 10, 350), (9003, 10, 110), (9342, 11, 1078), (10001, 10, 1154)])]
def clT : List (Nat × List (Nat × Nat × Nat × Nat × Nat)) := [(11010, [(3009, 0, 169, 170, 91), (3021, 1, 203, 205, 92), (3033, 7, 249, 251, 93), (9009, 5, 113, 114, 88), (9016, 2, 130, 131, 89), (9023, 3, 163, 164, 90), (9041, 8, 345, 346, 94), (9048, 6, 395, 396, 95), (9055, 4, 432, 433, 96), (11007, 9, 105, 106, 87), (11010, 10, 1149, 1150, 97)])]
def alT : List (Nat × List (Nat × Nat × Nat × Nat)) := [(9023, [(3021, 4, 203, 204), (3033, 5, 249, 250), (9023, 6, 163, 344)])]
def kT : List (Nat × List (Nat × Int32 × Nat)) := [(13267, [(2239, 1000000, 523), (3110, 1000000, 670), (9262, -2000000, 973), (9306, 999999, 1033), (9350, 2000000000, 1087), (10121, 100000, 1351), (10122, 1000000, 1352), (10365, 100000000, 1627), (10418, -2000000, 1680), (13265, 1431655765, 1014), (13266, 858993459, 1015), (13267, 252645135, 1016)])]
def kJ : List (Nat × List (Nat × Int64 × Nat)) := [(10171, [(6105, 100, 862), (6111, 1103515245, 1092), (6113, 12345, 1093), (6115, 2147483648, 1094), (6117, 65536, 1095), (9212, -2, 857), (10074, 3, 1297), (10115, -1, 1348), (10117, 27, 1349), (10119, 96, 1350), (10161, 555, 1408), (10171, 131638, 1426)]), (10202, [(10176, 8935713994, 1432), (10178, 247162, 1424), (10180, 419, 1425), (10182, 79, 1427), (10188, 284068024, 1439), (10190, 131360, 1389), (10192, 6559778, 1440), (10194, 237308, 1395), (10196, 129523, 1396), (10198, 50348, 1397), (10200, 365260, 1398), (10202, 453773, 1399)]), (10398, [(10213, 3436186, 1433), (10215, 8798, 1434), (10220, 4398346831, 1361), (10222, 235981828, 1378), (10224, 80155, 1387), (10226, 355568, 1388), (10228, 400577, 1390), (10321, 5, 1512), (10337, 4, 1589), (10342, 100, 1607), (10348, -2, 1602), (10398, 9, 1647)]), (11192, [(10409, 99, 1671), (10428, 999999, 1716), (10433, 2000000000, 1737), (10435, 1103515245, 1753), (10437, 12345, 1754), (10439, 2147483648, 1755), (10441, 65536, 1756), (10449, 20, 1761), (10451, 2, 1770), (11192, 4294967295, 1775)])]
def sT : List (Nat × List (Nat × Nat)) := [(2116, [(2046, 6), (2058, 10), (2060, 11), (2062, 12), (2064, 13), (2069, 15), (2084, 0), (2090, 1), (2098, 2), (2106, 3), (2112, 4), (2116, 5)]), (2203, [(2130, 7), (2142, 8), (2150, 9), (2157, 14), (2174, 16), (2185, 17), (2194, 18), (2195, 19), (2203, 20)])]
def rF (r : Nat) : Option FieldType := match r with
  | 0 => none | 1 => some .int | 2 => some .boolean | 3 => some .long | _ => some (.object RX1)
def swok (dd : Except DecodeError (Instr × Nat)) (pc a len : Nat) : Bool := match dd, lk swl a with
  | .ok (.tableswitch df lo hi offs, ln), some (lo', tg, d) => Nat.beq ln len && decide (lo = lo') && decide ((pc : Int) + df = (d : Int)) && decide (hi - lo + 1 = (tg.length : Int)) && Nat.beq offs.size tg.length && (List.range tg.length).all (fun i => decide ((pc : Int) + offs.getD i 0 = ((tg.getD i 0 : Nat) : Int)))
  | .ok (.lookupswitch df ps, ln), some (lo', tg, d) => Nat.beq ln len && decide ((pc : Int) + df = (d : Int)) && (match ps.toList, tg with
    | [(k0, o0), (k1, o1)], [t0, t1] => decide (k0 = lo') && decide (k1 = lo' + 1) && decide ((pc : Int) + o0 = (t0 : Int)) && decide ((pc : Int) + o1 = (t1 : Int))
    | _, _ => false)
  | _, _ => false
def ochk (o : Nat) (op a b : Nat) (v : Value) (pc len : Nat) (dd : Except DecodeError (Instr × Nat)) : Bool := match dd with
  | .ok (.aload_n k, 1) => Nat.beq op 42 && Nat.beq k.val a && Nat.beq len 1
  | .ok (.aload k, 2) => Nat.beq op 42 && Nat.beq k a && Nat.beq len 2
  | .ok (.iload_n k, 1) => Nat.beq op 40 && Nat.beq k.val a && Nat.beq len 1
  | .ok (.iload k, 2) => Nat.beq op 40 && Nat.beq k a && Nat.beq len 2
  | .ok (.lload_n k, 1) => Nat.beq op 41 && Nat.beq k.val a && Nat.beq len 1
  | .ok (.lload k, 2) => Nat.beq op 41 && Nat.beq k a && Nat.beq len 2
  | .ok (.astore_n k, 1) => Nat.beq op 45 && Nat.beq k.val a && Nat.beq len 1
  | .ok (.astore k, 2) => Nat.beq op 45 && Nat.beq k a && Nat.beq len 2
  | .ok (.istore_n k, 1) => Nat.beq op 43 && Nat.beq k.val a && Nat.beq len 1
  | .ok (.istore k, 2) => Nat.beq op 43 && Nat.beq k a && Nat.beq len 2
  | .ok (.lstore_n k, 1) => Nat.beq op 44 && Nat.beq k.val a && Nat.beq len 1
  | .ok (.lstore k, 2) => Nat.beq op 44 && Nat.beq k a && Nat.beq len 2
  | .ok (.iinc k n, 3) => Nat.beq op 46 && Nat.beq k a && Nat.beq len 3 && decide (v = .int (Int32.ofInt n))
  | .ok (.getfield i, 3) => Nat.beq op 0 && Nat.beq len 3 && Nat.blt i 1000 && (match lk2 flT (1000 * o + i) with | some (ci, j, _, _) => Nat.beq ci a && Nat.beq j b | none => false)
  | .ok (.putfield i, 3) => Nat.beq op 1 && Nat.beq len 3 && Nat.blt i 1000 && (match lk2 flT (1000 * o + i) with | some (ci, j, ne, _) => Nat.beq ci a && Nat.beq j b && (!ne || !(fTX a b).2.2.2) | none => false)
  | .ok (.goto off, 3) => Nat.beq op 32 && Nat.beq len 3 && decide ((pc : Int) + off = (a : Int))
  | .ok (.ifCond c off, 3) => Nat.beq len 3 && decide ((pc : Int) + off = (a : Int)) && Nat.beq op (match c with | .eq => 20 | .ne => 21 | .lt => 22 | .ge => 23 | .gt => 24 | .le => 25)
  | .ok (.if_icmp c off, 3) => Nat.beq len 3 && decide ((pc : Int) + off = (a : Int)) && Nat.beq op (match c with | .eq => 26 | .ne => 27 | .lt => 28 | .ge => 29 | .gt => 30 | .le => 31)
  | .ok (.ifnull off, 3) => Nat.beq op 33 && Nat.beq len 3 && decide ((pc : Int) + off = (a : Int))
  | .ok (.ifnonnull off, 3) => Nat.beq op 34 && Nat.beq len 3 && decide ((pc : Int) + off = (a : Int))
  | .ok (.tableswitch .., _) => Nat.beq op 35 && swok dd pc a len
  | .ok (.lookupswitch .., _) => Nat.beq op 35 && swok dd pc a len
  | .ok (.new i, 3) => Nat.beq op 2 && Nat.beq len 3 && Nat.blt i 1000 && (match lk2 clT (1000 * o + i) with | some (ci, _) => Nat.beq ci a | none => false)
  | .ok (.anewarray i, 3) => Nat.beq op 3 && Nat.beq len 3 && Nat.blt i 1000 && (match lk2 alT (1000 * o + i) with | some (t, _) => Nat.beq t a | none => false)
  | .ok (.invokevirtual i, 3) => Nat.beq len 3 && Nat.blt i 1000 && (match lk2 mlT (1000 * o + i) with
    | some (m, p, n, _) => Nat.beq op 5 && Nat.beq p 5 && Nat.beq m a && Nat.beq n b
    | none => (match lk2 blT (1000 * o + i) with | some (p, _) => Nat.beq op p && (Nat.beq p 7 || Nat.beq p 8) | none => false))
  | .ok (.invokespecial i, 3) => Nat.beq len 3 && Nat.blt i 1000 && (match lk2 mlT (1000 * o + i) with
    | some (m, p, n, _) => Nat.beq op 6 && Nat.beq p 6 && Nat.beq m a && Nat.beq n b
    | none => (match lk2 blT (1000 * o + i) with | some (p, _) => Nat.beq op p && Nat.beq p 10 | none => false))
  | .ok (.invokestatic i, 3) => Nat.beq len 3 && Nat.blt i 1000 && (match lk2 mlT (1000 * o + i) with
    | some (m, p, n, _) => Nat.beq op 4 && Nat.beq p 4 && Nat.beq m a && Nat.beq n b
    | none => (match lk2 blT (1000 * o + i) with | some (p, _) => Nat.beq op p && (Nat.beq p 9 || Nat.beq p 11 || Nat.beq p 12) | none => false))
  | _ => false
def kchk (o : Nat) (v : Value) (len : Nat) (dd : Except DecodeError (Instr × Nat)) : Bool := match v, dd with
  | .int x, .ok (.iconst n, 1) => Nat.beq len 1 && decide (Int32.ofInt n = x)
  | .int x, .ok (.bipush n, 2) => Nat.beq len 2 && decide ((Int8.ofInt n).toInt32 = x)
  | .int x, .ok (.sipush n, 3) => Nat.beq len 3 && decide ((Int16.ofInt n).toInt32 = x)
  | .int x, .ok (.ldc k, 2) => Nat.beq len 2 && Nat.blt k 1000 && (match lk2 kT (1000 * o + k) with | some (y, _) => decide (y = x) | none => false)
  | .int x, .ok (.ldc_w k, 3) => Nat.beq len 3 && Nat.blt k 1000 && (match lk2 kT (1000 * o + k) with | some (y, _) => decide (y = x) | none => false)
  | .long x, .ok (.lconst n, 1) => Nat.beq len 1 && decide (Int64.ofNat n.val = x)
  | .long x, .ok (.ldc2_w k, 3) => Nat.beq len 3 && Nat.blt k 1000 && (match lk2 kJ (1000 * o + k) with | some (y, _) => decide (y = x) | none => false)
  | .null, .ok (.aconst_null, 1) => Nat.beq len 1
  | .ref r, .ok (.ldc k, 2) => Nat.beq len 2 && Nat.blt k 1000 && (match lk2 sT (1000 * o + k) with | some i => Nat.beq r (3 + i) | none => false)
  | _, _ => false
def achk (o : Nat) (cc : ByteArray) (pc : Nat) (q : AI × Nat) : Bool := match q.1 with
  | .inl v => kchk o v q.2 (decode cc pc)
  | .inr (.inl i) => decide (decode cc pc = .ok (i, q.2)) && (match i with | .newarray _ => Nat.beq q.2 2 | _ => Nat.beq q.2 1)
  | .inr (.inr (op, a, b, v)) => ochk o op a b v pc q.2 (decode cc pc)
def mchk (X : MD) : Bool := (md_c X).all (fun c => c.2.all (fun q => achk (md_o X) (md_b X) q.1 q.2))
def MWok (Y : MD) : Prop := Jvm.Cond.code (md_y Y) (md_b Y) (md_L Y) (rF (md_r Y)) ∈ lw_tbl ∧ Jvm.Cond.initialized (md_y Y).cls ∈ lw_tbl ∧ ((md_y Y).cls ≠ "java/lang/invoke/MethodHandle" ∧ (md_y Y).cls ≠ "java/lang/invoke/VarHandle") ∧ (md_y Y).cls = cnm (md_o Y) ∧ plainName (md_y Y).cls = true ∧ md_L Y ≤ 20 ∧ (md_i Y = true → (md_y Y).name = "<init>" ∧ md_r Y = 0)
theorem tin_1 {w : Jvm.Cond} (h : w ∈ tables_1_1) : w ∈ lw_tbl := show w ∈ k2_sels lw_privs ++ (tables_1_1 ++ (tables_1_2 ++ (tables_1_3 ++ (tables_1_4 ++ (tables_1_5 ++ (tables_1_6 ++ (tables_1_7 ++ tables_1_8))))))) from List.mem_append_right _ (List.mem_append_left _ h)
theorem tin_2 {w : Jvm.Cond} (h : w ∈ tables_1_2) : w ∈ lw_tbl := show w ∈ k2_sels lw_privs ++ (tables_1_1 ++ (tables_1_2 ++ (tables_1_3 ++ (tables_1_4 ++ (tables_1_5 ++ (tables_1_6 ++ (tables_1_7 ++ tables_1_8))))))) from List.mem_append_right _ (List.mem_append_right _ (List.mem_append_left _ h))
theorem tin_3 {w : Jvm.Cond} (h : w ∈ tables_1_3) : w ∈ lw_tbl := show w ∈ k2_sels lw_privs ++ (tables_1_1 ++ (tables_1_2 ++ (tables_1_3 ++ (tables_1_4 ++ (tables_1_5 ++ (tables_1_6 ++ (tables_1_7 ++ tables_1_8))))))) from List.mem_append_right _ (List.mem_append_right _ (List.mem_append_right _ (List.mem_append_left _ h)))
theorem tin_4 {w : Jvm.Cond} (h : w ∈ tables_1_4) : w ∈ lw_tbl := show w ∈ k2_sels lw_privs ++ (tables_1_1 ++ (tables_1_2 ++ (tables_1_3 ++ (tables_1_4 ++ (tables_1_5 ++ (tables_1_6 ++ (tables_1_7 ++ tables_1_8))))))) from List.mem_append_right _ (List.mem_append_right _ (List.mem_append_right _ (List.mem_append_right _ (List.mem_append_left _ h))))
theorem tin_5 {w : Jvm.Cond} (h : w ∈ tables_1_5) : w ∈ lw_tbl := show w ∈ k2_sels lw_privs ++ (tables_1_1 ++ (tables_1_2 ++ (tables_1_3 ++ (tables_1_4 ++ (tables_1_5 ++ (tables_1_6 ++ (tables_1_7 ++ tables_1_8))))))) from List.mem_append_right _ (List.mem_append_right _ (List.mem_append_right _ (List.mem_append_right _ (List.mem_append_right _ (List.mem_append_left _ h)))))
theorem tin_6 {w : Jvm.Cond} (h : w ∈ tables_1_6) : w ∈ lw_tbl := show w ∈ k2_sels lw_privs ++ (tables_1_1 ++ (tables_1_2 ++ (tables_1_3 ++ (tables_1_4 ++ (tables_1_5 ++ (tables_1_6 ++ (tables_1_7 ++ tables_1_8))))))) from List.mem_append_right _ (List.mem_append_right _ (List.mem_append_right _ (List.mem_append_right _ (List.mem_append_right _ (List.mem_append_right _ (List.mem_append_left _ h))))))
theorem tin_7 {w : Jvm.Cond} (h : w ∈ tables_1_7) : w ∈ lw_tbl := show w ∈ k2_sels lw_privs ++ (tables_1_1 ++ (tables_1_2 ++ (tables_1_3 ++ (tables_1_4 ++ (tables_1_5 ++ (tables_1_6 ++ (tables_1_7 ++ tables_1_8))))))) from List.mem_append_right _ (List.mem_append_right _ (List.mem_append_right _ (List.mem_append_right _ (List.mem_append_right _ (List.mem_append_right _ (List.mem_append_right _ (List.mem_append_left _ h)))))))
theorem tin_8 {w : Jvm.Cond} (h : w ∈ tables_1_8) : w ∈ lw_tbl := show w ∈ k2_sels lw_privs ++ (tables_1_1 ++ (tables_1_2 ++ (tables_1_3 ++ (tables_1_4 ++ (tables_1_5 ++ (tables_1_6 ++ (tables_1_7 ++ tables_1_8))))))) from List.mem_append_right _ (List.mem_append_right _ (List.mem_append_right _ (List.mem_append_right _ (List.mem_append_right _ (List.mem_append_right _ (List.mem_append_right _ (List.mem_append_right _ (h))))))))
theorem lwz_if {c : Bool} {A B : Option Jvm.Cond} {w : Jvm.Cond} {P : Prop} (h : (bif c then A else B) = some w) (ha : A = some w → P) (hb : B = some w → P) : P := by
  cases c with
  | true => exact ha h
  | false => exact hb h
def lwz (i : Nat) : Option Jvm.Cond := bif Nat.blt i 86 then (k2_sels lw_privs)[i]? else bif Nat.blt i 326 then tables_1_1[i - 86]? else bif Nat.blt i 566 then tables_1_2[i - 326]? else bif Nat.blt i 806 then tables_1_3[i - 566]? else bif Nat.blt i 1046 then tables_1_4[i - 806]? else bif Nat.blt i 1286 then tables_1_5[i - 1046]? else bif Nat.blt i 1526 then tables_1_6[i - 1286]? else bif Nat.blt i 1766 then tables_1_7[i - 1526]? else tables_1_8[i - 1766]?
theorem lwz_mem {i : Nat} {w : Jvm.Cond} (h : lwz i = some w) : w ∈ lw_tbl := by
  unfold lwz at h
  exact lwz_if h (fun h => (List.mem_append_left _ (List.mem_of_getElem? h) : w ∈ k2_sels lw_privs ++ tables_1)) (fun h => lwz_if h (fun h => tin_1 (List.mem_of_getElem? h)) (fun h => lwz_if h (fun h => tin_2 (List.mem_of_getElem? h)) (fun h => lwz_if h (fun h => tin_3 (List.mem_of_getElem? h)) (fun h => lwz_if h (fun h => tin_4 (List.mem_of_getElem? h)) (fun h => lwz_if h (fun h => tin_5 (List.mem_of_getElem? h)) (fun h => lwz_if h (fun h => tin_6 (List.mem_of_getElem? h)) (fun h => lwz_if h (fun h => tin_7 (List.mem_of_getElem? h)) (fun h => tin_8 (List.mem_of_getElem? h)))))))))
end
section
/-! A DECODER OF ONE'S OWN that goes along the bytes: what it answers decode answers. -/
abbrev fz_F : Type := Instr ⊕ (Nat → Instr) ⊕ (Int → Instr) ⊕ (Nat → Instr) ⊕ (Int → Instr) ⊕ (Nat → Int → Instr)
def fz_den (F : fz_F) : Jvm.ClassFile.Decoder Instr := match F with
  | .inl i => pure i
  | .inr (.inl g) => Jvm.ClassFile.Reader.u1 >>= fun k => pure (g k)
  | .inr (.inr (.inl g)) => Jvm.ClassFile.Reader.s1 >>= fun k => pure (g k)
  | .inr (.inr (.inr (.inl g))) => Jvm.ClassFile.Reader.u2 >>= fun k => pure (g k)
  | .inr (.inr (.inr (.inr (.inl g)))) => Jvm.ClassFile.Reader.s2 >>= fun k => pure (g k)
  | .inr (.inr (.inr (.inr (.inr g)))) => Jvm.ClassFile.Reader.u1 >>= fun k => Jvm.ClassFile.Reader.s1 >>= fun n => pure (g k n)
def fz_run (F : fz_F) (l : List UInt8) : Option (Instr × Nat) := match F with
  | .inl i => some (i, 0)
  | .inr (.inl g) => (match l with | b :: _ => some (g b.toNat, 1) | [] => none)
  | .inr (.inr (.inl g)) => (match l with | b :: _ => some (g (Jvm.ClassFile.Reader.signed 8 b.toNat), 1) | [] => none)
  | .inr (.inr (.inr (.inl g))) => (match l with | b :: c :: _ => some (g (b.toNat * 256 + c.toNat), 2) | _ => none)
  | .inr (.inr (.inr (.inr (.inl g)))) => (match l with | b :: c :: _ => some (g (Jvm.ClassFile.Reader.signed 16 (b.toNat * 256 + c.toNat)), 2) | _ => none)
  | .inr (.inr (.inr (.inr (.inr g)))) => (match l with | b :: c :: _ => some (g b.toNat (Jvm.ClassFile.Reader.signed 8 c.toNat), 2) | _ => none)
theorem fz_bind {α β : Type} {x : Jvm.ClassFile.Decoder α} {f : α → Jvm.ClassFile.Decoder β} {cc : ByteArray} {p q : Nat} {a : α} (h : Jvm.ClassFile.Reader.runAt x cc p = .ok (a, q)) : Jvm.ClassFile.Reader.runAt (x >>= f) cc p = Jvm.ClassFile.Reader.runAt (f a) cc q := by
  have h' : x cc p = Except.ok (a, q) := h
  have e : Jvm.ClassFile.Reader.runAt (x >>= f) cc p = Except.bind (x cc p) (fun r => f r.1 cc r.2) := rfl
  rw [e, h']
  rfl
theorem fz_map {α β : Type} {x : Jvm.ClassFile.Decoder α} {f : α → β} {cc : ByteArray} {p q : Nat} {a : α} (h : Jvm.ClassFile.Reader.runAt x cc p = .ok (a, q)) : Jvm.ClassFile.Reader.runAt (f <$> x : Jvm.ClassFile.Decoder β) cc p = .ok (f a, q) := by
  have h' : x cc p = Except.ok (a, q) := h
  have e : Jvm.ClassFile.Reader.runAt (f <$> x : Jvm.ClassFile.Decoder β) cc p = Except.bind (x cc p) (fun r => .ok (f r.1, r.2)) := rfl
  rw [e, h']
  rfl
theorem fz_dif {c : Prop} {d : Decidable c} {β : Type} {t : c → Jvm.ClassFile.Decoder β} {e : ¬ c → Jvm.ClassFile.Decoder β} (h : c) (cc : ByteArray) (p : Nat) : (@dite (Jvm.ClassFile.Decoder β) c d t e) cc p = t h cc p := by
  rw [dif_pos h]
theorem fz_u1 {cc : ByteArray} {p : Nat} {b : UInt8} {r : List UInt8} (h : cc.data.toList.drop p = b :: r) : Jvm.ClassFile.Reader.runAt (Jvm.ClassFile.Reader.u1 : Jvm.ClassFile.Decoder Nat) cc p = .ok (b.toNat, p + 1) := by
  obtain ⟨⟨L⟩⟩ := cc
  have h : L.drop p = b :: r := h
  have hp : p < L.length := by
    refine Nat.lt_of_not_le (fun hle => ?_)
    rw [List.drop_eq_nil_of_le hle] at h
    cases h
  rw [List.drop_eq_getElem_cons hp] at h
  injection h with h1 h2
  have hs : p < (ByteArray.mk (Array.mk L)).size := hp
  have e : Jvm.ClassFile.Reader.runAt (Jvm.ClassFile.Reader.u1 : Jvm.ClassFile.Decoder Nat) (ByteArray.mk (Array.mk L)) p = .ok ((ByteArray.mk (Array.mk L))[p].toNat, p + 1) :=
    (fz_dif (c := p < (ByteArray.mk (Array.mk L)).size) hs (ByteArray.mk (Array.mk L)) p).trans rfl
  subst h1
  exact e
theorem fz_tl {cc : ByteArray} {p : Nat} {b : UInt8} {r : List UInt8} (h : cc.data.toList.drop p = b :: r) : cc.data.toList.drop (p + 1) = r := by
  have e := List.drop_drop (i := 1) (j := p) (l := cc.data.toList)
  rw [h] at e
  exact e.symm
theorem fz_s1 {cc : ByteArray} {p : Nat} {b : UInt8} {r : List UInt8} (h : cc.data.toList.drop p = b :: r) : Jvm.ClassFile.Reader.runAt (Jvm.ClassFile.Reader.s1 : Jvm.ClassFile.Decoder Int) cc p = .ok (Jvm.ClassFile.Reader.signed 8 b.toNat, p + 1) :=
  fz_map (f := Jvm.ClassFile.Reader.signed 8) (fz_u1 h)
theorem fz_u2 {cc : ByteArray} {p : Nat} {b c : UInt8} {r : List UInt8} (h : cc.data.toList.drop p = b :: c :: r) : Jvm.ClassFile.Reader.runAt (Jvm.ClassFile.Reader.u2 : Jvm.ClassFile.Decoder Nat) cc p = .ok (b.toNat * 256 + c.toNat, p + 2) :=
  (fz_bind (fz_u1 h)).trans ((fz_bind (fz_u1 (fz_tl h))).trans rfl)
theorem fz_s2 {cc : ByteArray} {p : Nat} {b c : UInt8} {r : List UInt8} (h : cc.data.toList.drop p = b :: c :: r) : Jvm.ClassFile.Reader.runAt (Jvm.ClassFile.Reader.s2 : Jvm.ClassFile.Decoder Int) cc p = .ok (Jvm.ClassFile.Reader.signed 16 (b.toNat * 256 + c.toNat), p + 2) :=
  fz_map (f := Jvm.ClassFile.Reader.signed 16) (fz_u2 h)
theorem fz_run_ok {cc : ByteArray} {p : Nat} {F : fz_F} {l : List UInt8} {y : Instr × Nat} (hl : cc.data.toList.drop p = l) (h : fz_run F l = some y) : Jvm.ClassFile.Reader.runAt (fz_den F) cc p = .ok (y.1, p + y.2) := by
  rcases F with i | g | g | g | g | g
  · have h : some (i, 0) = some y := h
    cases h
    rfl
  · rcases l with _ | ⟨b, r⟩
    · cases (show (none : Option (Instr × Nat)) = some y from h)
    · have h : some (g b.toNat, 1) = some y := h
      cases h
      exact (fz_bind (fz_u1 hl)).trans rfl
  · rcases l with _ | ⟨b, r⟩
    · cases (show (none : Option (Instr × Nat)) = some y from h)
    · have h : some (g (Jvm.ClassFile.Reader.signed 8 b.toNat), 1) = some y := h
      cases h
      exact (fz_bind (fz_s1 hl)).trans rfl
  · rcases l with _ | ⟨b, _ | ⟨c, r⟩⟩
    · cases (show (none : Option (Instr × Nat)) = some y from h)
    · cases (show (none : Option (Instr × Nat)) = some y from h)
    · have h : some (g (b.toNat * 256 + c.toNat), 2) = some y := h
      cases h
      exact (fz_bind (fz_u2 hl)).trans rfl
  · rcases l with _ | ⟨b, _ | ⟨c, r⟩⟩
    · cases (show (none : Option (Instr × Nat)) = some y from h)
    · cases (show (none : Option (Instr × Nat)) = some y from h)
    · have h : some (g (Jvm.ClassFile.Reader.signed 16 (b.toNat * 256 + c.toNat)), 2) = some y := h
      cases h
      exact (fz_bind (fz_s2 hl)).trans rfl
  · rcases l with _ | ⟨b, _ | ⟨c, r⟩⟩
    · cases (show (none : Option (Instr × Nat)) = some y from h)
    · cases (show (none : Option (Instr × Nat)) = some y from h)
    · have h : some (g b.toNat (Jvm.ClassFile.Reader.signed 8 c.toNat), 2) = some y := h
      cases h
      exact (fz_bind (fz_u1 hl)).trans ((fz_bind (fz_s1 (fz_tl hl))).trans rfl)
def fz_G (q : Nat × fz_F) : Prop := ∀ (cc : ByteArray) (pc s : Nat), Jvm.ClassFile.Reader.runAt (Jvm.ClassFile.Reader.u1 : Jvm.ClassFile.Decoder Nat) cc pc = .ok (q.1, s) → Jvm.ClassFile.Reader.runAt (Jvm.ClassFile.Decoder.instr pc) cc pc = Jvm.ClassFile.Reader.runAt (fz_den q.2) cc s
set_option maxRecDepth 100000 in
theorem fz_g1 : fz_G (1, .inl (.aconst_null)) := fun _ _ _ h => fz_bind (a := 1) h
set_option maxRecDepth 100000 in
theorem fz_g2 : fz_G (2, .inl (.iconst (-1))) := fun _ _ _ h => fz_bind (a := 2) h
set_option maxRecDepth 100000 in
theorem fz_g3 : fz_G (3, .inl (.iconst 0)) := fun _ _ _ h => fz_bind (a := 3) h
set_option maxRecDepth 100000 in
theorem fz_g4 : fz_G (4, .inl (.iconst 1)) := fun _ _ _ h => fz_bind (a := 4) h
set_option maxRecDepth 100000 in
theorem fz_g5 : fz_G (5, .inl (.iconst 2)) := fun _ _ _ h => fz_bind (a := 5) h
set_option maxRecDepth 100000 in
theorem fz_g6 : fz_G (6, .inl (.iconst 3)) := fun _ _ _ h => fz_bind (a := 6) h
set_option maxRecDepth 100000 in
theorem fz_g7 : fz_G (7, .inl (.iconst 4)) := fun _ _ _ h => fz_bind (a := 7) h
set_option maxRecDepth 100000 in
theorem fz_g8 : fz_G (8, .inl (.iconst 5)) := fun _ _ _ h => fz_bind (a := 8) h
set_option maxRecDepth 100000 in
theorem fz_g9 : fz_G (9, .inl (.lconst 0)) := fun _ _ _ h => fz_bind (a := 9) h
set_option maxRecDepth 100000 in
theorem fz_g10 : fz_G (10, .inl (.lconst 1)) := fun _ _ _ h => fz_bind (a := 10) h
set_option maxRecDepth 100000 in
theorem fz_g16 : fz_G (16, .inr (.inr (.inl (fun k => .bipush k)))) := fun _ _ _ h => fz_bind (a := 16) h
set_option maxRecDepth 100000 in
theorem fz_g17 : fz_G (17, .inr (.inr (.inr (.inr (.inl (fun k => .sipush k)))))) := fun _ _ _ h => fz_bind (a := 17) h
set_option maxRecDepth 100000 in
theorem fz_g18 : fz_G (18, .inr (.inl (fun k => .ldc k))) := fun _ _ _ h => fz_bind (a := 18) h
set_option maxRecDepth 100000 in
theorem fz_g19 : fz_G (19, .inr (.inr (.inr (.inl (fun k => .ldc_w k))))) := fun _ _ _ h => fz_bind (a := 19) h
set_option maxRecDepth 100000 in
theorem fz_g20 : fz_G (20, .inr (.inr (.inr (.inl (fun k => .ldc2_w k))))) := fun _ _ _ h => fz_bind (a := 20) h
set_option maxRecDepth 100000 in
theorem fz_g21 : fz_G (21, .inr (.inl (fun k => .iload k))) := fun _ _ _ h => fz_bind (a := 21) h
set_option maxRecDepth 100000 in
theorem fz_g22 : fz_G (22, .inr (.inl (fun k => .lload k))) := fun _ _ _ h => fz_bind (a := 22) h
set_option maxRecDepth 100000 in
theorem fz_g25 : fz_G (25, .inr (.inl (fun k => .aload k))) := fun _ _ _ h => fz_bind (a := 25) h
set_option maxRecDepth 100000 in
theorem fz_g26 : fz_G (26, .inl (.iload_n 0)) := fun _ _ _ h => fz_bind (a := 26) h
set_option maxRecDepth 100000 in
theorem fz_g27 : fz_G (27, .inl (.iload_n 1)) := fun _ _ _ h => fz_bind (a := 27) h
set_option maxRecDepth 100000 in
theorem fz_g28 : fz_G (28, .inl (.iload_n 2)) := fun _ _ _ h => fz_bind (a := 28) h
set_option maxRecDepth 100000 in
theorem fz_g29 : fz_G (29, .inl (.iload_n 3)) := fun _ _ _ h => fz_bind (a := 29) h
set_option maxRecDepth 100000 in
theorem fz_g30 : fz_G (30, .inl (.lload_n 0)) := fun _ _ _ h => fz_bind (a := 30) h
set_option maxRecDepth 100000 in
theorem fz_g31 : fz_G (31, .inl (.lload_n 1)) := fun _ _ _ h => fz_bind (a := 31) h
set_option maxRecDepth 100000 in
theorem fz_g32 : fz_G (32, .inl (.lload_n 2)) := fun _ _ _ h => fz_bind (a := 32) h
set_option maxRecDepth 100000 in
theorem fz_g33 : fz_G (33, .inl (.lload_n 3)) := fun _ _ _ h => fz_bind (a := 33) h
set_option maxRecDepth 100000 in
theorem fz_g42 : fz_G (42, .inl (.aload_n 0)) := fun _ _ _ h => fz_bind (a := 42) h
set_option maxRecDepth 100000 in
theorem fz_g43 : fz_G (43, .inl (.aload_n 1)) := fun _ _ _ h => fz_bind (a := 43) h
set_option maxRecDepth 100000 in
theorem fz_g44 : fz_G (44, .inl (.aload_n 2)) := fun _ _ _ h => fz_bind (a := 44) h
set_option maxRecDepth 100000 in
theorem fz_g45 : fz_G (45, .inl (.aload_n 3)) := fun _ _ _ h => fz_bind (a := 45) h
set_option maxRecDepth 100000 in
theorem fz_g46 : fz_G (46, .inl (.iaload)) := fun _ _ _ h => fz_bind (a := 46) h
set_option maxRecDepth 100000 in
theorem fz_g47 : fz_G (47, .inl (.laload)) := fun _ _ _ h => fz_bind (a := 47) h
set_option maxRecDepth 100000 in
theorem fz_g50 : fz_G (50, .inl (.aaload)) := fun _ _ _ h => fz_bind (a := 50) h
set_option maxRecDepth 100000 in
theorem fz_g51 : fz_G (51, .inl (.baload)) := fun _ _ _ h => fz_bind (a := 51) h
set_option maxRecDepth 100000 in
theorem fz_g54 : fz_G (54, .inr (.inl (fun k => .istore k))) := fun _ _ _ h => fz_bind (a := 54) h
set_option maxRecDepth 100000 in
theorem fz_g55 : fz_G (55, .inr (.inl (fun k => .lstore k))) := fun _ _ _ h => fz_bind (a := 55) h
set_option maxRecDepth 100000 in
theorem fz_g58 : fz_G (58, .inr (.inl (fun k => .astore k))) := fun _ _ _ h => fz_bind (a := 58) h
set_option maxRecDepth 100000 in
theorem fz_g59 : fz_G (59, .inl (.istore_n 0)) := fun _ _ _ h => fz_bind (a := 59) h
set_option maxRecDepth 100000 in
theorem fz_g60 : fz_G (60, .inl (.istore_n 1)) := fun _ _ _ h => fz_bind (a := 60) h
set_option maxRecDepth 100000 in
theorem fz_g61 : fz_G (61, .inl (.istore_n 2)) := fun _ _ _ h => fz_bind (a := 61) h
set_option maxRecDepth 100000 in
theorem fz_g62 : fz_G (62, .inl (.istore_n 3)) := fun _ _ _ h => fz_bind (a := 62) h
set_option maxRecDepth 100000 in
theorem fz_g65 : fz_G (65, .inl (.lstore_n 2)) := fun _ _ _ h => fz_bind (a := 65) h
set_option maxRecDepth 100000 in
theorem fz_g66 : fz_G (66, .inl (.lstore_n 3)) := fun _ _ _ h => fz_bind (a := 66) h
set_option maxRecDepth 100000 in
theorem fz_g76 : fz_G (76, .inl (.astore_n 1)) := fun _ _ _ h => fz_bind (a := 76) h
set_option maxRecDepth 100000 in
theorem fz_g77 : fz_G (77, .inl (.astore_n 2)) := fun _ _ _ h => fz_bind (a := 77) h
set_option maxRecDepth 100000 in
theorem fz_g78 : fz_G (78, .inl (.astore_n 3)) := fun _ _ _ h => fz_bind (a := 78) h
set_option maxRecDepth 100000 in
theorem fz_g79 : fz_G (79, .inl (.iastore)) := fun _ _ _ h => fz_bind (a := 79) h
set_option maxRecDepth 100000 in
theorem fz_g80 : fz_G (80, .inl (.lastore)) := fun _ _ _ h => fz_bind (a := 80) h
set_option maxRecDepth 100000 in
theorem fz_g83 : fz_G (83, .inl (.aastore)) := fun _ _ _ h => fz_bind (a := 83) h
set_option maxRecDepth 100000 in
theorem fz_g84 : fz_G (84, .inl (.bastore)) := fun _ _ _ h => fz_bind (a := 84) h
set_option maxRecDepth 100000 in
theorem fz_g87 : fz_G (87, .inl (.pop)) := fun _ _ _ h => fz_bind (a := 87) h
set_option maxRecDepth 100000 in
theorem fz_g88 : fz_G (88, .inl (.pop2)) := fun _ _ _ h => fz_bind (a := 88) h
set_option maxRecDepth 100000 in
theorem fz_g89 : fz_G (89, .inl (.dup)) := fun _ _ _ h => fz_bind (a := 89) h
set_option maxRecDepth 100000 in
theorem fz_g92 : fz_G (92, .inl (.dup2)) := fun _ _ _ h => fz_bind (a := 92) h
set_option maxRecDepth 100000 in
theorem fz_g96 : fz_G (96, .inl (.iadd)) := fun _ _ _ h => fz_bind (a := 96) h
set_option maxRecDepth 100000 in
theorem fz_g97 : fz_G (97, .inl (.ladd)) := fun _ _ _ h => fz_bind (a := 97) h
set_option maxRecDepth 100000 in
theorem fz_g100 : fz_G (100, .inl (.isub)) := fun _ _ _ h => fz_bind (a := 100) h
set_option maxRecDepth 100000 in
theorem fz_g101 : fz_G (101, .inl (.lsub)) := fun _ _ _ h => fz_bind (a := 101) h
set_option maxRecDepth 100000 in
theorem fz_g104 : fz_G (104, .inl (.imul)) := fun _ _ _ h => fz_bind (a := 104) h
set_option maxRecDepth 100000 in
theorem fz_g105 : fz_G (105, .inl (.lmul)) := fun _ _ _ h => fz_bind (a := 105) h
set_option maxRecDepth 100000 in
theorem fz_g109 : fz_G (109, .inl (.ldiv)) := fun _ _ _ h => fz_bind (a := 109) h
set_option maxRecDepth 100000 in
theorem fz_g112 : fz_G (112, .inl (.irem)) := fun _ _ _ h => fz_bind (a := 112) h
set_option maxRecDepth 100000 in
theorem fz_g113 : fz_G (113, .inl (.lrem)) := fun _ _ _ h => fz_bind (a := 113) h
set_option maxRecDepth 100000 in
theorem fz_g120 : fz_G (120, .inl (.ishl)) := fun _ _ _ h => fz_bind (a := 120) h
set_option maxRecDepth 100000 in
theorem fz_g121 : fz_G (121, .inl (.lshl)) := fun _ _ _ h => fz_bind (a := 121) h
set_option maxRecDepth 100000 in
theorem fz_g122 : fz_G (122, .inl (.ishr)) := fun _ _ _ h => fz_bind (a := 122) h
set_option maxRecDepth 100000 in
theorem fz_g123 : fz_G (123, .inl (.lshr)) := fun _ _ _ h => fz_bind (a := 123) h
set_option maxRecDepth 100000 in
theorem fz_g124 : fz_G (124, .inl (.iushr)) := fun _ _ _ h => fz_bind (a := 124) h
set_option maxRecDepth 100000 in
theorem fz_g126 : fz_G (126, .inl (.iand)) := fun _ _ _ h => fz_bind (a := 126) h
set_option maxRecDepth 100000 in
theorem fz_g127 : fz_G (127, .inl (.land)) := fun _ _ _ h => fz_bind (a := 127) h
set_option maxRecDepth 100000 in
theorem fz_g128 : fz_G (128, .inl (.ior)) := fun _ _ _ h => fz_bind (a := 128) h
set_option maxRecDepth 100000 in
theorem fz_g129 : fz_G (129, .inl (.lor)) := fun _ _ _ h => fz_bind (a := 129) h
set_option maxRecDepth 100000 in
theorem fz_g132 : fz_G (132, .inr (.inr (.inr (.inr (.inr (fun k n => .iinc k n)))))) := fun _ _ _ h => fz_bind (a := 132) h
set_option maxRecDepth 100000 in
theorem fz_g133 : fz_G (133, .inl (.i2l)) := fun _ _ _ h => fz_bind (a := 133) h
set_option maxRecDepth 100000 in
theorem fz_g136 : fz_G (136, .inl (.l2i)) := fun _ _ _ h => fz_bind (a := 136) h
set_option maxRecDepth 100000 in
theorem fz_g145 : fz_G (145, .inl (.i2b)) := fun _ _ _ h => fz_bind (a := 145) h
set_option maxRecDepth 100000 in
theorem fz_g147 : fz_G (147, .inl (.i2s)) := fun _ _ _ h => fz_bind (a := 147) h
set_option maxRecDepth 100000 in
theorem fz_g148 : fz_G (148, .inl (.lcmp)) := fun _ _ _ h => fz_bind (a := 148) h
set_option maxRecDepth 100000 in
theorem fz_g153 : fz_G (153, .inr (.inr (.inr (.inr (.inl (fun k => .ifCond .eq k)))))) := fun _ _ _ h => fz_bind (a := 153) h
set_option maxRecDepth 100000 in
theorem fz_g154 : fz_G (154, .inr (.inr (.inr (.inr (.inl (fun k => .ifCond .ne k)))))) := fun _ _ _ h => fz_bind (a := 154) h
set_option maxRecDepth 100000 in
theorem fz_g155 : fz_G (155, .inr (.inr (.inr (.inr (.inl (fun k => .ifCond .lt k)))))) := fun _ _ _ h => fz_bind (a := 155) h
set_option maxRecDepth 100000 in
theorem fz_g156 : fz_G (156, .inr (.inr (.inr (.inr (.inl (fun k => .ifCond .ge k)))))) := fun _ _ _ h => fz_bind (a := 156) h
set_option maxRecDepth 100000 in
theorem fz_g157 : fz_G (157, .inr (.inr (.inr (.inr (.inl (fun k => .ifCond .gt k)))))) := fun _ _ _ h => fz_bind (a := 157) h
set_option maxRecDepth 100000 in
theorem fz_g158 : fz_G (158, .inr (.inr (.inr (.inr (.inl (fun k => .ifCond .le k)))))) := fun _ _ _ h => fz_bind (a := 158) h
set_option maxRecDepth 100000 in
theorem fz_g159 : fz_G (159, .inr (.inr (.inr (.inr (.inl (fun k => .if_icmp .eq k)))))) := fun _ _ _ h => fz_bind (a := 159) h
set_option maxRecDepth 100000 in
theorem fz_g160 : fz_G (160, .inr (.inr (.inr (.inr (.inl (fun k => .if_icmp .ne k)))))) := fun _ _ _ h => fz_bind (a := 160) h
set_option maxRecDepth 100000 in
theorem fz_g161 : fz_G (161, .inr (.inr (.inr (.inr (.inl (fun k => .if_icmp .lt k)))))) := fun _ _ _ h => fz_bind (a := 161) h
set_option maxRecDepth 100000 in
theorem fz_g162 : fz_G (162, .inr (.inr (.inr (.inr (.inl (fun k => .if_icmp .ge k)))))) := fun _ _ _ h => fz_bind (a := 162) h
set_option maxRecDepth 100000 in
theorem fz_g163 : fz_G (163, .inr (.inr (.inr (.inr (.inl (fun k => .if_icmp .gt k)))))) := fun _ _ _ h => fz_bind (a := 163) h
set_option maxRecDepth 100000 in
theorem fz_g164 : fz_G (164, .inr (.inr (.inr (.inr (.inl (fun k => .if_icmp .le k)))))) := fun _ _ _ h => fz_bind (a := 164) h
set_option maxRecDepth 100000 in
theorem fz_g167 : fz_G (167, .inr (.inr (.inr (.inr (.inl (fun k => .goto k)))))) := fun _ _ _ h => fz_bind (a := 167) h
set_option maxRecDepth 100000 in
theorem fz_g172 : fz_G (172, .inl (.ireturn)) := fun _ _ _ h => fz_bind (a := 172) h
set_option maxRecDepth 100000 in
theorem fz_g173 : fz_G (173, .inl (.lreturn)) := fun _ _ _ h => fz_bind (a := 173) h
set_option maxRecDepth 100000 in
theorem fz_g176 : fz_G (176, .inl (.areturn)) := fun _ _ _ h => fz_bind (a := 176) h
set_option maxRecDepth 100000 in
theorem fz_g177 : fz_G (177, .inl (.return_)) := fun _ _ _ h => fz_bind (a := 177) h
set_option maxRecDepth 100000 in
theorem fz_g180 : fz_G (180, .inr (.inr (.inr (.inl (fun k => .getfield k))))) := fun _ _ _ h => fz_bind (a := 180) h
set_option maxRecDepth 100000 in
theorem fz_g181 : fz_G (181, .inr (.inr (.inr (.inl (fun k => .putfield k))))) := fun _ _ _ h => fz_bind (a := 181) h
set_option maxRecDepth 100000 in
theorem fz_g182 : fz_G (182, .inr (.inr (.inr (.inl (fun k => .invokevirtual k))))) := fun _ _ _ h => fz_bind (a := 182) h
set_option maxRecDepth 100000 in
theorem fz_g183 : fz_G (183, .inr (.inr (.inr (.inl (fun k => .invokespecial k))))) := fun _ _ _ h => fz_bind (a := 183) h
set_option maxRecDepth 100000 in
theorem fz_g184 : fz_G (184, .inr (.inr (.inr (.inl (fun k => .invokestatic k))))) := fun _ _ _ h => fz_bind (a := 184) h
set_option maxRecDepth 100000 in
theorem fz_g187 : fz_G (187, .inr (.inr (.inr (.inl (fun k => .new k))))) := fun _ _ _ h => fz_bind (a := 187) h
set_option maxRecDepth 100000 in
theorem fz_g189 : fz_G (189, .inr (.inr (.inr (.inl (fun k => .anewarray k))))) := fun _ _ _ h => fz_bind (a := 189) h
set_option maxRecDepth 100000 in
theorem fz_g190 : fz_G (190, .inl (.arraylength)) := fun _ _ _ h => fz_bind (a := 190) h
set_option maxRecDepth 100000 in
theorem fz_g198 : fz_G (198, .inr (.inr (.inr (.inr (.inl (fun k => .ifnull k)))))) := fun _ _ _ h => fz_bind (a := 198) h
set_option maxRecDepth 100000 in
theorem fz_g199 : fz_G (199, .inr (.inr (.inr (.inr (.inl (fun k => .ifnonnull k)))))) := fun _ _ _ h => fz_bind (a := 199) h
def fz_T : List (Nat × List (Nat × fz_F)) := [(10, [(1, .inl (.aconst_null)), (2, .inl (.iconst (-1))), (3, .inl (.iconst 0)), (4, .inl (.iconst 1)), (5, .inl (.iconst 2)), (6, .inl (.iconst 3)), (7, .inl (.iconst 4)), (8, .inl (.iconst 5)), (9, .inl (.lconst 0)), (10, .inl (.lconst 1))]), (27, [(16, .inr (.inr (.inl (fun k => .bipush k)))), (17, .inr (.inr (.inr (.inr (.inl (fun k => .sipush k)))))), (18, .inr (.inl (fun k => .ldc k))), (19, .inr (.inr (.inr (.inl (fun k => .ldc_w k))))), (20, .inr (.inr (.inr (.inl (fun k => .ldc2_w k))))), (21, .inr (.inl (fun k => .iload k))), (22, .inr (.inl (fun k => .lload k))), (25, .inr (.inl (fun k => .aload k))), (26, .inl (.iload_n 0)), (27, .inl (.iload_n 1))]), (45, [(28, .inl (.iload_n 2)), (29, .inl (.iload_n 3)), (30, .inl (.lload_n 0)), (31, .inl (.lload_n 1)), (32, .inl (.lload_n 2)), (33, .inl (.lload_n 3)), (42, .inl (.aload_n 0)), (43, .inl (.aload_n 1)), (44, .inl (.aload_n 2)), (45, .inl (.aload_n 3))]), (61, [(46, .inl (.iaload)), (47, .inl (.laload)), (50, .inl (.aaload)), (51, .inl (.baload)), (54, .inr (.inl (fun k => .istore k))), (55, .inr (.inl (fun k => .lstore k))), (58, .inr (.inl (fun k => .astore k))), (59, .inl (.istore_n 0)), (60, .inl (.istore_n 1)), (61, .inl (.istore_n 2))]), (84, [(62, .inl (.istore_n 3)), (65, .inl (.lstore_n 2)), (66, .inl (.lstore_n 3)), (76, .inl (.astore_n 1)), (77, .inl (.astore_n 2)), (78, .inl (.astore_n 3)), (79, .inl (.iastore)), (80, .inl (.lastore)), (83, .inl (.aastore)), (84, .inl (.bastore))]), (105, [(87, .inl (.pop)), (88, .inl (.pop2)), (89, .inl (.dup)), (92, .inl (.dup2)), (96, .inl (.iadd)), (97, .inl (.ladd)), (100, .inl (.isub)), (101, .inl (.lsub)), (104, .inl (.imul)), (105, .inl (.lmul))]), (127, [(109, .inl (.ldiv)), (112, .inl (.irem)), (113, .inl (.lrem)), (120, .inl (.ishl)), (121, .inl (.lshl)), (122, .inl (.ishr)), (123, .inl (.lshr)), (124, .inl (.iushr)), (126, .inl (.iand)), (127, .inl (.land))]), (154, [(128, .inl (.ior)), (129, .inl (.lor)), (132, .inr (.inr (.inr (.inr (.inr (fun k n => .iinc k n)))))), (133, .inl (.i2l)), (136, .inl (.l2i)), (145, .inl (.i2b)), (147, .inl (.i2s)), (148, .inl (.lcmp)), (153, .inr (.inr (.inr (.inr (.inl (fun k => .ifCond .eq k)))))), (154, .inr (.inr (.inr (.inr (.inl (fun k => .ifCond .ne k))))))]), (164, [(155, .inr (.inr (.inr (.inr (.inl (fun k => .ifCond .lt k)))))), (156, .inr (.inr (.inr (.inr (.inl (fun k => .ifCond .ge k)))))), (157, .inr (.inr (.inr (.inr (.inl (fun k => .ifCond .gt k)))))), (158, .inr (.inr (.inr (.inr (.inl (fun k => .ifCond .le k)))))), (159, .inr (.inr (.inr (.inr (.inl (fun k => .if_icmp .eq k)))))), (160, .inr (.inr (.inr (.inr (.inl (fun k => .if_icmp .ne k)))))), (161, .inr (.inr (.inr (.inr (.inl (fun k => .if_icmp .lt k)))))), (162, .inr (.inr (.inr (.inr (.inl (fun k => .if_icmp .ge k)))))), (163, .inr (.inr (.inr (.inr (.inl (fun k => .if_icmp .gt k)))))), (164, .inr (.inr (.inr (.inr (.inl (fun k => .if_icmp .le k))))))]), (184, [(167, .inr (.inr (.inr (.inr (.inl (fun k => .goto k)))))), (172, .inl (.ireturn)), (173, .inl (.lreturn)), (176, .inl (.areturn)), (177, .inl (.return_)), (180, .inr (.inr (.inr (.inl (fun k => .getfield k))))), (181, .inr (.inr (.inr (.inl (fun k => .putfield k))))), (182, .inr (.inr (.inr (.inl (fun k => .invokevirtual k))))), (183, .inr (.inr (.inr (.inl (fun k => .invokespecial k))))), (184, .inr (.inr (.inr (.inl (fun k => .invokestatic k)))))]), (199, [(187, .inr (.inr (.inr (.inl (fun k => .new k))))), (189, .inr (.inr (.inr (.inl (fun k => .anewarray k))))), (190, .inl (.arraylength)), (198, .inr (.inr (.inr (.inr (.inl (fun k => .ifnull k)))))), (199, .inr (.inr (.inr (.inr (.inl (fun k => .ifnonnull k))))))])]
theorem fz_T_ok : ∀ c ∈ fz_T, ∀ q ∈ c.2, fz_G q := List.forall_mem_cons.mpr ⟨List.forall_mem_cons.mpr ⟨fz_g1, List.forall_mem_cons.mpr ⟨fz_g2, List.forall_mem_cons.mpr ⟨fz_g3, List.forall_mem_cons.mpr ⟨fz_g4, List.forall_mem_cons.mpr ⟨fz_g5, List.forall_mem_cons.mpr ⟨fz_g6, List.forall_mem_cons.mpr ⟨fz_g7, List.forall_mem_cons.mpr ⟨fz_g8, List.forall_mem_cons.mpr ⟨fz_g9, List.forall_mem_cons.mpr ⟨fz_g10, fun _ h => absurd h List.not_mem_nil⟩⟩⟩⟩⟩⟩⟩⟩⟩⟩, List.forall_mem_cons.mpr ⟨List.forall_mem_cons.mpr ⟨fz_g16, List.forall_mem_cons.mpr ⟨fz_g17, List.forall_mem_cons.mpr ⟨fz_g18, List.forall_mem_cons.mpr ⟨fz_g19, List.forall_mem_cons.mpr ⟨fz_g20, List.forall_mem_cons.mpr ⟨fz_g21, List.forall_mem_cons.mpr ⟨fz_g22, List.forall_mem_cons.mpr ⟨fz_g25, List.forall_mem_cons.mpr ⟨fz_g26, List.forall_mem_cons.mpr ⟨fz_g27, fun _ h => absurd h List.not_mem_nil⟩⟩⟩⟩⟩⟩⟩⟩⟩⟩, List.forall_mem_cons.mpr ⟨List.forall_mem_cons.mpr ⟨fz_g28, List.forall_mem_cons.mpr ⟨fz_g29, List.forall_mem_cons.mpr ⟨fz_g30, List.forall_mem_cons.mpr ⟨fz_g31, List.forall_mem_cons.mpr ⟨fz_g32, List.forall_mem_cons.mpr ⟨fz_g33, List.forall_mem_cons.mpr ⟨fz_g42, List.forall_mem_cons.mpr ⟨fz_g43, List.forall_mem_cons.mpr ⟨fz_g44, List.forall_mem_cons.mpr ⟨fz_g45, fun _ h => absurd h List.not_mem_nil⟩⟩⟩⟩⟩⟩⟩⟩⟩⟩, List.forall_mem_cons.mpr ⟨List.forall_mem_cons.mpr ⟨fz_g46, List.forall_mem_cons.mpr ⟨fz_g47, List.forall_mem_cons.mpr ⟨fz_g50, List.forall_mem_cons.mpr ⟨fz_g51, List.forall_mem_cons.mpr ⟨fz_g54, List.forall_mem_cons.mpr ⟨fz_g55, List.forall_mem_cons.mpr ⟨fz_g58, List.forall_mem_cons.mpr ⟨fz_g59, List.forall_mem_cons.mpr ⟨fz_g60, List.forall_mem_cons.mpr ⟨fz_g61, fun _ h => absurd h List.not_mem_nil⟩⟩⟩⟩⟩⟩⟩⟩⟩⟩, List.forall_mem_cons.mpr ⟨List.forall_mem_cons.mpr ⟨fz_g62, List.forall_mem_cons.mpr ⟨fz_g65, List.forall_mem_cons.mpr ⟨fz_g66, List.forall_mem_cons.mpr ⟨fz_g76, List.forall_mem_cons.mpr ⟨fz_g77, List.forall_mem_cons.mpr ⟨fz_g78, List.forall_mem_cons.mpr ⟨fz_g79, List.forall_mem_cons.mpr ⟨fz_g80, List.forall_mem_cons.mpr ⟨fz_g83, List.forall_mem_cons.mpr ⟨fz_g84, fun _ h => absurd h List.not_mem_nil⟩⟩⟩⟩⟩⟩⟩⟩⟩⟩, List.forall_mem_cons.mpr ⟨List.forall_mem_cons.mpr ⟨fz_g87, List.forall_mem_cons.mpr ⟨fz_g88, List.forall_mem_cons.mpr ⟨fz_g89, List.forall_mem_cons.mpr ⟨fz_g92, List.forall_mem_cons.mpr ⟨fz_g96, List.forall_mem_cons.mpr ⟨fz_g97, List.forall_mem_cons.mpr ⟨fz_g100, List.forall_mem_cons.mpr ⟨fz_g101, List.forall_mem_cons.mpr ⟨fz_g104, List.forall_mem_cons.mpr ⟨fz_g105, fun _ h => absurd h List.not_mem_nil⟩⟩⟩⟩⟩⟩⟩⟩⟩⟩, List.forall_mem_cons.mpr ⟨List.forall_mem_cons.mpr ⟨fz_g109, List.forall_mem_cons.mpr ⟨fz_g112, List.forall_mem_cons.mpr ⟨fz_g113, List.forall_mem_cons.mpr ⟨fz_g120, List.forall_mem_cons.mpr ⟨fz_g121, List.forall_mem_cons.mpr ⟨fz_g122, List.forall_mem_cons.mpr ⟨fz_g123, List.forall_mem_cons.mpr ⟨fz_g124, List.forall_mem_cons.mpr ⟨fz_g126, List.forall_mem_cons.mpr ⟨fz_g127, fun _ h => absurd h List.not_mem_nil⟩⟩⟩⟩⟩⟩⟩⟩⟩⟩, List.forall_mem_cons.mpr ⟨List.forall_mem_cons.mpr ⟨fz_g128, List.forall_mem_cons.mpr ⟨fz_g129, List.forall_mem_cons.mpr ⟨fz_g132, List.forall_mem_cons.mpr ⟨fz_g133, List.forall_mem_cons.mpr ⟨fz_g136, List.forall_mem_cons.mpr ⟨fz_g145, List.forall_mem_cons.mpr ⟨fz_g147, List.forall_mem_cons.mpr ⟨fz_g148, List.forall_mem_cons.mpr ⟨fz_g153, List.forall_mem_cons.mpr ⟨fz_g154, fun _ h => absurd h List.not_mem_nil⟩⟩⟩⟩⟩⟩⟩⟩⟩⟩, List.forall_mem_cons.mpr ⟨List.forall_mem_cons.mpr ⟨fz_g155, List.forall_mem_cons.mpr ⟨fz_g156, List.forall_mem_cons.mpr ⟨fz_g157, List.forall_mem_cons.mpr ⟨fz_g158, List.forall_mem_cons.mpr ⟨fz_g159, List.forall_mem_cons.mpr ⟨fz_g160, List.forall_mem_cons.mpr ⟨fz_g161, List.forall_mem_cons.mpr ⟨fz_g162, List.forall_mem_cons.mpr ⟨fz_g163, List.forall_mem_cons.mpr ⟨fz_g164, fun _ h => absurd h List.not_mem_nil⟩⟩⟩⟩⟩⟩⟩⟩⟩⟩, List.forall_mem_cons.mpr ⟨List.forall_mem_cons.mpr ⟨fz_g167, List.forall_mem_cons.mpr ⟨fz_g172, List.forall_mem_cons.mpr ⟨fz_g173, List.forall_mem_cons.mpr ⟨fz_g176, List.forall_mem_cons.mpr ⟨fz_g177, List.forall_mem_cons.mpr ⟨fz_g180, List.forall_mem_cons.mpr ⟨fz_g181, List.forall_mem_cons.mpr ⟨fz_g182, List.forall_mem_cons.mpr ⟨fz_g183, List.forall_mem_cons.mpr ⟨fz_g184, fun _ h => absurd h List.not_mem_nil⟩⟩⟩⟩⟩⟩⟩⟩⟩⟩, List.forall_mem_cons.mpr ⟨List.forall_mem_cons.mpr ⟨fz_g187, List.forall_mem_cons.mpr ⟨fz_g189, List.forall_mem_cons.mpr ⟨fz_g190, List.forall_mem_cons.mpr ⟨fz_g198, List.forall_mem_cons.mpr ⟨fz_g199, fun _ h => absurd h List.not_mem_nil⟩⟩⟩⟩⟩, fun _ h => absurd h List.not_mem_nil⟩⟩⟩⟩⟩⟩⟩⟩⟩⟩⟩
def fz_dec (l : List UInt8) : Option (Instr × Nat) := match l with
  | [] => none
  | b :: r => (lk2 fz_T b.toNat).bind (fun F => (fz_run F r).bind (fun y => some (y.1, 1 + y.2)))
theorem fz_ok {cc : ByteArray} {pc : Nat} {x : Instr × Nat} (h : fz_dec (cc.data.toList.drop pc) = some x) : decode cc pc = .ok x := by
  cases hl : cc.data.toList.drop pc with
  | nil => rw [hl] at h; cases (show (none : Option (Instr × Nat)) = some x from h)
  | cons b r =>
    rw [hl] at h
    have h : (lk2 fz_T b.toNat).bind (fun F => (fz_run F r).bind (fun y => some (y.1, 1 + y.2))) = some x := h
    obtain ⟨F, hF, h2⟩ := Option.bind_eq_some_iff.mp h
    obtain ⟨y, hy, h3⟩ := Option.bind_eq_some_iff.mp h2
    cases h3
    obtain ⟨c, hc1, hc2⟩ := lk2_mem hF
    have hT := (fz_T_ok c hc1 _ hc2 cc pc (pc + 1) (fz_u1 hl)).trans (fz_run_ok (fz_tl hl) hy)
    have e : decode cc pc = Except.bind (Jvm.ClassFile.Reader.runAt (Jvm.ClassFile.Decoder.instr pc) cc pc) (fun r => .ok (r.1, r.2 - pc)) := rfl
    rw [e, hT]
    show Except.ok (y.1, pc + 1 + y.2 - pc) = _
    rw [show pc + 1 + y.2 - pc = 1 + y.2 by omega]
def fz_chk (o pc : Nat) (q : AI × Nat) (dd : Except DecodeError (Instr × Nat)) : Bool := match q.1 with
  | .inl v => kchk o v q.2 dd
  | .inr (.inl i) => decide (dd = .ok (i, q.2)) && (match i with | .newarray _ => Nat.beq q.2 2 | _ => Nat.beq q.2 1)
  | .inr (.inr (op, a, b, v)) => ochk o op a b v pc q.2 dd
theorem fz_chk_eq (o : Nat) (cc : ByteArray) (pc : Nat) (q : AI × Nat) : achk o cc pc q = fz_chk o pc q (decode cc pc) := by
  obtain ⟨a, n⟩ := q
  rcases a with v | i | ⟨op, a, b, v⟩ <;> rfl
def fz_one (o : Nat) (cc : ByteArray) (pc : Nat) (q : AI × Nat) (l : List UInt8) : Bool := match fz_dec l with
  | some x => fz_chk o pc q (.ok x)
  | none => achk o cc pc q
theorem fz_one_ok {o : Nat} {cc : ByteArray} {pc : Nat} {q : AI × Nat} (h : fz_one o cc pc q (cc.data.toList.drop pc) = true) : achk o cc pc q = true := by
  unfold fz_one at h
  cases hd : fz_dec (cc.data.toList.drop pc) with
  | none => rw [hd] at h; exact h
  | some x => rw [hd] at h; rw [fz_chk_eq, fz_ok hd]; exact h
def fz_cs {β : Type} (f : List UInt8 → β) (l : List UInt8) : β := match l with
  | [] => f []
  | b :: r => f (b :: r)
theorem fz_cs_eq {β : Type} (f : List UInt8 → β) (l : List UInt8) : fz_cs f l = f l := by cases l <;> rfl
def fz_wlk (o : Nat) (cc : ByteArray) : List (Nat × AI × Nat) → Nat → List UInt8 → Bool
  | [], _, _ => true
  | q :: L, pc, l => Nat.beq q.1 pc && (fz_one o cc q.1 q.2 l && fz_cs (fun l' => fz_wlk o cc L (q.1 + q.2.2) l') (l.drop q.2.2))
theorem fz_wlk_ok {o : Nat} {cc : ByteArray} : ∀ {L : List (Nat × AI × Nat)} {pc : Nat} {l : List UInt8}, cc.data.toList.drop pc = l → fz_wlk o cc L pc l = true → L.all (fun q => achk o cc q.1 q.2) = true
  | [], _, _, _, _ => rfl
  | q :: L, pc, l, hl, h => by
    have h : (Nat.beq q.1 pc && (fz_one o cc q.1 q.2 l && fz_cs (fun l' => fz_wlk o cc L (q.1 + q.2.2) l') (l.drop q.2.2))) = true := h
    rw [Bool.and_eq_true, Bool.and_eq_true, fz_cs_eq] at h
    obtain ⟨h1, h2, h3⟩ := h
    have e := Nat.eq_of_beq_eq_true h1
    subst e
    subst hl
    rw [List.drop_drop] at h3
    rw [List.all_cons, Bool.and_eq_true]
    exact ⟨fz_one_ok h2, fz_wlk_ok rfl h3⟩
def fz_flt {α : Type} : List (Nat × List α) → List α
  | [] => []
  | c :: cs => c.2 ++ fz_flt cs
theorem fz_flt_all {α : Type} {P : α → Bool} : ∀ {cs : List (Nat × List α)}, (fz_flt cs).all P = true → cs.all (fun c => c.2.all P) = true
  | [], _ => rfl
  | c :: cs, h => by
    have h : (c.2 ++ fz_flt cs).all P = true := h
    rw [List.all_append, Bool.and_eq_true] at h
    rw [List.all_cons, Bool.and_eq_true]
    exact ⟨h.1, fz_flt_all h.2⟩
theorem fz_mchk {X : MD} (h : fz_wlk (md_o X) (md_b X) (fz_flt (md_c X)) 0 (md_b X).data.toList = true) : mchk X = true := fz_flt_all (fz_wlk_ok (pc := 0) rfl h)
end
