/-! String.length and String.charAt of the String constants, as JDK 17 has them. -/
def wsJ (y : MethodName) (b : ByteArray) (L : Nat) (r : Option FieldType) : List Jvm.Cond := Jvm.Cond.code y b L r :: lw_t2
def SOk (G : SG) (sc : Nat × (Nat → Int32)) (adV : Nat → Nat) (U : State) : Prop := Old G sc adV U U.heap ∧ G.1 ≤ U.heap.size
theorem SOk.blind {G : SG} {sc : Nat × (Nat → Int32)} {adV : Nat → Nat} (vs : List Value) : FrameBlind (va_Pc vs (SOk G sc adV)) := by
  intro a U g mk h
  obtain ⟨e, h1, h2⟩ := h
  exact ⟨e, h1.same rfl rfl, h2⟩
def yJ_prec : MethodName := ⟨"jdk/internal/util/Preconditions", "checkIndex", "(IILjava/util/function/BiFunction;)I"⟩
def yJ_chk : MethodName := ⟨"java/lang/String", "checkIndex", "(II)V"⟩
def yJ_l1 : MethodName := ⟨"java/lang/StringLatin1", "charAt", "([BI)C"⟩
def yJ_coder : MethodName := ⟨"java/lang/String", "coder", "()B"⟩
def yJ_isl : MethodName := ⟨"java/lang/String", "isLatin1", "()Z"⟩
def yJ_len : MethodName := ⟨"java/lang/String", "length", "()I"⟩
def yJ_charAt : MethodName := ⟨"java/lang/String", "charAt", "(I)C"⟩
def rmJ (d : Nat) : Room := { frames := d, cells := 0, slots := 0, locals := 40 * d }
section JSTR
variable {p : Program} {l : Launch} {e : Env} {R : Room} {s : State} {m : MethodId} {args : Array Value} {below : List Frame} {meth : Method} {c : Code} {H : Heap} {locs : List Loc} {cells slots : Nat} {Q : State → Prop}
variable {G : SG} {sc : Nat × (Nat → Int32)} {adV : Nat → Nat}
theorem cbJ {own : String} {idx L n d : Nat} {y : MethodName} {b : ByteArray} {r : Option FieldType} (hts : ∀ w ∈ lw_t2, w.before args s = true) (h1 : Jvm.Cond.code y b L r ∈ lw_tbl) (h2 : Jvm.Cond.initialized y.cls ∈ lw_tbl) (h3 : Jvm.Cond.methodLink own idx y ∈ lw_tbl) (hne : y.cls ≠ "java/lang/invoke/MethodHandle" ∧ y.cls ≠ "java/lang/invoke/VarHandle") (hn : (parseMethodDescriptor y.desc).map (fun d => d.parameters.length) = some n) (hL : L ≤ 20) (hf : d + 1 ≤ R.frames) (hl : 40 * (d + 1) ≤ R.locals) : CallB R s args own idx y b L r (wsJ y b L r) (rmJ d) 0 0 n := by
  refine ⟨rfl, rfl, hf, by show 8 + (L + 11) + 40 * d ≤ R.locals; omega, fun w hw a' U hW => ?_, List.mem_cons_self, hts _ (t2_in h1 rfl), hts _ (t2_in h2 rfl), hne, fun sig h => ?_, hts _ (t2_in h3 rfl)⟩
  · rcases List.mem_cons.mp hw with h | h
    · subst h; exact lw_go hW hts _ (t2_in h1 rfl)
    · exact lw_go hW hts w h
  · rw [h] at hn
    exact (Option.some.inj hn).symm
set_option maxHeartbeats 4000000 in
set_option maxRecDepth 100000 in
theorem c_prec (l : Launch) (d : Nat) (i n : Int32) (v : Value) (hc : v.category = 1) (h0 : ¬ i < 0) (h1 : i < n) : Met l yJ_prec (wsJ yJ_prec prog_19_method_11_code 3 (some .int)) (rmJ d) (va_Pc [.int i, .int n, v] (SOk G sc adV)) (vp_Si (fun _ => True)) 0 0 (fun _ => False) := by
  refine Met.ofW (cc := prog_19_method_11_code) (maxL := 3) (ret := some .int) (by decide) rfl ?_
  intro p e s m args below meth c s₁ B hml hv
  obtain ⟨rfl, hO, hG⟩ := hv
  have hx := B.exec
  have hb := B.bytes
  have hr := B.returns
  have hlocks := B.notSynchronized
  have hl := lv_entry ([.int i, .int n, v]) (n := 3) (by rw [lg_len]; show 1 + (1 + (v.category + 0)) ≤ 3; omega)
  rw [lg_entry_eq]
  generalize (lg_sl ([.int i, .int n, v]) ++ List.replicate (3 - (lg_sl ([.int i, .int n, v])).length) Slot.unset).toArray = ls at hl ⊢
  replace hl : lv_has ls 3 [(0, .int i), (1, .int n), (2, v)] := hl
  refine lv_iload_n (k := 0) hx hb (by decide +kernel) rfl (lv_at hl 0 rfl) ?_
  refine lv_if_lt (off := 8) (tgt := 9) hx hb (by decide +kernel) (by decide) (fun h => absurd h h0) (fun _ => ?_)
  refine lv_iload_n (k := 0) hx hb (by decide +kernel) rfl (lv_at hl 0 rfl) ?_
  refine lv_iload_n (k := 1) hx hb (by decide +kernel) rfl (lv_at hl 1 rfl) ?_
  refine lv_icmp_lt (off := 10) (tgt := 16) hx hb (by decide +kernel) (by decide) (fun _ => ?_) (fun h => absurd h1 h)
  refine lv_iload_n (k := 0) hx hb (by decide +kernel) rfl (lv_at hl 0 rfl) ?_
  exact W.iret hx hb hr (fun t ht hW => ⟨_, rfl, trivial, ht⟩) (fun _ h => by cases h) (by decide +kernel)
set_option maxHeartbeats 4000000 in
set_option maxRecDepth 100000 in
theorem c_chk (l : Launch) (d : Nat) (i n : Int32) (h0 : ¬ i < 0) (h1 : i < n) : Met l yJ_chk (wsJ yJ_chk prog_15_method_155_code 2 none) (rmJ (d + 1)) (va_Pc [.int i, .int n] (SOk G sc adV)) (va_Sv (fun _ => True)) 0 0 (fun _ => False) := by
  refine Met.ofW (cc := prog_15_method_155_code) (maxL := 2) (ret := none) (by decide) rfl ?_
  intro p e s m args below meth c s₁ B hml hv
  obtain ⟨rfl, hO, hG⟩ := hv
  have hx := B.exec
  have hb := B.bytes
  have hr := B.returns
  have hlocks := B.notSynchronized
  have hts0 := atoms_spec (ws := wsJ yJ_chk prog_15_method_155_code 2 none) B.pre
  have hts : ∀ w ∈ lw_t2, w.before #[Value.int i, .int n] s = true := fun w hw => hts0 w (List.mem_cons_of_mem _ hw)
  have hown : s.vm.findClass "java/lang/String" = some m.cls := findClass_of_methodNamed B.named
  have hS : va_S (fun q => G.1 ≤ q) s.heap s.heap [] := va_S.rf
  have hl := lv_entry ([.int i, .int n]) (n := 2) (Nat.le_of_ble_eq_true rfl)
  rw [lg_entry_eq]
  generalize (lg_sl ([.int i, .int n]) ++ List.replicate (2 - (lg_sl ([.int i, .int n])).length) Slot.unset).toArray = ls at hl ⊢
  replace hl : lv_has ls 2 [(0, .int i), (1, .int n)] := hl
  refine lv_iload_n (k := 0) hx hb (by decide +kernel) rfl (lv_at hl 0 rfl) ?_
  refine lv_iload_n (k := 1) hx hb (by decide +kernel) rfl (lv_at hl 1 rfl) ?_
  have fin : ∀ v : Value, v.category = 1 → va_Z "jdk/internal/util/Preconditions" "SIOOBE_FORMATTER" "Ljava/util/function/BiFunction;" v (fun q => G.1 ≤ q) s s.heap → W p l e (headSpec (wsJ yJ_chk prog_15_method_155_code 2 none) (rmJ (d + 1))).room s m #[Value.int i, .int n] below meth c s.heap [] 0 0 (MQ below (va_Sv (fun _ => True)) #[Value.int i, .int n] s 0 0 (fun _ => False)) (F0 m (0 + 1 + 1) ls [.int n, .int i]) := by
    intro v hc hZ
    refine va_gets (index := 1053) hx hb hZ hS hown (hts _ (t2_in (List.mem_of_getElem? (i := 569) rfl) rfl)) (fun _ h => h) (by decide +kernel) ?_
    refine vp_callSi (W.runS (As := [.int i, .int n, v]) (rest := []) (n := 3) (ret := some .int) ⟨hx, hb, hml, hown, hts⟩ (c_prec (G := G) (sc := sc) (adV := adV) l d i n v hc h0 h1) ⟨cbJ (idx := 1059) hts (List.mem_of_getElem? (i := 573) rfl) (List.mem_of_getElem? (i := 101) rfl) (List.mem_of_getElem? (i := 571) rfl) ⟨by decide, by decide⟩ (by decide +kernel) (by decide) (Nat.le_refl _) (Nat.le_refl _), hts _ (t2_in (List.mem_of_getElem? (i := 572) rfl) rfl)⟩ ⟨SOk.blind _, fun U hU hW => ⟨rfl, hO.go hG hS hU hW, by rw [hU]; exact hG⟩⟩ rfl rfl hl.1 rfl (lv_room (Nat.zero_le _)) (show decode prog_15_method_155_code 5 = .ok (.invokestatic 1059, 3) from by decide +kernel) ⟨Nat.le_refl _, Nat.le_refl _⟩) (fun r _ => ?_)
    refine lv_pop hx hb (by decide +kernel) rfl ?_
    exact W.vret hx hb hr (fun t ht hW => ⟨rfl, trivial, ht⟩) (fun _ h => by cases h) (by decide +kernel)
  rcases hO.2.2.2.2.2 with h | ⟨t, h⟩
  · exact fin .null rfl h
  · exact fin (.ref t) rfl h
set_option maxHeartbeats 4000000 in
set_option maxRecDepth 100000 in
theorem c_l1 (l : Launch) (d i : Nat) (j : Int32) (hi : i < 21) (hj : vp_in j (slen.getD i 0)) (hbyte : ∀ z, z < slen.getD i 0 → (((sbyt.getD i []).getD z 0 &&& 255).toUInt32 % 65536).toInt32 = (sbyt.getD i []).getD z 0 ∧ narrow .char (.int ((sbyt.getD i []).getD z 0)) = .int ((sbyt.getD i []).getD z 0)) (hlen : slen.getD i 0 < 2 ^ 31) : Met l yJ_l1 (wsJ yJ_l1 prog_16_method_2_code 2 (some .char)) (rmJ (d + 2)) (va_Pc [.ref (adV i), .int j] (SOk G sc adV)) (vp_Si (fun r => r = (sbyt.getD i []).getD j.toNatClampNeg 0)) 0 0 (fun _ => False) := by
  refine Met.ofW (cc := prog_16_method_2_code) (maxL := 2) (ret := some .char) (by decide) rfl ?_
  intro p e s m args below meth c s₁ B hml hv
  obtain ⟨rfl, hO, hG⟩ := hv
  have hx := B.exec
  have hb := B.bytes
  have hr := B.returns
  have hlocks := B.notSynchronized
  have hts0 := atoms_spec (ws := wsJ yJ_l1 prog_16_method_2_code 2 (some .char)) B.pre
  have hts : ∀ w ∈ lw_t2, w.before #[Value.ref (adV i), .int j] s = true := fun w hw => hts0 w (List.mem_cons_of_mem _ hw)
  have hown : s.vm.findClass "java/lang/StringLatin1" = some m.cls := findClass_of_methodNamed B.named
  have hS : va_S (fun q => G.1 ≤ q) s.heap s.heap [] := va_S.rf
  have hT := (hO.2.2.1.1 i hi).2.2.2
  have hl := lv_entry ([.ref (adV i), .int j]) (n := 2) (Nat.le_of_ble_eq_true rfl)
  rw [lg_entry_eq]
  generalize (lg_sl ([.ref (adV i), .int j]) ++ List.replicate (2 - (lg_sl ([.ref (adV i), .int j])).length) Slot.unset).toArray = ls at hl ⊢
  replace hl : lv_has ls 2 [(0, .ref (adV i)), (1, .int j)] := hl
  have hj0 : ¬ j < 0 := fun h => hj (Or.inl h)
  have hjn : j.toNatClampNeg < slen.getD i 0 := Nat.not_le.mp fun h => hj (Or.inr h)
  have hjlt : j < Int32.ofNat (slen.getD i 0) := by
    obtain ⟨z, hz, rfl⟩ := vp_in_of hj hlen
    exact nI_lt hz hlen
  refine lv_iload_n (k := 1) hx hb (by decide +kernel) rfl (lv_at hl 1 rfl) ?_
  refine lv_aload_n (k := 0) hx hb (by decide +kernel) rfl (lv_at hl 0 rfl) ?_
  refine va_tlen hx hb hT hS rfl (by decide +kernel) ?_
  refine va_csv (W.runS (As := [.int j, .int (Int32.ofNat (slen.getD i 0))]) (rest := []) (n := 2) (ret := none) ⟨hx, hb, hml, hown, hts⟩ (c_chk (G := G) (sc := sc) (adV := adV) l d j _ hj0 hjlt) ⟨cbJ (idx := 9) hts (List.mem_of_getElem? (i := 568) rfl) (List.mem_of_getElem? (i := 99) rfl) (List.mem_of_getElem? (i := 566) rfl) ⟨by decide, by decide⟩ (by decide +kernel) (by decide) (Nat.le_refl _) (Nat.le_refl _), hts _ (t2_in (List.mem_of_getElem? (i := 567) rfl) rfl)⟩ ⟨SOk.blind _, fun U hU hW => ⟨rfl, hO.go hG hS hU hW, by rw [hU]; exact hG⟩⟩ rfl rfl hl.1 rfl (lv_room (Nat.zero_le _)) (show decode prog_16_method_2_code 3 = .ok (.invokestatic 9, 3) from by decide +kernel) ⟨Nat.le_refl _, Nat.le_refl _⟩) (fun _ => ?_)
  refine lv_aload_n (k := 0) hx hb (by decide +kernel) rfl (lv_at hl 0 rfl) ?_
  refine lv_iload_n (k := 1) hx hb (by decide +kernel) rfl (lv_at hl 1 rfl) ?_
  refine va_tb hx hb hT hS hj rfl (by decide +kernel) ?_
  refine lv_sipush (n := 255) (v := 255) hx hb (by decide +kernel) (by decide) ?_
  refine lv_iand hx hb (by decide +kernel) ?_
  refine lv_i2c hx hb (by decide +kernel) (hbyte _ hjn).1 ?_
  exact W.zret hx hb hr (hbyte _ hjn).2 (fun t ht hW => ⟨_, rfl, rfl, ht⟩) (fun _ h => by cases h) (by decide +kernel)
set_option maxHeartbeats 4000000 in
set_option maxRecDepth 100000 in
theorem c_coder (l : Launch) (d i : Nat) (hi : i < 21) : Met l yJ_coder (wsJ yJ_coder prog_15_method_152_code 1 (some .byte)) (rmJ d) (va_Pc [.ref (G.2.1 (3 + i))] (SOk G sc adV)) (vp_Si (fun r => r = 0)) 0 0 (fun _ => False) := by
  refine Met.ofW (cc := prog_15_method_152_code) (maxL := 1) (ret := some .byte) (by decide) rfl ?_
  intro p e s m args below meth c s₁ B hml hv
  obtain ⟨rfl, hO, hG⟩ := hv
  have hx := B.exec
  have hb := B.bytes
  have hr := B.returns
  have hlocks := B.notSynchronized
  have hts0 := atoms_spec (ws := wsJ yJ_coder prog_15_method_152_code 1 (some .byte)) B.pre
  have hts : ∀ w ∈ lw_t2, w.before #[Value.ref (G.2.1 (3 + i))] s = true := fun w hw => hts0 w (List.mem_cons_of_mem _ hw)
  have hown : s.vm.findClass "java/lang/String" = some m.cls := findClass_of_methodNamed B.named
  have hS : va_S (fun q => G.1 ≤ q) s.heap s.heap [] := va_S.rf
  have hl := lv_entry ([.ref (G.2.1 (3 + i))]) (n := 1) (Nat.le_of_ble_eq_true rfl)
  rw [lg_entry_eq]
  generalize (lg_sl ([.ref (G.2.1 (3 + i))]) ++ List.replicate (1 - (lg_sl ([.ref (G.2.1 (3 + i))])).length) Slot.unset).toArray = ls at hl ⊢
  replace hl : lv_has ls 1 [(0, .ref (G.2.1 (3 + i)))] := hl
  refine va_gets (index := 38) hx hb hO.2.2.2.2.1 hS hown (hts _ (t2_in (List.mem_of_getElem? (i := 553) rfl) rfl)) (fun _ h => h) (by decide +kernel) ?_
  refine lv_if_eq (off := 10) (tgt := 13) hx hb (by decide +kernel) (by decide) (fun h => absurd h (by decide)) (fun _ => ?_)
  refine lv_aload_n (k := 0) hx hb (by decide +kernel) rfl (lv_at hl 0 rfl) ?_
  refine vk_getf (index := 15) hx hb (hO.2.2.1.1 i hi).2.1 hS hown (hts _ (t2_in (List.mem_of_getElem? (i := 1777) rfl) rfl)) (fun _ h => h) (by decide +kernel) ?_
  refine lv_goto (off := 4) (tgt := 14) hx hb (by decide +kernel) (by decide) ?_
  exact W.zret hx hb hr rfl (fun t ht hW => ⟨_, rfl, rfl, ht⟩) (fun _ h => by cases h) (by decide +kernel)
set_option maxHeartbeats 4000000 in
set_option maxRecDepth 100000 in
theorem c_isl (l : Launch) (d i : Nat) (hi : i < 21) : Met l yJ_isl (wsJ yJ_isl prog_15_method_154_code 1 (some .boolean)) (rmJ d) (va_Pc [.ref (G.2.1 (3 + i))] (SOk G sc adV)) (vp_Si (fun r => r = 1)) 0 0 (fun _ => False) := by
  refine Met.ofW (cc := prog_15_method_154_code) (maxL := 1) (ret := some .boolean) (by decide) rfl ?_
  intro p e s m args below meth c s₁ B hml hv
  obtain ⟨rfl, hO, hG⟩ := hv
  have hx := B.exec
  have hb := B.bytes
  have hr := B.returns
  have hlocks := B.notSynchronized
  have hts0 := atoms_spec (ws := wsJ yJ_isl prog_15_method_154_code 1 (some .boolean)) B.pre
  have hts : ∀ w ∈ lw_t2, w.before #[Value.ref (G.2.1 (3 + i))] s = true := fun w hw => hts0 w (List.mem_cons_of_mem _ hw)
  have hown : s.vm.findClass "java/lang/String" = some m.cls := findClass_of_methodNamed B.named
  have hS : va_S (fun q => G.1 ≤ q) s.heap s.heap [] := va_S.rf
  have hl := lv_entry ([.ref (G.2.1 (3 + i))]) (n := 1) (Nat.le_of_ble_eq_true rfl)
  rw [lg_entry_eq]
  generalize (lg_sl ([.ref (G.2.1 (3 + i))]) ++ List.replicate (1 - (lg_sl ([.ref (G.2.1 (3 + i))])).length) Slot.unset).toArray = ls at hl ⊢
  replace hl : lv_has ls 1 [(0, .ref (G.2.1 (3 + i)))] := hl
  refine va_gets (index := 38) hx hb hO.2.2.2.2.1 hS hown (hts _ (t2_in (List.mem_of_getElem? (i := 553) rfl) rfl)) (fun _ h => h) (by decide +kernel) ?_
  refine lv_if_eq (off := 14) (tgt := 17) hx hb (by decide +kernel) (by decide) (fun h => absurd h (by decide)) (fun _ => ?_)
  refine lv_aload_n (k := 0) hx hb (by decide +kernel) rfl (lv_at hl 0 rfl) ?_
  refine vk_getf (index := 15) hx hb (hO.2.2.1.1 i hi).2.1 hS hown (hts _ (t2_in (List.mem_of_getElem? (i := 1777) rfl) rfl)) (fun _ h => h) (by decide +kernel) ?_
  refine lv_if_ne (off := 7) (tgt := 17) hx hb (by decide +kernel) (by decide) (fun h => absurd rfl h) (fun _ => ?_)
  refine lv_iconst (n := 1) (v := 1) hx hb (by decide +kernel) (by decide) ?_
  refine lv_goto (off := 4) (tgt := 18) hx hb (by decide +kernel) (by decide) ?_
  exact W.zret hx hb hr rfl (fun t ht hW => ⟨_, rfl, rfl, ht⟩) (fun _ h => by cases h) (by decide +kernel)
set_option maxHeartbeats 4000000 in
set_option maxRecDepth 100000 in
theorem c_len (l : Launch) (d i : Nat) (hi : i < 21) (hlen : slen.getD i 0 < 2 ^ 31) : Met l yJ_len (wsJ yJ_len prog_15_method_54_code 1 (some .int)) (rmJ (d + 1)) (va_Pc [.ref (G.2.1 (3 + i))] (SOk G sc adV)) (vp_Si (fun r => r = Int32.ofNat (slen.getD i 0))) 0 0 (fun _ => False) := by
  refine Met.ofW (cc := prog_15_method_54_code) (maxL := 1) (ret := some .int) (by decide) rfl ?_
  intro p e s m args below meth c s₁ B hml hv
  obtain ⟨rfl, hO, hG⟩ := hv
  have hx := B.exec
  have hb := B.bytes
  have hr := B.returns
  have hlocks := B.notSynchronized
  have hts0 := atoms_spec (ws := wsJ yJ_len prog_15_method_54_code 1 (some .int)) B.pre
  have hts : ∀ w ∈ lw_t2, w.before #[Value.ref (G.2.1 (3 + i))] s = true := fun w hw => hts0 w (List.mem_cons_of_mem _ hw)
  have hown : s.vm.findClass "java/lang/String" = some m.cls := findClass_of_methodNamed B.named
  have hS : va_S (fun q => G.1 ≤ q) s.heap s.heap [] := va_S.rf
  have hE := hO.2.2.1.1 i hi
  have hl := lv_entry ([.ref (G.2.1 (3 + i))]) (n := 1) (Nat.le_of_ble_eq_true rfl)
  rw [lg_entry_eq]
  generalize (lg_sl ([.ref (G.2.1 (3 + i))]) ++ List.replicate (1 - (lg_sl ([.ref (G.2.1 (3 + i))])).length) Slot.unset).toArray = ls at hl ⊢
  replace hl : lv_has ls 1 [(0, .ref (G.2.1 (3 + i)))] := hl
  refine lv_aload_n (k := 0) hx hb (by decide +kernel) rfl (lv_at hl 0 rfl) ?_
  refine vk_getf (index := 9) hx hb hE.2.2.1 hS hown (hts _ (t2_in (List.mem_of_getElem? (i := 1776) rfl) rfl)) (fun _ h => h) (by decide +kernel) ?_
  refine va_tlen hx hb hE.2.2.2 hS rfl (by decide +kernel) ?_
  refine lv_aload_n (k := 0) hx hb (by decide +kernel) rfl (lv_at hl 0 rfl) ?_
  refine vp_callSi (W.runV (C := "java/lang/String") (As := []) (rest := [.int (Int32.ofNat (slen.getD i 0))]) (n := 0) (ret := some .byte) ⟨hx, hb, hml, hown, hts⟩ (c_coder (G := G) (sc := sc) (adV := adV) l d i hi) ⟨cbJ (idx := 335) hts (List.mem_of_getElem? (i := 552) rfl) (List.mem_of_getElem? (i := 99) rfl) (List.mem_of_getElem? (i := 549) rfl) ⟨by decide, by decide⟩ (by decide +kernel) (by decide) (Nat.le_refl _) (Nat.le_refl _), hts _ (t2_in (List.mem_of_getElem? (i := 550) rfl) rfl), hts _ (t2_in (List.mem_of_getElem? (i := 551) rfl) rfl)⟩ ⟨SOk.blind _, vk_recv hO.2.2.1 hi hS, fun U hU hW => ⟨rfl, hO.go hG hS hU hW, by rw [hU]; exact hG⟩⟩ rfl rfl hl.1 rfl (lv_room (Nat.le_of_ble_eq_true rfl)) (show decode prog_15_method_54_code 6 = .ok (.invokevirtual 335, 3) from by decide +kernel) ⟨Nat.le_refl _, Nat.le_refl _⟩) (fun r hr0 => ?_)
  subst hr0
  refine lv_ishr hx hb (by decide +kernel) ?_
  exact W.iret hx hb hr (fun t ht hW => ⟨_, rfl, sb_shr0 _, ht⟩) (fun _ h => by cases h) (by decide +kernel)
set_option maxHeartbeats 4000000 in
set_option maxRecDepth 100000 in
theorem c_charAt (l : Launch) (d i : Nat) (j : Int32) (hi : i < 21) (hj : vp_in j (slen.getD i 0)) (hbyte : ∀ z, z < slen.getD i 0 → (((sbyt.getD i []).getD z 0 &&& 255).toUInt32 % 65536).toInt32 = (sbyt.getD i []).getD z 0 ∧ narrow .char (.int ((sbyt.getD i []).getD z 0)) = .int ((sbyt.getD i []).getD z 0)) (hlen : slen.getD i 0 < 2 ^ 31) : Met l yJ_charAt (wsJ yJ_charAt prog_15_method_56_code 2 (some .char)) (rmJ (d + 3)) (va_Pc [.ref (G.2.1 (3 + i)), .int j] (SOk G sc adV)) (vp_Si (fun r => r = (sbyt.getD i []).getD j.toNatClampNeg 0)) 0 0 (fun _ => False) := by
  refine Met.ofW (cc := prog_15_method_56_code) (maxL := 2) (ret := some .char) (by decide) rfl ?_
  intro p e s m args below meth c s₁ B hml hv
  obtain ⟨rfl, hO, hG⟩ := hv
  have hx := B.exec
  have hb := B.bytes
  have hr := B.returns
  have hlocks := B.notSynchronized
  have hts0 := atoms_spec (ws := wsJ yJ_charAt prog_15_method_56_code 2 (some .char)) B.pre
  have hts : ∀ w ∈ lw_t2, w.before #[Value.ref (G.2.1 (3 + i)), .int j] s = true := fun w hw => hts0 w (List.mem_cons_of_mem _ hw)
  have hown : s.vm.findClass "java/lang/String" = some m.cls := findClass_of_methodNamed B.named
  have hS : va_S (fun q => G.1 ≤ q) s.heap s.heap [] := va_S.rf
  have hE := hO.2.2.1.1 i hi
  have hl := lv_entry ([.ref (G.2.1 (3 + i)), .int j]) (n := 2) (Nat.le_of_ble_eq_true rfl)
  rw [lg_entry_eq]
  generalize (lg_sl ([.ref (G.2.1 (3 + i)), .int j]) ++ List.replicate (2 - (lg_sl ([.ref (G.2.1 (3 + i)), .int j])).length) Slot.unset).toArray = ls at hl ⊢
  replace hl : lv_has ls 2 [(0, .ref (G.2.1 (3 + i))), (1, .int j)] := hl
  have hjn : j.toNatClampNeg < slen.getD i 0 := Nat.not_le.mp fun h => hj (Or.inr h)
  refine lv_aload_n (k := 0) hx hb (by decide +kernel) rfl (lv_at hl 0 rfl) ?_
  refine vp_callSi (W.runV (C := "java/lang/String") (As := []) (rest := []) (n := 0) (ret := some .boolean) ⟨hx, hb, hml, hown, hts⟩ (c_isl (G := G) (sc := sc) (adV := adV) l (d + 2) i hi) ⟨cbJ (idx := 492) hts (List.mem_of_getElem? (i := 562) rfl) (List.mem_of_getElem? (i := 99) rfl) (List.mem_of_getElem? (i := 559) rfl) ⟨by decide, by decide⟩ (by decide +kernel) (by decide) (Nat.le_refl _) (Nat.le_refl _), hts _ (t2_in (List.mem_of_getElem? (i := 560) rfl) rfl), hts _ (t2_in (List.mem_of_getElem? (i := 561) rfl) rfl)⟩ ⟨SOk.blind _, vk_recv hO.2.2.1 hi hS, fun U hU hW => ⟨rfl, hO.go hG hS hU hW, by rw [hU]; exact hG⟩⟩ rfl rfl hl.1 rfl (lv_room (Nat.le_of_ble_eq_true rfl)) (show decode prog_15_method_56_code 1 = .ok (.invokevirtual 492, 3) from by decide +kernel) ⟨Nat.le_refl _, Nat.le_refl _⟩) (fun r hr0 => ?_)
  subst hr0
  refine lv_if_eq (off := 12) (tgt := 16) hx hb (by decide +kernel) (by decide) (fun h => absurd h (by decide)) (fun _ => ?_)
  refine lv_aload_n (k := 0) hx hb (by decide +kernel) rfl (lv_at hl 0 rfl) ?_
  refine vk_getf (index := 9) hx hb hE.2.2.1 hS hown (hts _ (t2_in (List.mem_of_getElem? (i := 1776) rfl) rfl)) (fun _ h => h) (by decide +kernel) ?_
  refine lv_iload_n (k := 1) hx hb (by decide +kernel) rfl (lv_at hl 1 rfl) ?_
  refine vp_callSi (W.runS (As := [.ref (adV i), .int j]) (rest := []) (n := 2) (ret := some .char) ⟨hx, hb, hml, hown, hts⟩ (c_l1 (G := G) (sc := sc) (adV := adV) l d i j hi hj hbyte hlen) ⟨cbJ (idx := 495) hts (List.mem_of_getElem? (i := 565) rfl) (List.mem_of_getElem? (i := 100) rfl) (List.mem_of_getElem? (i := 563) rfl) ⟨by decide, by decide⟩ (by decide +kernel) (by decide) (Nat.le_refl _) (Nat.le_refl _), hts _ (t2_in (List.mem_of_getElem? (i := 564) rfl) rfl)⟩ ⟨SOk.blind _, fun U hU hW => ⟨rfl, hO.go hG hS hU hW, by rw [hU]; exact hG⟩⟩ rfl rfl hl.1 rfl (lv_room (Nat.le_of_ble_eq_true rfl)) (show decode prog_15_method_56_code 12 = .ok (.invokestatic 495, 3) from by decide +kernel) ⟨Nat.le_refl _, Nat.le_refl _⟩) (fun r hr0 => ?_)
  subst hr0
  exact W.zret hx hb hr (hbyte _ hjn).2 (fun t ht hW => ⟨_, rfl, rfl, ht⟩) (fun _ h => by cases h) (by decide +kernel)
end JSTR
