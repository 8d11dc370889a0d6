/-! The JDK's own, and SOUNDNESS itself. -/
def bnm (op : Nat) : MethodName := bif Nat.beq op 7 then yJ_len else bif Nat.beq op 8 then yJ_charAt else bif Nat.beq op 9 then arraycopyName else bif Nat.beq op 10 then objectInit else bif Nat.beq op 11 then Lib.Math.min.name else Lib.Math.max.name
set_option maxRecDepth 100000 in
theorem blT_all : blT.all (fun c => c.2.all (fun q => decide (lw_tbl[q.2.2]? = some (Jvm.Cond.methodLink (cnm (q.1 / 1000)) (q.1 % 1000) (bnm q.2.1))))) = true := by decide +kernel
set_option maxHeartbeats 4000000 in
theorem ochk_b {o op a b pc len : Nat} {v : Value} {dd : Except DecodeError (Instr × Nat)} (ho : op = 7 ∨ op = 8 ∨ op = 9 ∨ op = 10 ∨ op = 11 ∨ op = 12) (h : ochk o op a b v pc len dd = true) : ∃ i x : Nat, len = 3 ∧ i < 1000 ∧ lk2 blT (1000 * o + i) = some (op, x) ∧ ((dd = .ok (.invokevirtual i, 3) ∧ (op = 7 ∨ op = 8)) ∨ (dd = .ok (.invokespecial i, 3) ∧ op = 10) ∨ (dd = .ok (.invokestatic i, 3) ∧ (op = 9 ∨ op = 11 ∨ op = 12))) := by
  rcases ho with rfl | rfl | rfl | rfl | rfl | rfl
  all_goals
    unfold ochk at h
    split at h
    all_goals try exact absurd (show false = true from h) (by decide)
    all_goals first
      | (rename_i cnd off
         rw [Bool.and_eq_true] at h
         revert h
         cases cnd <;> exact fun h => absurd (show false = true from h.2) (by decide))
      | (rename_i i
         simp only [Bool.and_eq_true] at h
         obtain ⟨⟨h1, h2⟩, h3⟩ := h
         have h1 := Nat.eq_of_beq_eq_true h1
         have h2 : i < 1000 := Nat.le_of_ble_eq_true h2
         split at h3
         · exact absurd (show false = true from h3) (by decide)
         · split at h3
           · rename_i pp x hl
             simp only [Bool.and_eq_true] at h3
             have g1 := Nat.eq_of_beq_eq_true h3.1
             subst g1
             first
               | exact absurd (show false = true from h3.2) (by decide)
               | exact ⟨i, x, h1, h2, hl, Or.inl ⟨rfl, by decide⟩⟩
               | exact ⟨i, x, h1, h2, hl, Or.inr (Or.inl ⟨rfl, by decide⟩)⟩
               | exact ⟨i, x, h1, h2, hl, Or.inr (Or.inr ⟨rfl, by decide⟩)⟩
           · cases h3)
theorem sb_all : (List.range 21).all (fun i => Nat.blt (slen.getD i 0) 100 && (List.range (slen.getD i 0)).all (fun z => decide ((((sbyt.getD i []).getD z 0 &&& 255).toUInt32 % 65536).toInt32 = (sbyt.getD i []).getD z 0) && decide (narrow .char (.int ((sbyt.getD i []).getD z 0)) = .int ((sbyt.getD i []).getD z 0)))) = true := by decide +kernel
theorem sb_ok {i : Nat} (hi : i < 21) : slen.getD i 0 < 2 ^ 31 ∧ ∀ z, z < slen.getD i 0 → (((sbyt.getD i []).getD z 0 &&& 255).toUInt32 % 65536).toInt32 = (sbyt.getD i []).getD z 0 ∧ narrow .char (.int ((sbyt.getD i []).getD z 0)) = .int ((sbyt.getD i []).getD z 0) := by
  have h := List.all_eq_true.mp sb_all i (List.mem_range.mpr hi)
  rw [Bool.and_eq_true] at h
  have h1 : slen.getD i 0 < 100 := Nat.le_of_ble_eq_true h.1
  refine ⟨by omega, fun z hz => ?_⟩
  have h2 := List.all_eq_true.mp h.2 z (List.mem_range.mpr hz)
  rw [Bool.and_eq_true] at h2
  exact ⟨of_decide_eq_true h2.1, of_decide_eq_true h2.2⟩
theorem Wf.str {sc : Nat × (Nat → Int32)} {M : AM} (h : Wf sc M) {q n : Nat} {x : ADt} (hM : M q = .inl (8, n, x)) : ∃ i, i < 21 ∧ q = 3 + i ∧ n = slen.getD i 0 ∧ x = .inl (fun j => (sbyt.getD i []).getD j 0) := by
  obtain ⟨⟨n0, h0⟩, ⟨n1, h1⟩, h2, h3, h4, h5, h6⟩ := h
  by_cases a : 32 ≤ q
  · exact absurd (h6 q 8 n _ a hM) (by omega)
  · by_cases a0 : q = 0
    · subst a0; rw [hM] at h0; cases h0
    by_cases a1 : q = 1
    · subst a1; rw [hM] at h1; cases h1
    by_cases a2 : q = 2
    · subst a2
      rw [hM] at h2
      injection h2 with h2
      exact absurd (show (8 : Nat) = 7 from congrArg Prod.fst h2) (by decide)
    by_cases a3 : q < 24
    · have h7 := h3 (q - 3) (by omega)
      rw [show 3 + (q - 3) = q by omega, hM] at h7
      injection h7 with h7
      exact ⟨q - 3, by omega, by omega, congrArg (fun z => z.2.1) h7, congrArg (fun z => z.2.2) h7⟩
    · have := h4 q (by omega) (by omega)
      rw [hM] at this; cases this
theorem ad_str (G : SG) {i : Nat} (hi : i < 21) : cv G (.ref (3 + i)) = .ref (G.2.1 (3 + i)) := by
  show Value.ref (ad G (3 + i)) = _
  unfold ad
  rw [if_pos (by omega)]
section MAIN
variable {p : Program} {l : Launch} {e : Env} {R : Room} {s : State} {m : MethodId} {args : Array Value} {below : List Frame} {meth : Method} {c : Code} {H : Heap} {locs : List Loc} {cells slots : Nat} {Q : State → Prop}
variable {G : SG} {sc : Nat × (Nat → Int32)} {adV : Nat → Nat} {X : MD} {pc pc' len : Nat} {ls : Array Slot} {ll ll' : AL} {st st' : List Value} {M M' : AM}
set_option maxHeartbeats 4000000 in
set_option maxRecDepth 100000 in
theorem w_bstep {op a b N0 S0 : Nat} {v : Value} (F : FRm G sc adV X p s m args meth c) (hH : HR G sc s M H locs) (hL : LH G ls (md_L X) ll) (hc : ochk (md_o X) op a b v pc len (decode (md_b X) pc) = true) (hp : bstep op st M = some (st', M')) (hRc : cnt M 0 - N0 ≤ R.cells) (hRs : cnt M 1 - S0 ≤ R.slots) (hRf : 8 ≤ R.frames) (hRl : 320 ≤ R.locals)
    (k : ∀ (H' : Heap) (locs' : List Loc), HR G sc s M' H' locs' → cnt M' 0 = cnt M 0 → cnt M' 1 = cnt M 1 → W p l e R s m args below meth c H' locs' (cnt M 0 - N0) (cnt M 1 - S0) Q (F0 m (pc + len) ls (st'.map (cv G)))) : W p l e R s m args below meth c H locs (cnt M 0 - N0) (cnt M 1 - S0) Q (F0 m pc ls (st.map (cv G))) := by
  obtain ⟨hx, hb, hml, hown, hts, hin, hK, hO, hG⟩ := F
  have hop : op = 7 ∨ op = 8 ∨ op = 9 ∨ op = 10 ∨ op = 11 ∨ op = 12 := by
    unfold bstep at hp
    cases h10 : Nat.beq op 10 <;> rw [h10] at hp
    case true => have := Nat.eq_of_beq_eq_true h10; omega
    cases h7 : Nat.beq op 7 <;> rw [h7] at hp
    case true => have := Nat.eq_of_beq_eq_true h7; omega
    cases h8 : Nat.beq op 8 <;> rw [h8] at hp
    case true => have := Nat.eq_of_beq_eq_true h8; omega
    cases h9 : Nat.beq op 9 <;> rw [h9] at hp
    case true => have := Nat.eq_of_beq_eq_true h9; omega
    cases h11 : Nat.beq op 11 <;> rw [h11] at hp
    case true => have := Nat.eq_of_beq_eq_true h11; omega
    cases h12 : Nat.beq op 12 <;> rw [h12] at hp
    case true => have := Nat.eq_of_beq_eq_true h12; omega
    cases hp
  obtain ⟨i, x, hl3, hi, hbl, hd⟩ := ochk_b hop hc
  subst hl3
  have hlk := of_decide_eq_true (lk2_all blT_all hbl)
  rw [key1 hi, key2 hi] at hlk
  have hlink : (Jvm.Cond.methodLink (cnm (md_o X)) i (bnm op)).before args s = true := hts _ (t2_in (List.mem_of_getElem? hlk) rfl)
  have hml2 : c.maxLocals = ls.size := by rw [hml]; exact hL.1.symm
  rcases hop with rfl | rfl | rfl | rfl | rfl | rfl
  · -- String.length
    have hd : decode (md_b X) pc = .ok (.invokevirtual i, 3) := by rcases hd with ⟨h, -⟩ | ⟨-, h⟩ | ⟨-, h⟩ <;> first | exact h | omega
    replace hp : (match (generalizing := false) st with | .ref k :: r => (match M k with | .inl (t, n, _) => bif Nat.beq t 8 && Nat.ble r.length 4 then some (.int (Int32.ofNat n) :: r, M) else none | .inr _ => none) | _ => none) = some (st', M') := hp
    split at hp
    · rename_i q r
      split at hp
      · rename_i t n y hM
        cases hb1 : (Nat.beq t 8 && Nat.ble r.length 4) with
        | false => rw [hb1] at hp; cases hp
        | true =>
          rw [hb1] at hp
          cases hp
          rw [Bool.and_eq_true] at hb1
          have ht := Nat.eq_of_beq_eq_true hb1.1
          subst ht
          have hr4 : r.length ≤ 4 := Nat.le_of_ble_eq_true hb1.2
          obtain ⟨j, hj, rfl, rfl, -⟩ := hH.2.2.str hM
          have hsb := sb_ok hj
          rw [List.map_cons, ad_str G hj]
          refine vp_callSi (W.runV (C := "java/lang/String") (As := []) (rest := r.map (cv G)) (n := 0) (ret := some .int) ⟨hx, hb, hml, hown, hts⟩ (c_len (G := G) (sc := sc) (adV := adV) l 0 j hj hsb.1) ⟨cbJ (y := yJ_len) (d := 1) hts (List.mem_of_getElem? (i := 548) rfl) (List.mem_of_getElem? (i := 99) rfl) (List.mem_of_getElem? hlk) ⟨by decide, by decide⟩ (by decide +kernel) (by decide) (by omega) (by omega), hts _ (t2_in (List.mem_of_getElem? (i := 546) rfl) rfl), hts _ (t2_in (List.mem_of_getElem? (i := 547) rfl) rfl)⟩ ⟨SOk.blind _, vk_recv hO.2.2.1 hj hH.2.1, fun U hU hW => ⟨rfl, hO.go hG hH.2.1 hU hW, by rw [hU]; exact Nat.le_trans hG hH.2.1.1⟩⟩ rfl rfl hL.1 rfl (lv_room (rest_room hr4)) hd ⟨hRc, hRs⟩) (fun z hz => ?_)
          subst hz
          exact k H locs hH rfl rfl
      · cases hp
    · cases hp
  · -- String.charAt
    have hd : decode (md_b X) pc = .ok (.invokevirtual i, 3) := by rcases hd with ⟨h, -⟩ | ⟨-, h⟩ | ⟨-, h⟩ <;> first | exact h | omega
    replace hp : (match (generalizing := false) st with | .int j :: .ref k :: r => (match M k with | .inl (t, n, .inl f) => bif Nat.beq t 8 && ain j n && Nat.ble r.length 4 then some (.int (f j.toNatClampNeg) :: r, M) else none | _ => none) | _ => none) = some (st', M') := hp
    split at hp
    · rename_i z q r
      split at hp
      · rename_i t n f hM
        cases hb1 : (Nat.beq t 8 && ain z n && Nat.ble r.length 4) with
        | false => rw [hb1] at hp; cases hp
        | true =>
          rw [hb1] at hp
          cases hp
          simp only [Bool.and_eq_true] at hb1
          have ht := Nat.eq_of_beq_eq_true hb1.1.1
          subst ht
          have hz := ain_to hb1.1.2
          have hr4 : r.length ≤ 4 := Nat.le_of_ble_eq_true hb1.2
          obtain ⟨j, hj, rfl, rfl, hf⟩ := hH.2.2.str hM
          injection hf with hf
          subst hf
          have hsb := sb_ok hj
          rw [List.map_cons, List.map_cons, ad_str G hj]
          refine vp_callSi (W.runV (C := "java/lang/String") (As := [.int z]) (rest := r.map (cv G)) (n := 1) (ret := some .char) ⟨hx, hb, hml, hown, hts⟩ (c_charAt (G := G) (sc := sc) (adV := adV) l 0 j z hj hz hsb.2 hsb.1) ⟨cbJ (y := yJ_charAt) (d := 3) hts (List.mem_of_getElem? (i := 558) rfl) (List.mem_of_getElem? (i := 99) rfl) (List.mem_of_getElem? hlk) ⟨by decide, by decide⟩ (by decide +kernel) (by decide) (by omega) (by omega), hts _ (t2_in (List.mem_of_getElem? (i := 556) rfl) rfl), hts _ (t2_in (List.mem_of_getElem? (i := 557) rfl) rfl)⟩ ⟨SOk.blind _, vk_recv hO.2.2.1 hj hH.2.1, fun U hU hW => ⟨rfl, hO.go hG hH.2.1 hU hW, by rw [hU]; exact Nat.le_trans hG hH.2.1.1⟩⟩ rfl rfl hL.1 rfl (lv_room (rest_room hr4)) hd ⟨hRc, hRs⟩) (fun w hw => ?_)
          subst hw
          exact k H locs hH rfl rfl
      · cases hp
    · cases hp
  · -- System.arraycopy
    have hd : decode (md_b X) pc = .ok (.invokestatic i, 3) := by rcases hd with ⟨-, h⟩ | ⟨-, h⟩ | ⟨h, -⟩ <;> first | exact h | omega
    replace hp : (match (generalizing := false) st with
      | .int n :: .int dp :: .ref k :: .int sp :: .ref k0 :: r => bif decide (n < 0) || decide (dp < 0) || decide (sp < 0) || Nat.blt 4 r.length then none else (match M k0, M k with
        | .inl (t0, n0, .inl f), .inl (t1, n1, .inl g) => bif Nat.beq t0 0 && Nat.beq t1 0 && Nat.ble (sp.toNatClampNeg + n.toNatClampNeg) n0 && Nat.ble (dp.toNatClampNeg + n.toNatClampNeg) n1 then some (r, va_up M k (.inl (0, n1, .inl (va_cpy f g sp.toNatClampNeg dp.toNatClampNeg n.toNatClampNeg)))) else none
        | .inl (t0, n0, .inr (.inl f)), .inl (t1, n1, .inr (.inl g)) => bif Nat.beq t0 1 && Nat.beq t1 1 && Nat.ble (sp.toNatClampNeg + n.toNatClampNeg) n0 && Nat.ble (dp.toNatClampNeg + n.toNatClampNeg) n1 then some (r, va_up M k (.inl (1, n1, .inr (.inl (va_cpy f g sp.toNatClampNeg dp.toNatClampNeg n.toNatClampNeg))))) else none
        | _, _ => none)
      | _ => none) = some (st', M') := hp
    have hnat := hts _ (t2_in (List.mem_of_getElem? (i := 693) rfl : Jvm.Cond.native arraycopyName ∈ lw_tbl) rfl)
    have hstt := hts _ (t2_in (List.mem_of_getElem? (i := 692) rfl : Jvm.Cond.static arraycopyName ∈ lw_tbl) rfl)
    have hini := hts _ (t2_in (List.mem_of_getElem? (i := 103) rfl : Jvm.Cond.initialized "java/lang/System" ∈ lw_tbl) rfl)
    split at hp
    · rename_i n dp q sp q0 r
      cases hb1 : (decide (n < 0) || decide (dp < 0) || decide (sp < 0) || Nat.blt 4 r.length) with
      | true => rw [hb1] at hp; cases hp
      | false =>
        rw [hb1, cond_false] at hp
        simp only [Bool.or_eq_false_iff] at hb1
        obtain ⟨⟨⟨b1, b2⟩, b3⟩, b4⟩ := hb1
        have b1 : ¬ n < 0 := of_decide_eq_false b1
        have b2 : ¬ dp < 0 := of_decide_eq_false b2
        have b3 : ¬ sp < 0 := of_decide_eq_false b3
        have hr4 : r.length ≤ 4 := by
          by_cases hz : r.length ≤ 4
          · exact hz
          · rw [show Nat.blt 4 r.length = true from Nat.ble_eq_true_of_le (by omega)] at b4
            cases b4
        have hloc : ((r.map (cv G)).map fun v => v.category).sum + (nativeFrameWords "java/lang/System" "arraycopy" 5 + 11) ≤ R.locals := by
          have h1 := rest_room (G := G) hr4
          have h2 : nativeFrameWords "java/lang/System" "arraycopy" 5 = 7 := by decide +kernel
          omega
        split at hp
        · rename_i t0 n0 f t1 n1 g hM0 hM1
          cases hb2 : (Nat.beq t0 0 && Nat.beq t1 0 && Nat.ble (sp.toNatClampNeg + n.toNatClampNeg) n0 && Nat.ble (dp.toNatClampNeg + n.toNatClampNeg) n1) with
          | false => rw [hb2] at hp; cases hp
          | true =>
            rw [hb2] at hp
            cases hp
            simp only [Bool.and_eq_true] at hb2
            obtain ⟨⟨⟨c1, c2⟩, c3⟩, c4⟩ := hb2
            have c1 := Nat.eq_of_beq_eq_true c1
            have c2 := Nat.eq_of_beq_eq_true c2
            subst c1; subst c2
            obtain ⟨g1, g2, g3⟩ := hH.arr hM0 (by omega)
            obtain ⟨e1, e2, e3⟩ := hH.arr hM1 (by omega)
            have hq0 : (0 : Nat) ≠ q := fun h => by rw [← h] at e1; cases e1
            have hq1 : (1 : Nat) ≠ q := fun h => by rw [← h] at e1; exact absurd e1 (by decide)
            refine va_copyi hx hb hml2 hown hlink hnat hstt hini hK hH.1 (lay_D G M) hH.2.1 (q0 - 32) (q - 32) 0 0 g3 e3 rfl rfl rfl b3 b2 b1 (Nat.le_of_ble_eq_true c3) (Nat.le_of_ble_eq_true c4) (fun _ _ => rfl) (by omega) hloc hd (fun H1 locs1 hP1 _ hS1 => ?_)
            exact k H1 locs1 (hH.upd e1 e2 (fun t n x h => by cases h; omega) hP1 hS1) (cnt_up hq0) (cnt_up hq1)
        · rename_i t0 n0 f t1 n1 g hM0 hM1
          cases hb2 : (Nat.beq t0 1 && Nat.beq t1 1 && Nat.ble (sp.toNatClampNeg + n.toNatClampNeg) n0 && Nat.ble (dp.toNatClampNeg + n.toNatClampNeg) n1) with
          | false => rw [hb2] at hp; cases hp
          | true =>
            rw [hb2] at hp
            cases hp
            simp only [Bool.and_eq_true] at hb2
            obtain ⟨⟨⟨c1, c2⟩, c3⟩, c4⟩ := hb2
            have c1 := Nat.eq_of_beq_eq_true c1
            have c2 := Nat.eq_of_beq_eq_true c2
            subst c1; subst c2
            obtain ⟨g1, g2, g3⟩ := hH.arr hM0 (by omega)
            obtain ⟨e1, e2, e3⟩ := hH.arr hM1 (by omega)
            have hq0 : (0 : Nat) ≠ q := fun h => by rw [← h] at e1; cases e1
            have hq1 : (1 : Nat) ≠ q := fun h => by rw [← h] at e1; exact absurd e1 (by decide)
            refine va_copyl hx hb hml2 hown hlink hnat hstt hini hK hH.1 (lay_D G M) hH.2.1 (q0 - 32) (q - 32) 1 1 g3 e3 rfl rfl rfl b3 b2 b1 (Nat.le_of_ble_eq_true c3) (Nat.le_of_ble_eq_true c4) (fun _ _ => rfl) (by omega) hloc hd (fun H1 locs1 hP1 _ hS1 => ?_)
            exact k H1 locs1 (hH.upd e1 e2 (fun t n x h => by cases h; omega) hP1 hS1) (cnt_up hq0) (cnt_up hq1)
        · cases hp
    · cases hp
  · -- Object.<init>
    have hd : decode (md_b X) pc = .ok (.invokespecial i, 3) := by rcases hd with ⟨-, h⟩ | ⟨h, -⟩ | ⟨-, h⟩ <;> first | exact h | omega
    replace hp : (match (generalizing := false) st with | .ref _ :: r => bif Nat.ble r.length 4 then some (r, M) else none | _ => none) = some (st', M') := hp
    split at hp
    · rename_i q r
      cases hb1 : Nat.ble r.length 4 with
      | false => rw [hb1] at hp; cases hp
      | true =>
        rw [hb1] at hp
        cases hp
        have hr4 := Nat.le_of_ble_eq_true hb1
        have h1 := rest_room (G := G) hr4
        exact W.objInit hx hb hown hlink (hts _ (t2_in (List.mem_of_getElem? (i := 111) rfl : Jvm.Cond.instanceMethod objectInit ∈ lw_tbl) rfl)) (hts _ (t2_in (List.mem_of_getElem? (i := 112) rfl : Jvm.Cond.code objectInit ⟨#[0xb1]⟩ 1 none ∈ lw_tbl) rfl)) rfl hml2.symm rfl hd (by omega) (by show 2 * 0 + _ + 12 ≤ _; omega) (k H locs hH rfl rfl)
    · cases hp
  · -- Math.min
    have hd : decode (md_b X) pc = .ok (.invokestatic i, 3) := by rcases hd with ⟨-, h⟩ | ⟨-, h⟩ | ⟨h, -⟩ <;> first | exact h | omega
    replace hp : (match (generalizing := false) st with | .int y :: .int x :: r => bif Nat.ble r.length 4 then some (.int (if y < x then y else x) :: r, M) else none | _ => none) = some (st', M') := hp
    split at hp
    · rename_i y z r
      cases hb1 : Nat.ble r.length 4 with
      | false => rw [hb1] at hp; cases hp
      | true =>
        rw [hb1] at hp
        cases hp
        have hr4 := Nat.le_of_ble_eq_true hb1
        have h1 := rest_room (G := G) hr4
        exact va_mmin hx hb hml2 hown hlink (hts _ (t2_in (List.mem_of_getElem? (i := 521) rfl : Jvm.Cond.static Lib.Math.min.name ∈ lw_tbl) rfl)) (hts _ (t2_in (List.mem_of_getElem? (i := 98) rfl : Jvm.Cond.initialized "java/lang/Math" ∈ lw_tbl) rfl)) (hts _ (t2_in (List.mem_of_getElem? (i := 522) rfl : Jvm.Cond.code Lib.Math.min.name Lib.Math.min.code 2 (some .int) ∈ lw_tbl) rfl)) (by omega) (by omega) hRc hRs hd (k H locs hH rfl rfl)
    · cases hp
  · -- Math.max
    have hd : decode (md_b X) pc = .ok (.invokestatic i, 3) := by rcases hd with ⟨-, h⟩ | ⟨-, h⟩ | ⟨h, -⟩ <;> first | exact h | omega
    replace hp : (match (generalizing := false) st with | .int y :: .int x :: r => bif Nat.ble r.length 4 then some (.int (if x < y then y else x) :: r, M) else none | _ => none) = some (st', M') := hp
    split at hp
    · rename_i y z r
      cases hb1 : Nat.ble r.length 4 with
      | false => rw [hb1] at hp; cases hp
      | true =>
        rw [hb1] at hp
        cases hp
        have hr4 := Nat.le_of_ble_eq_true hb1
        have h1 := rest_room (G := G) hr4
        exact va_mmax hx hb hml2 hown hlink (hts _ (t2_in (List.mem_of_getElem? (i := 807) rfl : Jvm.Cond.static Lib.Math.max.name ∈ lw_tbl) rfl)) (hts _ (t2_in (List.mem_of_getElem? (i := 98) rfl : Jvm.Cond.initialized "java/lang/Math" ∈ lw_tbl) rfl)) (hts _ (t2_in (List.mem_of_getElem? (i := 808) rfl : Jvm.Cond.code Lib.Math.max.name Lib.Math.max.code 2 (some .int) ∈ lw_tbl) rfl)) (by omega) (by omega) hRc hRs hd (k H locs hH rfl rfl)
    · cases hp
end MAIN
