/-! NUMBERS, the class. -/
section CNM
variable {d : Nat} {M : AM} {κ κ' : CS} {T : TP} {st : St} {Q : Option Value → AM → Prop}
theorem k_tn_b {x : Nat × Nat} {l32 h32 : Int32} (hL : LC κ T (.inl x)) (kk : ∀ y, Q (some (.int y)) (cset M κ)) : Wp (d + 10) md_20 45 [some (.ref 35), some (.int l32), some (.int h32), none] [] (cset M κ) Q := by
  have x1 := hL.2.1
  have x3 := hL.2.2.1
  refine Wp.n (pc' := 46) 1 rfl ?_
  refine Wp.get (len := 3) rfl (rfl) rfl ?_
  refine Wp.top hL.1 ?_
  refine Wp.nz0 (x := x.1) (tgt := 54) (len := 3) rfl (by omega) (fun h49 => ?_) (fun h49 => ?_)
  · omega
  · skip
    refine Wp.n (pc' := 53) 1 rfl ?_
    refine Wp.retI (len := 1) rfl rfl ?_
    exact kk _
theorem k_tn_g {s lo hi : Nat} (hT : TC κ T) (hS : κ.2.2.2 0 = some 33) (hL : LC κ T (.inr s)) (hv : vl T s ≤ 1000) : Wp (d + 10) md_20 45 [some (.ref 35), some (.int (nI lo)), some (.int (nI hi)), none] [] (cset M κ) (fun v M' => ∃ x, v = some (.int x) ∧ (gd (.inr (nx T s)) = true → x = nI (vl T s)) ∧ RdC M κ T (.inr (nx T s)) M') := by
  obtain ⟨z2, z3, z4, z5, z6, z7, zs⟩ := id hL
  refine Wp.n (pc' := 46) 1 rfl ?_
  refine Wp.get (len := 3) rfl (rfl) rfl ?_
  refine Wp.top z2 ?_
  refine Wp.nz0 (x := 0) (tgt := 54) (len := 3) rfl (by omega) (fun h49 => ?_) (fun h49 => ?_)
  · skip
    refine Wp.n (pc' := 55) 1 rfl ?_
    refine Wp.get (len := 3) rfl (rfl) rfl ?_
    refine Wp.top z7 ?_
    refine Wp.n (pc' := 60) 2 rfl ?_
    refine Wp.callV (len := 3) rfl rfl rfl (rfl) rfl (by decide) rfl (k_advance hT hS hL) ?_
    rintro _ _ ⟨rfl, κ2, rfl, f2, l2⟩
    refine Wp.n (pc' := 64) 1 rfl ?_
    refine Wp.retI (len := 1) rfl rfl ?_
    exact ⟨_, rfl, fun _ => congrArg nI (by omega), κ2, rfl, f2, l2⟩
  · omega
theorem k_takeNumber (hT : TC κ T) (hS : κ.2.2.2 0 = some 33) (hL : LC κ T st) {l32 h32 : Int32} {lo hi : Nat} (hg : gd st = true → l32 = nI lo ∧ h32 = nI hi ∧ hi ≤ 1000 ∧ lo ≤ 1000) : Wp (d + 10) md_20 0 [some (.ref 35), some (.int l32), some (.int h32), none] [] (cset M κ) (fun v M' => ∃ x, v = some (.int x) ∧ (gd (nmS T lo hi st) = true → x = nI (nmV T st)) ∧ RdC M κ T (nmS T lo hi st) M') := by
  rcases st with x | s
  · obtain ⟨z1, z2, z3, z4, a, e, k, z5, z6, z7, z8, z9, z10⟩ := id hL
    refine Wp.n (pc' := 1) 1 rfl ?_
    refine Wp.get (len := 3) rfl (rfl) rfl ?_
    refine Wp.top z9 ?_
    refine Wp.n (pc' := 5) 1 rfl ?_
    refine Wp.nc0 (x := k) (y := 2) (tgt := 20) (len := 3) rfl (by omega) (by omega) (fun h5 => ?_) (fun h5 => ?_)
    · skip
      refine Wp.n (pc' := 21) 1 rfl ?_
      refine Wp.get (len := 3) rfl (rfl) rfl ?_
      refine Wp.n (pc' := 25) 1 rfl ?_
      refine Wp.ic2 (tgt := 36) (len := 3) rfl (fun h25 => ?_) (fun h25 => ?_)
      · skip
        refine Wp.n (pc' := 39) 3 rfl ?_
        refine Wp.get (len := 3) rfl (rfl) rfl ?_
        refine Wp.callV (len := 3) rfl rfl rfl (rfl) rfl (by decide) rfl (k_fail (p := 0) (k := 2) hT hL (by decide) _ (fun q => by cases q)) ?_
        rintro _ _ ⟨rfl, κ1, rfl, f1, l1⟩
        change LC κ1 T (.inl x) at l1
        first
          | exact k_tn_b l1 (fun y => ⟨y, rfl, fun q => (by cases q), κ1, rfl, f1, l1⟩)
          | exact k_tn_b hL (fun y => ⟨y, rfl, fun q => (by cases q), κ, rfl, FA.r, hL⟩)
      · skip
        refine Wp.n (pc' := 29) 1 rfl ?_
        refine Wp.get (len := 3) rfl (rfl) rfl ?_
        refine Wp.n (pc' := 33) 1 rfl ?_
        refine Wp.ic5 (tgt := 45) (len := 3) rfl (fun h33 => ?_) (fun h33 => ?_)
        · skip
          first
            | exact k_tn_b l1 (fun y => ⟨y, rfl, fun q => (by cases q), κ1, rfl, f1, l1⟩)
            | exact k_tn_b hL (fun y => ⟨y, rfl, fun q => (by cases q), κ, rfl, FA.r, hL⟩)
        · skip
          refine Wp.n (pc' := 39) 3 rfl ?_
          refine Wp.get (len := 3) rfl (rfl) rfl ?_
          refine Wp.callV (len := 3) rfl rfl rfl (rfl) rfl (by decide) rfl (k_fail (p := 0) (k := 2) hT hL (by decide) _ (fun q => by cases q)) ?_
          rintro _ _ ⟨rfl, κ1, rfl, f1, l1⟩
          change LC κ1 T (.inl x) at l1
          first
            | exact k_tn_b l1 (fun y => ⟨y, rfl, fun q => (by cases q), κ1, rfl, f1, l1⟩)
            | exact k_tn_b hL (fun y => ⟨y, rfl, fun q => (by cases q), κ, rfl, FA.r, hL⟩)
    · skip
      refine Wp.n (pc' := 11) 3 rfl ?_
      refine Wp.get (len := 3) rfl (rfl) rfl ?_
      refine Wp.callV (len := 3) rfl rfl rfl (rfl) rfl (by decide) rfl (k_fail (p := 0) (k := 1) hT hL (by decide) _ (fun q => by cases q)) ?_
      rintro _ _ ⟨rfl, κ1, rfl, f1, l1⟩
      change LC κ1 T (.inl x) at l1
      refine Wp.n (pc' := 45) 1 rfl ?_
      first
        | exact k_tn_b l1 (fun y => ⟨y, rfl, fun q => (by cases q), κ1, rfl, f1, l1⟩)
        | exact k_tn_b hL (fun y => ⟨y, rfl, fun q => (by cases q), κ, rfl, FA.r, hL⟩)
  · obtain ⟨rfl, rfl, hi1, lo1⟩ := hg rfl
    obtain ⟨z2, z3, z4, z5, z6, z7, zs⟩ := id hL
    have t4 := tk_le (T := T) (s := s)
    have c2 : ck (tk T s) = 2 ↔ tk T s = 2 := by unfold ck; split <;> omega
    have c5 : ck (tk T s) ≤ 5 := by unfold ck; split <;> omega
    have mv : min 1000000 (vl T s) ≤ 1000000 := by omega
    refine Wp.n (pc' := 1) 1 rfl ?_
    refine Wp.get (len := 3) rfl (rfl) rfl ?_
    refine Wp.top z4 ?_
    refine Wp.n (pc' := 5) 1 rfl ?_
    refine Wp.nc0 (x := ck (tk T s)) (y := 2) (tgt := 20) (len := 3) rfl (by omega) (by omega) (fun h5 => ?_) (fun h5 => ?_)
    · skip
      refine Wp.n (pc' := 21) 1 rfl ?_
      refine Wp.get (len := 3) rfl (rfl) rfl ?_
      refine Wp.top z7 ?_
      refine Wp.n (pc' := 25) 1 rfl ?_
      refine Wp.nc2 (x := min 1000000 (vl T s)) (y := lo) (tgt := 36) (len := 3) rfl (by omega) (by omega) (fun h25 => ?_) (fun h25 => ?_)
      · skip
        refine Wp.n (pc' := 39) 3 rfl ?_
        refine Wp.get (len := 3) rfl (rfl) rfl ?_
        refine Wp.callV (len := 3) rfl rfl rfl (rfl) rfl (by decide) rfl (k_fail (p := s) (k := 2) hT hL (by decide) _ (fun _ => z5)) ?_
        rintro _ _ ⟨rfl, κ1, rfl, f1, l1⟩
        change LC κ1 T (.inl (2, s)) at l1
        first
          | (have e : nmS T lo hi (.inr s) = .inl (1, s) := if_neg (fun q => h5 (c2.mpr q))
             rw [e]
             exact k_tn_b (x := (1, s)) l1 (fun y => ⟨y, rfl, fun q => (by cases q), κ1, rfl, f1, l1⟩))
          | (have e : nmS T lo hi (.inr s) = .inl (2, s) := (if_pos (c2.mp h5)).trans (if_neg (by omega))
             rw [e]
             exact k_tn_b (x := (2, s)) l1 (fun y => ⟨y, rfl, fun q => (by cases q), κ1, rfl, f1, l1⟩))
          | (have e : nmS T lo hi (.inr s) = .inr (nx T s) := (if_pos (c2.mp h5)).trans (if_pos (by omega))
             rw [e]
             exact k_tn_g hT hS hL (by omega))
      · skip
        refine Wp.n (pc' := 29) 1 rfl ?_
        refine Wp.get (len := 3) rfl (rfl) rfl ?_
        refine Wp.top z7 ?_
        refine Wp.n (pc' := 33) 1 rfl ?_
        refine Wp.nc5 (x := min 1000000 (vl T s)) (y := hi) (tgt := 45) (len := 3) rfl (by omega) (by omega) (fun h33 => ?_) (fun h33 => ?_)
        · skip
          first
            | (have e : nmS T lo hi (.inr s) = .inl (1, s) := if_neg (fun q => h5 (c2.mpr q))
               rw [e]
               exact k_tn_b (x := (1, s)) l1 (fun y => ⟨y, rfl, fun q => (by cases q), κ1, rfl, f1, l1⟩))
            | (have e : nmS T lo hi (.inr s) = .inl (2, s) := (if_pos (c2.mp h5)).trans (if_neg (by omega))
               rw [e]
               exact k_tn_b (x := (2, s)) l1 (fun y => ⟨y, rfl, fun q => (by cases q), κ1, rfl, f1, l1⟩))
            | (have e : nmS T lo hi (.inr s) = .inr (nx T s) := (if_pos (c2.mp h5)).trans (if_pos (by omega))
               rw [e]
               exact k_tn_g hT hS hL (by omega))
        · skip
          refine Wp.n (pc' := 39) 3 rfl ?_
          refine Wp.get (len := 3) rfl (rfl) rfl ?_
          refine Wp.callV (len := 3) rfl rfl rfl (rfl) rfl (by decide) rfl (k_fail (p := s) (k := 2) hT hL (by decide) _ (fun _ => z5)) ?_
          rintro _ _ ⟨rfl, κ1, rfl, f1, l1⟩
          change LC κ1 T (.inl (2, s)) at l1
          first
            | (have e : nmS T lo hi (.inr s) = .inl (1, s) := if_neg (fun q => h5 (c2.mpr q))
               rw [e]
               exact k_tn_b (x := (1, s)) l1 (fun y => ⟨y, rfl, fun q => (by cases q), κ1, rfl, f1, l1⟩))
            | (have e : nmS T lo hi (.inr s) = .inl (2, s) := (if_pos (c2.mp h5)).trans (if_neg (by omega))
               rw [e]
               exact k_tn_b (x := (2, s)) l1 (fun y => ⟨y, rfl, fun q => (by cases q), κ1, rfl, f1, l1⟩))
            | (have e : nmS T lo hi (.inr s) = .inr (nx T s) := (if_pos (c2.mp h5)).trans (if_pos (by omega))
               rw [e]
               exact k_tn_g hT hS hL (by omega))
    · skip
      refine Wp.n (pc' := 11) 3 rfl ?_
      refine Wp.get (len := 3) rfl (rfl) rfl ?_
      refine Wp.callV (len := 3) rfl rfl rfl (rfl) rfl (by decide) rfl (k_fail (p := s) (k := 1) hT hL (by decide) _ (fun _ => z5)) ?_
      rintro _ _ ⟨rfl, κ1, rfl, f1, l1⟩
      change LC κ1 T (.inl (1, s)) at l1
      refine Wp.n (pc' := 45) 1 rfl ?_
      first
        | (have e : nmS T lo hi (.inr s) = .inl (1, s) := if_neg (fun q => h5 (c2.mpr q))
           rw [e]
           exact k_tn_b (x := (1, s)) l1 (fun y => ⟨y, rfl, fun q => (by cases q), κ1, rfl, f1, l1⟩))
        | (have e : nmS T lo hi (.inr s) = .inl (2, s) := (if_pos (c2.mp h5)).trans (if_neg (by omega))
           rw [e]
           exact k_tn_b (x := (2, s)) l1 (fun y => ⟨y, rfl, fun q => (by cases q), κ1, rfl, f1, l1⟩))
        | (have e : nmS T lo hi (.inr s) = .inr (nx T s) := (if_pos (c2.mp h5)).trans (if_pos (by omega))
           rw [e]
           exact k_tn_g hT hS hL (by omega))
theorem k_takeNamed (hT : TC κ T) (hS : κ.2.2.2 0 = some 33) (hW : HW M) (hL : LC κ T st) {i : Nat} (hi : i < 21) {l32 h32 : Int32} {lo hh : Nat} (hg : gd (wdS T (wno i) st) = true → l32 = nI lo ∧ h32 = nI hh ∧ hh ≤ 1000 ∧ lo ≤ 1000) : Wp (d + 11) md_19 0 [some (.ref 35), some (.ref (3 + i)), some (.int l32), some (.int h32)] [] (cset M κ) (fun v M' => ∃ x, v = some (.int x) ∧ (gd (nmS T lo hh (wdS T (wno i) st)) = true → x = nI (nmV T (wdS T (wno i) st))) ∧ RdC M κ T (nmS T lo hh (wdS T (wno i) st)) M') := by
  refine Wp.n (pc' := 2) 2 rfl ?_
  refine Wp.callV (len := 3) rfl rfl rfl (rfl) rfl (by decide) rfl (k_takeWord hT hS hW hL hi) ?_
  rintro _ _ ⟨rfl, κ1, rfl, f1, l1⟩
  refine Wp.n (pc' := 8) 3 rfl ?_
  refine Wp.callV (len := 3) rfl rfl rfl (rfl) rfl (by decide) rfl (k_takeNumber (f1.tc hT) (by rw [f1.2]; exact hS) l1 hg) ?_
  rintro _ _ ⟨x, rfl, hx, κ2, rfl, f2, l2⟩
  refine Wp.retI (len := 1) rfl rfl ?_
  exact ⟨_, rfl, hx, κ2, rfl, f1.t f2, l2⟩
end CNM
