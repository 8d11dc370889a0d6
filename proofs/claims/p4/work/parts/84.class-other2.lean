/-! THE OTHER PLACE, the class, whole. -/
section COP2
variable {d : Nat} {M : AM} {κ κ' : CS} {T : TP} {st : St} {K : KD} {ρ ρ' : RC} {Q : Option Value → AM → Prop}
theorem nm_ot {P : Nat} {f : Nat → Bool} {z : Nat × Nat} (hP : 1 ≤ P) (h : nmS T 0 (P - 1) st = .inl z) : otS T P f st = .inl z := by
  rcases st with x | s
  · exact h
  · by_cases c : tk T s = 2
    · by_cases c2 : 0 ≤ vl T s ∧ vl T s ≤ P - 1
      · rw [show nmS T 0 (P - 1) (.inr s) = .inr (nx T s) from (if_pos c).trans (if_pos c2)] at h
        cases h
      · rw [show nmS T 0 (P - 1) (.inr s) = .inl (2, s) from (if_pos c).trans (if_neg c2)] at h
        rw [← h]
        exact (if_pos c).trans (if_neg (fun q => by omega))
    · rw [show nmS T 0 (P - 1) (.inr s) = .inl (1, s) from if_neg c] at h
      rw [← h]
      exact if_neg c
theorem nm_inr {lo hi s s' : Nat} (h : nmS T lo hi (.inr s) = .inr s') : tk T s = 2 ∧ vl T s ≤ hi ∧ s' = nx T s := by
  by_cases c : tk T s = 2
  · by_cases c2 : lo ≤ vl T s ∧ vl T s ≤ hi
    · rw [show nmS T lo hi (.inr s) = .inr (nx T s) from (if_pos c).trans (if_pos c2)] at h
      cases h
      exact ⟨c, c2.2, rfl⟩
    · rw [show nmS T lo hi (.inr s) = .inl (2, s) from (if_pos c).trans (if_neg c2)] at h
      cases h
  · rw [show nmS T lo hi (.inr s) = .inl (1, s) from if_neg c] at h
    cases h
theorem k_takeOther (hT : TC κ T) (hS : κ.2.2.2 0 = some 33) (hG : κ.2.2.2 1 = some 83) (hL : LC κ T st) (hK : RepC ρ K) (ok : KOK K) (hP : 2 ≤ kh K 0) {a32 : Int32} {w : Bool} {a : Nat} {f : Nat → Bool} (ha : gd st = true → a32 = nI a ∧ a < 7) (hf : gd st = true → ∀ v, f v = (decide (v ≠ a) && (!w || !(roadK K a v).isSome))) : Wp (d + 11) md_22 0 [some (.ref 35), some (.int a32), some (.int (bI w)), none, none] [] (cset (rset M 83 ρ) κ) (fun v M' => ∃ x, v = some (.int x) ∧ (gd (otS T (kh K 0) f st) = true → x = nI (nmV T st)) ∧ RdC (rset M 83 ρ) κ T (otS T (kh K 0) f st) M') := by
  have b0 := (ok_h ok).1
  have b2 := (ok_h ok).2.2.1
  refine Wp.n (pc' := 1) 1 rfl ?_
  refine Wp.get (len := 3) rfl (rfl) rfl ?_
  refine Wp.n (pc' := 8) 4 rfl ?_
  refine Wp.get (len := 3) rfl (rfl) rfl ?_
  refine Wp.topR hG ?_
  refine Wp.get (len := 3) rfl (dobj) rfl ?_
  refine Wp.top hK.1 ?_
  refine Wp.n (pc' := 15) 1 rfl ?_
  refine Wp.isubN (x := kh K 0) (y := 1) (len := 1) rfl (by omega) ?_
  refine Wp.callV (len := 3) rfl rfl rfl (rfl) rfl (by decide) rfl (k_takeNumber (d := d) (lo := 0) (hi := kh K 0 - 1) hT hS hL (fun q => ⟨rfl, rfl, by omega, by omega⟩)) ?_
  rintro _ _ ⟨x, rfl, hx, κ1, rfl, f1, l1⟩
  have hG1 : κ1.2.2.2 1 = some 83 := by rw [f1.2]; exact hG
  refine Wp.n (pc' := 21) 1 rfl ?_
  rcases hq : nmS T 0 (kh K 0 - 1) st with z | s'
  · rw [hq] at l1
    rw [nm_ot (f := f) (by omega) hq]
    exact k_op_b hK.2.2.2.2.1 b2 (f1.tc hT) hG1 l1 (fun κ2 f2 l2 => ⟨x, rfl, fun q => (by cases q), κ2, rfl, f1.t f2, l2⟩)
  · rcases st with y | s
    · cases hq
    obtain ⟨t2, v2, rfl⟩ := nm_inr hq
    rw [hq] at l1 hx
    obtain rfl := hx rfl
    obtain ⟨rfl, a7⟩ := ha rfl
    have fv := hf rfl (vl T s)
    have z5 : κ.1 2 5 = nI s := hL.2.2.2.1
    have v31 : vl T s < 2 ^ 31 := by omega
    have bad : f (vl T s) = false → Wp (d + 11) md_22 44 [some (.ref 35), some (.int (nI a)), some (.int (bI w)), some (.int (κ.1 2 5)), some (.int (nI (vl T s)))] [] (cset (rset M 83 ρ) κ1) (fun v M' => ∃ x, v = some (.int x) ∧ (gd (otS T (kh K 0) f (.inr s)) = true → x = nI (nmV T (.inr s))) ∧ RdC (rset M 83 ρ) κ T (otS T (kh K 0) f (.inr s)) M') := by
      intro ff
      have eo : otS T (kh K 0) f (.inr s) = .inl (2, s) := (if_pos t2).trans (if_neg (fun q => by rw [ff] at q; cases q.2))
      rw [eo]
      refine Wp.n (pc' := 47) 3 rfl ?_
      refine Wp.callV (len := 3) rfl rfl rfl (rfl) rfl (by decide) rfl (k_fail (p := s) (k := 2) (f1.tc hT) l1 (by decide) _ (fun _ => z5)) ?_
      rintro _ _ ⟨rfl, κ2, rfl, f2, l2⟩
      change LC κ2 T (.inl (2, s)) at l2
      refine Wp.n (pc' := 52) 1 rfl ?_
      refine Wp.retI (len := 1) rfl rfl ?_
      exact ⟨_, rfl, fun q => (by cases q), κ2, rfl, f1.t f2, l2⟩
    have good : f (vl T s) = true → Wp (d + 11) md_22 50 [some (.ref 35), some (.int (nI a)), some (.int (bI w)), some (.int (κ.1 2 5)), some (.int (nI (vl T s)))] [] (cset (rset M 83 ρ) κ1) (fun v M' => ∃ x, v = some (.int x) ∧ (gd (otS T (kh K 0) f (.inr s)) = true → x = nI (nmV T (.inr s))) ∧ RdC (rset M 83 ρ) κ T (otS T (kh K 0) f (.inr s)) M') := by
      intro ff
      have eo : otS T (kh K 0) f (.inr s) = .inr (nx T s) := (if_pos t2).trans (if_pos ⟨by omega, ff⟩)
      rw [eo]
      refine Wp.n (pc' := 52) 1 rfl ?_
      refine Wp.retI (len := 1) rfl rfl ?_
      exact ⟨_, rfl, fun _ => rfl, κ1, rfl, f1, l1⟩
    refine Wp.n (pc' := 24) 2 rfl ?_
    refine Wp.nc0 (x := vl T s) (y := a) (tgt := 44) (len := 3) rfl (by omega) (by omega) (fun h24 => ?_) (fun h24 => ?_)
    · skip
      exact bad (by rw [fv, decide_eq_false (fun q => q h24)]; rfl)
    · skip
      refine Wp.n (pc' := 28) 1 rfl ?_
      refine Wp.ifb0 (tgt := 50) (len := 3) rfl (fun h28 => ?_) (fun h28 => ?_)
      · skip
        exact good (by rw [fv, decide_eq_true h24, h28]; rfl)
      · skip
        refine Wp.n (pc' := 32) 1 rfl ?_
        refine Wp.get (len := 3) rfl (rfl) rfl ?_
        refine Wp.topR hG1 ?_
        refine Wp.n (pc' := 38) 2 rfl ?_
        refine Wp.ecallV (len := 3) rfl rfl rfl (dobj) rfl (by decide) rfl (k_roadOf (M := cset (rset M 83 ρ) κ1) (r := 83) (RA_c rset_ra (by decide) (by decide)) hK ok (a := a) (b := vl T s) a7 (by omega)) ?_
        rcases hr : roadK K a (vl T s) with _ | i
        · refine Wp.s (pc' := 50) rfl ?_
          exact good (by rw [fv, decide_eq_true h24, hr, h28]; rfl)
        · refine Wp.s (pc' := 44) rfl ?_
          exact bad (by rw [fv, hr, h28, decide_eq_true h24]; rfl)
end COP2
