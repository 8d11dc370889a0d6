/-! LINES, the class: a full row. -/
section CLO
variable {d : Nat} {M : AM} {κ κ' : CS} {T : TP} {st : St} {K : KD} {ρ ρ' : RC} {g : Nat → Int32} {Q : Option Value → AM → Prop}
theorem k_readFull {s k : Nat} (hT : TC κ T) (hG : κ.2.2.2 1 = some 83) (hL : LC κ T (.inr s)) (hB : BdC ρ K) (ok : KOK K) (hk : k ≤ 3) (hO : lkO K k = none) : Wp (d + 12) md_21 0 [some (.ref 35), some (.int (nI k)), none, none, none, none] [] (cset (rset M 83 ρ) κ) (RCn M κ T (.inl (3, s)) K) := by
  refine Wp.n (pc' := 1) 1 rfl ?_
  refine Wp.get (len := 3) rfl (rfl) rfl ?_
  refine Wp.topR hG ?_
  refine Wp.n (pc' := 5) 1 rfl ?_
  refine Wp.ecallV (len := 3) rfl rfl rfl (dobj) rfl (by decide) rfl (k_spareLink hB.1 ok hB.2.2 hk) ?_
  rw [hO]
  refine Wp.n (pc' := 10) 2 rfl ?_
  refine Wp.s (pc' := 13) rfl ?_
  refine Wp.n (pc' := 16) 3 rfl ?_
  refine Wp.get (len := 3) rfl (rfl) rfl ?_
  refine Wp.callV (len := 3) rfl rfl rfl (rfl) rfl (by decide) rfl (k_fail (p := s) (k := 3) hT hL (by decide) _ (fun _ => hL.2.2.2.1)) ?_
  rintro _ _ ⟨rfl, κ1, rfl, f1, l1⟩
  change LC κ1 T (.inl (3, s)) at l1
  refine Wp.retV (len := 1) rfl rfl ?_
  exact ⟨rfl, ρ, κ1, rfl, f1, l1, fun q => by cases q⟩
theorem RepC_l (hK : RepC ρ K) (ok : KOK K) (h11 : kh K 11 = 0) (F : LkF (12 + kh K 3) g ρ ρ') : RepC ρ' K := by
  obtain ⟨f1, f2, f3, f4, f5⟩ := F
  obtain ⟨r0, r1, r2, r3, r6, r8, r10, rl, rr, rn_, rw_⟩ := hK
  have b2 := (ok_h ok).2.2.1
  have b3 := (ok_h ok).2.2.2.1
  unfold RepC rhd rlw rwk rst at *
  rw [f1, f2, f3]
  refine ⟨r0, r1, r2, r3, r6, r8, r10, rl, fun i hi => ?_, fun l hl => ?_, rw_⟩
  · rw [f4 i (by omega)]; exact rr i hi
  · have e : phL K l = l := if_neg (by omega)
    have w := rn_ l hl
    rw [e] at w ⊢
    rw [f4 (12 + l) (by omega)]; exact w
theorem k_takeSpare1 {n k : Nat} (hk : 1 ≤ k ∧ k ≤ 3) (h8 : rhd ρ 8 = nI n) : Ev d md_30 0 [some (.ref 83), some (.int (nI k))] [] (cset (rset M 83 ρ) κ) (none, cset (rset M 83 (hset ρ 8 (nI (n + 1)))) κ) := by
  refine Wp.toEv ?_
  refine Wp.n (pc' := 1) 1 rfl ?_
  refine Wp.nz1 (x := k) (tgt := 17) (len := 3) rfl (by omega) (fun h1 => ?_) (fun h1 => ?_)
  · skip
    refine Wp.n (pc' := 19) 2 rfl ?_
    refine Wp.get (len := 3) rfl (dobj) rfl ?_
    refine Wp.top h8 ?_
    refine Wp.n (pc' := 23) 1 rfl ?_
    refine Wp.iaddN (x := n) (y := 1) (len := 1) rfl ?_
    refine Wp.dput (len := 3) 8 rfl rfl ?_
    refine Wp.retV (len := 1) rfl rfl ?_
    exact ⟨rfl, rfl⟩
  · omega
end CLO
