/-! THE OTHER PLACE, the class. -/
section COP
variable {d : Nat} {M : AM} {κ κ' : CS} {T : TP} {st : St} {K : KD} {ρ ρ' : RC} {Q : Option Value → AM → Prop}
theorem k_roadAny_l {n0 : Nat} (h6 : rhd ρ 6 = nI n0) (hn0 : n0 ≤ 12) {a b c : Int32} : ∀ (n i : Nat), i + n = n0 → Wp d md_29 11 [some (.ref 83), some (.int a), some (.int b), some (.int c), some (.int (nI i))] [] (cset (rset M 83 ρ) κ) (fun v M' => (∃ o, v = some (va_rf o)) ∧ M' = cset (rset M 83 ρ) κ)
  | 0, i, hi => by
    refine Wp.n (pc' := 14) 2 rfl ?_
    refine Wp.get (len := 3) rfl (dobj) rfl ?_
    refine Wp.top h6 ?_
    refine Wp.nc3 (x := i) (y := n0) (tgt := 48) (len := 3) rfl (by omega) (by omega) (fun h17 => ?_) (fun h17 => ?_)
    · skip
      refine Wp.n (pc' := 49) 1 rfl ?_
      refine Wp.retN (len := 1) rfl rfl ?_
      exact ⟨⟨none, rfl⟩, rfl⟩
    · omega
  | n + 1, i, hi => by
    refine Wp.n (pc' := 14) 2 rfl ?_
    refine Wp.get (len := 3) rfl (dobj) rfl ?_
    refine Wp.top h6 ?_
    refine Wp.nc3 (x := i) (y := n0) (tgt := 48) (len := 3) rfl (by omega) (by omega) (fun h17 => ?_) (fun h17 => ?_)
    · omega
    · skip
      refine Wp.n (pc' := 21) 1 rfl ?_
      refine Wp.get (len := 3) rfl (dobj) rfl ?_
      refine Wp.n (pc' := 26) 1 rfl ?_
      refine Wp.aaldN (j := i) (len := 1) rfl (droads) rfl (by omega) (by decide) (if_pos (by omega)) ?_
      refine Wp.get (len := 3) rfl (droad (by omega)) rfl ?_
      refine Wp.n (pc' := 31) 1 rfl ?_
      refine Wp.ic1 (tgt := 42) (len := 3) rfl (fun h31 => ?_) (fun h31 => ?_)
      · skip
        refine Wp.incN (x := i) (len := 3) rfl rfl ?_
        refine Wp.n (pc' := 11) 1 rfl ?_
        exact k_roadAny_l h6 hn0 n (i + 1) (by omega)
      · skip
        refine Wp.n (pc' := 35) 1 rfl ?_
        refine Wp.get (len := 3) rfl (dobj) rfl ?_
        refine Wp.n (pc' := 40) 1 rfl ?_
        refine Wp.aaldN (j := i) (len := 1) rfl (droads) rfl (by omega) (by decide) (if_pos (by omega)) ?_
        refine Wp.retR (len := 1) rfl rfl ?_
        exact ⟨⟨some _, rfl⟩, rfl⟩
theorem k_roadAny {n0 : Nat} (h6 : rhd ρ 6 = nI n0) (hn0 : n0 ≤ 12) (a b : Int32) : Wp d md_29 0 [some (.ref 83), some (.int a), some (.int b), none, none] [] (cset (rset M 83 ρ) κ) (fun v M' => (∃ o, v = some (va_rf o)) ∧ M' = cset (rset M 83 ρ) κ) := by
  refine Wp.n (pc' := 11) 10 rfl ?_
  exact k_roadAny_l h6 hn0 n0 0 (by omega)
theorem k_op_b {n0 : Nat} (h6 : rhd ρ 6 = nI n0) (hn0 : n0 ≤ 12) (hT : TC κ T) (hG : κ.2.2.2 1 = some 83) {z : Nat × Nat} (hL : LC κ T (.inl z)) {a at_ x : Int32} {w : Bool} (kk : ∀ κ', FA κ κ' → LC κ' T (.inl z) → Q (some (.int x)) (cset (rset M 83 ρ) κ')) : Wp (d + 11) md_22 21 [some (.ref 35), some (.int a), some (.int (bI w)), some (.int at_), some (.int x)] [] (cset (rset M 83 ρ) κ) Q := by
  have fin : ∀ κ1, FA κ κ1 → LC κ1 T (.inl z) → Wp (d + 11) md_22 50 [some (.ref 35), some (.int a), some (.int (bI w)), some (.int at_), some (.int x)] [] (cset (rset M 83 ρ) κ1) Q := by
    intro κ1 f1 l1
    refine Wp.n (pc' := 52) 1 rfl ?_
    refine Wp.retI (len := 1) rfl rfl ?_
    exact kk κ1 f1 l1
  have bad : Wp (d + 11) md_22 44 [some (.ref 35), some (.int a), some (.int (bI w)), some (.int at_), some (.int x)] [] (cset (rset M 83 ρ) κ) Q := by
    refine Wp.n (pc' := 47) 3 rfl ?_
    refine Wp.callV (len := 3) rfl rfl rfl (rfl) rfl (by decide) rfl (k_fail (p := 0) (k := 2) hT hL (by decide) _ (fun q => by cases q)) ?_
    rintro _ _ ⟨rfl, κ1, rfl, f1, l1⟩
    change LC κ1 T (.inl z) at l1
    exact fin κ1 f1 l1
  refine Wp.n (pc' := 24) 2 rfl ?_
  refine Wp.ic0 (tgt := 44) (len := 3) rfl (fun h24 => ?_) (fun h24 => ?_)
  · skip
    exact bad
  · skip
    refine Wp.n (pc' := 28) 1 rfl ?_
    refine Wp.ifb0 (tgt := 50) (len := 3) rfl (fun h28 => ?_) (fun h28 => ?_)
    · skip
      exact fin κ FA.r hL
    · skip
      refine Wp.n (pc' := 32) 1 rfl ?_
      refine Wp.get (len := 3) rfl (rfl) rfl ?_
      refine Wp.topR hG ?_
      refine Wp.n (pc' := 38) 2 rfl ?_
      refine Wp.callV (len := 3) rfl rfl rfl (dobj) rfl (by decide) rfl (k_roadAny h6 hn0 _ _) ?_
      rintro _ _ ⟨⟨o, rfl⟩, rfl⟩
      rcases o with _ | o
      · refine Wp.s (pc' := 50) rfl ?_
        exact fin κ FA.r hL
      · refine Wp.s (pc' := 44) rfl ?_
        exact bad
end COP
