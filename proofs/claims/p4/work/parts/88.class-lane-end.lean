/-! LINES, the class: the end of a lane's line. -/
section CLE
variable {d : Nat} {M : AM} {κ κ' : CS} {T : TP} {st : St} {K : KD} {ρ ρ' : RC} {g : Nat → Int32} {Q : Option Value → AM → Prop}
theorem k_lane_e {k : Nat} {G : Nat → Nat} {κ1 : CS} (hk : 1 ≤ k ∧ k ≤ 3) (hB : BdC ρ K) (ok : KOK K) (h3 : kh K 3 < 8) (hG : κ1.2.2.2 1 = some 83) (F : FA κ κ1) (l : LC κ1 T st) (L : LkF (12 + kh K 3) g ρ ρ') (hv : gd st = true → g 1 = nI (G 5 + 1) ∧ g 2 = bitsE (G 0) (G 1) ∧ g 3 = nI (G 2) ∧ g 4 = nI (G 3) ∧ g 5 = nI (G 4) ∧ g 6 = nI (G 6)) {x2 x3 x4 x5 : Option Value} : Wp (d + 12) md_21 194 [some (.ref 35), some (.int (nI k)), x2, x3, x4, x5] [] (cset (rset M 83 ρ') κ1) (RCn M κ T st (addL K G)) := by
  have e8 : rhd ρ' 8 = nI (kh K 3) := by
    show ρ'.1 8 = _
    rw [L.1]
    have w := hB.1.2.2.2.2.2.1
    rw [hB.2.2, Nat.add_zero] at w
    exact w
  rcases st with z | s
  · have z1 := l.2.1
    have z3 := l.2.2.1
    refine Wp.n (pc' := 195) 1 rfl ?_
    refine Wp.get (len := 3) rfl (rfl) rfl ?_
    refine Wp.top l.1 ?_
    refine Wp.nz1 (x := z.1) (tgt := 209) (len := 3) rfl (by omega) (fun h198 => ?_) (fun h198 => ?_)
    · skip
      refine Wp.retV (len := 1) rfl rfl ?_
      exact ⟨rfl, ρ', κ1, rfl, F, l, fun q => by cases q⟩
    · omega
  · have vv := hv rfl
    refine Wp.n (pc' := 195) 1 rfl ?_
    refine Wp.get (len := 3) rfl (rfl) rfl ?_
    refine Wp.top l.1 ?_
    refine Wp.nz1 (x := 0) (tgt := 209) (len := 3) rfl (by omega) (fun h198 => ?_) (fun h198 => ?_)
    · omega
    · skip
      refine Wp.n (pc' := 202) 1 rfl ?_
      refine Wp.get (len := 3) rfl (rfl) rfl ?_
      refine Wp.topR hG ?_
      refine Wp.n (pc' := 206) 1 rfl ?_
      refine Wp.ecallV (len := 3) rfl rfl rfl (dobj) rfl (by decide) rfl (k_takeSpare1 hk e8) ?_
      refine Wp.retV (len := 1) rfl rfl ?_
      refine ⟨rfl, _, κ1, rfl, F, l, fun _ => ?_⟩
      have hK1 := RepC_l hB.1 ok hB.2.2 L
      obtain ⟨_, hl, h11⟩ := hB
      obtain ⟨t0, t1, t2, t3, t6, t8, t10, tl, tr, tn_, tw_⟩ := hK1
      have hl' : ∀ j, j < 5 → rlw ρ' j = nI (kh K (6 + j)) := fun j hj => by show ρ'.2.1 j = _; rw [L.2.1]; exact hl j hj
      have ek : ∀ j, j ≠ 3 → kh (addL K G) j = kh K j := fun j hj => if_neg hj
      have e11 : kh (addL K G) 11 = 0 := h11
      refine ⟨⟨t0, t1, t2, t3, t6, ?_, t10, fun _ j hj => ?_, tr, fun i hi => ?_, tw_⟩, fun j hj => ?_, h11⟩
      · show nI (kh K 3 + 1) = nI (kh K 3 + 1 + kh K 11)
        rw [h11]
      · rw [ek (6 + j) (by omega)]; exact hl' j hj
      · rw [e11] at hi
        have hi' : i < kh K 3 + 1 := by
          rcases hi with hi | hi
          · exact hi
          · omega
        have ep : phL (addL K G) i = i := if_neg (by omega)
        have el : kl (addL K G) i = if i = kh K 3 then G else kl K i := rfl
        rw [ep, el]
        by_cases q : i = kh K 3
        · rw [if_pos q, q]
          show rlk ρ' (12 + kh K 3) 1 = _ ∧ rlk ρ' (12 + kh K 3) 2 = _ ∧ rlk ρ' (12 + kh K 3) 3 = _ ∧ rlk ρ' (12 + kh K 3) 4 = _ ∧ rlk ρ' (12 + kh K 3) 5 = _ ∧ rlk ρ' (12 + kh K 3) 6 = _
          rw [L.2.2.2.2]
          exact vv
        · rw [if_neg q]
          have w := tn_ i (Or.inl (by omega))
          rw [show phL K i = i from if_neg (by omega)] at w
          exact w
      · rw [ek (6 + j) (by omega)]; exact hl' j hj
end CLE
