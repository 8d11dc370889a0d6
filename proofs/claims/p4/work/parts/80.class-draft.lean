/-! THE CLASS'S DRAFT: rules, its beginning, the first line. -/
def BdC (ρ : RC) (K : KD) : Prop := RepC ρ K ∧ (∀ j, j < 5 → rlw ρ j = nI (kh K (6 + j))) ∧ kh K 11 = 0
/-- a line read by the class -/
def RCn (M : AM) (κ : CS) (T : TP) (st : St) (K : KD) : Option Value → AM → Prop := fun v M' => v = none ∧ ∃ ρ' κ', M' = cset (rset M 83 ρ') κ' ∧ FA κ κ' ∧ LC κ' T st ∧ (gd st = true → BdC ρ' K)
section DRF
variable {d : Nat} {X : MD} {pc len : Nat} {l : AL} {sk : List Value} {M : AM} {κ κ' : CS} {T : TP} {st : St} {K : KD} {ρ ρ' : RC} {b r : Nat} {v : Value} {Q : Option Value → AM → Prop}
theorem dobj : cset (rset M 83 ρ) κ 83 = .inr (3, rfs 83 ρ) := (cset_o (by omega)).trans rs_obj
theorem dlaw : cset (rset M 83 ρ) κ 84 = .inr (0, lfs (rlw ρ)) := (cset_o (by omega)).trans (rs_law (r := 83))
theorem droads : cset (rset M 83 ρ) κ 85 = .inl (4, 12, .inr (.inr (.inr (.inr (fun i => if i < 12 then some (83 + 3 + i) else none))))) := (cset_o (by omega)).trans (rs_roads (r := 83))
theorem droad {i : Nat} (h : i < 12) : cset (rset M 83 ρ) κ (83 + 3 + i) = .inr (1, kfs i (rlk ρ i)) := (cset_o (by omega)).trans (rs_road h)
theorem dlanes : cset (rset M 83 ρ) κ 98 = .inl (4, 9, .inr (.inr (.inr (.inr (fun i => if i < 9 then some (83 + 16 + i) else none))))) := (cset_o (by omega)).trans (rs_lanes (r := 83))
theorem dlane {i : Nat} (h : i < 9) : cset (rset M 83 ρ) κ (83 + 16 + i) = .inr (1, kfs i (rlk ρ (12 + i))) := (cset_o (by omega)).trans (rs_lane h)
theorem Wp.dput {x : Int32} (j : Nat) (hj : (Nat.ble j 3 || Nat.beq j 6 || Nat.beq j 8 || Nat.beq j 10) = true) (hc : cdx X pc = some (.inr (.inr (1, 3, j, v)), len)) (h : Wp d X (pc + len) l sk (cset (rset M 83 (hset ρ j x)) κ) Q) : Wp d X pc l (.int x :: .ref 83 :: sk) (cset (rset M 83 ρ) κ) Q := by
  rw [← rset_c (by decide) (by decide)] at h ⊢
  exact Wp.rput j hj hc h
theorem Wp.dlput {x : Int32} (j : Nat) (hj : Nat.ble j 4 = true) (hc : cdx X pc = some (.inr (.inr (1, 0, j, v)), len)) (h : Wp d X (pc + len) l sk (cset (rset M 83 (wset ρ j x)) κ) Q) : Wp d X pc l (.int x :: .ref 84 :: sk) (cset (rset M 83 ρ) κ) Q := by
  rw [← rset_c (by decide) (by decide)] at h ⊢
  exact Wp.wput (r := 83) j hj hc h
theorem Wp.dkR {x : Int32} {i : Nat} (j : Nat) (hj : (Nat.ble 1 j && Nat.ble j 6) = true) (hi : i < 12) (hc : cdx X pc = some (.inr (.inr (1, 1, j, v)), len)) (h : Wp d X (pc + len) l sk (cset (rset M 83 (kset ρ i j x)) κ) Q) : Wp d X pc l (.int x :: .ref (83 + 3 + i) :: sk) (cset (rset M 83 ρ) κ) Q := by
  rw [← rset_c (by decide) (by decide)] at h ⊢
  exact Wp.kputR j hj hi hc h
theorem Wp.dkL {x : Int32} {i : Nat} (j : Nat) (hj : (Nat.ble 1 j && Nat.ble j 6) = true) (hi : i < 9) (hc : cdx X pc = some (.inr (.inr (1, 1, j, v)), len)) (h : Wp d X (pc + len) l sk (cset (rset M 83 (kset ρ (12 + i) j x)) κ) Q) : Wp d X pc l (.int x :: .ref (83 + 16 + i) :: sk) (cset (rset M 83 ρ) κ) Q := by
  rw [← rset_c (by decide) (by decide)] at h ⊢
  exact Wp.kputL j hj hi hc h
theorem Wp.dgp {x : Int32} {i : Nat} (j : Nat) (hj : Nat.ble j 3 = true) (hi : i < 10) (hc : cdx X pc = some (.inr (.inr (1, 7, j, v)), len)) (h : Wp d X (pc + len) l sk (cset (rset M 83 (gset ρ i j x)) κ) Q) : Wp d X pc l (.int x :: .ref (83 + 26 + 2 * i) :: sk) (cset (rset M 83 ρ) κ) Q := by
  rw [← rset_c (by decide) (by decide)] at h ⊢
  exact Wp.gput j hj hi hc h
theorem k_lawBegin : Ev d md_1 0 [some (.ref 84)] [] (cset (rset M 83 ρ) κ) (none, cset (rset M 83 (wset (wset (wset (wset (wset ρ 0 0) 1 0) 2 0) 3 1) 4 0)) κ) := by
  refine Wp.toEv ?_
  refine Wp.n (pc' := 2) 2 rfl ?_
  refine Wp.dlput (len := 3) 0 rfl rfl ?_
  refine Wp.n (pc' := 7) 2 rfl ?_
  refine Wp.dlput (len := 3) 1 rfl rfl ?_
  refine Wp.n (pc' := 12) 2 rfl ?_
  refine Wp.dlput (len := 3) 2 rfl rfl ?_
  refine Wp.n (pc' := 17) 2 rfl ?_
  refine Wp.dlput (len := 3) 3 rfl rfl ?_
  refine Wp.n (pc' := 22) 2 rfl ?_
  refine Wp.dlput (len := 3) 4 rfl rfl ?_
  refine Wp.retV (len := 1) rfl rfl ?_
  exact ⟨rfl, rfl⟩
theorem k_realmBegin : Wp (d + 1) md_27 0 [some (.ref 83)] [] (cset (rset M 83 ρ) κ) (fun v M' => v = none ∧ ∃ ρ', M' = cset (rset M 83 ρ') κ ∧ BdC ρ' K0) := by
  refine Wp.n (pc' := 2) 2 rfl ?_
  refine Wp.dput (len := 3) 0 rfl rfl ?_
  refine Wp.n (pc' := 7) 2 rfl ?_
  refine Wp.dput (len := 3) 1 rfl rfl ?_
  refine Wp.n (pc' := 12) 2 rfl ?_
  refine Wp.dput (len := 3) 2 rfl rfl ?_
  refine Wp.n (pc' := 17) 2 rfl ?_
  refine Wp.dput (len := 3) 3 rfl rfl ?_
  refine Wp.n (pc' := 21) 1 rfl ?_
  refine Wp.get (len := 3) rfl (dobj) rfl ?_
  refine Wp.ecallV (len := 3) rfl rfl rfl (dlaw) rfl (by decide) rfl (k_lawBegin) ?_
  refine Wp.n (pc' := 29) 2 rfl ?_
  refine Wp.dput (len := 3) 6 rfl rfl ?_
  refine Wp.n (pc' := 34) 2 rfl ?_
  refine Wp.dput (len := 3) 8 rfl rfl ?_
  refine Wp.n (pc' := 39) 2 rfl ?_
  refine Wp.dput (len := 3) 10 rfl rfl ?_
  refine Wp.retV (len := 1) rfl rfl ?_
  have hl : ∀ (ρ2 : RC), (∀ j, j < 5 → rlw ρ2 j = if j = 3 then 1 else 0) → ∀ j, j < 5 → rlw ρ2 j = nI (kh K0 (6 + j)) := fun ρ2 h j hj => by
    rw [h j hj]
    show _ = nI (if 6 + j = 9 then 1 else 0)
    by_cases c : j = 3
    · rw [if_pos c, if_pos (by omega)]; rfl
    · rw [if_neg c, if_neg (by omega)]; rfl
  refine ⟨rfl, _, rfl, ⟨rfl, rfl, rfl, rfl, rfl, rfl, rfl, fun h => absurd h (by decide), fun i hi => absurd hi (Nat.not_lt_zero _), fun i hi => ?_, fun i hi => absurd hi (Nat.not_lt_zero _)⟩, hl _ (fun j hj => ?_), rfl⟩
  · rcases hi with hi | hi
    · exact absurd hi (Nat.not_lt_zero _)
    · exact absurd hi.2 (by show ¬ (0 : Nat) = 1; decide)
  · have jj : j = 0 ∨ j = 1 ∨ j = 2 ∨ j = 3 ∨ j = 4 := by omega
    rcases jj with rfl | rfl | rfl | rfl | rfl <;> rfl
theorem HW_r (hW : HW M) : HW (rset M 83 ρ) := fun i hi => (rset_ne (by omega)).trans (hW i hi)
theorem k_readerBegin (hT : TC κ T) : Wp (d + 10) md_10 0 [some (.ref 35), some (.ref 33), some (.ref 83)] [] (cset (rset M 83 ρ) κ) (fun v M' => v = none ∧ ∃ ρ' κ', M' = cset (rset M 83 ρ') κ' ∧ FA (cr (cr κ 0 (some 33)) 1 (some 83)) κ' ∧ LC κ' T (.inr (bl T 0)) ∧ BdC ρ' K0) := by
  refine Wp.n (pc' := 2) 2 rfl ?_
  refine Wp.cputS (len := 3) rfl ?_
  refine Wp.n (pc' := 7) 2 rfl ?_
  refine Wp.cputT (len := 3) rfl ?_
  refine Wp.n (pc' := 11) 1 rfl ?_
  refine Wp.get (len := 3) rfl (rfl) rfl ?_
  refine Wp.topR (k := 83) rfl ?_
  refine Wp.callV (len := 3) rfl rfl rfl (dobj) rfl (by decide) rfl (k_realmBegin) ?_
  rintro _ _ ⟨rfl, ρ1, rfl, hB⟩
  refine Wp.n (pc' := 19) 2 rfl ?_
  refine Wp.cput2 (len := 3) 2 rfl rfl ?_
  refine Wp.n (pc' := 24) 2 rfl ?_
  refine Wp.cput2 (len := 3) 3 rfl rfl ?_
  refine Wp.n (pc' := 29) 2 rfl ?_
  refine Wp.cput2 (len := 3) 6 rfl rfl ?_
  refine Wp.n (pc' := 33) 1 rfl ?_
  refine Wp.callV (len := 3) rfl rfl rfl (rfl) rfl (by decide) rfl (k_adv (T := T) (p := 0) ((FA.f.t (FA.f.t FA.f)).tc (κ := cr (cr κ 0 (some 33)) 1 (some 83)) hT) rfl rfl rfl rfl (Nat.zero_le _)) ?_
  rintro _ _ ⟨rfl, κ2, rfl, f2, l2⟩
  refine Wp.retV (len := 1) rfl rfl ?_
  exact ⟨rfl, ρ1, κ2, rfl, (FA.f.t (FA.f.t FA.f)).t f2, l2, hB⟩
end DRF
