/-! LINES, the class: the first, floods, laws. -/
theorem wno_0 : wno 0 = 4398346831 := by decide +kernel
theorem wno_1 : wno 1 = 235981828 := by decide +kernel
theorem wno_2 : wno 2 = 80155 := by decide +kernel
theorem wno_3 : wno 3 = 355568 := by decide +kernel
theorem wno_4 : wno 4 = 131360 := by decide +kernel
theorem wno_5 : wno 5 = 400577 := by decide +kernel
theorem wno_6 : wno 6 = 365260 := by decide +kernel
theorem wno_7 : wno 7 = 555 := by decide +kernel
theorem wno_8 : wno 8 = 131638 := by decide +kernel
theorem wno_9 : wno 9 = 8935713994 := by decide +kernel
theorem wno_10 : wno 10 = 237308 := by decide +kernel
theorem wno_11 : wno 11 = 129523 := by decide +kernel
theorem wno_12 : wno 12 = 50348 := by decide +kernel
theorem wno_13 : wno 13 = 3436186 := by decide +kernel
theorem wno_14 : wno 14 = 419 := by decide +kernel
theorem wno_15 : wno 15 = 453773 := by decide +kernel
theorem wno_16 : wno 16 = 247162 := by decide +kernel
theorem wno_17 : wno 17 = 79 := by decide +kernel
theorem wno_18 : wno 18 = 8798 := by decide +kernel
theorem wno_19 : wno 19 = 284068024 := by decide +kernel
theorem wno_20 : wno 20 = 6559778 := by decide +kernel
section CLN
variable {d : Nat} {M : AM} {κ κ' : CS} {T : TP} {st : St} {K : KD} {ρ ρ' : RC} {Q : Option Value → AM → Prop}
theorem k_tW (i : Nat) {h : Nat} (hh : wno i = h) (hi : i < 21) (hT : TC κ T) (hS : κ.2.2.2 0 = some 33) (hW : HW M) (hL : LC κ T st) : Wp (d + 10) md_16 0 [some (.ref 35), some (.ref (3 + i))] [] (cset M κ) (fun v M' => v = none ∧ RdC M κ T (wdS T h st) M') := hh ▸ k_takeWord hT hS hW hL hi
theorem k_tN (i : Nat) {h : Nat} (hh : wno i = h) (hi : i < 21) (hT : TC κ T) (hS : κ.2.2.2 0 = some 33) (hW : HW M) (hL : LC κ T st) {l32 h32 : Int32} {lo hb : Nat} (hg : gd (wdS T h st) = true → l32 = nI lo ∧ h32 = nI hb ∧ hb ≤ 1000 ∧ lo ≤ 1000) : Wp (d + 11) md_19 0 [some (.ref 35), some (.ref (3 + i)), some (.int l32), some (.int h32)] [] (cset M κ) (fun v M' => ∃ x, v = some (.int x) ∧ (gd (nmS T lo hb (wdS T h st)) = true → x = nI (nmV T (wdS T h st))) ∧ RdC M κ T (nmS T lo hb (wdS T h st)) M') := by
  subst hh
  exact k_takeNamed hT hS hW hL hi hg
theorem k_iW (i : Nat) {h : Nat} (hh : wno i = h) (hi : i < 21) (hT : TC κ T) (hS : κ.2.2.2 0 = some 33) (hW : HW M) (hL : LC κ T st) : ∃ c, Ev (d + 9) md_17 0 [some (.ref 35), some (.ref (3 + i)), none] [] (cset M κ) (some (.int (bI c)), cset M κ) ∧ ∀ s, st = .inr s → c = isW T s h := by
  subst hh
  exact k_isWord hT hS hW hL hi
theorem k_readKingdom (hT : TC κ T) (hS : κ.2.2.2 0 = some 33) (hG : κ.2.2.2 1 = some 83) (hW : HW M) (hL : LC κ T st) (hB : BdC ρ K0) : Wp (d + 12) md_15 0 [some (.ref 35)] [] (cset (rset M 83 ρ) κ) (RCn M κ T (pf6 T st) (firK T st)) := by
  refine Wp.n (pc' := 3) 2 rfl ?_
  refine Wp.callV (len := 3) rfl rfl rfl (rfl) rfl (by decide) rfl (k_tW 0 wno_0 (by decide) hT hS (HW_r hW) hL) ?_
  rintro _ _ ⟨rfl, κ1, rfl, f1, l1⟩
  have F1 := f1
  have hG1 : κ1.2.2.2 1 = some 83 := by rw [F1.2]; exact hG
  have hS1 : κ1.2.2.2 0 = some 33 := by rw [F1.2]; exact hS
  have hT1 := F1.tc hT
  refine Wp.n (pc' := 7) 1 rfl ?_
  refine Wp.get (len := 3) rfl (rfl) rfl ?_
  refine Wp.topR hG1 ?_
  refine Wp.n (pc' := 16) 4 rfl ?_
  refine Wp.callV (len := 3) rfl rfl rfl (rfl) rfl (by decide) rfl (k_tN 1 wno_1 (by decide) hT1 hS1 (HW_r hW) l1 (lo := 2) (hb := 7) (fun q => ⟨rfl, rfl, by decide, by decide⟩)) ?_
  rintro _ _ ⟨a, rfl, ha, κ2, rfl, f2, l2⟩
  have F2 := F1.t f2
  have hG2 : κ2.2.2.2 1 = some 83 := by rw [F2.2]; exact hG
  have hS2 : κ2.2.2.2 0 = some 33 := by rw [F2.2]; exact hS
  have hT2 := F2.tc hT
  refine Wp.dput (len := 3) 0 rfl rfl ?_
  refine Wp.n (pc' := 23) 1 rfl ?_
  refine Wp.get (len := 3) rfl (rfl) rfl ?_
  refine Wp.topR hG2 ?_
  refine Wp.n (pc' := 32) 4 rfl ?_
  refine Wp.callV (len := 3) rfl rfl rfl (rfl) rfl (by decide) rfl (k_tN 2 wno_2 (by decide) hT2 hS2 (HW_r hW) l2 (lo := 1) (hb := 30) (fun q => ⟨rfl, rfl, by decide, by decide⟩)) ?_
  rintro _ _ ⟨b, rfl, hb, κ3, rfl, f3, l3⟩
  have F3 := F2.t f3
  have hG3 : κ3.2.2.2 1 = some 83 := by rw [F3.2]; exact hG
  have hS3 : κ3.2.2.2 0 = some 33 := by rw [F3.2]; exact hS
  have hT3 := F3.tc hT
  refine Wp.dput (len := 3) 1 rfl rfl ?_
  refine Wp.n (pc' := 39) 1 rfl ?_
  refine Wp.get (len := 3) rfl (rfl) rfl ?_
  refine Wp.topR hG3 ?_
  refine Wp.get (len := 3) rfl (dobj) rfl ?_
  refine Wp.n (pc' := 51) 4 rfl ?_
  refine Wp.callV (len := 3) rfl rfl rfl (rfl) rfl (by decide) rfl (k_tN 3 wno_3 (by decide) hT3 hS3 (HW_r hW) l3 (lo := 0) (hb := 99) (fun q => ⟨rfl, rfl, by decide, by decide⟩)) ?_
  rintro _ _ ⟨c, rfl, hc, κ4, rfl, f4, l4⟩
  have F4 := F3.t f4
  have hG4 : κ4.2.2.2 1 = some 83 := by rw [F4.2]; exact hG
  have hS4 : κ4.2.2.2 0 = some 33 := by rw [F4.2]; exact hS
  have hT4 := F4.tc hT
  refine Wp.dlput (len := 3) 0 rfl rfl ?_
  refine Wp.n (pc' := 58) 1 rfl ?_
  refine Wp.get (len := 3) rfl (rfl) rfl ?_
  refine Wp.topR hG4 ?_
  refine Wp.get (len := 3) rfl (dobj) rfl ?_
  refine Wp.n (pc' := 70) 4 rfl ?_
  refine Wp.callV (len := 3) rfl rfl rfl (rfl) rfl (by decide) rfl (k_tN 4 wno_4 (by decide) hT4 hS4 (HW_r hW) l4 (lo := 0) (hb := 99) (fun q => ⟨rfl, rfl, by decide, by decide⟩)) ?_
  rintro _ _ ⟨x, rfl, hx, κ5, rfl, f5, l5⟩
  have F5 := F4.t f5
  have hG5 : κ5.2.2.2 1 = some 83 := by rw [F5.2]; exact hG
  have hS5 : κ5.2.2.2 0 = some 33 := by rw [F5.2]; exact hS
  have hT5 := F5.tc hT
  refine Wp.dlput (len := 3) 1 rfl rfl ?_
  refine Wp.n (pc' := 77) 1 rfl ?_
  refine Wp.get (len := 3) rfl (rfl) rfl ?_
  refine Wp.topR hG5 ?_
  refine Wp.get (len := 3) rfl (dobj) rfl ?_
  refine Wp.n (pc' := 89) 4 rfl ?_
  refine Wp.callV (len := 3) rfl rfl rfl (rfl) rfl (by decide) rfl (k_tN 5 wno_5 (by decide) hT5 hS5 (HW_r hW) l5 (lo := 0) (hb := 99) (fun q => ⟨rfl, rfl, by decide, by decide⟩)) ?_
  rintro _ _ ⟨y, rfl, hy, κ6, rfl, f6, l6⟩
  have F6 := F5.t f6
  have hG6 : κ6.2.2.2 1 = some 83 := by rw [F6.2]; exact hG
  have hS6 : κ6.2.2.2 0 = some 33 := by rw [F6.2]; exact hS
  have hT6 := F6.tc hT
  refine Wp.dlput (len := 3) 2 rfl rfl ?_
  refine Wp.retV (len := 1) rfl rfl ?_
  refine ⟨rfl, _, κ6, rfl, F6, l6, fun g6 => ?_⟩
  have g5 : gd (pf5 T st) = true := gd_wd (gd_nm g6)
  have g4 : gd (pf4 T st) = true := gd_wd (gd_nm g5)
  have g3 : gd (pf3 T st) = true := gd_wd (gd_nm g4)
  have g2 : gd (pf2 T st) = true := gd_wd (gd_nm g3)
  obtain rfl := ha g2
  obtain rfl := hb g3
  obtain rfl := hc g4
  obtain rfl := hx g5
  obtain rfl := hy g6
  obtain ⟨⟨r0, r1, r2, r3, r6, r8, r10, rl, rr, rn_, rw_⟩, hl, h11⟩ := hB
  have hl' : ∀ j, j < 5 → rlw (wset (wset (wset (hset (hset ρ 0 (nI (nmV T (wdS T 235981828 (wdS T 4398346831 st))))) 1 (nI (nmV T (wdS T 80155 (nmS T 2 7 (wdS T 235981828 (wdS T 4398346831 st))))))) 0 (nI (nmV T (wdS T 355568 (nmS T 1 30 (wdS T 80155 (nmS T 2 7 (wdS T 235981828 (wdS T 4398346831 st))))))))) 1 (nI (nmV T (wdS T 131360 (pf4 T st))))) 2 (nI (nmV T (wdS T 400577 (pf5 T st))))) j = nI (kh (firK T st) (6 + j)) := fun j hj => by
    have jj : j = 0 ∨ j = 1 ∨ j = 2 ∨ j = 3 ∨ j = 4 := by omega
    rcases jj with rfl | rfl | rfl | rfl | rfl
    · rfl
    · rfl
    · rfl
    · exact hl 3 (by decide)
    · exact hl 4 (by decide)
  refine ⟨⟨rfl, rfl, r2, r3, r6, r8, r10, fun _ => hl', fun i hi => absurd hi (Nat.not_lt_zero _), fun i hi => ?_, fun i hi => absurd hi (Nat.not_lt_zero _)⟩, hl', rfl⟩
  rcases hi with hi | hi
  · exact absurd hi (Nat.not_lt_zero _)
  · exact absurd hi.2 (by show ¬ (0 : Nat) = 1; decide)
end CLN
