/-! THE LAW: its cases, b. -/
section LCB
variable {L i : Nat} {xs : Nat → Int32} {M : AM} {κ : CS} {σ : MS} {Z : Zt} {Q : Option Value → AM → Prop}
theorem L_owes (hi : i + 6 ≤ L) (hL : L ≤ 3072) (h2 : M 2 = .inl (7, L, .inl xs)) (hC : CI M κ Z) (hM : MI σ Z) (hZ : ZG Z) (kk : LK M i Q) : Wp 60 md_263 663 [some (.ref 2), some (.ref 32), some (.ref 287), some (.int (nI i))] [] (mset (cset M κ) σ) Q := by
  obtain ⟨K, I, S, T, f⟩ := Z
  rw [ms_cs]
  have hC1 := CI_ms (σ := σ) hC
  obtain ⟨ow, hDo⟩ := hC1.1.1
  have s1 : cset (mset M σ) κ 2 = .inl (7, L, .inl xs) := (cset_o (by omega)).trans ((if_pos (by decide)).trans h2)
  refine Wp.n (pc' := 667) 4 rfl ?_
  refine Wp.iaddN (x := i) (y := 1) (len := 1) rfl ?_
  refine Wp.ialdN (j := i + 1) (len := 1) rfl (s1) rfl (by omega) (by omega) ?_
  refine Wp.callV (len := 3) rfl rfl rfl ((cset_o (by omega)).trans hDo) rfl (by decide) rfl (Wp.mono (k_owes hC1.1 hC1.2.2.2.1 _) (fun v M' r => CR_s hC1 r)) ?_
  rintro _ _ ⟨rfl, M2, κ2, rfl, hC2, e2⟩
  rw [ms_ab e2]
  have s2 : mset (cset M2 κ2) σ 2 = .inl (7, L, .inl xs) := (if_pos (by decide)).trans ((cset_o (by omega)).trans ((e2 2 (by omega)).trans ((if_pos (by decide)).trans h2)))
  refine Wp.n (pc' := 677) 5 rfl ?_
  refine Wp.iaddN (x := i) (y := 1) (len := 1) rfl ?_
  refine Wp.ialdN (j := i + 1) (len := 1) rfl (s2) rfl (by omega) (by omega) ?_
  refine Wp.callV (len := 3) rfl rfl rfl (rfl) rfl (by decide) rfl (Wp.mono (m_owes hM.1 _) (fun v M' r => MQ_s hM r)) ?_
  rintro _ _ ⟨rfl, σ2, rfl, hM2⟩
  refine Wp.n (pc' := 1763) 2 rfl ?_
  exact kk M2 κ2 σ2 _ hC2 hM2 (hZ) (fun q hq => (e2 q (Or.inl hq)).trans (if_pos (by omega)))
theorem L_takings (hi : i + 6 ≤ L) (hL : L ≤ 3072) (h2 : M 2 = .inl (7, L, .inl xs)) (hC : CI M κ Z) (hM : MI σ Z) (hZ : ZG Z) (kk : LK M i Q) : Wp 60 md_263 686 [some (.ref 2), some (.ref 32), some (.ref 287), some (.int (nI i))] [] (mset (cset M κ) σ) Q := by
  obtain ⟨K, I, S, T, f⟩ := Z
  rw [ms_cs]
  have hC1 := CI_ms (σ := σ) hC
  obtain ⟨ow, hDo⟩ := hC1.1.1
  have s1 : cset (mset M σ) κ 2 = .inl (7, L, .inl xs) := (cset_o (by omega)).trans ((if_pos (by decide)).trans h2)
  refine Wp.n (pc' := 690) 4 rfl ?_
  refine Wp.iaddN (x := i) (y := 1) (len := 1) rfl ?_
  refine Wp.ialdN (j := i + 1) (len := 1) rfl (s1) rfl (by omega) (by omega) ?_
  refine Wp.callV (len := 3) rfl rfl rfl ((cset_o (by omega)).trans hDo) rfl (by decide) rfl (Wp.mono (k_takings hC1.1 hC1.2.2.2.1 _) (fun v M' r => CR_s hC1 r)) ?_
  rintro _ _ ⟨rfl, M2, κ2, rfl, hC2, e2⟩
  rw [ms_ab e2]
  have s2 : mset (cset M2 κ2) σ 2 = .inl (7, L, .inl xs) := (if_pos (by decide)).trans ((cset_o (by omega)).trans ((e2 2 (by omega)).trans ((if_pos (by decide)).trans h2)))
  refine Wp.n (pc' := 700) 5 rfl ?_
  refine Wp.iaddN (x := i) (y := 1) (len := 1) rfl ?_
  refine Wp.ialdN (j := i + 1) (len := 1) rfl (s2) rfl (by omega) (by omega) ?_
  refine Wp.callV (len := 3) rfl rfl rfl (rfl) rfl (by decide) rfl (Wp.mono (m_takings hM.1 _) (fun v M' r => MQ_s hM r)) ?_
  rintro _ _ ⟨rfl, σ2, rfl, hM2⟩
  refine Wp.n (pc' := 1763) 2 rfl ?_
  exact kk M2 κ2 σ2 _ hC2 hM2 (hZ) (fun q hq => (e2 q (Or.inl hq)).trans (if_pos (by omega)))
theorem L_chance (hi : i + 6 ≤ L) (hL : L ≤ 3072) (h2 : M 2 = .inl (7, L, .inl xs)) (hC : CI M κ Z) (hM : MI σ Z) (hZ : ZG Z) (kk : LK M i Q) : Wp 60 md_263 709 [some (.ref 2), some (.ref 32), some (.ref 287), some (.int (nI i))] [] (mset (cset M κ) σ) Q := by
  obtain ⟨K, I, S, T, f⟩ := Z
  rw [ms_cs]
  have hC1 := CI_ms (σ := σ) hC
  obtain ⟨ow, hDo⟩ := hC1.1.1
  have s1 : cset (mset M σ) κ 2 = .inl (7, L, .inl xs) := (cset_o (by omega)).trans ((if_pos (by decide)).trans h2)
  refine Wp.n (pc' := 713) 4 rfl ?_
  refine Wp.iaddN (x := i) (y := 1) (len := 1) rfl ?_
  refine Wp.ialdN (j := i + 1) (len := 1) rfl (s1) rfl (by omega) (by omega) ?_
  refine Wp.n (pc' := 718) 3 rfl ?_
  refine Wp.iaddN (x := i) (y := 2) (len := 1) rfl ?_
  refine Wp.ialdN (j := i + 2) (len := 1) rfl (s1) rfl (by omega) (by omega) ?_
  refine Wp.callV (len := 3) rfl rfl rfl ((cset_o (by omega)).trans hDo) rfl (by decide) rfl (Wp.mono (k_chance hC1.1 hC1.2.2.2.1 _ _) (fun v M' r => CR_j hC1 r)) ?_
  rintro _ _ ⟨rfl, M2, κ2, rfl, hC2, e2⟩
  rw [ms_ab e2]
  have s2 : mset (cset M2 κ2) σ 2 = .inl (7, L, .inl xs) := (if_pos (by decide)).trans ((cset_o (by omega)).trans ((e2 2 (by omega)).trans ((if_pos (by decide)).trans h2)))
  refine Wp.n (pc' := 728) 5 rfl ?_
  refine Wp.iaddN (x := i) (y := 1) (len := 1) rfl ?_
  refine Wp.ialdN (j := i + 1) (len := 1) rfl (s2) rfl (by omega) (by omega) ?_
  refine Wp.n (pc' := 733) 3 rfl ?_
  refine Wp.iaddN (x := i) (y := 2) (len := 1) rfl ?_
  refine Wp.ialdN (j := i + 2) (len := 1) rfl (s2) rfl (by omega) (by omega) ?_
  refine Wp.callV (len := 3) rfl rfl rfl (rfl) rfl (by decide) rfl (Wp.mono (m_chance hM.1 _ _) (fun v M' r => MQ_j hM r)) ?_
  rintro _ _ ⟨rfl, σ2, rfl, hM2⟩
  refine Wp.n (pc' := 1763) 2 rfl ?_
  exact kk M2 κ2 σ2 _ hC2 hM2 (hZ) (fun q hq => (e2 q (Or.inl hq)).trans (if_pos (by omega)))
theorem L_hope (hi : i + 6 ≤ L) (hL : L ≤ 3072) (h2 : M 2 = .inl (7, L, .inl xs)) (hC : CI M κ Z) (hM : MI σ Z) (hZ : ZG Z) (kk : LK M i Q) : Wp 60 md_263 742 [some (.ref 2), some (.ref 32), some (.ref 287), some (.int (nI i))] [] (mset (cset M κ) σ) Q := by
  obtain ⟨K, I, S, T, f⟩ := Z
  rw [ms_cs]
  have hC1 := CI_ms (σ := σ) hC
  obtain ⟨ow, hDo⟩ := hC1.1.1
  have s1 : cset (mset M σ) κ 2 = .inl (7, L, .inl xs) := (cset_o (by omega)).trans ((if_pos (by decide)).trans h2)
  refine Wp.n (pc' := 746) 4 rfl ?_
  refine Wp.iaddN (x := i) (y := 1) (len := 1) rfl ?_
  refine Wp.ialdN (j := i + 1) (len := 1) rfl (s1) rfl (by omega) (by omega) ?_
  refine Wp.n (pc' := 751) 3 rfl ?_
  refine Wp.iaddN (x := i) (y := 2) (len := 1) rfl ?_
  refine Wp.ialdN (j := i + 2) (len := 1) rfl (s1) rfl (by omega) (by omega) ?_
  refine Wp.callV (len := 3) rfl rfl rfl ((cset_o (by omega)).trans hDo) rfl (by decide) rfl (Wp.mono (k_hope hC1.1 hC1.2.2.2.1 _ _) (fun v M' r => CR_j hC1 r)) ?_
  rintro _ _ ⟨rfl, M2, κ2, rfl, hC2, e2⟩
  rw [ms_ab e2]
  have s2 : mset (cset M2 κ2) σ 2 = .inl (7, L, .inl xs) := (if_pos (by decide)).trans ((cset_o (by omega)).trans ((e2 2 (by omega)).trans ((if_pos (by decide)).trans h2)))
  refine Wp.n (pc' := 761) 5 rfl ?_
  refine Wp.iaddN (x := i) (y := 1) (len := 1) rfl ?_
  refine Wp.ialdN (j := i + 1) (len := 1) rfl (s2) rfl (by omega) (by omega) ?_
  refine Wp.n (pc' := 766) 3 rfl ?_
  refine Wp.iaddN (x := i) (y := 2) (len := 1) rfl ?_
  refine Wp.ialdN (j := i + 2) (len := 1) rfl (s2) rfl (by omega) (by omega) ?_
  refine Wp.callV (len := 3) rfl rfl rfl (rfl) rfl (by decide) rfl (Wp.mono (m_hope hM.1 _ _) (fun v M' r => MQ_j hM r)) ?_
  rintro _ _ ⟨rfl, σ2, rfl, hM2⟩
  refine Wp.n (pc' := 1763) 2 rfl ?_
  exact kk M2 κ2 σ2 _ hC2 hM2 (hZ) (fun q hq => (e2 q (Or.inl hq)).trans (if_pos (by omega)))
theorem L_shortest (hi : i + 6 ≤ L) (hL : L ≤ 3072) (h2 : M 2 = .inl (7, L, .inl xs)) (hC : CI M κ Z) (hM : MI σ Z) (hZ : ZG Z) (kk : LK M i Q) : Wp 60 md_263 775 [some (.ref 2), some (.ref 32), some (.ref 287), some (.int (nI i))] [] (mset (cset M κ) σ) Q := by
  obtain ⟨K, I, S, T, f⟩ := Z
  rw [ms_cs]
  have hC1 := CI_ms (σ := σ) hC
  obtain ⟨ow, hDo⟩ := hC1.1.1
  have s1 : cset (mset M σ) κ 2 = .inl (7, L, .inl xs) := (cset_o (by omega)).trans ((if_pos (by decide)).trans h2)
  refine Wp.n (pc' := 779) 4 rfl ?_
  refine Wp.iaddN (x := i) (y := 1) (len := 1) rfl ?_
  refine Wp.ialdN (j := i + 1) (len := 1) rfl (s1) rfl (by omega) (by omega) ?_
  refine Wp.n (pc' := 784) 3 rfl ?_
  refine Wp.iaddN (x := i) (y := 2) (len := 1) rfl ?_
  refine Wp.ialdN (j := i + 2) (len := 1) rfl (s1) rfl (by omega) (by omega) ?_
  refine Wp.n (pc' := 789) 3 rfl ?_
  refine Wp.iaddN (x := i) (y := 3) (len := 1) rfl ?_
  refine Wp.ialdN (j := i + 3) (len := 1) rfl (s1) rfl (by omega) (by omega) ?_
  refine Wp.callV (len := 3) rfl rfl rfl ((cset_o (by omega)).trans hDo) rfl (by decide) rfl (Wp.mono (k_shortest hC1.1 hC1.2.2.2.1 _ _ _) (fun v M' r => CR_s hC1 r)) ?_
  rintro _ _ ⟨rfl, M2, κ2, rfl, hC2, e2⟩
  rw [ms_ab e2]
  have s2 : mset (cset M2 κ2) σ 2 = .inl (7, L, .inl xs) := (if_pos (by decide)).trans ((cset_o (by omega)).trans ((e2 2 (by omega)).trans ((if_pos (by decide)).trans h2)))
  refine Wp.n (pc' := 799) 5 rfl ?_
  refine Wp.iaddN (x := i) (y := 1) (len := 1) rfl ?_
  refine Wp.ialdN (j := i + 1) (len := 1) rfl (s2) rfl (by omega) (by omega) ?_
  refine Wp.n (pc' := 804) 3 rfl ?_
  refine Wp.iaddN (x := i) (y := 2) (len := 1) rfl ?_
  refine Wp.ialdN (j := i + 2) (len := 1) rfl (s2) rfl (by omega) (by omega) ?_
  refine Wp.n (pc' := 809) 3 rfl ?_
  refine Wp.iaddN (x := i) (y := 3) (len := 1) rfl ?_
  refine Wp.ialdN (j := i + 3) (len := 1) rfl (s2) rfl (by omega) (by omega) ?_
  refine Wp.callV (len := 3) rfl rfl rfl (rfl) rfl (by decide) rfl (Wp.mono (m_shortest hM.1 _ _ _) (fun v M' r => MQ_s hM r)) ?_
  rintro _ _ ⟨rfl, σ2, rfl, hM2⟩
  refine Wp.n (pc' := 1763) 2 rfl ?_
  exact kk M2 κ2 σ2 _ hC2 hM2 (hZ) (fun q hq => (e2 q (Or.inl hq)).trans (if_pos (by omega)))
theorem L_hidden (hi : i + 6 ≤ L) (hL : L ≤ 3072) (h2 : M 2 = .inl (7, L, .inl xs)) (hC : CI M κ Z) (hM : MI σ Z) (hZ : ZG Z) (kk : LK M i Q) : Wp 60 md_263 818 [some (.ref 2), some (.ref 32), some (.ref 287), some (.int (nI i))] [] (mset (cset M κ) σ) Q := by
  obtain ⟨K, I, S, T, f⟩ := Z
  rw [ms_cs]
  have hC1 := CI_ms (σ := σ) hC
  obtain ⟨ow, hDo⟩ := hC1.1.1
  have s1 : cset (mset M σ) κ 2 = .inl (7, L, .inl xs) := (cset_o (by omega)).trans ((if_pos (by decide)).trans h2)
  refine Wp.n (pc' := 822) 4 rfl ?_
  refine Wp.iaddN (x := i) (y := 1) (len := 1) rfl ?_
  refine Wp.ialdN (j := i + 1) (len := 1) rfl (s1) rfl (by omega) (by omega) ?_
  refine Wp.n (pc' := 827) 3 rfl ?_
  refine Wp.iaddN (x := i) (y := 2) (len := 1) rfl ?_
  refine Wp.ialdN (j := i + 2) (len := 1) rfl (s1) rfl (by omega) (by omega) ?_
  refine Wp.n (pc' := 832) 3 rfl ?_
  refine Wp.iaddN (x := i) (y := 3) (len := 1) rfl ?_
  refine Wp.ialdN (j := i + 3) (len := 1) rfl (s1) rfl (by omega) (by omega) ?_
  refine Wp.callV (len := 3) rfl rfl rfl ((cset_o (by omega)).trans hDo) rfl (by decide) rfl (Wp.mono (k_hidden hC1.1 hC1.2.2.2.1 _ _ _) (fun v M' r => CR_s hC1 r)) ?_
  rintro _ _ ⟨rfl, M2, κ2, rfl, hC2, e2⟩
  rw [ms_ab e2]
  have s2 : mset (cset M2 κ2) σ 2 = .inl (7, L, .inl xs) := (if_pos (by decide)).trans ((cset_o (by omega)).trans ((e2 2 (by omega)).trans ((if_pos (by decide)).trans h2)))
  refine Wp.n (pc' := 842) 5 rfl ?_
  refine Wp.iaddN (x := i) (y := 1) (len := 1) rfl ?_
  refine Wp.ialdN (j := i + 1) (len := 1) rfl (s2) rfl (by omega) (by omega) ?_
  refine Wp.n (pc' := 847) 3 rfl ?_
  refine Wp.iaddN (x := i) (y := 2) (len := 1) rfl ?_
  refine Wp.ialdN (j := i + 2) (len := 1) rfl (s2) rfl (by omega) (by omega) ?_
  refine Wp.n (pc' := 852) 3 rfl ?_
  refine Wp.iaddN (x := i) (y := 3) (len := 1) rfl ?_
  refine Wp.ialdN (j := i + 3) (len := 1) rfl (s2) rfl (by omega) (by omega) ?_
  refine Wp.callV (len := 3) rfl rfl rfl (rfl) rfl (by decide) rfl (Wp.mono (m_hidden hM.1 _ _ _) (fun v M' r => MQ_s hM r)) ?_
  rintro _ _ ⟨rfl, σ2, rfl, hM2⟩
  refine Wp.n (pc' := 1763) 2 rfl ?_
  exact kk M2 κ2 σ2 _ hC2 hM2 (hZ) (fun q hq => (e2 q (Or.inl hq)).trans (if_pos (by omega)))
theorem L_best (hi : i + 6 ≤ L) (hL : L ≤ 3072) (h2 : M 2 = .inl (7, L, .inl xs)) (hC : CI M κ Z) (hM : MI σ Z) (hZ : ZG Z) (kk : LK M i Q) : Wp 60 md_263 861 [some (.ref 2), some (.ref 32), some (.ref 287), some (.int (nI i))] [] (mset (cset M κ) σ) Q := by
  obtain ⟨K, I, S, T, f⟩ := Z
  rw [ms_cs]
  have hC1 := CI_ms (σ := σ) hC
  obtain ⟨ow, hDo⟩ := hC1.1.1
  have s1 : cset (mset M σ) κ 2 = .inl (7, L, .inl xs) := (cset_o (by omega)).trans ((if_pos (by decide)).trans h2)
  refine Wp.n (pc' := 865) 4 rfl ?_
  refine Wp.iaddN (x := i) (y := 1) (len := 1) rfl ?_
  refine Wp.ialdN (j := i + 1) (len := 1) rfl (s1) rfl (by omega) (by omega) ?_
  refine Wp.n (pc' := 870) 3 rfl ?_
  refine Wp.iaddN (x := i) (y := 2) (len := 1) rfl ?_
  refine Wp.ialdN (j := i + 2) (len := 1) rfl (s1) rfl (by omega) (by omega) ?_
  refine Wp.n (pc' := 875) 3 rfl ?_
  refine Wp.iaddN (x := i) (y := 3) (len := 1) rfl ?_
  refine Wp.ialdN (j := i + 3) (len := 1) rfl (s1) rfl (by omega) (by omega) ?_
  refine Wp.n (pc' := 880) 3 rfl ?_
  refine Wp.iaddN (x := i) (y := 4) (len := 1) rfl ?_
  refine Wp.ialdN (j := i + 4) (len := 1) rfl (s1) rfl (by omega) (by omega) ?_
  refine Wp.n (pc' := 885) 3 rfl ?_
  refine Wp.iaddN (x := i) (y := 5) (len := 1) rfl ?_
  refine Wp.ialdN (j := i + 5) (len := 1) rfl (s1) rfl (by omega) (by omega) ?_
  refine Wp.callV (len := 3) rfl rfl rfl ((cset_o (by omega)).trans hDo) rfl (by decide) rfl (Wp.mono (k_best hC1.1 hC1.2.2.2.1 _ _ _ _ _) (fun v M' r => CR_s hC1 r)) ?_
  rintro _ _ ⟨rfl, M2, κ2, rfl, hC2, e2⟩
  rw [ms_ab e2]
  have s2 : mset (cset M2 κ2) σ 2 = .inl (7, L, .inl xs) := (if_pos (by decide)).trans ((cset_o (by omega)).trans ((e2 2 (by omega)).trans ((if_pos (by decide)).trans h2)))
  refine Wp.n (pc' := 895) 5 rfl ?_
  refine Wp.iaddN (x := i) (y := 1) (len := 1) rfl ?_
  refine Wp.ialdN (j := i + 1) (len := 1) rfl (s2) rfl (by omega) (by omega) ?_
  refine Wp.n (pc' := 900) 3 rfl ?_
  refine Wp.iaddN (x := i) (y := 2) (len := 1) rfl ?_
  refine Wp.ialdN (j := i + 2) (len := 1) rfl (s2) rfl (by omega) (by omega) ?_
  refine Wp.n (pc' := 905) 3 rfl ?_
  refine Wp.iaddN (x := i) (y := 3) (len := 1) rfl ?_
  refine Wp.ialdN (j := i + 3) (len := 1) rfl (s2) rfl (by omega) (by omega) ?_
  refine Wp.n (pc' := 910) 3 rfl ?_
  refine Wp.iaddN (x := i) (y := 4) (len := 1) rfl ?_
  refine Wp.ialdN (j := i + 4) (len := 1) rfl (s2) rfl (by omega) (by omega) ?_
  refine Wp.n (pc' := 915) 3 rfl ?_
  refine Wp.iaddN (x := i) (y := 5) (len := 1) rfl ?_
  refine Wp.ialdN (j := i + 5) (len := 1) rfl (s2) rfl (by omega) (by omega) ?_
  refine Wp.callV (len := 3) rfl rfl rfl (rfl) rfl (by decide) rfl (Wp.mono (m_best hM.1 _ _ _ _ _) (fun v M' r => MQ_s hM r)) ?_
  rintro _ _ ⟨rfl, σ2, rfl, hM2⟩
  refine Wp.n (pc' := 1763) 2 rfl ?_
  exact kk M2 κ2 σ2 _ hC2 hM2 (hZ) (fun q hq => (e2 q (Or.inl hq)).trans (if_pos (by omega)))
theorem L_goes (hi : i + 6 ≤ L) (hL : L ≤ 3072) (h2 : M 2 = .inl (7, L, .inl xs)) (hC : CI M κ Z) (hM : MI σ Z) (hZ : ZG Z) (kk : LK M i Q) : Wp 60 md_263 924 [some (.ref 2), some (.ref 32), some (.ref 287), some (.int (nI i))] [] (mset (cset M κ) σ) Q := by
  obtain ⟨K, I, S, T, f⟩ := Z
  rw [ms_cs]
  have hC1 := CI_ms (σ := σ) hC
  obtain ⟨ow, hDo⟩ := hC1.1.1
  have s1 : cset (mset M σ) κ 2 = .inl (7, L, .inl xs) := (cset_o (by omega)).trans ((if_pos (by decide)).trans h2)
  refine Wp.n (pc' := 928) 4 rfl ?_
  refine Wp.iaddN (x := i) (y := 1) (len := 1) rfl ?_
  refine Wp.ialdN (j := i + 1) (len := 1) rfl (s1) rfl (by omega) (by omega) ?_
  refine Wp.n (pc' := 933) 3 rfl ?_
  refine Wp.iaddN (x := i) (y := 2) (len := 1) rfl ?_
  refine Wp.ialdN (j := i + 2) (len := 1) rfl (s1) rfl (by omega) (by omega) ?_
  refine Wp.n (pc' := 938) 3 rfl ?_
  refine Wp.iaddN (x := i) (y := 3) (len := 1) rfl ?_
  refine Wp.ialdN (j := i + 3) (len := 1) rfl (s1) rfl (by omega) (by omega) ?_
  refine Wp.n (pc' := 943) 3 rfl ?_
  refine Wp.iaddN (x := i) (y := 4) (len := 1) rfl ?_
  refine Wp.ialdN (j := i + 4) (len := 1) rfl (s1) rfl (by omega) (by omega) ?_
  refine Wp.n (pc' := 948) 3 rfl ?_
  refine Wp.iaddN (x := i) (y := 5) (len := 1) rfl ?_
  refine Wp.ialdN (j := i + 5) (len := 1) rfl (s1) rfl (by omega) (by omega) ?_
  refine Wp.callV (len := 3) rfl rfl rfl ((cset_o (by omega)).trans hDo) rfl (by decide) rfl (Wp.mono (k_goes hC1.1 hC1.2.2.2.1 _ _ _ _ _) (fun v M' r => CR_s hC1 r)) ?_
  rintro _ _ ⟨rfl, M2, κ2, rfl, hC2, e2⟩
  rw [ms_ab e2]
  have s2 : mset (cset M2 κ2) σ 2 = .inl (7, L, .inl xs) := (if_pos (by decide)).trans ((cset_o (by omega)).trans ((e2 2 (by omega)).trans ((if_pos (by decide)).trans h2)))
  refine Wp.n (pc' := 958) 5 rfl ?_
  refine Wp.iaddN (x := i) (y := 1) (len := 1) rfl ?_
  refine Wp.ialdN (j := i + 1) (len := 1) rfl (s2) rfl (by omega) (by omega) ?_
  refine Wp.n (pc' := 963) 3 rfl ?_
  refine Wp.iaddN (x := i) (y := 2) (len := 1) rfl ?_
  refine Wp.ialdN (j := i + 2) (len := 1) rfl (s2) rfl (by omega) (by omega) ?_
  refine Wp.n (pc' := 968) 3 rfl ?_
  refine Wp.iaddN (x := i) (y := 3) (len := 1) rfl ?_
  refine Wp.ialdN (j := i + 3) (len := 1) rfl (s2) rfl (by omega) (by omega) ?_
  refine Wp.n (pc' := 973) 3 rfl ?_
  refine Wp.iaddN (x := i) (y := 4) (len := 1) rfl ?_
  refine Wp.ialdN (j := i + 4) (len := 1) rfl (s2) rfl (by omega) (by omega) ?_
  refine Wp.n (pc' := 978) 3 rfl ?_
  refine Wp.iaddN (x := i) (y := 5) (len := 1) rfl ?_
  refine Wp.ialdN (j := i + 5) (len := 1) rfl (s2) rfl (by omega) (by omega) ?_
  refine Wp.callV (len := 3) rfl rfl rfl (rfl) rfl (by decide) rfl (Wp.mono (m_goes hM.1 _ _ _ _ _) (fun v M' r => MQ_s hM r)) ?_
  rintro _ _ ⟨rfl, σ2, rfl, hM2⟩
  refine Wp.n (pc' := 1763) 2 rfl ?_
  exact kk M2 κ2 σ2 _ hC2 hM2 (hZ) (fun q hq => (e2 q (Or.inl hq)).trans (if_pos (by omega)))
theorem L_ways (hi : i + 6 ≤ L) (hL : L ≤ 3072) (h2 : M 2 = .inl (7, L, .inl xs)) (hC : CI M κ Z) (hM : MI σ Z) (hZ : ZG Z) (kk : LK M i Q) : Wp 60 md_263 987 [some (.ref 2), some (.ref 32), some (.ref 287), some (.int (nI i))] [] (mset (cset M κ) σ) Q := by
  obtain ⟨K, I, S, T, f⟩ := Z
  rw [ms_cs]
  have hC1 := CI_ms (σ := σ) hC
  obtain ⟨ow, hDo⟩ := hC1.1.1
  have s1 : cset (mset M σ) κ 2 = .inl (7, L, .inl xs) := (cset_o (by omega)).trans ((if_pos (by decide)).trans h2)
  refine Wp.n (pc' := 991) 4 rfl ?_
  refine Wp.iaddN (x := i) (y := 1) (len := 1) rfl ?_
  refine Wp.ialdN (j := i + 1) (len := 1) rfl (s1) rfl (by omega) (by omega) ?_
  refine Wp.n (pc' := 996) 3 rfl ?_
  refine Wp.iaddN (x := i) (y := 2) (len := 1) rfl ?_
  refine Wp.ialdN (j := i + 2) (len := 1) rfl (s1) rfl (by omega) (by omega) ?_
  refine Wp.n (pc' := 1001) 3 rfl ?_
  refine Wp.iaddN (x := i) (y := 3) (len := 1) rfl ?_
  refine Wp.ialdN (j := i + 3) (len := 1) rfl (s1) rfl (by omega) (by omega) ?_
  refine Wp.callV (len := 3) rfl rfl rfl ((cset_o (by omega)).trans hDo) rfl (by decide) rfl (Wp.mono (k_ways hC1.1 hC1.2.2.2.1 _ _ _) (fun v M' r => CR_s hC1 r)) ?_
  rintro _ _ ⟨rfl, M2, κ2, rfl, hC2, e2⟩
  rw [ms_ab e2]
  have s2 : mset (cset M2 κ2) σ 2 = .inl (7, L, .inl xs) := (if_pos (by decide)).trans ((cset_o (by omega)).trans ((e2 2 (by omega)).trans ((if_pos (by decide)).trans h2)))
  refine Wp.n (pc' := 1011) 5 rfl ?_
  refine Wp.iaddN (x := i) (y := 1) (len := 1) rfl ?_
  refine Wp.ialdN (j := i + 1) (len := 1) rfl (s2) rfl (by omega) (by omega) ?_
  refine Wp.n (pc' := 1016) 3 rfl ?_
  refine Wp.iaddN (x := i) (y := 2) (len := 1) rfl ?_
  refine Wp.ialdN (j := i + 2) (len := 1) rfl (s2) rfl (by omega) (by omega) ?_
  refine Wp.n (pc' := 1021) 3 rfl ?_
  refine Wp.iaddN (x := i) (y := 3) (len := 1) rfl ?_
  refine Wp.ialdN (j := i + 3) (len := 1) rfl (s2) rfl (by omega) (by omega) ?_
  refine Wp.callV (len := 3) rfl rfl rfl (rfl) rfl (by decide) rfl (Wp.mono (m_ways hM.1 _ _ _) (fun v M' r => MQ_s hM r)) ?_
  rintro _ _ ⟨rfl, σ2, rfl, hM2⟩
  refine Wp.n (pc' := 1763) 2 rfl ?_
  exact kk M2 κ2 σ2 _ hC2 hM2 (hZ) (fun q hq => (e2 q (Or.inl hq)).trans (if_pos (by omega)))
theorem L_all (hi : i + 6 ≤ L) (hL : L ≤ 3072) (h2 : M 2 = .inl (7, L, .inl xs)) (hC : CI M κ Z) (hM : MI σ Z) (hZ : ZG Z) (kk : LK M i Q) : Wp 60 md_263 1030 [some (.ref 2), some (.ref 32), some (.ref 287), some (.int (nI i))] [] (mset (cset M κ) σ) Q := by
  obtain ⟨K, I, S, T, f⟩ := Z
  rw [ms_cs]
  have hC1 := CI_ms (σ := σ) hC
  obtain ⟨ow, hDo⟩ := hC1.1.1
  have s1 : cset (mset M σ) κ 2 = .inl (7, L, .inl xs) := (cset_o (by omega)).trans ((if_pos (by decide)).trans h2)
  refine Wp.n (pc' := 1034) 4 rfl ?_
  refine Wp.iaddN (x := i) (y := 1) (len := 1) rfl ?_
  refine Wp.ialdN (j := i + 1) (len := 1) rfl (s1) rfl (by omega) (by omega) ?_
  refine Wp.callV (len := 3) rfl rfl rfl ((cset_o (by omega)).trans hDo) rfl (by decide) rfl (Wp.mono (k_all hC1.1 hC1.2.2.2.1 _) (fun v M' r => CR_s hC1 r)) ?_
  rintro _ _ ⟨rfl, M2, κ2, rfl, hC2, e2⟩
  rw [ms_ab e2]
  have s2 : mset (cset M2 κ2) σ 2 = .inl (7, L, .inl xs) := (if_pos (by decide)).trans ((cset_o (by omega)).trans ((e2 2 (by omega)).trans ((if_pos (by decide)).trans h2)))
  refine Wp.n (pc' := 1044) 5 rfl ?_
  refine Wp.iaddN (x := i) (y := 1) (len := 1) rfl ?_
  refine Wp.ialdN (j := i + 1) (len := 1) rfl (s2) rfl (by omega) (by omega) ?_
  refine Wp.callV (len := 3) rfl rfl rfl (rfl) rfl (by decide) rfl (Wp.mono (m_all hM.1 _) (fun v M' r => MQ_s hM r)) ?_
  rintro _ _ ⟨rfl, σ2, rfl, hM2⟩
  refine Wp.n (pc' := 1763) 2 rfl ?_
  exact kk M2 κ2 σ2 _ hC2 hM2 (hZ) (fun q hq => (e2 q (Or.inl hq)).trans (if_pos (by omega)))
theorem L_lane (hi : i + 6 ≤ L) (hL : L ≤ 3072) (h2 : M 2 = .inl (7, L, .inl xs)) (hC : CI M κ Z) (hM : MI σ Z) (hZ : ZG Z) (kk : LK M i Q) : Wp 60 md_263 1053 [some (.ref 2), some (.ref 32), some (.ref 287), some (.int (nI i))] [] (mset (cset M κ) σ) Q := by
  obtain ⟨K, I, S, T, f⟩ := Z
  rw [ms_cs]
  have hC1 := CI_ms (σ := σ) hC
  obtain ⟨ow, hDo⟩ := hC1.1.1
  have s1 : cset (mset M σ) κ 2 = .inl (7, L, .inl xs) := (cset_o (by omega)).trans ((if_pos (by decide)).trans h2)
  refine Wp.n (pc' := 1057) 4 rfl ?_
  refine Wp.iaddN (x := i) (y := 1) (len := 1) rfl ?_
  refine Wp.ialdN (j := i + 1) (len := 1) rfl (s1) rfl (by omega) (by omega) ?_
  refine Wp.n (pc' := 1062) 3 rfl ?_
  refine Wp.iaddN (x := i) (y := 2) (len := 1) rfl ?_
  refine Wp.ialdN (j := i + 2) (len := 1) rfl (s1) rfl (by omega) (by omega) ?_
  refine Wp.n (pc' := 1067) 3 rfl ?_
  refine Wp.iaddN (x := i) (y := 3) (len := 1) rfl ?_
  refine Wp.ialdN (j := i + 3) (len := 1) rfl (s1) rfl (by omega) (by omega) ?_
  refine Wp.n (pc' := 1072) 3 rfl ?_
  refine Wp.iaddN (x := i) (y := 4) (len := 1) rfl ?_
  refine Wp.ialdN (j := i + 4) (len := 1) rfl (s1) rfl (by omega) (by omega) ?_
  refine Wp.callV (len := 3) rfl rfl rfl ((cset_o (by omega)).trans hDo) rfl (by decide) rfl (Wp.mono (k_lane ⟨hC1.1, hC1.2.2.2.1, hC1.2.2.2.2.1⟩ hZ.1.1 hZ.1.2.2 _ _ _ _) (fun v M' r => CR_d hC1 r)) ?_
  rintro _ _ ⟨rfl, M2, κ2, rfl, hC2, e2⟩
  rw [ms_ab e2]
  have s2 : mset (cset M2 κ2) σ 2 = .inl (7, L, .inl xs) := (if_pos (by decide)).trans ((cset_o (by omega)).trans ((e2 2 (by omega)).trans ((if_pos (by decide)).trans h2)))
  refine Wp.n (pc' := 1082) 5 rfl ?_
  refine Wp.iaddN (x := i) (y := 1) (len := 1) rfl ?_
  refine Wp.ialdN (j := i + 1) (len := 1) rfl (s2) rfl (by omega) (by omega) ?_
  refine Wp.n (pc' := 1087) 3 rfl ?_
  refine Wp.iaddN (x := i) (y := 2) (len := 1) rfl ?_
  refine Wp.ialdN (j := i + 2) (len := 1) rfl (s2) rfl (by omega) (by omega) ?_
  refine Wp.n (pc' := 1092) 3 rfl ?_
  refine Wp.iaddN (x := i) (y := 3) (len := 1) rfl ?_
  refine Wp.ialdN (j := i + 3) (len := 1) rfl (s2) rfl (by omega) (by omega) ?_
  refine Wp.n (pc' := 1097) 3 rfl ?_
  refine Wp.iaddN (x := i) (y := 4) (len := 1) rfl ?_
  refine Wp.ialdN (j := i + 4) (len := 1) rfl (s2) rfl (by omega) (by omega) ?_
  refine Wp.callV (len := 3) rfl rfl rfl (rfl) rfl (by decide) rfl (Wp.mono (m_lane hM.1 hZ.1.1 _ _ _ _) (fun v M' r => MQ_l hM hZ.1.1 r)) ?_
  rintro _ _ ⟨rfl, σ2, rfl, hM2⟩
  refine Wp.n (pc' := 1763) 2 rfl ?_
  exact kk M2 κ2 σ2 _ hC2 hM2 (hZ) (fun q hq => (e2 q (Or.inl hq)).trans (if_pos (by omega)))
theorem L_help (hi : i + 6 ≤ L) (hL : L ≤ 3072) (h2 : M 2 = .inl (7, L, .inl xs)) (hC : CI M κ Z) (hM : MI σ Z) (hZ : ZG Z) (kk : LK M i Q) : Wp 60 md_263 1106 [some (.ref 2), some (.ref 32), some (.ref 287), some (.int (nI i))] [] (mset (cset M κ) σ) Q := by
  obtain ⟨K, I, S, T, f⟩ := Z
  rw [ms_cs]
  have hC1 := CI_ms (σ := σ) hC
  obtain ⟨ow, hDo⟩ := hC1.1.1
  have s1 : cset (mset M σ) κ 2 = .inl (7, L, .inl xs) := (cset_o (by omega)).trans ((if_pos (by decide)).trans h2)
  refine Wp.n (pc' := 1110) 4 rfl ?_
  refine Wp.iaddN (x := i) (y := 1) (len := 1) rfl ?_
  refine Wp.ialdN (j := i + 1) (len := 1) rfl (s1) rfl (by omega) (by omega) ?_
  refine Wp.callV (len := 3) rfl rfl rfl ((cset_o (by omega)).trans hDo) rfl (by decide) rfl (Wp.mono (k_help ⟨hC1.1, hC1.2.2.2.1, hC1.2.2.2.2.1⟩ hZ.1.1 hZ.1.2.2 _) (fun v M' r => CR_d hC1 r)) ?_
  rintro _ _ ⟨rfl, M2, κ2, rfl, hC2, e2⟩
  rw [ms_ab e2]
  have s2 : mset (cset M2 κ2) σ 2 = .inl (7, L, .inl xs) := (if_pos (by decide)).trans ((cset_o (by omega)).trans ((e2 2 (by omega)).trans ((if_pos (by decide)).trans h2)))
  refine Wp.n (pc' := 1120) 5 rfl ?_
  refine Wp.iaddN (x := i) (y := 1) (len := 1) rfl ?_
  refine Wp.ialdN (j := i + 1) (len := 1) rfl (s2) rfl (by omega) (by omega) ?_
  refine Wp.callV (len := 3) rfl rfl rfl (rfl) rfl (by decide) rfl (Wp.mono (m_help hM.1 hZ.1.1 _) (fun v M' r => MQ_l hM hZ.1.1 r)) ?_
  rintro _ _ ⟨rfl, σ2, rfl, hM2⟩
  refine Wp.n (pc' := 1763) 2 rfl ?_
  exact kk M2 κ2 σ2 _ hC2 hM2 (hZ) (fun q hq => (e2 q (Or.inl hq)).trans (if_pos (by omega)))
theorem L_bend (hi : i + 6 ≤ L) (hL : L ≤ 3072) (h2 : M 2 = .inl (7, L, .inl xs)) (hC : CI M κ Z) (hM : MI σ Z) (hZ : ZG Z) (kk : LK M i Q) : Wp 60 md_263 1129 [some (.ref 2), some (.ref 32), some (.ref 287), some (.int (nI i))] [] (mset (cset M κ) σ) Q := by
  obtain ⟨K, I, S, T, f⟩ := Z
  rw [ms_cs]
  have hC1 := CI_ms (σ := σ) hC
  obtain ⟨ow, hDo⟩ := hC1.1.1
  have s1 : cset (mset M σ) κ 2 = .inl (7, L, .inl xs) := (cset_o (by omega)).trans ((if_pos (by decide)).trans h2)
  refine Wp.n (pc' := 1133) 4 rfl ?_
  refine Wp.iaddN (x := i) (y := 1) (len := 1) rfl ?_
  refine Wp.ialdN (j := i + 1) (len := 1) rfl (s1) rfl (by omega) (by omega) ?_
  refine Wp.n (pc' := 1138) 3 rfl ?_
  refine Wp.iaddN (x := i) (y := 2) (len := 1) rfl ?_
  refine Wp.ialdN (j := i + 2) (len := 1) rfl (s1) rfl (by omega) (by omega) ?_
  refine Wp.n (pc' := 1143) 3 rfl ?_
  refine Wp.iaddN (x := i) (y := 3) (len := 1) rfl ?_
  refine Wp.ialdN (j := i + 3) (len := 1) rfl (s1) rfl (by omega) (by omega) ?_
  refine Wp.callV (len := 3) rfl rfl rfl ((cset_o (by omega)).trans hDo) rfl (by decide) rfl (Wp.mono (k_bend ⟨hC1.1, hC1.2.2.2.1, hC1.2.2.2.2.1⟩ hZ.1.1 hZ.1.2.1 _ _ _) (fun v M' r => CR_d hC1 r)) ?_
  rintro _ _ ⟨rfl, M2, κ2, rfl, hC2, e2⟩
  rw [ms_ab e2]
  have s2 : mset (cset M2 κ2) σ 2 = .inl (7, L, .inl xs) := (if_pos (by decide)).trans ((cset_o (by omega)).trans ((e2 2 (by omega)).trans ((if_pos (by decide)).trans h2)))
  refine Wp.n (pc' := 1153) 5 rfl ?_
  refine Wp.iaddN (x := i) (y := 1) (len := 1) rfl ?_
  refine Wp.ialdN (j := i + 1) (len := 1) rfl (s2) rfl (by omega) (by omega) ?_
  refine Wp.n (pc' := 1158) 3 rfl ?_
  refine Wp.iaddN (x := i) (y := 2) (len := 1) rfl ?_
  refine Wp.ialdN (j := i + 2) (len := 1) rfl (s2) rfl (by omega) (by omega) ?_
  refine Wp.n (pc' := 1163) 3 rfl ?_
  refine Wp.iaddN (x := i) (y := 3) (len := 1) rfl ?_
  refine Wp.ialdN (j := i + 3) (len := 1) rfl (s2) rfl (by omega) (by omega) ?_
  refine Wp.callV (len := 3) rfl rfl rfl (rfl) rfl (by decide) rfl (Wp.mono (m_bend hM.1 hZ.1.2.1 _ _ _) (fun v M' r => MQ_s hM r)) ?_
  rintro _ _ ⟨rfl, σ2, rfl, hM2⟩
  refine Wp.n (pc' := 1763) 2 rfl ?_
  exact kk M2 κ2 σ2 _ hC2 hM2 (hZ) (fun q hq => (e2 q (Or.inl hq)).trans (if_pos (by omega)))
theorem L_duke (hi : i + 6 ≤ L) (hL : L ≤ 3072) (h2 : M 2 = .inl (7, L, .inl xs)) (hC : CI M κ Z) (hM : MI σ Z) (hZ : ZG Z) (kk : LK M i Q) : Wp 60 md_263 1172 [some (.ref 2), some (.ref 32), some (.ref 287), some (.int (nI i))] [] (mset (cset M κ) σ) Q := by
  obtain ⟨K, I, S, T, f⟩ := Z
  rw [ms_cs]
  have hC1 := CI_ms (σ := σ) hC
  obtain ⟨ow, hDo⟩ := hC1.1.1
  have s1 : cset (mset M σ) κ 2 = .inl (7, L, .inl xs) := (cset_o (by omega)).trans ((if_pos (by decide)).trans h2)
  refine Wp.n (pc' := 1176) 4 rfl ?_
  refine Wp.iaddN (x := i) (y := 1) (len := 1) rfl ?_
  refine Wp.ialdN (j := i + 1) (len := 1) rfl (s1) rfl (by omega) (by omega) ?_
  refine Wp.callV (len := 3) rfl rfl rfl ((cset_o (by omega)).trans hDo) rfl (by decide) rfl (Wp.mono (k_duke ⟨hC1.1, hC1.2.2.2.1, hC1.2.2.2.2.1⟩ hZ.1.1 hZ.1.2.1 _) (fun v M' r => CR_d hC1 r)) ?_
  rintro _ _ ⟨rfl, M2, κ2, rfl, hC2, e2⟩
  rw [ms_ab e2]
  have s2 : mset (cset M2 κ2) σ 2 = .inl (7, L, .inl xs) := (if_pos (by decide)).trans ((cset_o (by omega)).trans ((e2 2 (by omega)).trans ((if_pos (by decide)).trans h2)))
  refine Wp.n (pc' := 1186) 5 rfl ?_
  refine Wp.iaddN (x := i) (y := 1) (len := 1) rfl ?_
  refine Wp.ialdN (j := i + 1) (len := 1) rfl (s2) rfl (by omega) (by omega) ?_
  refine Wp.callV (len := 3) rfl rfl rfl (rfl) rfl (by decide) rfl (Wp.mono (m_duke hM.1 hZ.1.2.1 _) (fun v M' r => MQ_s hM r)) ?_
  rintro _ _ ⟨rfl, σ2, rfl, hM2⟩
  refine Wp.n (pc' := 1763) 2 rfl ?_
  exact kk M2 κ2 σ2 _ hC2 hM2 (hZ) (fun q hq => (e2 q (Or.inl hq)).trans (if_pos (by omega)))
theorem L_watchers (hi : i + 6 ≤ L) (hL : L ≤ 3072) (h2 : M 2 = .inl (7, L, .inl xs)) (hC : CI M κ Z) (hM : MI σ Z) (hZ : ZG Z) (kk : LK M i Q) : Wp 60 md_263 1195 [some (.ref 2), some (.ref 32), some (.ref 287), some (.int (nI i))] [] (mset (cset M κ) σ) Q := by
  obtain ⟨K, I, S, T, f⟩ := Z
  rw [ms_cs]
  have hC1 := CI_ms (σ := σ) hC
  obtain ⟨ow, hDo⟩ := hC1.1.1
  have s1 : cset (mset M σ) κ 2 = .inl (7, L, .inl xs) := (cset_o (by omega)).trans ((if_pos (by decide)).trans h2)
  refine Wp.n (pc' := 1199) 4 rfl ?_
  refine Wp.iaddN (x := i) (y := 1) (len := 1) rfl ?_
  refine Wp.ialdN (j := i + 1) (len := 1) rfl (s1) rfl (by omega) (by omega) ?_
  refine Wp.callV (len := 3) rfl rfl rfl ((cset_o (by omega)).trans hDo) rfl (by decide) rfl (C_watchers hC1 hZ.1.1) ?_
  rintro _ _ ⟨a, ha, rfl, M2, κ2, rfl, hC2, e2⟩
  rw [ms_ab e2]
  have s2 : mset (cset M2 κ2) σ 2 = .inl (7, L, .inl xs) := (if_pos (by decide)).trans ((cset_o (by omega)).trans ((e2 2 (by omega)).trans ((if_pos (by decide)).trans h2)))
  refine Wp.n (pc' := 1209) 5 rfl ?_
  refine Wp.iaddN (x := i) (y := 1) (len := 1) rfl ?_
  refine Wp.ialdN (j := i + 1) (len := 1) rfl (s2) rfl (by omega) (by omega) ?_
  refine Wp.callV (len := 3) rfl rfl rfl (rfl) rfl (by decide) rfl (Wp.mono (m_watchers hM.1 _) (fun v M' r => MQ_s hM r)) ?_
  rintro _ _ ⟨rfl, σ2, rfl, hM2⟩
  refine Wp.n (pc' := 1763) 2 rfl ?_
  exact kk M2 κ2 σ2 _ hC2 hM2 (hZ) (fun q hq => (e2 q (Or.inl hq)).trans (if_pos (by omega)))
end LCB
