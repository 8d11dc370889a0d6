/-! THE LAW: its cases, b. -/
section LCB
variable {L i : Nat} {xs : Nat → Int32} {M : AM} {κ : CS} {σ : MS} {Z : Zt} {Q : Option Value → AM → Prop}
theorem L_owes (hi : i + 6 ≤ L) (hL : L ≤ 3072) (h2 : M 2 = .inl (7, L, .inl xs)) (hC : CI M κ Z) (hM : MI σ Z) (hZ : ZG Z) (kk : LK M i Q) : Wp 60 md_263 663 [some (.ref 2), some (.ref 32), some (.ref 287), some (.int (nI i))] [] (mset (cset M κ) σ) Q := by
  obtain ⟨K, I, S, T, f⟩ := Z
  rw [ms_cs]
  have hC1 := CI_ms (σ := σ) hC
  obtain ⟨ow, hDo⟩ := hC1.1.1
  have s1 : cset (mset M σ) κ 2 = .inl (7, L, .inl xs) := (cset_o (by omega)).trans ((if_pos (by decide)).trans h2)
  refine Wp.n (pc' := 667) 4 rfl ?_
  refine Wp.iaddN (x := i) (y := 1) (len := 1) rfl ?_
  refine Wp.ialdN (j := i + 1) (len := 1) rfl (s1) rfl (by omega) (by omega) ?_
  refine Wp.callV (len := 3) rfl rfl rfl ((cset_o (by omega)).trans hDo) rfl (by decide) rfl (Wp.mono (k_owes hC1.1 hC1.2.2.2.1 _) (fun v M' r => CR_s hC1 r)) ?_
  rintro _ _ ⟨rfl, M2, κ2, rfl, hC2, e2⟩
  rw [ms_ab e2]
  have s2 : mset (cset M2 κ2) σ 2 = .inl (7, L, .inl xs) := (if_pos (by decide)).trans ((cset_o (by omega)).trans ((e2 2 (by omega)).trans ((if_pos (by decide)).trans h2)))
  refine Wp.n (pc' := 676) 4 rfl ?_
  refine Wp.iaddN (x := i) (y := 1) (len := 1) rfl ?_
  refine Wp.ialdN (j := i + 1) (len := 1) rfl (s2) rfl (by omega) (by omega) ?_
  refine Wp.callV (len := 3) rfl rfl rfl (rfl) rfl (by decide) rfl (Wp.mono (m_owes hM.1 _) (fun v M' r => MQ_s hM r)) ?_
  rintro _ _ ⟨rfl, σ2, rfl, hM2⟩
  refine Wp.ic0 (tgt := 1765) (len := 3) rfl (fun h681 => ?_) (fun h681 => ?_)
  · skip
    exact kk M2 κ2 σ2 _ hC2 hM2 (hZ) (fun q hq => (e2 q (Or.inl hq)).trans (if_pos (by omega)))
  · exact absurd rfl h681
theorem L_takings (hi : i + 6 ≤ L) (hL : L ≤ 3072) (h2 : M 2 = .inl (7, L, .inl xs)) (hC : CI M κ Z) (hM : MI σ Z) (hZ : ZG Z) (kk : LK M i Q) : Wp 60 md_263 686 [some (.ref 2), some (.ref 32), some (.ref 287), some (.int (nI i))] [] (mset (cset M κ) σ) Q := by
  obtain ⟨K, I, S, T, f⟩ := Z
  rw [ms_cs]
  have hC1 := CI_ms (σ := σ) hC
  obtain ⟨ow, hDo⟩ := hC1.1.1
  have s1 : cset (mset M σ) κ 2 = .inl (7, L, .inl xs) := (cset_o (by omega)).trans ((if_pos (by decide)).trans h2)
  refine Wp.n (pc' := 690) 4 rfl ?_
  refine Wp.iaddN (x := i) (y := 1) (len := 1) rfl ?_
  refine Wp.ialdN (j := i + 1) (len := 1) rfl (s1) rfl (by omega) (by omega) ?_
  refine Wp.callV (len := 3) rfl rfl rfl ((cset_o (by omega)).trans hDo) rfl (by decide) rfl (Wp.mono (k_takings hC1.1 hC1.2.2.2.1 _) (fun v M' r => CR_s hC1 r)) ?_
  rintro _ _ ⟨rfl, M2, κ2, rfl, hC2, e2⟩
  rw [ms_ab e2]
  have s2 : mset (cset M2 κ2) σ 2 = .inl (7, L, .inl xs) := (if_pos (by decide)).trans ((cset_o (by omega)).trans ((e2 2 (by omega)).trans ((if_pos (by decide)).trans h2)))
  refine Wp.n (pc' := 699) 4 rfl ?_
  refine Wp.iaddN (x := i) (y := 1) (len := 1) rfl ?_
  refine Wp.ialdN (j := i + 1) (len := 1) rfl (s2) rfl (by omega) (by omega) ?_
  refine Wp.callV (len := 3) rfl rfl rfl (rfl) rfl (by decide) rfl (Wp.mono (m_takings hM.1 _) (fun v M' r => MQ_s hM r)) ?_
  rintro _ _ ⟨rfl, σ2, rfl, hM2⟩
  refine Wp.ic0 (tgt := 1765) (len := 3) rfl (fun h704 => ?_) (fun h704 => ?_)
  · skip
    exact kk M2 κ2 σ2 _ hC2 hM2 (hZ) (fun q hq => (e2 q (Or.inl hq)).trans (if_pos (by omega)))
  · exact absurd rfl h704
theorem L_chance (hi : i + 6 ≤ L) (hL : L ≤ 3072) (h2 : M 2 = .inl (7, L, .inl xs)) (hC : CI M κ Z) (hM : MI σ Z) (hZ : ZG Z) (kk : LK M i Q) : Wp 60 md_263 709 [some (.ref 2), some (.ref 32), some (.ref 287), some (.int (nI i))] [] (mset (cset M κ) σ) Q := by
  obtain ⟨K, I, S, T, f⟩ := Z
  rw [ms_cs]
  have hC1 := CI_ms (σ := σ) hC
  obtain ⟨ow, hDo⟩ := hC1.1.1
  have s1 : cset (mset M σ) κ 2 = .inl (7, L, .inl xs) := (cset_o (by omega)).trans ((if_pos (by decide)).trans h2)
  refine Wp.n (pc' := 713) 4 rfl ?_
  refine Wp.iaddN (x := i) (y := 1) (len := 1) rfl ?_
  refine Wp.ialdN (j := i + 1) (len := 1) rfl (s1) rfl (by omega) (by omega) ?_
  refine Wp.n (pc' := 718) 3 rfl ?_
  refine Wp.iaddN (x := i) (y := 2) (len := 1) rfl ?_
  refine Wp.ialdN (j := i + 2) (len := 1) rfl (s1) rfl (by omega) (by omega) ?_
  refine Wp.callV (len := 3) rfl rfl rfl ((cset_o (by omega)).trans hDo) rfl (by decide) rfl (Wp.mono (k_chance hC1.1 hC1.2.2.2.1 _ _) (fun v M' r => CR_j hC1 r)) ?_
  rintro _ _ ⟨rfl, M2, κ2, rfl, hC2, e2⟩
  rw [ms_ab e2]
  have s2 : mset (cset M2 κ2) σ 2 = .inl (7, L, .inl xs) := (if_pos (by decide)).trans ((cset_o (by omega)).trans ((e2 2 (by omega)).trans ((if_pos (by decide)).trans h2)))
  refine Wp.n (pc' := 727) 4 rfl ?_
  refine Wp.iaddN (x := i) (y := 1) (len := 1) rfl ?_
  refine Wp.ialdN (j := i + 1) (len := 1) rfl (s2) rfl (by omega) (by omega) ?_
  refine Wp.n (pc' := 732) 3 rfl ?_
  refine Wp.iaddN (x := i) (y := 2) (len := 1) rfl ?_
  refine Wp.ialdN (j := i + 2) (len := 1) rfl (s2) rfl (by omega) (by omega) ?_
  refine Wp.callV (len := 3) rfl rfl rfl (rfl) rfl (by decide) rfl (Wp.mono (m_chance hM.1 _ _) (fun v M' r => MQ_j hM r)) ?_
  rintro _ _ ⟨rfl, σ2, rfl, hM2⟩
  refine Wp.n (pc' := 738) 1 rfl ?_
  refine Wp.if0 (tgt := 1765) (len := 3) rfl (fun h738 => ?_) (fun h738 => ?_)
  · skip
    exact kk M2 κ2 σ2 _ hC2 hM2 (hZ) (fun q hq => (e2 q (Or.inl hq)).trans (if_pos (by omega)))
  · exact absurd ((cmp_eq _ _).mpr rfl) h738
theorem L_hope (hi : i + 6 ≤ L) (hL : L ≤ 3072) (h2 : M 2 = .inl (7, L, .inl xs)) (hC : CI M κ Z) (hM : MI σ Z) (hZ : ZG Z) (kk : LK M i Q) : Wp 60 md_263 743 [some (.ref 2), some (.ref 32), some (.ref 287), some (.int (nI i))] [] (mset (cset M κ) σ) Q := by
  obtain ⟨K, I, S, T, f⟩ := Z
  rw [ms_cs]
  have hC1 := CI_ms (σ := σ) hC
  obtain ⟨ow, hDo⟩ := hC1.1.1
  have s1 : cset (mset M σ) κ 2 = .inl (7, L, .inl xs) := (cset_o (by omega)).trans ((if_pos (by decide)).trans h2)
  refine Wp.n (pc' := 747) 4 rfl ?_
  refine Wp.iaddN (x := i) (y := 1) (len := 1) rfl ?_
  refine Wp.ialdN (j := i + 1) (len := 1) rfl (s1) rfl (by omega) (by omega) ?_
  refine Wp.n (pc' := 752) 3 rfl ?_
  refine Wp.iaddN (x := i) (y := 2) (len := 1) rfl ?_
  refine Wp.ialdN (j := i + 2) (len := 1) rfl (s1) rfl (by omega) (by omega) ?_
  refine Wp.callV (len := 3) rfl rfl rfl ((cset_o (by omega)).trans hDo) rfl (by decide) rfl (Wp.mono (k_hope hC1.1 hC1.2.2.2.1 _ _) (fun v M' r => CR_j hC1 r)) ?_
  rintro _ _ ⟨rfl, M2, κ2, rfl, hC2, e2⟩
  rw [ms_ab e2]
  have s2 : mset (cset M2 κ2) σ 2 = .inl (7, L, .inl xs) := (if_pos (by decide)).trans ((cset_o (by omega)).trans ((e2 2 (by omega)).trans ((if_pos (by decide)).trans h2)))
  refine Wp.n (pc' := 761) 4 rfl ?_
  refine Wp.iaddN (x := i) (y := 1) (len := 1) rfl ?_
  refine Wp.ialdN (j := i + 1) (len := 1) rfl (s2) rfl (by omega) (by omega) ?_
  refine Wp.n (pc' := 766) 3 rfl ?_
  refine Wp.iaddN (x := i) (y := 2) (len := 1) rfl ?_
  refine Wp.ialdN (j := i + 2) (len := 1) rfl (s2) rfl (by omega) (by omega) ?_
  refine Wp.callV (len := 3) rfl rfl rfl (rfl) rfl (by decide) rfl (Wp.mono (m_hope hM.1 _ _) (fun v M' r => MQ_j hM r)) ?_
  rintro _ _ ⟨rfl, σ2, rfl, hM2⟩
  refine Wp.n (pc' := 772) 1 rfl ?_
  refine Wp.if0 (tgt := 1765) (len := 3) rfl (fun h772 => ?_) (fun h772 => ?_)
  · skip
    exact kk M2 κ2 σ2 _ hC2 hM2 (hZ) (fun q hq => (e2 q (Or.inl hq)).trans (if_pos (by omega)))
  · exact absurd ((cmp_eq _ _).mpr rfl) h772
theorem L_shortest (hi : i + 6 ≤ L) (hL : L ≤ 3072) (h2 : M 2 = .inl (7, L, .inl xs)) (hC : CI M κ Z) (hM : MI σ Z) (hZ : ZG Z) (kk : LK M i Q) : Wp 60 md_263 777 [some (.ref 2), some (.ref 32), some (.ref 287), some (.int (nI i))] [] (mset (cset M κ) σ) Q := by
  obtain ⟨K, I, S, T, f⟩ := Z
  rw [ms_cs]
  have hC1 := CI_ms (σ := σ) hC
  obtain ⟨ow, hDo⟩ := hC1.1.1
  have s1 : cset (mset M σ) κ 2 = .inl (7, L, .inl xs) := (cset_o (by omega)).trans ((if_pos (by decide)).trans h2)
  refine Wp.n (pc' := 781) 4 rfl ?_
  refine Wp.iaddN (x := i) (y := 1) (len := 1) rfl ?_
  refine Wp.ialdN (j := i + 1) (len := 1) rfl (s1) rfl (by omega) (by omega) ?_
  refine Wp.n (pc' := 786) 3 rfl ?_
  refine Wp.iaddN (x := i) (y := 2) (len := 1) rfl ?_
  refine Wp.ialdN (j := i + 2) (len := 1) rfl (s1) rfl (by omega) (by omega) ?_
  refine Wp.n (pc' := 791) 3 rfl ?_
  refine Wp.iaddN (x := i) (y := 3) (len := 1) rfl ?_
  refine Wp.ialdN (j := i + 3) (len := 1) rfl (s1) rfl (by omega) (by omega) ?_
  refine Wp.callV (len := 3) rfl rfl rfl ((cset_o (by omega)).trans hDo) rfl (by decide) rfl (Wp.mono (k_shortest hC1.1 hC1.2.2.2.1 _ _ _) (fun v M' r => CR_s hC1 r)) ?_
  rintro _ _ ⟨rfl, M2, κ2, rfl, hC2, e2⟩
  rw [ms_ab e2]
  have s2 : mset (cset M2 κ2) σ 2 = .inl (7, L, .inl xs) := (if_pos (by decide)).trans ((cset_o (by omega)).trans ((e2 2 (by omega)).trans ((if_pos (by decide)).trans h2)))
  refine Wp.n (pc' := 800) 4 rfl ?_
  refine Wp.iaddN (x := i) (y := 1) (len := 1) rfl ?_
  refine Wp.ialdN (j := i + 1) (len := 1) rfl (s2) rfl (by omega) (by omega) ?_
  refine Wp.n (pc' := 805) 3 rfl ?_
  refine Wp.iaddN (x := i) (y := 2) (len := 1) rfl ?_
  refine Wp.ialdN (j := i + 2) (len := 1) rfl (s2) rfl (by omega) (by omega) ?_
  refine Wp.n (pc' := 810) 3 rfl ?_
  refine Wp.iaddN (x := i) (y := 3) (len := 1) rfl ?_
  refine Wp.ialdN (j := i + 3) (len := 1) rfl (s2) rfl (by omega) (by omega) ?_
  refine Wp.callV (len := 3) rfl rfl rfl (rfl) rfl (by decide) rfl (Wp.mono (m_shortest hM.1 _ _ _) (fun v M' r => MQ_s hM r)) ?_
  rintro _ _ ⟨rfl, σ2, rfl, hM2⟩
  refine Wp.ic0 (tgt := 1765) (len := 3) rfl (fun h815 => ?_) (fun h815 => ?_)
  · skip
    exact kk M2 κ2 σ2 _ hC2 hM2 (hZ) (fun q hq => (e2 q (Or.inl hq)).trans (if_pos (by omega)))
  · exact absurd rfl h815
theorem L_hidden (hi : i + 6 ≤ L) (hL : L ≤ 3072) (h2 : M 2 = .inl (7, L, .inl xs)) (hC : CI M κ Z) (hM : MI σ Z) (hZ : ZG Z) (kk : LK M i Q) : Wp 60 md_263 820 [some (.ref 2), some (.ref 32), some (.ref 287), some (.int (nI i))] [] (mset (cset M κ) σ) Q := by
  obtain ⟨K, I, S, T, f⟩ := Z
  rw [ms_cs]
  have hC1 := CI_ms (σ := σ) hC
  obtain ⟨ow, hDo⟩ := hC1.1.1
  have s1 : cset (mset M σ) κ 2 = .inl (7, L, .inl xs) := (cset_o (by omega)).trans ((if_pos (by decide)).trans h2)
  refine Wp.n (pc' := 824) 4 rfl ?_
  refine Wp.iaddN (x := i) (y := 1) (len := 1) rfl ?_
  refine Wp.ialdN (j := i + 1) (len := 1) rfl (s1) rfl (by omega) (by omega) ?_
  refine Wp.n (pc' := 829) 3 rfl ?_
  refine Wp.iaddN (x := i) (y := 2) (len := 1) rfl ?_
  refine Wp.ialdN (j := i + 2) (len := 1) rfl (s1) rfl (by omega) (by omega) ?_
  refine Wp.n (pc' := 834) 3 rfl ?_
  refine Wp.iaddN (x := i) (y := 3) (len := 1) rfl ?_
  refine Wp.ialdN (j := i + 3) (len := 1) rfl (s1) rfl (by omega) (by omega) ?_
  refine Wp.callV (len := 3) rfl rfl rfl ((cset_o (by omega)).trans hDo) rfl (by decide) rfl (Wp.mono (k_hidden hC1.1 hC1.2.2.2.1 _ _ _) (fun v M' r => CR_s hC1 r)) ?_
  rintro _ _ ⟨rfl, M2, κ2, rfl, hC2, e2⟩
  rw [ms_ab e2]
  have s2 : mset (cset M2 κ2) σ 2 = .inl (7, L, .inl xs) := (if_pos (by decide)).trans ((cset_o (by omega)).trans ((e2 2 (by omega)).trans ((if_pos (by decide)).trans h2)))
  refine Wp.n (pc' := 843) 4 rfl ?_
  refine Wp.iaddN (x := i) (y := 1) (len := 1) rfl ?_
  refine Wp.ialdN (j := i + 1) (len := 1) rfl (s2) rfl (by omega) (by omega) ?_
  refine Wp.n (pc' := 848) 3 rfl ?_
  refine Wp.iaddN (x := i) (y := 2) (len := 1) rfl ?_
  refine Wp.ialdN (j := i + 2) (len := 1) rfl (s2) rfl (by omega) (by omega) ?_
  refine Wp.n (pc' := 853) 3 rfl ?_
  refine Wp.iaddN (x := i) (y := 3) (len := 1) rfl ?_
  refine Wp.ialdN (j := i + 3) (len := 1) rfl (s2) rfl (by omega) (by omega) ?_
  refine Wp.callV (len := 3) rfl rfl rfl (rfl) rfl (by decide) rfl (Wp.mono (m_hidden hM.1 _ _ _) (fun v M' r => MQ_s hM r)) ?_
  rintro _ _ ⟨rfl, σ2, rfl, hM2⟩
  refine Wp.ic0 (tgt := 1765) (len := 3) rfl (fun h858 => ?_) (fun h858 => ?_)
  · skip
    exact kk M2 κ2 σ2 _ hC2 hM2 (hZ) (fun q hq => (e2 q (Or.inl hq)).trans (if_pos (by omega)))
  · exact absurd rfl h858
theorem L_best (hi : i + 6 ≤ L) (hL : L ≤ 3072) (h2 : M 2 = .inl (7, L, .inl xs)) (hC : CI M κ Z) (hM : MI σ Z) (hZ : ZG Z) (kk : LK M i Q) : Wp 60 md_263 863 [some (.ref 2), some (.ref 32), some (.ref 287), some (.int (nI i))] [] (mset (cset M κ) σ) Q := by
  obtain ⟨K, I, S, T, f⟩ := Z
  rw [ms_cs]
  have hC1 := CI_ms (σ := σ) hC
  obtain ⟨ow, hDo⟩ := hC1.1.1
  have s1 : cset (mset M σ) κ 2 = .inl (7, L, .inl xs) := (cset_o (by omega)).trans ((if_pos (by decide)).trans h2)
  refine Wp.n (pc' := 867) 4 rfl ?_
  refine Wp.iaddN (x := i) (y := 1) (len := 1) rfl ?_
  refine Wp.ialdN (j := i + 1) (len := 1) rfl (s1) rfl (by omega) (by omega) ?_
  refine Wp.n (pc' := 872) 3 rfl ?_
  refine Wp.iaddN (x := i) (y := 2) (len := 1) rfl ?_
  refine Wp.ialdN (j := i + 2) (len := 1) rfl (s1) rfl (by omega) (by omega) ?_
  refine Wp.n (pc' := 877) 3 rfl ?_
  refine Wp.iaddN (x := i) (y := 3) (len := 1) rfl ?_
  refine Wp.ialdN (j := i + 3) (len := 1) rfl (s1) rfl (by omega) (by omega) ?_
  refine Wp.n (pc' := 882) 3 rfl ?_
  refine Wp.iaddN (x := i) (y := 4) (len := 1) rfl ?_
  refine Wp.ialdN (j := i + 4) (len := 1) rfl (s1) rfl (by omega) (by omega) ?_
  refine Wp.n (pc' := 887) 3 rfl ?_
  refine Wp.iaddN (x := i) (y := 5) (len := 1) rfl ?_
  refine Wp.ialdN (j := i + 5) (len := 1) rfl (s1) rfl (by omega) (by omega) ?_
  refine Wp.callV (len := 3) rfl rfl rfl ((cset_o (by omega)).trans hDo) rfl (by decide) rfl (Wp.mono (k_best hC1.1 hC1.2.2.2.1 _ _ _ _ _) (fun v M' r => CR_s hC1 r)) ?_
  rintro _ _ ⟨rfl, M2, κ2, rfl, hC2, e2⟩
  rw [ms_ab e2]
  have s2 : mset (cset M2 κ2) σ 2 = .inl (7, L, .inl xs) := (if_pos (by decide)).trans ((cset_o (by omega)).trans ((e2 2 (by omega)).trans ((if_pos (by decide)).trans h2)))
  refine Wp.n (pc' := 896) 4 rfl ?_
  refine Wp.iaddN (x := i) (y := 1) (len := 1) rfl ?_
  refine Wp.ialdN (j := i + 1) (len := 1) rfl (s2) rfl (by omega) (by omega) ?_
  refine Wp.n (pc' := 901) 3 rfl ?_
  refine Wp.iaddN (x := i) (y := 2) (len := 1) rfl ?_
  refine Wp.ialdN (j := i + 2) (len := 1) rfl (s2) rfl (by omega) (by omega) ?_
  refine Wp.n (pc' := 906) 3 rfl ?_
  refine Wp.iaddN (x := i) (y := 3) (len := 1) rfl ?_
  refine Wp.ialdN (j := i + 3) (len := 1) rfl (s2) rfl (by omega) (by omega) ?_
  refine Wp.n (pc' := 911) 3 rfl ?_
  refine Wp.iaddN (x := i) (y := 4) (len := 1) rfl ?_
  refine Wp.ialdN (j := i + 4) (len := 1) rfl (s2) rfl (by omega) (by omega) ?_
  refine Wp.n (pc' := 916) 3 rfl ?_
  refine Wp.iaddN (x := i) (y := 5) (len := 1) rfl ?_
  refine Wp.ialdN (j := i + 5) (len := 1) rfl (s2) rfl (by omega) (by omega) ?_
  refine Wp.callV (len := 3) rfl rfl rfl (rfl) rfl (by decide) rfl (Wp.mono (m_best hM.1 _ _ _ _ _) (fun v M' r => MQ_s hM r)) ?_
  rintro _ _ ⟨rfl, σ2, rfl, hM2⟩
  refine Wp.ic0 (tgt := 1765) (len := 3) rfl (fun h921 => ?_) (fun h921 => ?_)
  · skip
    exact kk M2 κ2 σ2 _ hC2 hM2 (hZ) (fun q hq => (e2 q (Or.inl hq)).trans (if_pos (by omega)))
  · exact absurd rfl h921
theorem L_goes (hi : i + 6 ≤ L) (hL : L ≤ 3072) (h2 : M 2 = .inl (7, L, .inl xs)) (hC : CI M κ Z) (hM : MI σ Z) (hZ : ZG Z) (kk : LK M i Q) : Wp 60 md_263 926 [some (.ref 2), some (.ref 32), some (.ref 287), some (.int (nI i))] [] (mset (cset M κ) σ) Q := by
  obtain ⟨K, I, S, T, f⟩ := Z
  rw [ms_cs]
  have hC1 := CI_ms (σ := σ) hC
  obtain ⟨ow, hDo⟩ := hC1.1.1
  have s1 : cset (mset M σ) κ 2 = .inl (7, L, .inl xs) := (cset_o (by omega)).trans ((if_pos (by decide)).trans h2)
  refine Wp.n (pc' := 930) 4 rfl ?_
  refine Wp.iaddN (x := i) (y := 1) (len := 1) rfl ?_
  refine Wp.ialdN (j := i + 1) (len := 1) rfl (s1) rfl (by omega) (by omega) ?_
  refine Wp.n (pc' := 935) 3 rfl ?_
  refine Wp.iaddN (x := i) (y := 2) (len := 1) rfl ?_
  refine Wp.ialdN (j := i + 2) (len := 1) rfl (s1) rfl (by omega) (by omega) ?_
  refine Wp.n (pc' := 940) 3 rfl ?_
  refine Wp.iaddN (x := i) (y := 3) (len := 1) rfl ?_
  refine Wp.ialdN (j := i + 3) (len := 1) rfl (s1) rfl (by omega) (by omega) ?_
  refine Wp.n (pc' := 945) 3 rfl ?_
  refine Wp.iaddN (x := i) (y := 4) (len := 1) rfl ?_
  refine Wp.ialdN (j := i + 4) (len := 1) rfl (s1) rfl (by omega) (by omega) ?_
  refine Wp.n (pc' := 950) 3 rfl ?_
  refine Wp.iaddN (x := i) (y := 5) (len := 1) rfl ?_
  refine Wp.ialdN (j := i + 5) (len := 1) rfl (s1) rfl (by omega) (by omega) ?_
  refine Wp.callV (len := 3) rfl rfl rfl ((cset_o (by omega)).trans hDo) rfl (by decide) rfl (Wp.mono (k_goes hC1.1 hC1.2.2.2.1 _ _ _ _ _) (fun v M' r => CR_s hC1 r)) ?_
  rintro _ _ ⟨rfl, M2, κ2, rfl, hC2, e2⟩
  rw [ms_ab e2]
  have s2 : mset (cset M2 κ2) σ 2 = .inl (7, L, .inl xs) := (if_pos (by decide)).trans ((cset_o (by omega)).trans ((e2 2 (by omega)).trans ((if_pos (by decide)).trans h2)))
  refine Wp.n (pc' := 959) 4 rfl ?_
  refine Wp.iaddN (x := i) (y := 1) (len := 1) rfl ?_
  refine Wp.ialdN (j := i + 1) (len := 1) rfl (s2) rfl (by omega) (by omega) ?_
  refine Wp.n (pc' := 964) 3 rfl ?_
  refine Wp.iaddN (x := i) (y := 2) (len := 1) rfl ?_
  refine Wp.ialdN (j := i + 2) (len := 1) rfl (s2) rfl (by omega) (by omega) ?_
  refine Wp.n (pc' := 969) 3 rfl ?_
  refine Wp.iaddN (x := i) (y := 3) (len := 1) rfl ?_
  refine Wp.ialdN (j := i + 3) (len := 1) rfl (s2) rfl (by omega) (by omega) ?_
  refine Wp.n (pc' := 974) 3 rfl ?_
  refine Wp.iaddN (x := i) (y := 4) (len := 1) rfl ?_
  refine Wp.ialdN (j := i + 4) (len := 1) rfl (s2) rfl (by omega) (by omega) ?_
  refine Wp.n (pc' := 979) 3 rfl ?_
  refine Wp.iaddN (x := i) (y := 5) (len := 1) rfl ?_
  refine Wp.ialdN (j := i + 5) (len := 1) rfl (s2) rfl (by omega) (by omega) ?_
  refine Wp.callV (len := 3) rfl rfl rfl (rfl) rfl (by decide) rfl (Wp.mono (m_goes hM.1 _ _ _ _ _) (fun v M' r => MQ_s hM r)) ?_
  rintro _ _ ⟨rfl, σ2, rfl, hM2⟩
  refine Wp.ic0 (tgt := 1765) (len := 3) rfl (fun h984 => ?_) (fun h984 => ?_)
  · skip
    exact kk M2 κ2 σ2 _ hC2 hM2 (hZ) (fun q hq => (e2 q (Or.inl hq)).trans (if_pos (by omega)))
  · exact absurd rfl h984
theorem L_ways (hi : i + 6 ≤ L) (hL : L ≤ 3072) (h2 : M 2 = .inl (7, L, .inl xs)) (hC : CI M κ Z) (hM : MI σ Z) (hZ : ZG Z) (kk : LK M i Q) : Wp 60 md_263 989 [some (.ref 2), some (.ref 32), some (.ref 287), some (.int (nI i))] [] (mset (cset M κ) σ) Q := by
  obtain ⟨K, I, S, T, f⟩ := Z
  rw [ms_cs]
  have hC1 := CI_ms (σ := σ) hC
  obtain ⟨ow, hDo⟩ := hC1.1.1
  have s1 : cset (mset M σ) κ 2 = .inl (7, L, .inl xs) := (cset_o (by omega)).trans ((if_pos (by decide)).trans h2)
  refine Wp.n (pc' := 993) 4 rfl ?_
  refine Wp.iaddN (x := i) (y := 1) (len := 1) rfl ?_
  refine Wp.ialdN (j := i + 1) (len := 1) rfl (s1) rfl (by omega) (by omega) ?_
  refine Wp.n (pc' := 998) 3 rfl ?_
  refine Wp.iaddN (x := i) (y := 2) (len := 1) rfl ?_
  refine Wp.ialdN (j := i + 2) (len := 1) rfl (s1) rfl (by omega) (by omega) ?_
  refine Wp.n (pc' := 1003) 3 rfl ?_
  refine Wp.iaddN (x := i) (y := 3) (len := 1) rfl ?_
  refine Wp.ialdN (j := i + 3) (len := 1) rfl (s1) rfl (by omega) (by omega) ?_
  refine Wp.callV (len := 3) rfl rfl rfl ((cset_o (by omega)).trans hDo) rfl (by decide) rfl (Wp.mono (k_ways hC1.1 hC1.2.2.2.1 _ _ _) (fun v M' r => CR_s hC1 r)) ?_
  rintro _ _ ⟨rfl, M2, κ2, rfl, hC2, e2⟩
  rw [ms_ab e2]
  have s2 : mset (cset M2 κ2) σ 2 = .inl (7, L, .inl xs) := (if_pos (by decide)).trans ((cset_o (by omega)).trans ((e2 2 (by omega)).trans ((if_pos (by decide)).trans h2)))
  refine Wp.n (pc' := 1012) 4 rfl ?_
  refine Wp.iaddN (x := i) (y := 1) (len := 1) rfl ?_
  refine Wp.ialdN (j := i + 1) (len := 1) rfl (s2) rfl (by omega) (by omega) ?_
  refine Wp.n (pc' := 1017) 3 rfl ?_
  refine Wp.iaddN (x := i) (y := 2) (len := 1) rfl ?_
  refine Wp.ialdN (j := i + 2) (len := 1) rfl (s2) rfl (by omega) (by omega) ?_
  refine Wp.n (pc' := 1022) 3 rfl ?_
  refine Wp.iaddN (x := i) (y := 3) (len := 1) rfl ?_
  refine Wp.ialdN (j := i + 3) (len := 1) rfl (s2) rfl (by omega) (by omega) ?_
  refine Wp.callV (len := 3) rfl rfl rfl (rfl) rfl (by decide) rfl (Wp.mono (m_ways hM.1 _ _ _) (fun v M' r => MQ_s hM r)) ?_
  rintro _ _ ⟨rfl, σ2, rfl, hM2⟩
  refine Wp.ic0 (tgt := 1765) (len := 3) rfl (fun h1027 => ?_) (fun h1027 => ?_)
  · skip
    exact kk M2 κ2 σ2 _ hC2 hM2 (hZ) (fun q hq => (e2 q (Or.inl hq)).trans (if_pos (by omega)))
  · exact absurd rfl h1027
theorem L_all (hi : i + 6 ≤ L) (hL : L ≤ 3072) (h2 : M 2 = .inl (7, L, .inl xs)) (hC : CI M κ Z) (hM : MI σ Z) (hZ : ZG Z) (kk : LK M i Q) : Wp 60 md_263 1032 [some (.ref 2), some (.ref 32), some (.ref 287), some (.int (nI i))] [] (mset (cset M κ) σ) Q := by
  obtain ⟨K, I, S, T, f⟩ := Z
  rw [ms_cs]
  have hC1 := CI_ms (σ := σ) hC
  obtain ⟨ow, hDo⟩ := hC1.1.1
  have s1 : cset (mset M σ) κ 2 = .inl (7, L, .inl xs) := (cset_o (by omega)).trans ((if_pos (by decide)).trans h2)
  refine Wp.n (pc' := 1036) 4 rfl ?_
  refine Wp.iaddN (x := i) (y := 1) (len := 1) rfl ?_
  refine Wp.ialdN (j := i + 1) (len := 1) rfl (s1) rfl (by omega) (by omega) ?_
  refine Wp.callV (len := 3) rfl rfl rfl ((cset_o (by omega)).trans hDo) rfl (by decide) rfl (Wp.mono (k_all hC1.1 hC1.2.2.2.1 _) (fun v M' r => CR_s hC1 r)) ?_
  rintro _ _ ⟨rfl, M2, κ2, rfl, hC2, e2⟩
  rw [ms_ab e2]
  have s2 : mset (cset M2 κ2) σ 2 = .inl (7, L, .inl xs) := (if_pos (by decide)).trans ((cset_o (by omega)).trans ((e2 2 (by omega)).trans ((if_pos (by decide)).trans h2)))
  refine Wp.n (pc' := 1045) 4 rfl ?_
  refine Wp.iaddN (x := i) (y := 1) (len := 1) rfl ?_
  refine Wp.ialdN (j := i + 1) (len := 1) rfl (s2) rfl (by omega) (by omega) ?_
  refine Wp.callV (len := 3) rfl rfl rfl (rfl) rfl (by decide) rfl (Wp.mono (m_all hM.1 _) (fun v M' r => MQ_s hM r)) ?_
  rintro _ _ ⟨rfl, σ2, rfl, hM2⟩
  refine Wp.ic0 (tgt := 1765) (len := 3) rfl (fun h1050 => ?_) (fun h1050 => ?_)
  · skip
    exact kk M2 κ2 σ2 _ hC2 hM2 (hZ) (fun q hq => (e2 q (Or.inl hq)).trans (if_pos (by omega)))
  · exact absurd rfl h1050
theorem L_lane (hi : i + 6 ≤ L) (hL : L ≤ 3072) (h2 : M 2 = .inl (7, L, .inl xs)) (hC : CI M κ Z) (hM : MI σ Z) (hZ : ZG Z) (kk : LK M i Q) : Wp 60 md_263 1055 [some (.ref 2), some (.ref 32), some (.ref 287), some (.int (nI i))] [] (mset (cset M κ) σ) Q := by
  obtain ⟨K, I, S, T, f⟩ := Z
  rw [ms_cs]
  have hC1 := CI_ms (σ := σ) hC
  obtain ⟨ow, hDo⟩ := hC1.1.1
  have s1 : cset (mset M σ) κ 2 = .inl (7, L, .inl xs) := (cset_o (by omega)).trans ((if_pos (by decide)).trans h2)
  refine Wp.n (pc' := 1059) 4 rfl ?_
  refine Wp.iaddN (x := i) (y := 1) (len := 1) rfl ?_
  refine Wp.ialdN (j := i + 1) (len := 1) rfl (s1) rfl (by omega) (by omega) ?_
  refine Wp.n (pc' := 1064) 3 rfl ?_
  refine Wp.iaddN (x := i) (y := 2) (len := 1) rfl ?_
  refine Wp.ialdN (j := i + 2) (len := 1) rfl (s1) rfl (by omega) (by omega) ?_
  refine Wp.n (pc' := 1069) 3 rfl ?_
  refine Wp.iaddN (x := i) (y := 3) (len := 1) rfl ?_
  refine Wp.ialdN (j := i + 3) (len := 1) rfl (s1) rfl (by omega) (by omega) ?_
  refine Wp.n (pc' := 1074) 3 rfl ?_
  refine Wp.iaddN (x := i) (y := 4) (len := 1) rfl ?_
  refine Wp.ialdN (j := i + 4) (len := 1) rfl (s1) rfl (by omega) (by omega) ?_
  refine Wp.callV (len := 3) rfl rfl rfl ((cset_o (by omega)).trans hDo) rfl (by decide) rfl (Wp.mono (k_lane ⟨hC1.1, hC1.2.2.2.1, hC1.2.2.2.2.1⟩ hZ.1.1 hZ.1.2.2 _ _ _ _) (fun v M' r => CR_d hC1 r)) ?_
  rintro _ _ ⟨rfl, M2, κ2, rfl, hC2, e2⟩
  rw [ms_ab e2]
  have s2 : mset (cset M2 κ2) σ 2 = .inl (7, L, .inl xs) := (if_pos (by decide)).trans ((cset_o (by omega)).trans ((e2 2 (by omega)).trans ((if_pos (by decide)).trans h2)))
  refine Wp.n (pc' := 1083) 4 rfl ?_
  refine Wp.iaddN (x := i) (y := 1) (len := 1) rfl ?_
  refine Wp.ialdN (j := i + 1) (len := 1) rfl (s2) rfl (by omega) (by omega) ?_
  refine Wp.n (pc' := 1088) 3 rfl ?_
  refine Wp.iaddN (x := i) (y := 2) (len := 1) rfl ?_
  refine Wp.ialdN (j := i + 2) (len := 1) rfl (s2) rfl (by omega) (by omega) ?_
  refine Wp.n (pc' := 1093) 3 rfl ?_
  refine Wp.iaddN (x := i) (y := 3) (len := 1) rfl ?_
  refine Wp.ialdN (j := i + 3) (len := 1) rfl (s2) rfl (by omega) (by omega) ?_
  refine Wp.n (pc' := 1098) 3 rfl ?_
  refine Wp.iaddN (x := i) (y := 4) (len := 1) rfl ?_
  refine Wp.ialdN (j := i + 4) (len := 1) rfl (s2) rfl (by omega) (by omega) ?_
  refine Wp.callV (len := 3) rfl rfl rfl (rfl) rfl (by decide) rfl (Wp.mono (m_lane hM.1 hZ.1.1 _ _ _ _) (fun v M' r => MQ_l hM hZ.1.1 r)) ?_
  rintro _ _ ⟨rfl, σ2, rfl, hM2⟩
  refine Wp.ic0 (tgt := 1765) (len := 3) rfl (fun h1103 => ?_) (fun h1103 => ?_)
  · skip
    exact kk M2 κ2 σ2 _ hC2 hM2 (hZ) (fun q hq => (e2 q (Or.inl hq)).trans (if_pos (by omega)))
  · exact absurd rfl h1103
theorem L_help (hi : i + 6 ≤ L) (hL : L ≤ 3072) (h2 : M 2 = .inl (7, L, .inl xs)) (hC : CI M κ Z) (hM : MI σ Z) (hZ : ZG Z) (kk : LK M i Q) : Wp 60 md_263 1108 [some (.ref 2), some (.ref 32), some (.ref 287), some (.int (nI i))] [] (mset (cset M κ) σ) Q := by
  obtain ⟨K, I, S, T, f⟩ := Z
  rw [ms_cs]
  have hC1 := CI_ms (σ := σ) hC
  obtain ⟨ow, hDo⟩ := hC1.1.1
  have s1 : cset (mset M σ) κ 2 = .inl (7, L, .inl xs) := (cset_o (by omega)).trans ((if_pos (by decide)).trans h2)
  refine Wp.n (pc' := 1112) 4 rfl ?_
  refine Wp.iaddN (x := i) (y := 1) (len := 1) rfl ?_
  refine Wp.ialdN (j := i + 1) (len := 1) rfl (s1) rfl (by omega) (by omega) ?_
  refine Wp.callV (len := 3) rfl rfl rfl ((cset_o (by omega)).trans hDo) rfl (by decide) rfl (Wp.mono (k_help ⟨hC1.1, hC1.2.2.2.1, hC1.2.2.2.2.1⟩ hZ.1.1 hZ.1.2.2 _) (fun v M' r => CR_d hC1 r)) ?_
  rintro _ _ ⟨rfl, M2, κ2, rfl, hC2, e2⟩
  rw [ms_ab e2]
  have s2 : mset (cset M2 κ2) σ 2 = .inl (7, L, .inl xs) := (if_pos (by decide)).trans ((cset_o (by omega)).trans ((e2 2 (by omega)).trans ((if_pos (by decide)).trans h2)))
  refine Wp.n (pc' := 1121) 4 rfl ?_
  refine Wp.iaddN (x := i) (y := 1) (len := 1) rfl ?_
  refine Wp.ialdN (j := i + 1) (len := 1) rfl (s2) rfl (by omega) (by omega) ?_
  refine Wp.callV (len := 3) rfl rfl rfl (rfl) rfl (by decide) rfl (Wp.mono (m_help hM.1 hZ.1.1 _) (fun v M' r => MQ_l hM hZ.1.1 r)) ?_
  rintro _ _ ⟨rfl, σ2, rfl, hM2⟩
  refine Wp.ic0 (tgt := 1765) (len := 3) rfl (fun h1126 => ?_) (fun h1126 => ?_)
  · skip
    exact kk M2 κ2 σ2 _ hC2 hM2 (hZ) (fun q hq => (e2 q (Or.inl hq)).trans (if_pos (by omega)))
  · exact absurd rfl h1126
theorem L_bend (hi : i + 6 ≤ L) (hL : L ≤ 3072) (h2 : M 2 = .inl (7, L, .inl xs)) (hC : CI M κ Z) (hM : MI σ Z) (hZ : ZG Z) (kk : LK M i Q) : Wp 60 md_263 1131 [some (.ref 2), some (.ref 32), some (.ref 287), some (.int (nI i))] [] (mset (cset M κ) σ) Q := by
  obtain ⟨K, I, S, T, f⟩ := Z
  rw [ms_cs]
  have hC1 := CI_ms (σ := σ) hC
  obtain ⟨ow, hDo⟩ := hC1.1.1
  have s1 : cset (mset M σ) κ 2 = .inl (7, L, .inl xs) := (cset_o (by omega)).trans ((if_pos (by decide)).trans h2)
  refine Wp.n (pc' := 1135) 4 rfl ?_
  refine Wp.iaddN (x := i) (y := 1) (len := 1) rfl ?_
  refine Wp.ialdN (j := i + 1) (len := 1) rfl (s1) rfl (by omega) (by omega) ?_
  refine Wp.n (pc' := 1140) 3 rfl ?_
  refine Wp.iaddN (x := i) (y := 2) (len := 1) rfl ?_
  refine Wp.ialdN (j := i + 2) (len := 1) rfl (s1) rfl (by omega) (by omega) ?_
  refine Wp.n (pc' := 1145) 3 rfl ?_
  refine Wp.iaddN (x := i) (y := 3) (len := 1) rfl ?_
  refine Wp.ialdN (j := i + 3) (len := 1) rfl (s1) rfl (by omega) (by omega) ?_
  refine Wp.callV (len := 3) rfl rfl rfl ((cset_o (by omega)).trans hDo) rfl (by decide) rfl (Wp.mono (k_bend ⟨hC1.1, hC1.2.2.2.1, hC1.2.2.2.2.1⟩ hZ.1.1 hZ.1.2.1 _ _ _) (fun v M' r => CR_d hC1 r)) ?_
  rintro _ _ ⟨rfl, M2, κ2, rfl, hC2, e2⟩
  rw [ms_ab e2]
  have s2 : mset (cset M2 κ2) σ 2 = .inl (7, L, .inl xs) := (if_pos (by decide)).trans ((cset_o (by omega)).trans ((e2 2 (by omega)).trans ((if_pos (by decide)).trans h2)))
  refine Wp.n (pc' := 1154) 4 rfl ?_
  refine Wp.iaddN (x := i) (y := 1) (len := 1) rfl ?_
  refine Wp.ialdN (j := i + 1) (len := 1) rfl (s2) rfl (by omega) (by omega) ?_
  refine Wp.n (pc' := 1159) 3 rfl ?_
  refine Wp.iaddN (x := i) (y := 2) (len := 1) rfl ?_
  refine Wp.ialdN (j := i + 2) (len := 1) rfl (s2) rfl (by omega) (by omega) ?_
  refine Wp.n (pc' := 1164) 3 rfl ?_
  refine Wp.iaddN (x := i) (y := 3) (len := 1) rfl ?_
  refine Wp.ialdN (j := i + 3) (len := 1) rfl (s2) rfl (by omega) (by omega) ?_
  refine Wp.callV (len := 3) rfl rfl rfl (rfl) rfl (by decide) rfl (Wp.mono (m_bend hM.1 hZ.1.2.1 _ _ _) (fun v M' r => MQ_s hM r)) ?_
  rintro _ _ ⟨rfl, σ2, rfl, hM2⟩
  refine Wp.ic0 (tgt := 1765) (len := 3) rfl (fun h1169 => ?_) (fun h1169 => ?_)
  · skip
    exact kk M2 κ2 σ2 _ hC2 hM2 (hZ) (fun q hq => (e2 q (Or.inl hq)).trans (if_pos (by omega)))
  · exact absurd rfl h1169
theorem L_duke (hi : i + 6 ≤ L) (hL : L ≤ 3072) (h2 : M 2 = .inl (7, L, .inl xs)) (hC : CI M κ Z) (hM : MI σ Z) (hZ : ZG Z) (kk : LK M i Q) : Wp 60 md_263 1174 [some (.ref 2), some (.ref 32), some (.ref 287), some (.int (nI i))] [] (mset (cset M κ) σ) Q := by
  obtain ⟨K, I, S, T, f⟩ := Z
  rw [ms_cs]
  have hC1 := CI_ms (σ := σ) hC
  obtain ⟨ow, hDo⟩ := hC1.1.1
  have s1 : cset (mset M σ) κ 2 = .inl (7, L, .inl xs) := (cset_o (by omega)).trans ((if_pos (by decide)).trans h2)
  refine Wp.n (pc' := 1178) 4 rfl ?_
  refine Wp.iaddN (x := i) (y := 1) (len := 1) rfl ?_
  refine Wp.ialdN (j := i + 1) (len := 1) rfl (s1) rfl (by omega) (by omega) ?_
  refine Wp.callV (len := 3) rfl rfl rfl ((cset_o (by omega)).trans hDo) rfl (by decide) rfl (Wp.mono (k_duke ⟨hC1.1, hC1.2.2.2.1, hC1.2.2.2.2.1⟩ hZ.1.1 hZ.1.2.1 _) (fun v M' r => CR_d hC1 r)) ?_
  rintro _ _ ⟨rfl, M2, κ2, rfl, hC2, e2⟩
  rw [ms_ab e2]
  have s2 : mset (cset M2 κ2) σ 2 = .inl (7, L, .inl xs) := (if_pos (by decide)).trans ((cset_o (by omega)).trans ((e2 2 (by omega)).trans ((if_pos (by decide)).trans h2)))
  refine Wp.n (pc' := 1187) 4 rfl ?_
  refine Wp.iaddN (x := i) (y := 1) (len := 1) rfl ?_
  refine Wp.ialdN (j := i + 1) (len := 1) rfl (s2) rfl (by omega) (by omega) ?_
  refine Wp.callV (len := 3) rfl rfl rfl (rfl) rfl (by decide) rfl (Wp.mono (m_duke hM.1 hZ.1.2.1 _) (fun v M' r => MQ_s hM r)) ?_
  rintro _ _ ⟨rfl, σ2, rfl, hM2⟩
  refine Wp.ic0 (tgt := 1765) (len := 3) rfl (fun h1192 => ?_) (fun h1192 => ?_)
  · skip
    exact kk M2 κ2 σ2 _ hC2 hM2 (hZ) (fun q hq => (e2 q (Or.inl hq)).trans (if_pos (by omega)))
  · exact absurd rfl h1192
theorem L_watchers (hi : i + 6 ≤ L) (hL : L ≤ 3072) (h2 : M 2 = .inl (7, L, .inl xs)) (hC : CI M κ Z) (hM : MI σ Z) (hZ : ZG Z) (hz : kh Z.1 0 = 0) (kk : LK M i Q) : Wp 60 md_263 1197 [some (.ref 2), some (.ref 32), some (.ref 287), some (.int (nI i))] [] (mset (cset M κ) σ) Q := by
  obtain ⟨K, I, S, T, f⟩ := Z
  rw [ms_cs]
  have hC1 := CI_ms (σ := σ) hC
  obtain ⟨ow, hDo⟩ := hC1.1.1
  have s1 : cset (mset M σ) κ 2 = .inl (7, L, .inl xs) := (cset_o (by omega)).trans ((if_pos (by decide)).trans h2)
  have hz0 : kh K 0 = 0 := hz
  refine Wp.n (pc' := 1201) 4 rfl ?_
  refine Wp.iaddN (x := i) (y := 1) (len := 1) rfl ?_
  refine Wp.ialdN (j := i + 1) (len := 1) rfl (s1) rfl (by omega) (by omega) ?_
  refine Wp.callV (len := 3) rfl rfl rfl ((cset_o (by omega)).trans hDo) rfl (by decide) rfl (C_watchers hC1 hZ.1.1) ?_
  rintro _ _ ⟨a, ha, rfl, M2, κ2, rfl, hC2, e2⟩
  rw [ms_ab e2]
  have s2 : mset (cset M2 κ2) σ 2 = .inl (7, L, .inl xs) := (if_pos (by decide)).trans ((cset_o (by omega)).trans ((e2 2 (by omega)).trans ((if_pos (by decide)).trans h2)))
  refine Wp.n (pc' := 1210) 4 rfl ?_
  refine Wp.iaddN (x := i) (y := 1) (len := 1) rfl ?_
  refine Wp.ialdN (j := i + 1) (len := 1) rfl (s2) rfl (by omega) (by omega) ?_
  refine Wp.callV (len := 3) rfl rfl rfl (rfl) rfl (by decide) rfl (Wp.mono (m_watchers hM.1 _) (fun v M' r => MQ_s hM r)) ?_
  rintro _ _ ⟨rfl, σ2, rfl, hM2⟩
  refine Wp.ic0 (tgt := 1765) (len := 3) rfl (fun h1215 => ?_) (fun h1215 => ?_)
  · skip
    exact kk M2 κ2 σ2 _ hC2 hM2 (hZ) (fun q hq => (e2 q (Or.inl hq)).trans (if_pos (by omega)))
  · exact absurd (by rw [ha hz0]; unfold watA; rw [if_neg (fun q => absurd q.1 (by omega))]) h1215
end LCB
