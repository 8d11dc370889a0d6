/-! THE LAW: its cases, c. -/
section LCC
variable {L i : Nat} {xs : Nat → Int32} {M : AM} {κ : CS} {σ : MS} {Z : Zt} {Q : Option Value → AM → Prop}
theorem L_by (hi : i + 6 ≤ L) (hL : L ≤ 3072) (h2 : M 2 = .inl (7, L, .inl xs)) (hC : CI M κ Z) (hM : MI σ Z) (hZ : ZG Z) (kk : LK M i Q) : Wp 60 md_263 1220 [some (.ref 2), some (.ref 32), some (.ref 287), some (.int (nI i))] [] (mset (cset M κ) σ) Q := by
  obtain ⟨K, I, S, T, f⟩ := Z
  rw [ms_cs]
  have hC1 := CI_ms (σ := σ) hC
  obtain ⟨ow, hDo⟩ := hC1.1.1
  have s1 : cset (mset M σ) κ 2 = .inl (7, L, .inl xs) := (cset_o (by omega)).trans ((if_pos (by decide)).trans h2)
  refine Wp.n (pc' := 1224) 4 rfl ?_
  refine Wp.iaddN (x := i) (y := 1) (len := 1) rfl ?_
  refine Wp.ialdN (j := i + 1) (len := 1) rfl (s1) rfl (by omega) (by omega) ?_
  refine Wp.n (pc' := 1229) 3 rfl ?_
  refine Wp.iaddN (x := i) (y := 2) (len := 1) rfl ?_
  refine Wp.ialdN (j := i + 2) (len := 1) rfl (s1) rfl (by omega) (by omega) ?_
  refine Wp.callV (len := 3) rfl rfl rfl ((cset_o (by omega)).trans hDo) rfl (by decide) rfl (Wp.mono (k_by ⟨hC1.1, hC1.2.2.2.1, hC1.2.2.2.2.1⟩ hZ.1.1 _ _) (fun v M' r => CR_d hC1 r)) ?_
  rintro _ _ ⟨rfl, M2, κ2, rfl, hC2, e2⟩
  rw [ms_ab e2]
  have s2 : mset (cset M2 κ2) σ 2 = .inl (7, L, .inl xs) := (if_pos (by decide)).trans ((cset_o (by omega)).trans ((e2 2 (by omega)).trans ((if_pos (by decide)).trans h2)))
  refine Wp.n (pc' := 1238) 4 rfl ?_
  refine Wp.iaddN (x := i) (y := 1) (len := 1) rfl ?_
  refine Wp.ialdN (j := i + 1) (len := 1) rfl (s2) rfl (by omega) (by omega) ?_
  refine Wp.n (pc' := 1243) 3 rfl ?_
  refine Wp.iaddN (x := i) (y := 2) (len := 1) rfl ?_
  refine Wp.ialdN (j := i + 2) (len := 1) rfl (s2) rfl (by omega) (by omega) ?_
  refine Wp.callV (len := 3) rfl rfl rfl (rfl) rfl (by decide) rfl (Wp.mono (m_by hM.1 _ _) (fun v M' r => MQ_s hM r)) ?_
  rintro _ _ ⟨rfl, σ2, rfl, hM2⟩
  refine Wp.ic0 (tgt := 1765) (len := 3) rfl (fun h1248 => ?_) (fun h1248 => ?_)
  · skip
    exact kk M2 κ2 σ2 _ hC2 hM2 (hZ) (fun q hq => (e2 q (Or.inl hq)).trans (if_pos (by omega)))
  · exact absurd rfl h1248
theorem L_rate (hi : i + 6 ≤ L) (hL : L ≤ 3072) (h2 : M 2 = .inl (7, L, .inl xs)) (hC : CI M κ Z) (hM : MI σ Z) (hZ : ZG Z) (kk : LK M i Q) : Wp 60 md_263 1253 [some (.ref 2), some (.ref 32), some (.ref 287), some (.int (nI i))] [] (mset (cset M κ) σ) Q := by
  obtain ⟨K, I, S, T, f⟩ := Z
  rw [ms_cs]
  have hC1 := CI_ms (σ := σ) hC
  obtain ⟨ow, hDo⟩ := hC1.1.1
  have s1 : cset (mset M σ) κ 2 = .inl (7, L, .inl xs) := (cset_o (by omega)).trans ((if_pos (by decide)).trans h2)
  refine Wp.n (pc' := 1257) 4 rfl ?_
  refine Wp.iaddN (x := i) (y := 1) (len := 1) rfl ?_
  refine Wp.ialdN (j := i + 1) (len := 1) rfl (s1) rfl (by omega) (by omega) ?_
  refine Wp.callV (len := 3) rfl rfl rfl ((cset_o (by omega)).trans hDo) rfl (by decide) rfl (Wp.mono (k_rate ⟨hC1.1, hC1.2.2.2.1, hC1.2.2.2.2.1⟩ hZ.1.1 _) (fun v M' r => CR_d hC1 r)) ?_
  rintro _ _ ⟨rfl, M2, κ2, rfl, hC2, e2⟩
  rw [ms_ab e2]
  have s2 : mset (cset M2 κ2) σ 2 = .inl (7, L, .inl xs) := (if_pos (by decide)).trans ((cset_o (by omega)).trans ((e2 2 (by omega)).trans ((if_pos (by decide)).trans h2)))
  refine Wp.n (pc' := 1266) 4 rfl ?_
  refine Wp.iaddN (x := i) (y := 1) (len := 1) rfl ?_
  refine Wp.ialdN (j := i + 1) (len := 1) rfl (s2) rfl (by omega) (by omega) ?_
  refine Wp.callV (len := 3) rfl rfl rfl (rfl) rfl (by decide) rfl (Wp.mono (m_rate hM.1 _) (fun v M' r => MQ_s hM r)) ?_
  rintro _ _ ⟨rfl, σ2, rfl, hM2⟩
  refine Wp.ic0 (tgt := 1765) (len := 3) rfl (fun h1271 => ?_) (fun h1271 => ?_)
  · skip
    exact kk M2 κ2 σ2 _ hC2 hM2 (hZ) (fun q hq => (e2 q (Or.inl hq)).trans (if_pos (by omega)))
  · exact absurd rfl h1271
theorem L_law (hi : i + 6 ≤ L) (hL : L ≤ 3072) (h2 : M 2 = .inl (7, L, .inl xs)) (hC : CI M κ Z) (hM : MI σ Z) (hZ : ZG Z) (kk : LK M i Q) : Wp 60 md_263 1276 [some (.ref 2), some (.ref 32), some (.ref 287), some (.int (nI i))] [] (mset (cset M κ) σ) Q := by
  obtain ⟨K, I, S, T, f⟩ := Z
  rw [ms_cs]
  have hC1 := CI_ms (σ := σ) hC
  obtain ⟨ow, hDo⟩ := hC1.1.1
  have s1 : cset (mset M σ) κ 2 = .inl (7, L, .inl xs) := (cset_o (by omega)).trans ((if_pos (by decide)).trans h2)
  refine Wp.n (pc' := 1280) 4 rfl ?_
  refine Wp.iaddN (x := i) (y := 1) (len := 1) rfl ?_
  refine Wp.ialdN (j := i + 1) (len := 1) rfl (s1) rfl (by omega) (by omega) ?_
  refine Wp.n (pc' := 1285) 3 rfl ?_
  refine Wp.iaddN (x := i) (y := 2) (len := 1) rfl ?_
  refine Wp.ialdN (j := i + 2) (len := 1) rfl (s1) rfl (by omega) (by omega) ?_
  refine Wp.callV (len := 3) rfl rfl rfl ((cset_o (by omega)).trans hDo) rfl (by decide) rfl (C_law hC1) ?_
  rintro _ _ ⟨rfl, M2, κ2, rfl, hC2, e2⟩
  rw [ms_ab e2]
  have s2 : mset (cset M2 κ2) σ 2 = .inl (7, L, .inl xs) := (if_pos (by decide)).trans ((cset_o (by omega)).trans ((e2 2 (by omega)).trans ((if_pos (by decide)).trans h2)))
  refine Wp.n (pc' := 1294) 4 rfl ?_
  refine Wp.iaddN (x := i) (y := 1) (len := 1) rfl ?_
  refine Wp.ialdN (j := i + 1) (len := 1) rfl (s2) rfl (by omega) (by omega) ?_
  refine Wp.n (pc' := 1299) 3 rfl ?_
  refine Wp.iaddN (x := i) (y := 2) (len := 1) rfl ?_
  refine Wp.ialdN (j := i + 2) (len := 1) rfl (s2) rfl (by omega) (by omega) ?_
  refine Wp.callV (len := 3) rfl rfl rfl (rfl) rfl (by decide) rfl (D_law hM) ?_
  rintro _ _ ⟨rfl, σ2, rfl, hM2⟩
  refine Wp.ic0 (tgt := 1765) (len := 3) rfl (fun h1304 => ?_) (fun h1304 => ?_)
  · skip
    exact kk M2 κ2 σ2 _ hC2 hM2 (⟨KG_law hZ.1, hZ.2⟩) (fun q hq => (e2 q (Or.inl hq)).trans (if_pos (by omega)))
  · exact absurd rfl h1304
theorem L_paid (hi : i + 6 ≤ L) (hL : L ≤ 3072) (h2 : M 2 = .inl (7, L, .inl xs)) (hC : CI M κ Z) (hM : MI σ Z) (hZ : ZG Z) (kk : LK M i Q) : Wp 60 md_263 1309 [some (.ref 2), some (.ref 32), some (.ref 287), some (.int (nI i))] [] (mset (cset M κ) σ) Q := by
  obtain ⟨K, I, S, T, f⟩ := Z
  rw [ms_cs]
  have hC1 := CI_ms (σ := σ) hC
  obtain ⟨ow, hDo⟩ := hC1.1.1
  have s1 : cset (mset M σ) κ 2 = .inl (7, L, .inl xs) := (cset_o (by omega)).trans ((if_pos (by decide)).trans h2)
  refine Wp.n (pc' := 1313) 4 rfl ?_
  refine Wp.iaddN (x := i) (y := 1) (len := 1) rfl ?_
  refine Wp.ialdN (j := i + 1) (len := 1) rfl (s1) rfl (by omega) (by omega) ?_
  refine Wp.n (pc' := 1318) 3 rfl ?_
  refine Wp.iaddN (x := i) (y := 2) (len := 1) rfl ?_
  refine Wp.ialdN (j := i + 2) (len := 1) rfl (s1) rfl (by omega) (by omega) ?_
  refine Wp.callV (len := 3) rfl rfl rfl ((cset_o (by omega)).trans hDo) rfl (by decide) rfl (Wp.mono (k_paid hC1.1 hC1.2.2.2.1 hZ.1.1 _ _) (fun v M' r => CR_s hC1 r)) ?_
  rintro _ _ ⟨rfl, M2, κ2, rfl, hC2, e2⟩
  rw [ms_ab e2]
  have s2 : mset (cset M2 κ2) σ 2 = .inl (7, L, .inl xs) := (if_pos (by decide)).trans ((cset_o (by omega)).trans ((e2 2 (by omega)).trans ((if_pos (by decide)).trans h2)))
  refine Wp.n (pc' := 1327) 4 rfl ?_
  refine Wp.iaddN (x := i) (y := 1) (len := 1) rfl ?_
  refine Wp.ialdN (j := i + 1) (len := 1) rfl (s2) rfl (by omega) (by omega) ?_
  refine Wp.n (pc' := 1332) 3 rfl ?_
  refine Wp.iaddN (x := i) (y := 2) (len := 1) rfl ?_
  refine Wp.ialdN (j := i + 2) (len := 1) rfl (s2) rfl (by omega) (by omega) ?_
  refine Wp.callV (len := 3) rfl rfl rfl (rfl) rfl (by decide) rfl (Wp.mono (m_paid hM.1 _ _) (fun v M' r => MQ_s hM r)) ?_
  rintro _ _ ⟨rfl, σ2, rfl, hM2⟩
  refine Wp.ic0 (tgt := 1765) (len := 3) rfl (fun h1337 => ?_) (fun h1337 => ?_)
  · skip
    exact kk M2 κ2 σ2 _ hC2 hM2 (hZ) (fun q hq => (e2 q (Or.inl hq)).trans (if_pos (by omega)))
  · exact absurd rfl h1337
theorem L_sure (hi : i + 6 ≤ L) (hL : L ≤ 3072) (h2 : M 2 = .inl (7, L, .inl xs)) (hC : CI M κ Z) (hM : MI σ Z) (hZ : ZG Z) (kk : LK M i Q) : Wp 60 md_263 1342 [some (.ref 2), some (.ref 32), some (.ref 287), some (.int (nI i))] [] (mset (cset M κ) σ) Q := by
  obtain ⟨K, I, S, T, f⟩ := Z
  rw [ms_cs]
  have hC1 := CI_ms (σ := σ) hC
  obtain ⟨ow, hDo⟩ := hC1.1.1
  have s1 : cset (mset M σ) κ 2 = .inl (7, L, .inl xs) := (cset_o (by omega)).trans ((if_pos (by decide)).trans h2)
  refine Wp.n (pc' := 1346) 4 rfl ?_
  refine Wp.iaddN (x := i) (y := 1) (len := 1) rfl ?_
  refine Wp.ialdN (j := i + 1) (len := 1) rfl (s1) rfl (by omega) (by omega) ?_
  refine Wp.n (pc' := 1351) 3 rfl ?_
  refine Wp.iaddN (x := i) (y := 2) (len := 1) rfl ?_
  refine Wp.ialdN (j := i + 2) (len := 1) rfl (s1) rfl (by omega) (by omega) ?_
  refine Wp.callV (len := 3) rfl rfl rfl ((cset_o (by omega)).trans hDo) rfl (by decide) rfl (Wp.mono (k_sure hC1.1 hC1.2.2.2.1 hZ.1.1 _ _) (fun v M' r => CR_s hC1 r)) ?_
  rintro _ _ ⟨rfl, M2, κ2, rfl, hC2, e2⟩
  rw [ms_ab e2]
  have s2 : mset (cset M2 κ2) σ 2 = .inl (7, L, .inl xs) := (if_pos (by decide)).trans ((cset_o (by omega)).trans ((e2 2 (by omega)).trans ((if_pos (by decide)).trans h2)))
  refine Wp.n (pc' := 1360) 4 rfl ?_
  refine Wp.iaddN (x := i) (y := 1) (len := 1) rfl ?_
  refine Wp.ialdN (j := i + 1) (len := 1) rfl (s2) rfl (by omega) (by omega) ?_
  refine Wp.n (pc' := 1365) 3 rfl ?_
  refine Wp.iaddN (x := i) (y := 2) (len := 1) rfl ?_
  refine Wp.ialdN (j := i + 2) (len := 1) rfl (s2) rfl (by omega) (by omega) ?_
  refine Wp.callV (len := 3) rfl rfl rfl (rfl) rfl (by decide) rfl (Wp.mono (m_sure hM.1 _ _) (fun v M' r => MQ_s hM r)) ?_
  rintro _ _ ⟨rfl, σ2, rfl, hM2⟩
  refine Wp.ic0 (tgt := 1765) (len := 3) rfl (fun h1370 => ?_) (fun h1370 => ?_)
  · skip
    exact kk M2 κ2 σ2 _ hC2 hM2 (hZ) (fun q hq => (e2 q (Or.inl hq)).trans (if_pos (by omega)))
  · exact absurd rfl h1370
theorem L_ford (hi : i + 6 ≤ L) (hL : L ≤ 3072) (h2 : M 2 = .inl (7, L, .inl xs)) (hC : CI M κ Z) (hM : MI σ Z) (hZ : ZG Z) (kk : LK M i Q) : Wp 60 md_263 1375 [some (.ref 2), some (.ref 32), some (.ref 287), some (.int (nI i))] [] (mset (cset M κ) σ) Q := by
  obtain ⟨K, I, S, T, f⟩ := Z
  rw [ms_cs]
  have hC1 := CI_ms (σ := σ) hC
  obtain ⟨ow, hDo⟩ := hC1.1.1
  have s1 : cset (mset M σ) κ 2 = .inl (7, L, .inl xs) := (cset_o (by omega)).trans ((if_pos (by decide)).trans h2)
  refine Wp.n (pc' := 1379) 4 rfl ?_
  refine Wp.iaddN (x := i) (y := 1) (len := 1) rfl ?_
  refine Wp.ialdN (j := i + 1) (len := 1) rfl (s1) rfl (by omega) (by omega) ?_
  refine Wp.callV (len := 3) rfl rfl rfl ((cset_o (by omega)).trans hDo) rfl (by decide) rfl (Wp.mono (k_ford hC1.1 hC1.2.2.2.1 hZ.1.1 hC1.2.2.2.2.2.2.1 _) (fun v M' r => CR_s hC1 r)) ?_
  rintro _ _ ⟨rfl, M2, κ2, rfl, hC2, e2⟩
  rw [ms_ab e2]
  have s2 : mset (cset M2 κ2) σ 2 = .inl (7, L, .inl xs) := (if_pos (by decide)).trans ((cset_o (by omega)).trans ((e2 2 (by omega)).trans ((if_pos (by decide)).trans h2)))
  refine Wp.n (pc' := 1388) 4 rfl ?_
  refine Wp.iaddN (x := i) (y := 1) (len := 1) rfl ?_
  refine Wp.ialdN (j := i + 1) (len := 1) rfl (s2) rfl (by omega) (by omega) ?_
  refine Wp.callV (len := 3) rfl rfl rfl (rfl) rfl (by decide) rfl (Wp.mono (m_ford hM.1 hM.2.2.1 _) (fun v M' r => MQ_s hM r)) ?_
  rintro _ _ ⟨rfl, σ2, rfl, hM2⟩
  refine Wp.ic0 (tgt := 1765) (len := 3) rfl (fun h1393 => ?_) (fun h1393 => ?_)
  · skip
    exact kk M2 κ2 σ2 _ hC2 hM2 (hZ) (fun q hq => (e2 q (Or.inl hq)).trans (if_pos (by omega)))
  · exact absurd rfl h1393
theorem L_must (hi : i + 6 ≤ L) (hL : L ≤ 3072) (h2 : M 2 = .inl (7, L, .inl xs)) (hC : CI M κ Z) (hM : MI σ Z) (hZ : ZG Z) (kk : LK M i Q) : Wp 60 md_263 1398 [some (.ref 2), some (.ref 32), some (.ref 287), some (.int (nI i))] [] (mset (cset M κ) σ) Q := by
  obtain ⟨K, I, S, T, f⟩ := Z
  rw [ms_cs]
  have hC1 := CI_ms (σ := σ) hC
  obtain ⟨ow, hDo⟩ := hC1.1.1
  have s1 : cset (mset M σ) κ 2 = .inl (7, L, .inl xs) := (cset_o (by omega)).trans ((if_pos (by decide)).trans h2)
  refine Wp.n (pc' := 1402) 4 rfl ?_
  refine Wp.iaddN (x := i) (y := 1) (len := 1) rfl ?_
  refine Wp.ialdN (j := i + 1) (len := 1) rfl (s1) rfl (by omega) (by omega) ?_
  refine Wp.n (pc' := 1407) 3 rfl ?_
  refine Wp.iaddN (x := i) (y := 2) (len := 1) rfl ?_
  refine Wp.ialdN (j := i + 2) (len := 1) rfl (s1) rfl (by omega) (by omega) ?_
  refine Wp.n (pc' := 1412) 3 rfl ?_
  refine Wp.iaddN (x := i) (y := 3) (len := 1) rfl ?_
  refine Wp.ialdN (j := i + 3) (len := 1) rfl (s1) rfl (by omega) (by omega) ?_
  refine Wp.n (pc' := 1417) 3 rfl ?_
  refine Wp.iaddN (x := i) (y := 4) (len := 1) rfl ?_
  refine Wp.ialdN (j := i + 4) (len := 1) rfl (s1) rfl (by omega) (by omega) ?_
  refine Wp.callV (len := 3) rfl rfl rfl ((cset_o (by omega)).trans hDo) rfl (by decide) rfl (Wp.mono (k_must ⟨hC1.1, hC1.2.2.2.1, hC1.2.2.2.2.1⟩ hZ.1.1 hZ.1.2.2 _ _ _ _) (fun v M' r => CR_d hC1 r)) ?_
  rintro _ _ ⟨rfl, M2, κ2, rfl, hC2, e2⟩
  rw [ms_ab e2]
  have s2 : mset (cset M2 κ2) σ 2 = .inl (7, L, .inl xs) := (if_pos (by decide)).trans ((cset_o (by omega)).trans ((e2 2 (by omega)).trans ((if_pos (by decide)).trans h2)))
  refine Wp.n (pc' := 1426) 4 rfl ?_
  refine Wp.iaddN (x := i) (y := 1) (len := 1) rfl ?_
  refine Wp.ialdN (j := i + 1) (len := 1) rfl (s2) rfl (by omega) (by omega) ?_
  refine Wp.n (pc' := 1431) 3 rfl ?_
  refine Wp.iaddN (x := i) (y := 2) (len := 1) rfl ?_
  refine Wp.ialdN (j := i + 2) (len := 1) rfl (s2) rfl (by omega) (by omega) ?_
  refine Wp.n (pc' := 1436) 3 rfl ?_
  refine Wp.iaddN (x := i) (y := 3) (len := 1) rfl ?_
  refine Wp.ialdN (j := i + 3) (len := 1) rfl (s2) rfl (by omega) (by omega) ?_
  refine Wp.n (pc' := 1441) 3 rfl ?_
  refine Wp.iaddN (x := i) (y := 4) (len := 1) rfl ?_
  refine Wp.ialdN (j := i + 4) (len := 1) rfl (s2) rfl (by omega) (by omega) ?_
  refine Wp.callV (len := 3) rfl rfl rfl (rfl) rfl (by decide) rfl (Wp.mono (m_must hM.1 hZ.1.1 _ _ _ _) (fun v M' r => MQ_l hM hZ.1.1 r)) ?_
  rintro _ _ ⟨rfl, σ2, rfl, hM2⟩
  refine Wp.ic0 (tgt := 1765) (len := 3) rfl (fun h1446 => ?_) (fun h1446 => ?_)
  · skip
    exact kk M2 κ2 σ2 _ hC2 hM2 (hZ) (fun q hq => (e2 q (Or.inl hq)).trans (if_pos (by omega)))
  · exact absurd rfl h1446
theorem L_seen (hi : i + 6 ≤ L) (hL : L ≤ 3072) (h2 : M 2 = .inl (7, L, .inl xs)) (hC : CI M κ Z) (hM : MI σ Z) (hZ : ZG Z) (kk : LK M i Q) : Wp 60 md_263 1451 [some (.ref 2), some (.ref 32), some (.ref 287), some (.int (nI i))] [] (mset (cset M κ) σ) Q := by
  obtain ⟨K, I, S, T, f⟩ := Z
  rw [ms_cs]
  have hC1 := CI_ms (σ := σ) hC
  obtain ⟨ow, hDo⟩ := hC1.1.1
  have s1 : cset (mset M σ) κ 2 = .inl (7, L, .inl xs) := (cset_o (by omega)).trans ((if_pos (by decide)).trans h2)
  refine Wp.n (pc' := 1455) 4 rfl ?_
  refine Wp.iaddN (x := i) (y := 1) (len := 1) rfl ?_
  refine Wp.ialdN (j := i + 1) (len := 1) rfl (s1) rfl (by omega) (by omega) ?_
  refine Wp.n (pc' := 1460) 3 rfl ?_
  refine Wp.iaddN (x := i) (y := 2) (len := 1) rfl ?_
  refine Wp.ialdN (j := i + 2) (len := 1) rfl (s1) rfl (by omega) (by omega) ?_
  refine Wp.callV (len := 3) rfl rfl rfl ((cset_o (by omega)).trans hDo) rfl (by decide) rfl (Wp.mono (k_seen hC1.1 hC1.2.2.2.1 _ _) (fun v M' r => CR_s hC1 r)) ?_
  rintro _ _ ⟨rfl, M2, κ2, rfl, hC2, e2⟩
  rw [ms_ab e2]
  have s2 : mset (cset M2 κ2) σ 2 = .inl (7, L, .inl xs) := (if_pos (by decide)).trans ((cset_o (by omega)).trans ((e2 2 (by omega)).trans ((if_pos (by decide)).trans h2)))
  refine Wp.n (pc' := 1469) 4 rfl ?_
  refine Wp.iaddN (x := i) (y := 1) (len := 1) rfl ?_
  refine Wp.ialdN (j := i + 1) (len := 1) rfl (s2) rfl (by omega) (by omega) ?_
  refine Wp.n (pc' := 1474) 3 rfl ?_
  refine Wp.iaddN (x := i) (y := 2) (len := 1) rfl ?_
  refine Wp.ialdN (j := i + 2) (len := 1) rfl (s2) rfl (by omega) (by omega) ?_
  refine Wp.callV (len := 3) rfl rfl rfl (rfl) rfl (by decide) rfl (Wp.mono (m_seen hM.1 _ _) (fun v M' r => MQ_s hM r)) ?_
  rintro _ _ ⟨rfl, σ2, rfl, hM2⟩
  refine Wp.ic0 (tgt := 1765) (len := 3) rfl (fun h1479 => ?_) (fun h1479 => ?_)
  · skip
    exact kk M2 κ2 σ2 _ hC2 hM2 (hZ) (fun q hq => (e2 q (Or.inl hq)).trans (if_pos (by omega)))
  · exact absurd rfl h1479
theorem L_caught (hi : i + 6 ≤ L) (hL : L ≤ 3072) (h2 : M 2 = .inl (7, L, .inl xs)) (hC : CI M κ Z) (hM : MI σ Z) (hZ : ZG Z) (kk : LK M i Q) : Wp 60 md_263 1484 [some (.ref 2), some (.ref 32), some (.ref 287), some (.int (nI i))] [] (mset (cset M κ) σ) Q := by
  obtain ⟨K, I, S, T, f⟩ := Z
  rw [ms_cs]
  have hC1 := CI_ms (σ := σ) hC
  obtain ⟨ow, hDo⟩ := hC1.1.1
  have s1 : cset (mset M σ) κ 2 = .inl (7, L, .inl xs) := (cset_o (by omega)).trans ((if_pos (by decide)).trans h2)
  refine Wp.n (pc' := 1488) 4 rfl ?_
  refine Wp.iaddN (x := i) (y := 1) (len := 1) rfl ?_
  refine Wp.ialdN (j := i + 1) (len := 1) rfl (s1) rfl (by omega) (by omega) ?_
  refine Wp.n (pc' := 1493) 3 rfl ?_
  refine Wp.iaddN (x := i) (y := 2) (len := 1) rfl ?_
  refine Wp.ialdN (j := i + 2) (len := 1) rfl (s1) rfl (by omega) (by omega) ?_
  refine Wp.callV (len := 3) rfl rfl rfl ((cset_o (by omega)).trans hDo) rfl (by decide) rfl (Wp.mono (k_caught hC1.1 hC1.2.2.2.1 _ _) (fun v M' r => CR_s hC1 r)) ?_
  rintro _ _ ⟨rfl, M2, κ2, rfl, hC2, e2⟩
  rw [ms_ab e2]
  have s2 : mset (cset M2 κ2) σ 2 = .inl (7, L, .inl xs) := (if_pos (by decide)).trans ((cset_o (by omega)).trans ((e2 2 (by omega)).trans ((if_pos (by decide)).trans h2)))
  refine Wp.n (pc' := 1502) 4 rfl ?_
  refine Wp.iaddN (x := i) (y := 1) (len := 1) rfl ?_
  refine Wp.ialdN (j := i + 1) (len := 1) rfl (s2) rfl (by omega) (by omega) ?_
  refine Wp.n (pc' := 1507) 3 rfl ?_
  refine Wp.iaddN (x := i) (y := 2) (len := 1) rfl ?_
  refine Wp.ialdN (j := i + 2) (len := 1) rfl (s2) rfl (by omega) (by omega) ?_
  refine Wp.callV (len := 3) rfl rfl rfl (rfl) rfl (by decide) rfl (Wp.mono (m_caught hM.1 _ _) (fun v M' r => MQ_s hM r)) ?_
  rintro _ _ ⟨rfl, σ2, rfl, hM2⟩
  refine Wp.ic0 (tgt := 1765) (len := 3) rfl (fun h1512 => ?_) (fun h1512 => ?_)
  · skip
    exact kk M2 κ2 σ2 _ hC2 hM2 (hZ) (fun q hq => (e2 q (Or.inl hq)).trans (if_pos (by omega)))
  · exact absurd rfl h1512
theorem L_count (hi : i + 6 ≤ L) (hL : L ≤ 3072) (h2 : M 2 = .inl (7, L, .inl xs)) (hC : CI M κ Z) (hM : MI σ Z) (hZ : ZG Z) (kk : LK M i Q) : Wp 60 md_263 1517 [some (.ref 2), some (.ref 32), some (.ref 287), some (.int (nI i))] [] (mset (cset M κ) σ) Q := by
  obtain ⟨K, I, S, T, f⟩ := Z
  rw [ms_cs]
  have hC1 := CI_ms (σ := σ) hC
  obtain ⟨ow, hDo⟩ := hC1.1.1
  have s1 : cset (mset M σ) κ 2 = .inl (7, L, .inl xs) := (cset_o (by omega)).trans ((if_pos (by decide)).trans h2)
  refine Wp.n (pc' := 1521) 4 rfl ?_
  refine Wp.iaddN (x := i) (y := 1) (len := 1) rfl ?_
  refine Wp.ialdN (j := i + 1) (len := 1) rfl (s1) rfl (by omega) (by omega) ?_
  refine Wp.callV (len := 3) rfl rfl rfl ((cset_o (by omega)).trans hDo) rfl (by decide) rfl (CR_e hC1 (k_count hC1.1 hC1.2.2.2.1 hZ.1.1 hC1.2.2.2.2.2.2.1 hC1.2.2.2.2.2.2.2.1 _)) ?_
  rintro _ _ ⟨rfl, M2, κ2, rfl, hC2, e2⟩
  rw [ms_ab e2]
  have s2 : mset (cset M2 κ2) σ 2 = .inl (7, L, .inl xs) := (if_pos (by decide)).trans ((cset_o (by omega)).trans ((e2 2 (by omega)).trans ((if_pos (by decide)).trans h2)))
  refine Wp.n (pc' := 1530) 4 rfl ?_
  refine Wp.iaddN (x := i) (y := 1) (len := 1) rfl ?_
  refine Wp.ialdN (j := i + 1) (len := 1) rfl (s2) rfl (by omega) (by omega) ?_
  refine Wp.callV (len := 3) rfl rfl rfl (rfl) rfl (by decide) rfl (MQ_e hM (m_count hM.1 hM.2.2.1 hM.2.2.2.1 _)) ?_
  rintro _ _ ⟨rfl, σ2, rfl, hM2⟩
  refine Wp.ic0 (tgt := 1765) (len := 3) rfl (fun h1535 => ?_) (fun h1535 => ?_)
  · skip
    exact kk M2 κ2 σ2 _ hC2 hM2 (hZ) (fun q hq => (e2 q (Or.inl hq)).trans (if_pos (by omega)))
  · exact absurd rfl h1535
theorem L_keep (hi : i + 6 ≤ L) (hL : L ≤ 3072) (h2 : M 2 = .inl (7, L, .inl xs)) (hC : CI M κ Z) (hM : MI σ Z) (hZ : ZG Z) (kk : LK M i Q) : Wp 60 md_263 1540 [some (.ref 2), some (.ref 32), some (.ref 287), some (.int (nI i))] [] (mset (cset M κ) σ) Q := by
  obtain ⟨K, I, S, T, f⟩ := Z
  rw [ms_cs]
  have hC1 := CI_ms (σ := σ) hC
  obtain ⟨ow, hDo⟩ := hC1.1.1
  have s1 : cset (mset M σ) κ 2 = .inl (7, L, .inl xs) := (cset_o (by omega)).trans ((if_pos (by decide)).trans h2)
  refine Wp.n (pc' := 1544) 4 rfl ?_
  refine Wp.iaddN (x := i) (y := 1) (len := 1) rfl ?_
  refine Wp.ialdN (j := i + 1) (len := 1) rfl (s1) rfl (by omega) (by omega) ?_
  refine Wp.callV (len := 3) rfl rfl rfl ((cset_o (by omega)).trans hDo) rfl (by decide) rfl (C_keep hC1 hZ.1.1) ?_
  rintro _ _ ⟨rfl, M2, κ2, rfl, hC2, e2⟩
  rw [ms_ab e2]
  have s2 : mset (cset M2 κ2) σ 2 = .inl (7, L, .inl xs) := (if_pos (by decide)).trans ((cset_o (by omega)).trans ((e2 2 (by omega)).trans ((if_pos (by decide)).trans h2)))
  refine Wp.n (pc' := 1553) 4 rfl ?_
  refine Wp.iaddN (x := i) (y := 1) (len := 1) rfl ?_
  refine Wp.ialdN (j := i + 1) (len := 1) rfl (s2) rfl (by omega) (by omega) ?_
  refine Wp.callV (len := 3) rfl rfl rfl (rfl) rfl (by decide) rfl (D_keep hM hZ.1.1) ?_
  rintro _ _ ⟨rfl, σ2, rfl, hM2⟩
  refine Wp.ic0 (tgt := 1765) (len := 3) rfl (fun h1558 => ?_) (fun h1558 => ?_)
  · skip
    exact kk M2 κ2 σ2 _ hC2 hM2 (ZG_keep hZ) (fun q hq => (e2 q (Or.inl hq)).trans (if_pos (by omega)))
  · exact absurd rfl h1558
theorem L_back (hi : i + 6 ≤ L) (hL : L ≤ 3072) (h2 : M 2 = .inl (7, L, .inl xs)) (hC : CI M κ Z) (hM : MI σ Z) (hZ : ZG Z) (kk : LK M i Q) : Wp 60 md_263 1563 [some (.ref 2), some (.ref 32), some (.ref 287), some (.int (nI i))] [] (mset (cset M κ) σ) Q := by
  obtain ⟨K, I, S, T, f⟩ := Z
  rw [ms_cs]
  have hC1 := CI_ms (σ := σ) hC
  obtain ⟨ow, hDo⟩ := hC1.1.1
  have s1 : cset (mset M σ) κ 2 = .inl (7, L, .inl xs) := (cset_o (by omega)).trans ((if_pos (by decide)).trans h2)
  refine Wp.n (pc' := 1567) 4 rfl ?_
  refine Wp.iaddN (x := i) (y := 1) (len := 1) rfl ?_
  refine Wp.ialdN (j := i + 1) (len := 1) rfl (s1) rfl (by omega) (by omega) ?_
  refine Wp.callV (len := 3) rfl rfl rfl ((cset_o (by omega)).trans hDo) rfl (by decide) rfl (C_back hC1) ?_
  rintro _ _ ⟨rfl, M2, κ2, rfl, hC2, e2⟩
  rw [ms_ab e2]
  have s2 : mset (cset M2 κ2) σ 2 = .inl (7, L, .inl xs) := (if_pos (by decide)).trans ((cset_o (by omega)).trans ((e2 2 (by omega)).trans ((if_pos (by decide)).trans h2)))
  refine Wp.n (pc' := 1576) 4 rfl ?_
  refine Wp.iaddN (x := i) (y := 1) (len := 1) rfl ?_
  refine Wp.ialdN (j := i + 1) (len := 1) rfl (s2) rfl (by omega) (by omega) ?_
  refine Wp.callV (len := 3) rfl rfl rfl (rfl) rfl (by decide) rfl (D_back hM hZ.1.1) ?_
  rintro _ _ ⟨rfl, σ2, rfl, hM2⟩
  refine Wp.ic0 (tgt := 1765) (len := 3) rfl (fun h1581 => ?_) (fun h1581 => ?_)
  · skip
    exact kk M2 κ2 σ2 _ hC2 hM2 (⟨KG_back hZ, hZ.2⟩) (fun q hq => (e2 q (Or.inl hq)).trans (if_pos (by omega)))
  · exact absurd rfl h1581
theorem L_row (hi : i + 6 ≤ L) (hL : L ≤ 3072) (h2 : M 2 = .inl (7, L, .inl xs)) (hC : CI M κ Z) (hM : MI σ Z) (hZ : ZG Z) (kk : LK M i Q) : Wp 60 md_263 1586 [some (.ref 2), some (.ref 32), some (.ref 287), some (.int (nI i))] [] (mset (cset M κ) σ) Q := by
  obtain ⟨K, I, S, T, f⟩ := Z
  rw [ms_cs]
  have hC1 := CI_ms (σ := σ) hC
  obtain ⟨ow, hDo⟩ := hC1.1.1
  have s1 : cset (mset M σ) κ 2 = .inl (7, L, .inl xs) := (cset_o (by omega)).trans ((if_pos (by decide)).trans h2)
  refine Wp.n (pc' := 1590) 4 rfl ?_
  refine Wp.iaddN (x := i) (y := 1) (len := 1) rfl ?_
  refine Wp.ialdN (j := i + 1) (len := 1) rfl (s1) rfl (by omega) (by omega) ?_
  refine Wp.n (pc' := 1595) 3 rfl ?_
  refine Wp.iaddN (x := i) (y := 2) (len := 1) rfl ?_
  refine Wp.ialdN (j := i + 2) (len := 1) rfl (s1) rfl (by omega) (by omega) ?_
  refine Wp.n (pc' := 1600) 3 rfl ?_
  refine Wp.iaddN (x := i) (y := 3) (len := 1) rfl ?_
  refine Wp.ialdN (j := i + 3) (len := 1) rfl (s1) rfl (by omega) (by omega) ?_
  refine Wp.callV (len := 3) rfl rfl rfl ((cset_o (by omega)).trans hDo) rfl (by decide) rfl (C_row hC1) ?_
  rintro _ _ ⟨rfl, M2, κ2, rfl, hC2, e2⟩
  rw [ms_ab e2]
  have s2 : mset (cset M2 κ2) σ 2 = .inl (7, L, .inl xs) := (if_pos (by decide)).trans ((cset_o (by omega)).trans ((e2 2 (by omega)).trans ((if_pos (by decide)).trans h2)))
  refine Wp.n (pc' := 1609) 4 rfl ?_
  refine Wp.iaddN (x := i) (y := 1) (len := 1) rfl ?_
  refine Wp.ialdN (j := i + 1) (len := 1) rfl (s2) rfl (by omega) (by omega) ?_
  refine Wp.n (pc' := 1614) 3 rfl ?_
  refine Wp.iaddN (x := i) (y := 2) (len := 1) rfl ?_
  refine Wp.ialdN (j := i + 2) (len := 1) rfl (s2) rfl (by omega) (by omega) ?_
  refine Wp.n (pc' := 1619) 3 rfl ?_
  refine Wp.iaddN (x := i) (y := 3) (len := 1) rfl ?_
  refine Wp.ialdN (j := i + 3) (len := 1) rfl (s2) rfl (by omega) (by omega) ?_
  refine Wp.callV (len := 3) rfl rfl rfl (rfl) rfl (by decide) rfl (D_row hM) ?_
  rintro _ _ ⟨rfl, σ2, rfl, hM2⟩
  refine Wp.ic0 (tgt := 1765) (len := 3) rfl (fun h1624 => ?_) (fun h1624 => ?_)
  · skip
    exact kk M2 κ2 σ2 _ hC2 hM2 (⟨hZ.1, hZ.2⟩) (fun q hq => (e2 q (Or.inl hq)).trans (if_pos (by omega)))
  · exact absurd rfl h1624
theorem L_write (hi : i + 6 ≤ L) (hL : L ≤ 3072) (h2 : M 2 = .inl (7, L, .inl xs)) (hC : CI M κ Z) (hM : MI σ Z) (hZ : ZG Z) (kk : LK M i Q) : Wp 60 md_263 1629 [some (.ref 2), some (.ref 32), some (.ref 287), some (.int (nI i))] [] (mset (cset M κ) σ) Q := by
  obtain ⟨K, I, S, T, f⟩ := Z
  rw [ms_cs]
  have hC1 := CI_ms (σ := σ) hC
  obtain ⟨ow, hDo⟩ := hC1.1.1
  have s1 : cset (mset M σ) κ 2 = .inl (7, L, .inl xs) := (cset_o (by omega)).trans ((if_pos (by decide)).trans h2)
  refine Wp.n (pc' := 1633) 4 rfl ?_
  refine Wp.iaddN (x := i) (y := 1) (len := 1) rfl ?_
  refine Wp.ialdN (j := i + 1) (len := 1) rfl (s1) rfl (by omega) (by omega) ?_
  refine Wp.n (pc' := 1638) 3 rfl ?_
  refine Wp.iaddN (x := i) (y := 2) (len := 1) rfl ?_
  refine Wp.ialdN (j := i + 2) (len := 1) rfl (s1) rfl (by omega) (by omega) ?_
  refine Wp.n (pc' := 1643) 3 rfl ?_
  refine Wp.iaddN (x := i) (y := 3) (len := 1) rfl ?_
  refine Wp.ialdN (j := i + 3) (len := 1) rfl (s1) rfl (by omega) (by omega) ?_
  refine Wp.n (pc' := 1652) 6 rfl ?_
  refine Wp.iaddN (x := i) (y := 4) (len := 1) rfl ?_
  refine Wp.ialdN (j := i + 4) (len := 1) rfl (s1) rfl (by omega) (by omega) ?_
  refine Wp.n (pc' := 1660) 4 rfl ?_
  refine Wp.callV (len := 3) rfl rfl rfl ((cset_o (by omega)).trans hDo) rfl (by decide) rfl (C_write hC1) ?_
  rintro _ _ ⟨rfl, M2, κ2, rfl, hC2, e2⟩
  rw [ms_ab e2]
  have s2 : mset (cset M2 κ2) σ 2 = .inl (7, L, .inl xs) := (if_pos (by decide)).trans ((cset_o (by omega)).trans ((e2 2 (by omega)).trans ((if_pos (by decide)).trans h2)))
  refine Wp.n (pc' := 1667) 4 rfl ?_
  refine Wp.iaddN (x := i) (y := 1) (len := 1) rfl ?_
  refine Wp.ialdN (j := i + 1) (len := 1) rfl (s2) rfl (by omega) (by omega) ?_
  refine Wp.n (pc' := 1672) 3 rfl ?_
  refine Wp.iaddN (x := i) (y := 2) (len := 1) rfl ?_
  refine Wp.ialdN (j := i + 2) (len := 1) rfl (s2) rfl (by omega) (by omega) ?_
  refine Wp.n (pc' := 1677) 3 rfl ?_
  refine Wp.iaddN (x := i) (y := 3) (len := 1) rfl ?_
  refine Wp.ialdN (j := i + 3) (len := 1) rfl (s2) rfl (by omega) (by omega) ?_
  refine Wp.n (pc' := 1686) 6 rfl ?_
  refine Wp.iaddN (x := i) (y := 4) (len := 1) rfl ?_
  refine Wp.ialdN (j := i + 4) (len := 1) rfl (s2) rfl (by omega) (by omega) ?_
  refine Wp.n (pc' := 1694) 4 rfl ?_
  refine Wp.callV (len := 3) rfl rfl rfl (rfl) rfl (by decide) rfl (D_write hM) ?_
  rintro _ _ ⟨rfl, σ2, rfl, hM2⟩
  refine Wp.ic0 (tgt := 1765) (len := 3) rfl (fun h1697 => ?_) (fun h1697 => ?_)
  · skip
    exact kk M2 κ2 σ2 _ hC2 hM2 (⟨hZ.1, hZ.2⟩) (fun q hq => (e2 q (Or.inl hq)).trans (if_pos (by omega)))
  · exact absurd rfl h1697
theorem L_paste (hi : i + 6 ≤ L) (hL : L ≤ 3072) (h2 : M 2 = .inl (7, L, .inl xs)) (hC : CI M κ Z) (hM : MI σ Z) (hZ : ZG Z) (kk : LK M i Q) : Wp 60 md_263 1702 [some (.ref 2), some (.ref 32), some (.ref 287), some (.int (nI i))] [] (mset (cset M κ) σ) Q := by
  obtain ⟨K, I, S, T, f⟩ := Z
  rw [ms_cs]
  have hC1 := CI_ms (σ := σ) hC
  obtain ⟨ow, hDo⟩ := hC1.1.1
  have s1 : cset (mset M σ) κ 2 = .inl (7, L, .inl xs) := (cset_o (by omega)).trans ((if_pos (by decide)).trans h2)
  refine Wp.n (pc' := 1706) 4 rfl ?_
  refine Wp.iaddN (x := i) (y := 1) (len := 1) rfl ?_
  refine Wp.ialdN (j := i + 1) (len := 1) rfl (s1) rfl (by omega) (by omega) ?_
  refine Wp.n (pc' := 1711) 3 rfl ?_
  refine Wp.iaddN (x := i) (y := 2) (len := 1) rfl ?_
  refine Wp.ialdN (j := i + 2) (len := 1) rfl (s1) rfl (by omega) (by omega) ?_
  refine Wp.n (pc' := 1716) 3 rfl ?_
  refine Wp.iaddN (x := i) (y := 3) (len := 1) rfl ?_
  refine Wp.ialdN (j := i + 3) (len := 1) rfl (s1) rfl (by omega) (by omega) ?_
  refine Wp.n (pc' := 1721) 3 rfl ?_
  refine Wp.iaddN (x := i) (y := 4) (len := 1) rfl ?_
  refine Wp.ialdN (j := i + 4) (len := 1) rfl (s1) rfl (by omega) (by omega) ?_
  refine Wp.n (pc' := 1726) 3 rfl ?_
  refine Wp.iaddN (x := i) (y := 5) (len := 1) rfl ?_
  refine Wp.ialdN (j := i + 5) (len := 1) rfl (s1) rfl (by omega) (by omega) ?_
  refine Wp.callV (len := 3) rfl rfl rfl ((cset_o (by omega)).trans hDo) rfl (by decide) rfl (C_paste hC1) ?_
  rintro _ _ ⟨rfl, M2, κ2, rfl, hC2, e2⟩
  rw [ms_ab e2]
  have s2 : mset (cset M2 κ2) σ 2 = .inl (7, L, .inl xs) := (if_pos (by decide)).trans ((cset_o (by omega)).trans ((e2 2 (by omega)).trans ((if_pos (by decide)).trans h2)))
  refine Wp.n (pc' := 1735) 4 rfl ?_
  refine Wp.iaddN (x := i) (y := 1) (len := 1) rfl ?_
  refine Wp.ialdN (j := i + 1) (len := 1) rfl (s2) rfl (by omega) (by omega) ?_
  refine Wp.n (pc' := 1740) 3 rfl ?_
  refine Wp.iaddN (x := i) (y := 2) (len := 1) rfl ?_
  refine Wp.ialdN (j := i + 2) (len := 1) rfl (s2) rfl (by omega) (by omega) ?_
  refine Wp.n (pc' := 1745) 3 rfl ?_
  refine Wp.iaddN (x := i) (y := 3) (len := 1) rfl ?_
  refine Wp.ialdN (j := i + 3) (len := 1) rfl (s2) rfl (by omega) (by omega) ?_
  refine Wp.n (pc' := 1750) 3 rfl ?_
  refine Wp.iaddN (x := i) (y := 4) (len := 1) rfl ?_
  refine Wp.ialdN (j := i + 4) (len := 1) rfl (s2) rfl (by omega) (by omega) ?_
  refine Wp.n (pc' := 1755) 3 rfl ?_
  refine Wp.iaddN (x := i) (y := 5) (len := 1) rfl ?_
  refine Wp.ialdN (j := i + 5) (len := 1) rfl (s2) rfl (by omega) (by omega) ?_
  refine Wp.callV (len := 3) rfl rfl rfl (rfl) rfl (by decide) rfl (D_paste hM) ?_
  rintro _ _ ⟨rfl, σ2, rfl, hM2⟩
  refine Wp.ic0 (tgt := 1765) (len := 3) rfl (fun h1760 => ?_) (fun h1760 => ?_)
  · skip
    exact kk M2 κ2 σ2 _ hC2 hM2 (⟨hZ.1, hZ.2⟩) (fun q hq => (e2 q (Or.inl hq)).trans (if_pos (by omega)))
  · exact absurd rfl h1760
end LCC
