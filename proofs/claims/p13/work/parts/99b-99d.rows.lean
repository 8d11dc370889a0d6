section
/-- the law goes on -/
def LK (M : AM) (i : Nat) (Q : Option Value → AM → Prop) : Prop := ∀ (M' : AM) (κ' : CS) (σ' : MS) (Z' : Zt), CI M' κ' Z' → MI σ' Z' → ZG Z' → (∀ q, q < 32 → M' q = M q) → Wp 60 md_263 1763 [some (.ref 2), some (.ref 32), some (.ref 287), some (.int (nI i))] [] (mset (cset M' κ') σ') Q
/-! THE LAW: its cases, a. -/
section LCA
variable {L i : Nat} {xs : Nat → Int32} {M : AM} {κ : CS} {σ : MS} {Z : Zt} {Q : Option Value → AM → Prop}
theorem L_feed (hi : i + 6 ≤ L) (hL : L ≤ 3072) (h2 : M 2 = .inl (7, L, .inl xs)) (hC : CI M κ Z) (hM : MI σ Z) (hZ : ZG Z) (kk : LK M i Q) : Wp 60 md_263 228 [some (.ref 2), some (.ref 32), some (.ref 287), some (.int (nI i))] [] (mset (cset M κ) σ) Q := by
  obtain ⟨K, I, S, T, f⟩ := Z
  rw [ms_cs]
  have hC1 := CI_ms (σ := σ) hC
  obtain ⟨ow, hDo⟩ := hC1.1.1
  have s1 : cset (mset M σ) κ 2 = .inl (7, L, .inl xs) := (cset_o (by omega)).trans ((if_pos (by decide)).trans h2)
  refine Wp.n (pc' := 232) 4 rfl ?_
  refine Wp.iaddN (x := i) (y := 1) (len := 1) rfl ?_
  refine Wp.ialdN (j := i + 1) (len := 1) rfl (s1) rfl (by omega) (by omega) ?_
  refine Wp.n (pc' := 237) 3 rfl ?_
  refine Wp.iaddN (x := i) (y := 2) (len := 1) rfl ?_
  refine Wp.ialdN (j := i + 2) (len := 1) rfl (s1) rfl (by omega) (by omega) ?_
  refine Wp.n (pc' := 242) 3 rfl ?_
  refine Wp.iaddN (x := i) (y := 3) (len := 1) rfl ?_
  refine Wp.ialdN (j := i + 3) (len := 1) rfl (s1) rfl (by omega) (by omega) ?_
  refine Wp.n (pc' := 247) 3 rfl ?_
  refine Wp.iaddN (x := i) (y := 4) (len := 1) rfl ?_
  refine Wp.ialdN (j := i + 4) (len := 1) rfl (s1) rfl (by omega) (by omega) ?_
  refine Wp.n (pc' := 252) 3 rfl ?_
  refine Wp.iaddN (x := i) (y := 5) (len := 1) rfl ?_
  refine Wp.ialdN (j := i + 5) (len := 1) rfl (s1) rfl (by omega) (by omega) ?_
  refine Wp.callV (len := 3) rfl rfl rfl ((cset_o (by omega)).trans hDo) rfl (by decide) rfl (C_feed hC1) ?_
  rintro _ _ ⟨rfl, M2, κ2, rfl, hC2, e2⟩
  rw [ms_ab e2]
  have s2 : mset (cset M2 κ2) σ 2 = .inl (7, L, .inl xs) := (if_pos (by decide)).trans ((cset_o (by omega)).trans ((e2 2 (by omega)).trans ((if_pos (by decide)).trans h2)))
  refine Wp.n (pc' := 262) 5 rfl ?_
  refine Wp.iaddN (x := i) (y := 1) (len := 1) rfl ?_
  refine Wp.ialdN (j := i + 1) (len := 1) rfl (s2) rfl (by omega) (by omega) ?_
  refine Wp.n (pc' := 267) 3 rfl ?_
  refine Wp.iaddN (x := i) (y := 2) (len := 1) rfl ?_
  refine Wp.ialdN (j := i + 2) (len := 1) rfl (s2) rfl (by omega) (by omega) ?_
  refine Wp.n (pc' := 272) 3 rfl ?_
  refine Wp.iaddN (x := i) (y := 3) (len := 1) rfl ?_
  refine Wp.ialdN (j := i + 3) (len := 1) rfl (s2) rfl (by omega) (by omega) ?_
  refine Wp.n (pc' := 277) 3 rfl ?_
  refine Wp.iaddN (x := i) (y := 4) (len := 1) rfl ?_
  refine Wp.ialdN (j := i + 4) (len := 1) rfl (s2) rfl (by omega) (by omega) ?_
  refine Wp.n (pc' := 282) 3 rfl ?_
  refine Wp.iaddN (x := i) (y := 5) (len := 1) rfl ?_
  refine Wp.ialdN (j := i + 5) (len := 1) rfl (s2) rfl (by omega) (by omega) ?_
  refine Wp.callV (len := 3) rfl rfl rfl (rfl) rfl (by decide) rfl (D_feed hM) ?_
  rintro _ _ ⟨rfl, σ2, rfl, hM2⟩
  refine Wp.n (pc' := 1763) 2 rfl ?_
  exact kk M2 κ2 σ2 _ hC2 hM2 (⟨hZ.1, hZ.2⟩) (fun q hq => (e2 q (Or.inl hq)).trans (if_pos (by omega)))
theorem L_end (hi : i + 6 ≤ L) (hL : L ≤ 3072) (h2 : M 2 = .inl (7, L, .inl xs)) (hC : CI M κ Z) (hM : MI σ Z) (hZ : ZG Z) (kk : LK M i Q) : Wp 60 md_263 291 [some (.ref 2), some (.ref 32), some (.ref 287), some (.int (nI i))] [] (mset (cset M κ) σ) Q := by
  obtain ⟨K, I, S, T, f⟩ := Z
  rw [ms_cs]
  have hC1 := CI_ms (σ := σ) hC
  obtain ⟨ow, hDo⟩ := hC1.1.1
  have s1 : cset (mset M σ) κ 2 = .inl (7, L, .inl xs) := (cset_o (by omega)).trans ((if_pos (by decide)).trans h2)
  refine Wp.n (pc' := 295) 4 rfl ?_
  refine Wp.iaddN (x := i) (y := 1) (len := 1) rfl ?_
  refine Wp.ialdN (j := i + 1) (len := 1) rfl (s1) rfl (by omega) (by omega) ?_
  refine Wp.callV (len := 3) rfl rfl rfl ((cset_o (by omega)).trans hDo) rfl (by decide) rfl (C_end hC1) ?_
  rintro _ _ ⟨rfl, M2, κ2, rfl, hC2, e2⟩
  rw [ms_ab e2]
  have s2 : mset (cset M2 κ2) σ 2 = .inl (7, L, .inl xs) := (if_pos (by decide)).trans ((cset_o (by omega)).trans ((e2 2 (by omega)).trans ((if_pos (by decide)).trans h2)))
  refine Wp.n (pc' := 305) 5 rfl ?_
  refine Wp.iaddN (x := i) (y := 1) (len := 1) rfl ?_
  refine Wp.ialdN (j := i + 1) (len := 1) rfl (s2) rfl (by omega) (by omega) ?_
  refine Wp.callV (len := 3) rfl rfl rfl (rfl) rfl (by decide) rfl (D_end hM) ?_
  rintro _ _ ⟨rfl, σ2, rfl, hM2⟩
  refine Wp.n (pc' := 1763) 2 rfl ?_
  exact kk M2 κ2 σ2 _ hC2 hM2 (⟨hZ.1, hZ.2⟩) (fun q hq => (e2 q (Or.inl hq)).trans (if_pos (by omega)))
theorem L_kingdom (hi : i + 6 ≤ L) (hL : L ≤ 3072) (h2 : M 2 = .inl (7, L, .inl xs)) (hC : CI M κ Z) (hM : MI σ Z) (hZ : ZG Z) (kk : LK M i Q) : Wp 60 md_263 314 [some (.ref 2), some (.ref 32), some (.ref 287), some (.int (nI i))] [] (mset (cset M κ) σ) Q := by
  obtain ⟨K, I, S, T, f⟩ := Z
  rw [ms_cs]
  have hC1 := CI_ms (σ := σ) hC
  obtain ⟨ow, hDo⟩ := hC1.1.1
  have s1 : cset (mset M σ) κ 2 = .inl (7, L, .inl xs) := (cset_o (by omega)).trans ((if_pos (by decide)).trans h2)
  refine Wp.n (pc' := 315) 1 rfl ?_
  refine Wp.callV (len := 3) rfl rfl rfl ((cset_o (by omega)).trans hDo) rfl (by decide) rfl (C_kingdom hC1) ?_
  rintro _ _ ⟨rfl, M2, κ2, rfl, hC2, e2⟩
  rw [ms_ab e2]
  have s2 : mset (cset M2 κ2) σ 2 = .inl (7, L, .inl xs) := (if_pos (by decide)).trans ((cset_o (by omega)).trans ((e2 2 (by omega)).trans ((if_pos (by decide)).trans h2)))
  refine Wp.n (pc' := 320) 2 rfl ?_
  refine Wp.callV (len := 3) rfl rfl rfl (rfl) rfl (by decide) rfl (D_kingdom hM hZ.1.1) ?_
  rintro _ _ ⟨rfl, σ2, rfl, hM2⟩
  refine Wp.n (pc' := 1763) 2 rfl ?_
  exact kk M2 κ2 σ2 _ hC2 hM2 (⟨KG_kin hM.2.2.2.1.2.1 hZ.1, hZ.2⟩) (fun q hq => (e2 q (Or.inl hq)).trans (if_pos (by omega)))
theorem L_fault (hi : i + 6 ≤ L) (hL : L ≤ 3072) (h2 : M 2 = .inl (7, L, .inl xs)) (hC : CI M κ Z) (hM : MI σ Z) (hZ : ZG Z) (kk : LK M i Q) : Wp 60 md_263 327 [some (.ref 2), some (.ref 32), some (.ref 287), some (.int (nI i))] [] (mset (cset M κ) σ) Q := by
  obtain ⟨K, I, S, T, f⟩ := Z
  rw [ms_cs]
  have hC1 := CI_ms (σ := σ) hC
  obtain ⟨ow, hDo⟩ := hC1.1.1
  have s1 : cset (mset M σ) κ 2 = .inl (7, L, .inl xs) := (cset_o (by omega)).trans ((if_pos (by decide)).trans h2)
  refine Wp.n (pc' := 331) 4 rfl ?_
  refine Wp.iaddN (x := i) (y := 1) (len := 1) rfl ?_
  refine Wp.ialdN (j := i + 1) (len := 1) rfl (s1) rfl (by omega) (by omega) ?_
  refine Wp.callV (len := 3) rfl rfl rfl ((cset_o (by omega)).trans hDo) rfl (by decide) rfl (CR_e hC1 (k_fault hC1.1 hC1.2.2.2.2.2.2.2.2 _)) ?_
  rintro _ _ ⟨rfl, M2, κ2, rfl, hC2, e2⟩
  rw [ms_ab e2]
  have s2 : mset (cset M2 κ2) σ 2 = .inl (7, L, .inl xs) := (if_pos (by decide)).trans ((cset_o (by omega)).trans ((e2 2 (by omega)).trans ((if_pos (by decide)).trans h2)))
  refine Wp.n (pc' := 341) 5 rfl ?_
  refine Wp.iaddN (x := i) (y := 1) (len := 1) rfl ?_
  refine Wp.ialdN (j := i + 1) (len := 1) rfl (s2) rfl (by omega) (by omega) ?_
  refine Wp.callV (len := 3) rfl rfl rfl (rfl) rfl (by decide) rfl (MQ_e hM (m_fault hM.1.2.2.2 hM.2.2.2.2 _)) ?_
  rintro _ _ ⟨rfl, σ2, rfl, hM2⟩
  refine Wp.n (pc' := 1763) 2 rfl ?_
  exact kk M2 κ2 σ2 _ hC2 hM2 (hZ) (fun q hq => (e2 q (Or.inl hq)).trans (if_pos (by omega)))
theorem L_road (hi : i + 6 ≤ L) (hL : L ≤ 3072) (h2 : M 2 = .inl (7, L, .inl xs)) (hC : CI M κ Z) (hM : MI σ Z) (hZ : ZG Z) (kk : LK M i Q) : Wp 60 md_263 350 [some (.ref 2), some (.ref 32), some (.ref 287), some (.int (nI i))] [] (mset (cset M κ) σ) Q := by
  obtain ⟨K, I, S, T, f⟩ := Z
  rw [ms_cs]
  have hC1 := CI_ms (σ := σ) hC
  obtain ⟨ow, hDo⟩ := hC1.1.1
  have s1 : cset (mset M σ) κ 2 = .inl (7, L, .inl xs) := (cset_o (by omega)).trans ((if_pos (by decide)).trans h2)
  refine Wp.n (pc' := 354) 4 rfl ?_
  refine Wp.iaddN (x := i) (y := 1) (len := 1) rfl ?_
  refine Wp.ialdN (j := i + 1) (len := 1) rfl (s1) rfl (by omega) (by omega) ?_
  refine Wp.n (pc' := 359) 3 rfl ?_
  refine Wp.iaddN (x := i) (y := 2) (len := 1) rfl ?_
  refine Wp.ialdN (j := i + 2) (len := 1) rfl (s1) rfl (by omega) (by omega) ?_
  refine Wp.callV (len := 3) rfl rfl rfl ((cset_o (by omega)).trans hDo) rfl (by decide) rfl (Wp.mono (k_road hC1.1 hC1.2.2.2.1 _ _) (fun v M' r => CR_s hC1 r)) ?_
  rintro _ _ ⟨rfl, M2, κ2, rfl, hC2, e2⟩
  rw [ms_ab e2]
  have s2 : mset (cset M2 κ2) σ 2 = .inl (7, L, .inl xs) := (if_pos (by decide)).trans ((cset_o (by omega)).trans ((e2 2 (by omega)).trans ((if_pos (by decide)).trans h2)))
  refine Wp.n (pc' := 369) 5 rfl ?_
  refine Wp.iaddN (x := i) (y := 1) (len := 1) rfl ?_
  refine Wp.ialdN (j := i + 1) (len := 1) rfl (s2) rfl (by omega) (by omega) ?_
  refine Wp.n (pc' := 374) 3 rfl ?_
  refine Wp.iaddN (x := i) (y := 2) (len := 1) rfl ?_
  refine Wp.ialdN (j := i + 2) (len := 1) rfl (s2) rfl (by omega) (by omega) ?_
  refine Wp.callV (len := 3) rfl rfl rfl (rfl) rfl (by decide) rfl (Wp.mono (m_road hM.1 _ _) (fun v M' r => MQ_s hM r)) ?_
  rintro _ _ ⟨rfl, σ2, rfl, hM2⟩
  refine Wp.n (pc' := 1763) 2 rfl ?_
  exact kk M2 κ2 σ2 _ hC2 hM2 (hZ) (fun q hq => (e2 q (Or.inl hq)).trans (if_pos (by omega)))
theorem L_way (hi : i + 6 ≤ L) (hL : L ≤ 3072) (h2 : M 2 = .inl (7, L, .inl xs)) (hC : CI M κ Z) (hM : MI σ Z) (hZ : ZG Z) (kk : LK M i Q) : Wp 60 md_263 383 [some (.ref 2), some (.ref 32), some (.ref 287), some (.int (nI i))] [] (mset (cset M κ) σ) Q := by
  obtain ⟨K, I, S, T, f⟩ := Z
  rw [ms_cs]
  have hC1 := CI_ms (σ := σ) hC
  obtain ⟨ow, hDo⟩ := hC1.1.1
  have s1 : cset (mset M σ) κ 2 = .inl (7, L, .inl xs) := (cset_o (by omega)).trans ((if_pos (by decide)).trans h2)
  refine Wp.n (pc' := 387) 4 rfl ?_
  refine Wp.iaddN (x := i) (y := 1) (len := 1) rfl ?_
  refine Wp.ialdN (j := i + 1) (len := 1) rfl (s1) rfl (by omega) (by omega) ?_
  refine Wp.n (pc' := 392) 3 rfl ?_
  refine Wp.iaddN (x := i) (y := 2) (len := 1) rfl ?_
  refine Wp.ialdN (j := i + 2) (len := 1) rfl (s1) rfl (by omega) (by omega) ?_
  refine Wp.n (pc' := 397) 3 rfl ?_
  refine Wp.iaddN (x := i) (y := 3) (len := 1) rfl ?_
  refine Wp.ialdN (j := i + 3) (len := 1) rfl (s1) rfl (by omega) (by omega) ?_
  refine Wp.callV (len := 3) rfl rfl rfl ((cset_o (by omega)).trans hDo) rfl (by decide) rfl (Wp.mono (k_way hC1.1 hC1.2.2.2.1 _ _ _) (fun v M' r => CR_s hC1 r)) ?_
  rintro _ _ ⟨rfl, M2, κ2, rfl, hC2, e2⟩
  rw [ms_ab e2]
  have s2 : mset (cset M2 κ2) σ 2 = .inl (7, L, .inl xs) := (if_pos (by decide)).trans ((cset_o (by omega)).trans ((e2 2 (by omega)).trans ((if_pos (by decide)).trans h2)))
  refine Wp.n (pc' := 407) 5 rfl ?_
  refine Wp.iaddN (x := i) (y := 1) (len := 1) rfl ?_
  refine Wp.ialdN (j := i + 1) (len := 1) rfl (s2) rfl (by omega) (by omega) ?_
  refine Wp.n (pc' := 412) 3 rfl ?_
  refine Wp.iaddN (x := i) (y := 2) (len := 1) rfl ?_
  refine Wp.ialdN (j := i + 2) (len := 1) rfl (s2) rfl (by omega) (by omega) ?_
  refine Wp.n (pc' := 417) 3 rfl ?_
  refine Wp.iaddN (x := i) (y := 3) (len := 1) rfl ?_
  refine Wp.ialdN (j := i + 3) (len := 1) rfl (s2) rfl (by omega) (by omega) ?_
  refine Wp.callV (len := 3) rfl rfl rfl (rfl) rfl (by decide) rfl (Wp.mono (m_wayQ hM.1 _ _ _) (fun v M' r => MQ_s hM r)) ?_
  rintro _ _ ⟨rfl, σ2, rfl, hM2⟩
  refine Wp.n (pc' := 1763) 2 rfl ?_
  exact kk M2 κ2 σ2 _ hC2 hM2 (hZ) (fun q hq => (e2 q (Or.inl hq)).trans (if_pos (by omega)))
theorem L_open (hi : i + 6 ≤ L) (hL : L ≤ 3072) (h2 : M 2 = .inl (7, L, .inl xs)) (hC : CI M κ Z) (hM : MI σ Z) (hZ : ZG Z) (kk : LK M i Q) : Wp 60 md_263 426 [some (.ref 2), some (.ref 32), some (.ref 287), some (.int (nI i))] [] (mset (cset M κ) σ) Q := by
  obtain ⟨K, I, S, T, f⟩ := Z
  rw [ms_cs]
  have hC1 := CI_ms (σ := σ) hC
  obtain ⟨ow, hDo⟩ := hC1.1.1
  have s1 : cset (mset M σ) κ 2 = .inl (7, L, .inl xs) := (cset_o (by omega)).trans ((if_pos (by decide)).trans h2)
  refine Wp.n (pc' := 430) 4 rfl ?_
  refine Wp.iaddN (x := i) (y := 1) (len := 1) rfl ?_
  refine Wp.ialdN (j := i + 1) (len := 1) rfl (s1) rfl (by omega) (by omega) ?_
  refine Wp.n (pc' := 435) 3 rfl ?_
  refine Wp.iaddN (x := i) (y := 2) (len := 1) rfl ?_
  refine Wp.ialdN (j := i + 2) (len := 1) rfl (s1) rfl (by omega) (by omega) ?_
  refine Wp.callV (len := 3) rfl rfl rfl ((cset_o (by omega)).trans hDo) rfl (by decide) rfl (Wp.mono (k_open hC1.1 hC1.2.2.2.1 hZ.1.1 _ _) (fun v M' r => CR_s hC1 r)) ?_
  rintro _ _ ⟨rfl, M2, κ2, rfl, hC2, e2⟩
  rw [ms_ab e2]
  have s2 : mset (cset M2 κ2) σ 2 = .inl (7, L, .inl xs) := (if_pos (by decide)).trans ((cset_o (by omega)).trans ((e2 2 (by omega)).trans ((if_pos (by decide)).trans h2)))
  refine Wp.n (pc' := 445) 5 rfl ?_
  refine Wp.iaddN (x := i) (y := 1) (len := 1) rfl ?_
  refine Wp.ialdN (j := i + 1) (len := 1) rfl (s2) rfl (by omega) (by omega) ?_
  refine Wp.n (pc' := 450) 3 rfl ?_
  refine Wp.iaddN (x := i) (y := 2) (len := 1) rfl ?_
  refine Wp.ialdN (j := i + 2) (len := 1) rfl (s2) rfl (by omega) (by omega) ?_
  refine Wp.callV (len := 3) rfl rfl rfl (rfl) rfl (by decide) rfl (Wp.mono (m_open hM.1 _ _) (fun v M' r => MQ_s hM r)) ?_
  rintro _ _ ⟨rfl, σ2, rfl, hM2⟩
  refine Wp.n (pc' := 1763) 2 rfl ?_
  exact kk M2 κ2 σ2 _ hC2 hM2 (hZ) (fun q hq => (e2 q (Or.inl hq)).trans (if_pos (by omega)))
theorem L_joins (hi : i + 6 ≤ L) (hL : L ≤ 3072) (h2 : M 2 = .inl (7, L, .inl xs)) (hC : CI M κ Z) (hM : MI σ Z) (hZ : ZG Z) (kk : LK M i Q) : Wp 60 md_263 459 [some (.ref 2), some (.ref 32), some (.ref 287), some (.int (nI i))] [] (mset (cset M κ) σ) Q := by
  obtain ⟨K, I, S, T, f⟩ := Z
  rw [ms_cs]
  have hC1 := CI_ms (σ := σ) hC
  obtain ⟨ow, hDo⟩ := hC1.1.1
  have s1 : cset (mset M σ) κ 2 = .inl (7, L, .inl xs) := (cset_o (by omega)).trans ((if_pos (by decide)).trans h2)
  refine Wp.n (pc' := 463) 4 rfl ?_
  refine Wp.iaddN (x := i) (y := 1) (len := 1) rfl ?_
  refine Wp.ialdN (j := i + 1) (len := 1) rfl (s1) rfl (by omega) (by omega) ?_
  refine Wp.n (pc' := 468) 3 rfl ?_
  refine Wp.iaddN (x := i) (y := 2) (len := 1) rfl ?_
  refine Wp.ialdN (j := i + 2) (len := 1) rfl (s1) rfl (by omega) (by omega) ?_
  refine Wp.n (pc' := 473) 3 rfl ?_
  refine Wp.iaddN (x := i) (y := 3) (len := 1) rfl ?_
  refine Wp.ialdN (j := i + 3) (len := 1) rfl (s1) rfl (by omega) (by omega) ?_
  refine Wp.callV (len := 3) rfl rfl rfl ((cset_o (by omega)).trans hDo) rfl (by decide) rfl (Wp.mono (k_joins hC1.1 hC1.2.2.2.1 hZ.1.1 _ _ _) (fun v M' r => CR_s hC1 r)) ?_
  rintro _ _ ⟨rfl, M2, κ2, rfl, hC2, e2⟩
  rw [ms_ab e2]
  have s2 : mset (cset M2 κ2) σ 2 = .inl (7, L, .inl xs) := (if_pos (by decide)).trans ((cset_o (by omega)).trans ((e2 2 (by omega)).trans ((if_pos (by decide)).trans h2)))
  refine Wp.n (pc' := 483) 5 rfl ?_
  refine Wp.iaddN (x := i) (y := 1) (len := 1) rfl ?_
  refine Wp.ialdN (j := i + 1) (len := 1) rfl (s2) rfl (by omega) (by omega) ?_
  refine Wp.n (pc' := 488) 3 rfl ?_
  refine Wp.iaddN (x := i) (y := 2) (len := 1) rfl ?_
  refine Wp.ialdN (j := i + 2) (len := 1) rfl (s2) rfl (by omega) (by omega) ?_
  refine Wp.n (pc' := 493) 3 rfl ?_
  refine Wp.iaddN (x := i) (y := 3) (len := 1) rfl ?_
  refine Wp.ialdN (j := i + 3) (len := 1) rfl (s2) rfl (by omega) (by omega) ?_
  refine Wp.callV (len := 3) rfl rfl rfl (rfl) rfl (by decide) rfl (Wp.mono (m_joins hM.1 _ _ _) (fun v M' r => MQ_s hM r)) ?_
  rintro _ _ ⟨rfl, σ2, rfl, hM2⟩
  refine Wp.n (pc' := 1763) 2 rfl ?_
  exact kk M2 κ2 σ2 _ hC2 hM2 (hZ) (fun q hq => (e2 q (Or.inl hq)).trans (if_pos (by omega)))
theorem L_walk (hi : i + 6 ≤ L) (hL : L ≤ 3072) (h2 : M 2 = .inl (7, L, .inl xs)) (hC : CI M κ Z) (hM : MI σ Z) (hZ : ZG Z) (kk : LK M i Q) : Wp 60 md_263 502 [some (.ref 2), some (.ref 32), some (.ref 287), some (.int (nI i))] [] (mset (cset M κ) σ) Q := by
  obtain ⟨K, I, S, T, f⟩ := Z
  rw [ms_cs]
  have hC1 := CI_ms (σ := σ) hC
  obtain ⟨ow, hDo⟩ := hC1.1.1
  have s1 : cset (mset M σ) κ 2 = .inl (7, L, .inl xs) := (cset_o (by omega)).trans ((if_pos (by decide)).trans h2)
  refine Wp.n (pc' := 506) 4 rfl ?_
  refine Wp.iaddN (x := i) (y := 1) (len := 1) rfl ?_
  refine Wp.ialdN (j := i + 1) (len := 1) rfl (s1) rfl (by omega) (by omega) ?_
  refine Wp.n (pc' := 511) 3 rfl ?_
  refine Wp.iaddN (x := i) (y := 2) (len := 1) rfl ?_
  refine Wp.ialdN (j := i + 2) (len := 1) rfl (s1) rfl (by omega) (by omega) ?_
  refine Wp.callV (len := 3) rfl rfl rfl ((cset_o (by omega)).trans hDo) rfl (by decide) rfl (Wp.mono (k_walk hC1.1 hC1.2.2.2.1 _ _) (fun v M' r => CR_s hC1 r)) ?_
  rintro _ _ ⟨rfl, M2, κ2, rfl, hC2, e2⟩
  rw [ms_ab e2]
  have s2 : mset (cset M2 κ2) σ 2 = .inl (7, L, .inl xs) := (if_pos (by decide)).trans ((cset_o (by omega)).trans ((e2 2 (by omega)).trans ((if_pos (by decide)).trans h2)))
  refine Wp.n (pc' := 521) 5 rfl ?_
  refine Wp.iaddN (x := i) (y := 1) (len := 1) rfl ?_
  refine Wp.ialdN (j := i + 1) (len := 1) rfl (s2) rfl (by omega) (by omega) ?_
  refine Wp.n (pc' := 526) 3 rfl ?_
  refine Wp.iaddN (x := i) (y := 2) (len := 1) rfl ?_
  refine Wp.ialdN (j := i + 2) (len := 1) rfl (s2) rfl (by omega) (by omega) ?_
  refine Wp.callV (len := 3) rfl rfl rfl (rfl) rfl (by decide) rfl (Wp.mono (m_walk hM.1 _ _) (fun v M' r => MQ_s hM r)) ?_
  rintro _ _ ⟨rfl, σ2, rfl, hM2⟩
  refine Wp.n (pc' := 1763) 2 rfl ?_
  exact kk M2 κ2 σ2 _ hC2 hM2 (hZ) (fun q hq => (e2 q (Or.inl hq)).trans (if_pos (by omega)))
theorem L_unlawful (hi : i + 6 ≤ L) (hL : L ≤ 3072) (h2 : M 2 = .inl (7, L, .inl xs)) (hC : CI M κ Z) (hM : MI σ Z) (hZ : ZG Z) (kk : LK M i Q) : Wp 60 md_263 535 [some (.ref 2), some (.ref 32), some (.ref 287), some (.int (nI i))] [] (mset (cset M κ) σ) Q := by
  obtain ⟨K, I, S, T, f⟩ := Z
  rw [ms_cs]
  have hC1 := CI_ms (σ := σ) hC
  obtain ⟨ow, hDo⟩ := hC1.1.1
  have s1 : cset (mset M σ) κ 2 = .inl (7, L, .inl xs) := (cset_o (by omega)).trans ((if_pos (by decide)).trans h2)
  refine Wp.n (pc' := 536) 1 rfl ?_
  refine Wp.callV (len := 3) rfl rfl rfl ((cset_o (by omega)).trans hDo) rfl (by decide) rfl (Wp.mono (k_unlawful hC1.1 hC1.2.2.2.1) (fun v M' r => CR_s hC1 r)) ?_
  rintro _ _ ⟨rfl, M2, κ2, rfl, hC2, e2⟩
  rw [ms_ab e2]
  have s2 : mset (cset M2 κ2) σ 2 = .inl (7, L, .inl xs) := (if_pos (by decide)).trans ((cset_o (by omega)).trans ((e2 2 (by omega)).trans ((if_pos (by decide)).trans h2)))
  refine Wp.n (pc' := 541) 2 rfl ?_
  refine Wp.callV (len := 3) rfl rfl rfl (rfl) rfl (by decide) rfl (Wp.mono (m_unlawful hM.1) (fun v M' r => MQ_s hM r)) ?_
  rintro _ _ ⟨rfl, σ2, rfl, hM2⟩
  refine Wp.n (pc' := 1763) 2 rfl ?_
  exact kk M2 κ2 σ2 _ hC2 hM2 (hZ) (fun q hq => (e2 q (Or.inl hq)).trans (if_pos (by omega)))
theorem L_steps (hi : i + 6 ≤ L) (hL : L ≤ 3072) (h2 : M 2 = .inl (7, L, .inl xs)) (hC : CI M κ Z) (hM : MI σ Z) (hZ : ZG Z) (kk : LK M i Q) : Wp 60 md_263 548 [some (.ref 2), some (.ref 32), some (.ref 287), some (.int (nI i))] [] (mset (cset M κ) σ) Q := by
  obtain ⟨K, I, S, T, f⟩ := Z
  rw [ms_cs]
  have hC1 := CI_ms (σ := σ) hC
  obtain ⟨ow, hDo⟩ := hC1.1.1
  have s1 : cset (mset M σ) κ 2 = .inl (7, L, .inl xs) := (cset_o (by omega)).trans ((if_pos (by decide)).trans h2)
  refine Wp.n (pc' := 552) 4 rfl ?_
  refine Wp.iaddN (x := i) (y := 1) (len := 1) rfl ?_
  refine Wp.ialdN (j := i + 1) (len := 1) rfl (s1) rfl (by omega) (by omega) ?_
  refine Wp.callV (len := 3) rfl rfl rfl ((cset_o (by omega)).trans hDo) rfl (by decide) rfl (Wp.mono (k_steps hC1.1 hC1.2.2.2.1 _) (fun v M' r => CR_s hC1 r)) ?_
  rintro _ _ ⟨rfl, M2, κ2, rfl, hC2, e2⟩
  rw [ms_ab e2]
  have s2 : mset (cset M2 κ2) σ 2 = .inl (7, L, .inl xs) := (if_pos (by decide)).trans ((cset_o (by omega)).trans ((e2 2 (by omega)).trans ((if_pos (by decide)).trans h2)))
  refine Wp.n (pc' := 562) 5 rfl ?_
  refine Wp.iaddN (x := i) (y := 1) (len := 1) rfl ?_
  refine Wp.ialdN (j := i + 1) (len := 1) rfl (s2) rfl (by omega) (by omega) ?_
  refine Wp.callV (len := 3) rfl rfl rfl (rfl) rfl (by decide) rfl (Wp.mono (m_steps hM.1 _) (fun v M' r => MQ_s hM r)) ?_
  rintro _ _ ⟨rfl, σ2, rfl, hM2⟩
  refine Wp.n (pc' := 1763) 2 rfl ?_
  exact kk M2 κ2 σ2 _ hC2 hM2 (hZ) (fun q hq => (e2 q (Or.inl hq)).trans (if_pos (by omega)))
theorem L_length (hi : i + 6 ≤ L) (hL : L ≤ 3072) (h2 : M 2 = .inl (7, L, .inl xs)) (hC : CI M κ Z) (hM : MI σ Z) (hZ : ZG Z) (kk : LK M i Q) : Wp 60 md_263 571 [some (.ref 2), some (.ref 32), some (.ref 287), some (.int (nI i))] [] (mset (cset M κ) σ) Q := by
  obtain ⟨K, I, S, T, f⟩ := Z
  rw [ms_cs]
  have hC1 := CI_ms (σ := σ) hC
  obtain ⟨ow, hDo⟩ := hC1.1.1
  have s1 : cset (mset M σ) κ 2 = .inl (7, L, .inl xs) := (cset_o (by omega)).trans ((if_pos (by decide)).trans h2)
  refine Wp.n (pc' := 575) 4 rfl ?_
  refine Wp.iaddN (x := i) (y := 1) (len := 1) rfl ?_
  refine Wp.ialdN (j := i + 1) (len := 1) rfl (s1) rfl (by omega) (by omega) ?_
  refine Wp.callV (len := 3) rfl rfl rfl ((cset_o (by omega)).trans hDo) rfl (by decide) rfl (Wp.mono (k_length hC1.1 hC1.2.2.2.1 hZ.1.1 _) (fun v M' r => CR_s hC1 r)) ?_
  rintro _ _ ⟨rfl, M2, κ2, rfl, hC2, e2⟩
  rw [ms_ab e2]
  have s2 : mset (cset M2 κ2) σ 2 = .inl (7, L, .inl xs) := (if_pos (by decide)).trans ((cset_o (by omega)).trans ((e2 2 (by omega)).trans ((if_pos (by decide)).trans h2)))
  refine Wp.n (pc' := 584) 4 rfl ?_
  refine Wp.iaddN (x := i) (y := 1) (len := 1) rfl ?_
  refine Wp.ialdN (j := i + 1) (len := 1) rfl (s2) rfl (by omega) (by omega) ?_
  refine Wp.callV (len := 3) rfl rfl rfl (rfl) rfl (by decide) rfl (Wp.mono (m_length hM.1 _) (fun v M' r => MQ_s hM r)) ?_
  rintro _ _ ⟨rfl, σ2, rfl, hM2⟩
  refine Wp.ic0 (tgt := 1763) (len := 3) rfl (fun h589 => ?_) (fun h589 => ?_)
  · skip
    exact kk M2 κ2 σ2 _ hC2 hM2 (hZ) (fun q hq => (e2 q (Or.inl hq)).trans (if_pos (by omega)))
  · exact absurd rfl h589
theorem L_saved (hi : i + 6 ≤ L) (hL : L ≤ 3072) (h2 : M 2 = .inl (7, L, .inl xs)) (hC : CI M κ Z) (hM : MI σ Z) (hZ : ZG Z) (kk : LK M i Q) : Wp 60 md_263 594 [some (.ref 2), some (.ref 32), some (.ref 287), some (.int (nI i))] [] (mset (cset M κ) σ) Q := by
  obtain ⟨K, I, S, T, f⟩ := Z
  rw [ms_cs]
  have hC1 := CI_ms (σ := σ) hC
  obtain ⟨ow, hDo⟩ := hC1.1.1
  have s1 : cset (mset M σ) κ 2 = .inl (7, L, .inl xs) := (cset_o (by omega)).trans ((if_pos (by decide)).trans h2)
  refine Wp.n (pc' := 598) 4 rfl ?_
  refine Wp.iaddN (x := i) (y := 1) (len := 1) rfl ?_
  refine Wp.ialdN (j := i + 1) (len := 1) rfl (s1) rfl (by omega) (by omega) ?_
  refine Wp.callV (len := 3) rfl rfl rfl ((cset_o (by omega)).trans hDo) rfl (by decide) rfl (Wp.mono (k_saved hC1.1 hC1.2.2.2.1 hZ.1.1 _) (fun v M' r => CR_s hC1 r)) ?_
  rintro _ _ ⟨rfl, M2, κ2, rfl, hC2, e2⟩
  rw [ms_ab e2]
  have s2 : mset (cset M2 κ2) σ 2 = .inl (7, L, .inl xs) := (if_pos (by decide)).trans ((cset_o (by omega)).trans ((e2 2 (by omega)).trans ((if_pos (by decide)).trans h2)))
  refine Wp.n (pc' := 608) 5 rfl ?_
  refine Wp.iaddN (x := i) (y := 1) (len := 1) rfl ?_
  refine Wp.ialdN (j := i + 1) (len := 1) rfl (s2) rfl (by omega) (by omega) ?_
  refine Wp.callV (len := 3) rfl rfl rfl (rfl) rfl (by decide) rfl (Wp.mono (m_saved hM.1 _) (fun v M' r => MQ_s hM r)) ?_
  rintro _ _ ⟨rfl, σ2, rfl, hM2⟩
  refine Wp.n (pc' := 1763) 2 rfl ?_
  exact kk M2 κ2 σ2 _ hC2 hM2 (hZ) (fun q hq => (e2 q (Or.inl hq)).trans (if_pos (by omega)))
theorem L_duty (hi : i + 6 ≤ L) (hL : L ≤ 3072) (h2 : M 2 = .inl (7, L, .inl xs)) (hC : CI M κ Z) (hM : MI σ Z) (hZ : ZG Z) (kk : LK M i Q) : Wp 60 md_263 617 [some (.ref 2), some (.ref 32), some (.ref 287), some (.int (nI i))] [] (mset (cset M κ) σ) Q := by
  obtain ⟨K, I, S, T, f⟩ := Z
  rw [ms_cs]
  have hC1 := CI_ms (σ := σ) hC
  obtain ⟨ow, hDo⟩ := hC1.1.1
  have s1 : cset (mset M σ) κ 2 = .inl (7, L, .inl xs) := (cset_o (by omega)).trans ((if_pos (by decide)).trans h2)
  refine Wp.n (pc' := 621) 4 rfl ?_
  refine Wp.iaddN (x := i) (y := 1) (len := 1) rfl ?_
  refine Wp.ialdN (j := i + 1) (len := 1) rfl (s1) rfl (by omega) (by omega) ?_
  refine Wp.callV (len := 3) rfl rfl rfl ((cset_o (by omega)).trans hDo) rfl (by decide) rfl (Wp.mono (k_duty hC1.1 hC1.2.2.2.1 hZ.1.1 _) (fun v M' r => CR_s hC1 r)) ?_
  rintro _ _ ⟨rfl, M2, κ2, rfl, hC2, e2⟩
  rw [ms_ab e2]
  have s2 : mset (cset M2 κ2) σ 2 = .inl (7, L, .inl xs) := (if_pos (by decide)).trans ((cset_o (by omega)).trans ((e2 2 (by omega)).trans ((if_pos (by decide)).trans h2)))
  refine Wp.n (pc' := 631) 5 rfl ?_
  refine Wp.iaddN (x := i) (y := 1) (len := 1) rfl ?_
  refine Wp.ialdN (j := i + 1) (len := 1) rfl (s2) rfl (by omega) (by omega) ?_
  refine Wp.callV (len := 3) rfl rfl rfl (rfl) rfl (by decide) rfl (Wp.mono (m_duty hM.1 _) (fun v M' r => MQ_s hM r)) ?_
  rintro _ _ ⟨rfl, σ2, rfl, hM2⟩
  refine Wp.n (pc' := 1763) 2 rfl ?_
  exact kk M2 κ2 σ2 _ hC2 hM2 (hZ) (fun q hq => (e2 q (Or.inl hq)).trans (if_pos (by omega)))
theorem L_lanes (hi : i + 6 ≤ L) (hL : L ≤ 3072) (h2 : M 2 = .inl (7, L, .inl xs)) (hC : CI M κ Z) (hM : MI σ Z) (hZ : ZG Z) (kk : LK M i Q) : Wp 60 md_263 640 [some (.ref 2), some (.ref 32), some (.ref 287), some (.int (nI i))] [] (mset (cset M κ) σ) Q := by
  obtain ⟨K, I, S, T, f⟩ := Z
  rw [ms_cs]
  have hC1 := CI_ms (σ := σ) hC
  obtain ⟨ow, hDo⟩ := hC1.1.1
  have s1 : cset (mset M σ) κ 2 = .inl (7, L, .inl xs) := (cset_o (by omega)).trans ((if_pos (by decide)).trans h2)
  refine Wp.n (pc' := 644) 4 rfl ?_
  refine Wp.iaddN (x := i) (y := 1) (len := 1) rfl ?_
  refine Wp.ialdN (j := i + 1) (len := 1) rfl (s1) rfl (by omega) (by omega) ?_
  refine Wp.callV (len := 3) rfl rfl rfl ((cset_o (by omega)).trans hDo) rfl (by decide) rfl (Wp.mono (k_lanes hC1.1 hC1.2.2.2.1 hZ.1.1 _) (fun v M' r => CR_s hC1 r)) ?_
  rintro _ _ ⟨rfl, M2, κ2, rfl, hC2, e2⟩
  rw [ms_ab e2]
  have s2 : mset (cset M2 κ2) σ 2 = .inl (7, L, .inl xs) := (if_pos (by decide)).trans ((cset_o (by omega)).trans ((e2 2 (by omega)).trans ((if_pos (by decide)).trans h2)))
  refine Wp.n (pc' := 654) 5 rfl ?_
  refine Wp.iaddN (x := i) (y := 1) (len := 1) rfl ?_
  refine Wp.ialdN (j := i + 1) (len := 1) rfl (s2) rfl (by omega) (by omega) ?_
  refine Wp.callV (len := 3) rfl rfl rfl (rfl) rfl (by decide) rfl (Wp.mono (m_lanes hM.1 _) (fun v M' r => MQ_s hM r)) ?_
  rintro _ _ ⟨rfl, σ2, rfl, hM2⟩
  refine Wp.n (pc' := 1763) 2 rfl ?_
  exact kk M2 κ2 σ2 _ hC2 hM2 (hZ) (fun q hq => (e2 q (Or.inl hq)).trans (if_pos (by omega)))
end LCA
end
section
/-! THE LAW: its cases, b. -/
section LCB
variable {L i : Nat} {xs : Nat → Int32} {M : AM} {κ : CS} {σ : MS} {Z : Zt} {Q : Option Value → AM → Prop}
theorem L_owes (hi : i + 6 ≤ L) (hL : L ≤ 3072) (h2 : M 2 = .inl (7, L, .inl xs)) (hC : CI M κ Z) (hM : MI σ Z) (hZ : ZG Z) (kk : LK M i Q) : Wp 60 md_263 663 [some (.ref 2), some (.ref 32), some (.ref 287), some (.int (nI i))] [] (mset (cset M κ) σ) Q := by
  obtain ⟨K, I, S, T, f⟩ := Z
  rw [ms_cs]
  have hC1 := CI_ms (σ := σ) hC
  obtain ⟨ow, hDo⟩ := hC1.1.1
  have s1 : cset (mset M σ) κ 2 = .inl (7, L, .inl xs) := (cset_o (by omega)).trans ((if_pos (by decide)).trans h2)
  refine Wp.n (pc' := 667) 4 rfl ?_
  refine Wp.iaddN (x := i) (y := 1) (len := 1) rfl ?_
  refine Wp.ialdN (j := i + 1) (len := 1) rfl (s1) rfl (by omega) (by omega) ?_
  refine Wp.callV (len := 3) rfl rfl rfl ((cset_o (by omega)).trans hDo) rfl (by decide) rfl (Wp.mono (k_owes hC1.1 hC1.2.2.2.1 _) (fun v M' r => CR_s hC1 r)) ?_
  rintro _ _ ⟨rfl, M2, κ2, rfl, hC2, e2⟩
  rw [ms_ab e2]
  have s2 : mset (cset M2 κ2) σ 2 = .inl (7, L, .inl xs) := (if_pos (by decide)).trans ((cset_o (by omega)).trans ((e2 2 (by omega)).trans ((if_pos (by decide)).trans h2)))
  refine Wp.n (pc' := 677) 5 rfl ?_
  refine Wp.iaddN (x := i) (y := 1) (len := 1) rfl ?_
  refine Wp.ialdN (j := i + 1) (len := 1) rfl (s2) rfl (by omega) (by omega) ?_
  refine Wp.callV (len := 3) rfl rfl rfl (rfl) rfl (by decide) rfl (Wp.mono (m_owes hM.1 _) (fun v M' r => MQ_s hM r)) ?_
  rintro _ _ ⟨rfl, σ2, rfl, hM2⟩
  refine Wp.n (pc' := 1763) 2 rfl ?_
  exact kk M2 κ2 σ2 _ hC2 hM2 (hZ) (fun q hq => (e2 q (Or.inl hq)).trans (if_pos (by omega)))
theorem L_takings (hi : i + 6 ≤ L) (hL : L ≤ 3072) (h2 : M 2 = .inl (7, L, .inl xs)) (hC : CI M κ Z) (hM : MI σ Z) (hZ : ZG Z) (kk : LK M i Q) : Wp 60 md_263 686 [some (.ref 2), some (.ref 32), some (.ref 287), some (.int (nI i))] [] (mset (cset M κ) σ) Q := by
  obtain ⟨K, I, S, T, f⟩ := Z
  rw [ms_cs]
  have hC1 := CI_ms (σ := σ) hC
  obtain ⟨ow, hDo⟩ := hC1.1.1
  have s1 : cset (mset M σ) κ 2 = .inl (7, L, .inl xs) := (cset_o (by omega)).trans ((if_pos (by decide)).trans h2)
  refine Wp.n (pc' := 690) 4 rfl ?_
  refine Wp.iaddN (x := i) (y := 1) (len := 1) rfl ?_
  refine Wp.ialdN (j := i + 1) (len := 1) rfl (s1) rfl (by omega) (by omega) ?_
  refine Wp.callV (len := 3) rfl rfl rfl ((cset_o (by omega)).trans hDo) rfl (by decide) rfl (Wp.mono (k_takings hC1.1 hC1.2.2.2.1 _) (fun v M' r => CR_s hC1 r)) ?_
  rintro _ _ ⟨rfl, M2, κ2, rfl, hC2, e2⟩
  rw [ms_ab e2]
  have s2 : mset (cset M2 κ2) σ 2 = .inl (7, L, .inl xs) := (if_pos (by decide)).trans ((cset_o (by omega)).trans ((e2 2 (by omega)).trans ((if_pos (by decide)).trans h2)))
  refine Wp.n (pc' := 700) 5 rfl ?_
  refine Wp.iaddN (x := i) (y := 1) (len := 1) rfl ?_
  refine Wp.ialdN (j := i + 1) (len := 1) rfl (s2) rfl (by omega) (by omega) ?_
  refine Wp.callV (len := 3) rfl rfl rfl (rfl) rfl (by decide) rfl (Wp.mono (m_takings hM.1 _) (fun v M' r => MQ_s hM r)) ?_
  rintro _ _ ⟨rfl, σ2, rfl, hM2⟩
  refine Wp.n (pc' := 1763) 2 rfl ?_
  exact kk M2 κ2 σ2 _ hC2 hM2 (hZ) (fun q hq => (e2 q (Or.inl hq)).trans (if_pos (by omega)))
theorem L_chance (hi : i + 6 ≤ L) (hL : L ≤ 3072) (h2 : M 2 = .inl (7, L, .inl xs)) (hC : CI M κ Z) (hM : MI σ Z) (hZ : ZG Z) (kk : LK M i Q) : Wp 60 md_263 709 [some (.ref 2), some (.ref 32), some (.ref 287), some (.int (nI i))] [] (mset (cset M κ) σ) Q := by
  obtain ⟨K, I, S, T, f⟩ := Z
  rw [ms_cs]
  have hC1 := CI_ms (σ := σ) hC
  obtain ⟨ow, hDo⟩ := hC1.1.1
  have s1 : cset (mset M σ) κ 2 = .inl (7, L, .inl xs) := (cset_o (by omega)).trans ((if_pos (by decide)).trans h2)
  refine Wp.n (pc' := 713) 4 rfl ?_
  refine Wp.iaddN (x := i) (y := 1) (len := 1) rfl ?_
  refine Wp.ialdN (j := i + 1) (len := 1) rfl (s1) rfl (by omega) (by omega) ?_
  refine Wp.n (pc' := 718) 3 rfl ?_
  refine Wp.iaddN (x := i) (y := 2) (len := 1) rfl ?_
  refine Wp.ialdN (j := i + 2) (len := 1) rfl (s1) rfl (by omega) (by omega) ?_
  refine Wp.callV (len := 3) rfl rfl rfl ((cset_o (by omega)).trans hDo) rfl (by decide) rfl (Wp.mono (k_chance hC1.1 hC1.2.2.2.1 _ _) (fun v M' r => CR_j hC1 r)) ?_
  rintro _ _ ⟨rfl, M2, κ2, rfl, hC2, e2⟩
  rw [ms_ab e2]
  have s2 : mset (cset M2 κ2) σ 2 = .inl (7, L, .inl xs) := (if_pos (by decide)).trans ((cset_o (by omega)).trans ((e2 2 (by omega)).trans ((if_pos (by decide)).trans h2)))
  refine Wp.n (pc' := 728) 5 rfl ?_
  refine Wp.iaddN (x := i) (y := 1) (len := 1) rfl ?_
  refine Wp.ialdN (j := i + 1) (len := 1) rfl (s2) rfl (by omega) (by omega) ?_
  refine Wp.n (pc' := 733) 3 rfl ?_
  refine Wp.iaddN (x := i) (y := 2) (len := 1) rfl ?_
  refine Wp.ialdN (j := i + 2) (len := 1) rfl (s2) rfl (by omega) (by omega) ?_
  refine Wp.callV (len := 3) rfl rfl rfl (rfl) rfl (by decide) rfl (Wp.mono (m_chance hM.1 _ _) (fun v M' r => MQ_j hM r)) ?_
  rintro _ _ ⟨rfl, σ2, rfl, hM2⟩
  refine Wp.n (pc' := 1763) 2 rfl ?_
  exact kk M2 κ2 σ2 _ hC2 hM2 (hZ) (fun q hq => (e2 q (Or.inl hq)).trans (if_pos (by omega)))
theorem L_hope (hi : i + 6 ≤ L) (hL : L ≤ 3072) (h2 : M 2 = .inl (7, L, .inl xs)) (hC : CI M κ Z) (hM : MI σ Z) (hZ : ZG Z) (kk : LK M i Q) : Wp 60 md_263 742 [some (.ref 2), some (.ref 32), some (.ref 287), some (.int (nI i))] [] (mset (cset M κ) σ) Q := by
  obtain ⟨K, I, S, T, f⟩ := Z
  rw [ms_cs]
  have hC1 := CI_ms (σ := σ) hC
  obtain ⟨ow, hDo⟩ := hC1.1.1
  have s1 : cset (mset M σ) κ 2 = .inl (7, L, .inl xs) := (cset_o (by omega)).trans ((if_pos (by decide)).trans h2)
  refine Wp.n (pc' := 746) 4 rfl ?_
  refine Wp.iaddN (x := i) (y := 1) (len := 1) rfl ?_
  refine Wp.ialdN (j := i + 1) (len := 1) rfl (s1) rfl (by omega) (by omega) ?_
  refine Wp.n (pc' := 751) 3 rfl ?_
  refine Wp.iaddN (x := i) (y := 2) (len := 1) rfl ?_
  refine Wp.ialdN (j := i + 2) (len := 1) rfl (s1) rfl (by omega) (by omega) ?_
  refine Wp.callV (len := 3) rfl rfl rfl ((cset_o (by omega)).trans hDo) rfl (by decide) rfl (Wp.mono (k_hope hC1.1 hC1.2.2.2.1 _ _) (fun v M' r => CR_j hC1 r)) ?_
  rintro _ _ ⟨rfl, M2, κ2, rfl, hC2, e2⟩
  rw [ms_ab e2]
  have s2 : mset (cset M2 κ2) σ 2 = .inl (7, L, .inl xs) := (if_pos (by decide)).trans ((cset_o (by omega)).trans ((e2 2 (by omega)).trans ((if_pos (by decide)).trans h2)))
  refine Wp.n (pc' := 761) 5 rfl ?_
  refine Wp.iaddN (x := i) (y := 1) (len := 1) rfl ?_
  refine Wp.ialdN (j := i + 1) (len := 1) rfl (s2) rfl (by omega) (by omega) ?_
  refine Wp.n (pc' := 766) 3 rfl ?_
  refine Wp.iaddN (x := i) (y := 2) (len := 1) rfl ?_
  refine Wp.ialdN (j := i + 2) (len := 1) rfl (s2) rfl (by omega) (by omega) ?_
  refine Wp.callV (len := 3) rfl rfl rfl (rfl) rfl (by decide) rfl (Wp.mono (m_hope hM.1 _ _) (fun v M' r => MQ_j hM r)) ?_
  rintro _ _ ⟨rfl, σ2, rfl, hM2⟩
  refine Wp.n (pc' := 1763) 2 rfl ?_
  exact kk M2 κ2 σ2 _ hC2 hM2 (hZ) (fun q hq => (e2 q (Or.inl hq)).trans (if_pos (by omega)))
theorem L_shortest (hi : i + 6 ≤ L) (hL : L ≤ 3072) (h2 : M 2 = .inl (7, L, .inl xs)) (hC : CI M κ Z) (hM : MI σ Z) (hZ : ZG Z) (kk : LK M i Q) : Wp 60 md_263 775 [some (.ref 2), some (.ref 32), some (.ref 287), some (.int (nI i))] [] (mset (cset M κ) σ) Q := by
  obtain ⟨K, I, S, T, f⟩ := Z
  rw [ms_cs]
  have hC1 := CI_ms (σ := σ) hC
  obtain ⟨ow, hDo⟩ := hC1.1.1
  have s1 : cset (mset M σ) κ 2 = .inl (7, L, .inl xs) := (cset_o (by omega)).trans ((if_pos (by decide)).trans h2)
  refine Wp.n (pc' := 779) 4 rfl ?_
  refine Wp.iaddN (x := i) (y := 1) (len := 1) rfl ?_
  refine Wp.ialdN (j := i + 1) (len := 1) rfl (s1) rfl (by omega) (by omega) ?_
  refine Wp.n (pc' := 784) 3 rfl ?_
  refine Wp.iaddN (x := i) (y := 2) (len := 1) rfl ?_
  refine Wp.ialdN (j := i + 2) (len := 1) rfl (s1) rfl (by omega) (by omega) ?_
  refine Wp.n (pc' := 789) 3 rfl ?_
  refine Wp.iaddN (x := i) (y := 3) (len := 1) rfl ?_
  refine Wp.ialdN (j := i + 3) (len := 1) rfl (s1) rfl (by omega) (by omega) ?_
  refine Wp.callV (len := 3) rfl rfl rfl ((cset_o (by omega)).trans hDo) rfl (by decide) rfl (Wp.mono (k_shortest hC1.1 hC1.2.2.2.1 _ _ _) (fun v M' r => CR_s hC1 r)) ?_
  rintro _ _ ⟨rfl, M2, κ2, rfl, hC2, e2⟩
  rw [ms_ab e2]
  have s2 : mset (cset M2 κ2) σ 2 = .inl (7, L, .inl xs) := (if_pos (by decide)).trans ((cset_o (by omega)).trans ((e2 2 (by omega)).trans ((if_pos (by decide)).trans h2)))
  refine Wp.n (pc' := 799) 5 rfl ?_
  refine Wp.iaddN (x := i) (y := 1) (len := 1) rfl ?_
  refine Wp.ialdN (j := i + 1) (len := 1) rfl (s2) rfl (by omega) (by omega) ?_
  refine Wp.n (pc' := 804) 3 rfl ?_
  refine Wp.iaddN (x := i) (y := 2) (len := 1) rfl ?_
  refine Wp.ialdN (j := i + 2) (len := 1) rfl (s2) rfl (by omega) (by omega) ?_
  refine Wp.n (pc' := 809) 3 rfl ?_
  refine Wp.iaddN (x := i) (y := 3) (len := 1) rfl ?_
  refine Wp.ialdN (j := i + 3) (len := 1) rfl (s2) rfl (by omega) (by omega) ?_
  refine Wp.callV (len := 3) rfl rfl rfl (rfl) rfl (by decide) rfl (Wp.mono (m_shortest hM.1 _ _ _) (fun v M' r => MQ_s hM r)) ?_
  rintro _ _ ⟨rfl, σ2, rfl, hM2⟩
  refine Wp.n (pc' := 1763) 2 rfl ?_
  exact kk M2 κ2 σ2 _ hC2 hM2 (hZ) (fun q hq => (e2 q (Or.inl hq)).trans (if_pos (by omega)))
theorem L_hidden (hi : i + 6 ≤ L) (hL : L ≤ 3072) (h2 : M 2 = .inl (7, L, .inl xs)) (hC : CI M κ Z) (hM : MI σ Z) (hZ : ZG Z) (kk : LK M i Q) : Wp 60 md_263 818 [some (.ref 2), some (.ref 32), some (.ref 287), some (.int (nI i))] [] (mset (cset M κ) σ) Q := by
  obtain ⟨K, I, S, T, f⟩ := Z
  rw [ms_cs]
  have hC1 := CI_ms (σ := σ) hC
  obtain ⟨ow, hDo⟩ := hC1.1.1
  have s1 : cset (mset M σ) κ 2 = .inl (7, L, .inl xs) := (cset_o (by omega)).trans ((if_pos (by decide)).trans h2)
  refine Wp.n (pc' := 822) 4 rfl ?_
  refine Wp.iaddN (x := i) (y := 1) (len := 1) rfl ?_
  refine Wp.ialdN (j := i + 1) (len := 1) rfl (s1) rfl (by omega) (by omega) ?_
  refine Wp.n (pc' := 827) 3 rfl ?_
  refine Wp.iaddN (x := i) (y := 2) (len := 1) rfl ?_
  refine Wp.ialdN (j := i + 2) (len := 1) rfl (s1) rfl (by omega) (by omega) ?_
  refine Wp.n (pc' := 832) 3 rfl ?_
  refine Wp.iaddN (x := i) (y := 3) (len := 1) rfl ?_
  refine Wp.ialdN (j := i + 3) (len := 1) rfl (s1) rfl (by omega) (by omega) ?_
  refine Wp.callV (len := 3) rfl rfl rfl ((cset_o (by omega)).trans hDo) rfl (by decide) rfl (Wp.mono (k_hidden hC1.1 hC1.2.2.2.1 _ _ _) (fun v M' r => CR_s hC1 r)) ?_
  rintro _ _ ⟨rfl, M2, κ2, rfl, hC2, e2⟩
  rw [ms_ab e2]
  have s2 : mset (cset M2 κ2) σ 2 = .inl (7, L, .inl xs) := (if_pos (by decide)).trans ((cset_o (by omega)).trans ((e2 2 (by omega)).trans ((if_pos (by decide)).trans h2)))
  refine Wp.n (pc' := 842) 5 rfl ?_
  refine Wp.iaddN (x := i) (y := 1) (len := 1) rfl ?_
  refine Wp.ialdN (j := i + 1) (len := 1) rfl (s2) rfl (by omega) (by omega) ?_
  refine Wp.n (pc' := 847) 3 rfl ?_
  refine Wp.iaddN (x := i) (y := 2) (len := 1) rfl ?_
  refine Wp.ialdN (j := i + 2) (len := 1) rfl (s2) rfl (by omega) (by omega) ?_
  refine Wp.n (pc' := 852) 3 rfl ?_
  refine Wp.iaddN (x := i) (y := 3) (len := 1) rfl ?_
  refine Wp.ialdN (j := i + 3) (len := 1) rfl (s2) rfl (by omega) (by omega) ?_
  refine Wp.callV (len := 3) rfl rfl rfl (rfl) rfl (by decide) rfl (Wp.mono (m_hidden hM.1 _ _ _) (fun v M' r => MQ_s hM r)) ?_
  rintro _ _ ⟨rfl, σ2, rfl, hM2⟩
  refine Wp.n (pc' := 1763) 2 rfl ?_
  exact kk M2 κ2 σ2 _ hC2 hM2 (hZ) (fun q hq => (e2 q (Or.inl hq)).trans (if_pos (by omega)))
theorem L_best (hi : i + 6 ≤ L) (hL : L ≤ 3072) (h2 : M 2 = .inl (7, L, .inl xs)) (hC : CI M κ Z) (hM : MI σ Z) (hZ : ZG Z) (kk : LK M i Q) : Wp 60 md_263 861 [some (.ref 2), some (.ref 32), some (.ref 287), some (.int (nI i))] [] (mset (cset M κ) σ) Q := by
  obtain ⟨K, I, S, T, f⟩ := Z
  rw [ms_cs]
  have hC1 := CI_ms (σ := σ) hC
  obtain ⟨ow, hDo⟩ := hC1.1.1
  have s1 : cset (mset M σ) κ 2 = .inl (7, L, .inl xs) := (cset_o (by omega)).trans ((if_pos (by decide)).trans h2)
  refine Wp.n (pc' := 865) 4 rfl ?_
  refine Wp.iaddN (x := i) (y := 1) (len := 1) rfl ?_
  refine Wp.ialdN (j := i + 1) (len := 1) rfl (s1) rfl (by omega) (by omega) ?_
  refine Wp.n (pc' := 870) 3 rfl ?_
  refine Wp.iaddN (x := i) (y := 2) (len := 1) rfl ?_
  refine Wp.ialdN (j := i + 2) (len := 1) rfl (s1) rfl (by omega) (by omega) ?_
  refine Wp.n (pc' := 875) 3 rfl ?_
  refine Wp.iaddN (x := i) (y := 3) (len := 1) rfl ?_
  refine Wp.ialdN (j := i + 3) (len := 1) rfl (s1) rfl (by omega) (by omega) ?_
  refine Wp.n (pc' := 880) 3 rfl ?_
  refine Wp.iaddN (x := i) (y := 4) (len := 1) rfl ?_
  refine Wp.ialdN (j := i + 4) (len := 1) rfl (s1) rfl (by omega) (by omega) ?_
  refine Wp.n (pc' := 885) 3 rfl ?_
  refine Wp.iaddN (x := i) (y := 5) (len := 1) rfl ?_
  refine Wp.ialdN (j := i + 5) (len := 1) rfl (s1) rfl (by omega) (by omega) ?_
  refine Wp.callV (len := 3) rfl rfl rfl ((cset_o (by omega)).trans hDo) rfl (by decide) rfl (Wp.mono (k_best hC1.1 hC1.2.2.2.1 _ _ _ _ _) (fun v M' r => CR_s hC1 r)) ?_
  rintro _ _ ⟨rfl, M2, κ2, rfl, hC2, e2⟩
  rw [ms_ab e2]
  have s2 : mset (cset M2 κ2) σ 2 = .inl (7, L, .inl xs) := (if_pos (by decide)).trans ((cset_o (by omega)).trans ((e2 2 (by omega)).trans ((if_pos (by decide)).trans h2)))
  refine Wp.n (pc' := 895) 5 rfl ?_
  refine Wp.iaddN (x := i) (y := 1) (len := 1) rfl ?_
  refine Wp.ialdN (j := i + 1) (len := 1) rfl (s2) rfl (by omega) (by omega) ?_
  refine Wp.n (pc' := 900) 3 rfl ?_
  refine Wp.iaddN (x := i) (y := 2) (len := 1) rfl ?_
  refine Wp.ialdN (j := i + 2) (len := 1) rfl (s2) rfl (by omega) (by omega) ?_
  refine Wp.n (pc' := 905) 3 rfl ?_
  refine Wp.iaddN (x := i) (y := 3) (len := 1) rfl ?_
  refine Wp.ialdN (j := i + 3) (len := 1) rfl (s2) rfl (by omega) (by omega) ?_
  refine Wp.n (pc' := 910) 3 rfl ?_
  refine Wp.iaddN (x := i) (y := 4) (len := 1) rfl ?_
  refine Wp.ialdN (j := i + 4) (len := 1) rfl (s2) rfl (by omega) (by omega) ?_
  refine Wp.n (pc' := 915) 3 rfl ?_
  refine Wp.iaddN (x := i) (y := 5) (len := 1) rfl ?_
  refine Wp.ialdN (j := i + 5) (len := 1) rfl (s2) rfl (by omega) (by omega) ?_
  refine Wp.callV (len := 3) rfl rfl rfl (rfl) rfl (by decide) rfl (Wp.mono (m_best hM.1 _ _ _ _ _) (fun v M' r => MQ_s hM r)) ?_
  rintro _ _ ⟨rfl, σ2, rfl, hM2⟩
  refine Wp.n (pc' := 1763) 2 rfl ?_
  exact kk M2 κ2 σ2 _ hC2 hM2 (hZ) (fun q hq => (e2 q (Or.inl hq)).trans (if_pos (by omega)))
theorem L_goes (hi : i + 6 ≤ L) (hL : L ≤ 3072) (h2 : M 2 = .inl (7, L, .inl xs)) (hC : CI M κ Z) (hM : MI σ Z) (hZ : ZG Z) (kk : LK M i Q) : Wp 60 md_263 924 [some (.ref 2), some (.ref 32), some (.ref 287), some (.int (nI i))] [] (mset (cset M κ) σ) Q := by
  obtain ⟨K, I, S, T, f⟩ := Z
  rw [ms_cs]
  have hC1 := CI_ms (σ := σ) hC
  obtain ⟨ow, hDo⟩ := hC1.1.1
  have s1 : cset (mset M σ) κ 2 = .inl (7, L, .inl xs) := (cset_o (by omega)).trans ((if_pos (by decide)).trans h2)
  refine Wp.n (pc' := 928) 4 rfl ?_
  refine Wp.iaddN (x := i) (y := 1) (len := 1) rfl ?_
  refine Wp.ialdN (j := i + 1) (len := 1) rfl (s1) rfl (by omega) (by omega) ?_
  refine Wp.n (pc' := 933) 3 rfl ?_
  refine Wp.iaddN (x := i) (y := 2) (len := 1) rfl ?_
  refine Wp.ialdN (j := i + 2) (len := 1) rfl (s1) rfl (by omega) (by omega) ?_
  refine Wp.n (pc' := 938) 3 rfl ?_
  refine Wp.iaddN (x := i) (y := 3) (len := 1) rfl ?_
  refine Wp.ialdN (j := i + 3) (len := 1) rfl (s1) rfl (by omega) (by omega) ?_
  refine Wp.n (pc' := 943) 3 rfl ?_
  refine Wp.iaddN (x := i) (y := 4) (len := 1) rfl ?_
  refine Wp.ialdN (j := i + 4) (len := 1) rfl (s1) rfl (by omega) (by omega) ?_
  refine Wp.n (pc' := 948) 3 rfl ?_
  refine Wp.iaddN (x := i) (y := 5) (len := 1) rfl ?_
  refine Wp.ialdN (j := i + 5) (len := 1) rfl (s1) rfl (by omega) (by omega) ?_
  refine Wp.callV (len := 3) rfl rfl rfl ((cset_o (by omega)).trans hDo) rfl (by decide) rfl (Wp.mono (k_goes hC1.1 hC1.2.2.2.1 _ _ _ _ _) (fun v M' r => CR_s hC1 r)) ?_
  rintro _ _ ⟨rfl, M2, κ2, rfl, hC2, e2⟩
  rw [ms_ab e2]
  have s2 : mset (cset M2 κ2) σ 2 = .inl (7, L, .inl xs) := (if_pos (by decide)).trans ((cset_o (by omega)).trans ((e2 2 (by omega)).trans ((if_pos (by decide)).trans h2)))
  refine Wp.n (pc' := 958) 5 rfl ?_
  refine Wp.iaddN (x := i) (y := 1) (len := 1) rfl ?_
  refine Wp.ialdN (j := i + 1) (len := 1) rfl (s2) rfl (by omega) (by omega) ?_
  refine Wp.n (pc' := 963) 3 rfl ?_
  refine Wp.iaddN (x := i) (y := 2) (len := 1) rfl ?_
  refine Wp.ialdN (j := i + 2) (len := 1) rfl (s2) rfl (by omega) (by omega) ?_
  refine Wp.n (pc' := 968) 3 rfl ?_
  refine Wp.iaddN (x := i) (y := 3) (len := 1) rfl ?_
  refine Wp.ialdN (j := i + 3) (len := 1) rfl (s2) rfl (by omega) (by omega) ?_
  refine Wp.n (pc' := 973) 3 rfl ?_
  refine Wp.iaddN (x := i) (y := 4) (len := 1) rfl ?_
  refine Wp.ialdN (j := i + 4) (len := 1) rfl (s2) rfl (by omega) (by omega) ?_
  refine Wp.n (pc' := 978) 3 rfl ?_
  refine Wp.iaddN (x := i) (y := 5) (len := 1) rfl ?_
  refine Wp.ialdN (j := i + 5) (len := 1) rfl (s2) rfl (by omega) (by omega) ?_
  refine Wp.callV (len := 3) rfl rfl rfl (rfl) rfl (by decide) rfl (Wp.mono (m_goes hM.1 _ _ _ _ _) (fun v M' r => MQ_s hM r)) ?_
  rintro _ _ ⟨rfl, σ2, rfl, hM2⟩
  refine Wp.n (pc' := 1763) 2 rfl ?_
  exact kk M2 κ2 σ2 _ hC2 hM2 (hZ) (fun q hq => (e2 q (Or.inl hq)).trans (if_pos (by omega)))
theorem L_ways (hi : i + 6 ≤ L) (hL : L ≤ 3072) (h2 : M 2 = .inl (7, L, .inl xs)) (hC : CI M κ Z) (hM : MI σ Z) (hZ : ZG Z) (kk : LK M i Q) : Wp 60 md_263 987 [some (.ref 2), some (.ref 32), some (.ref 287), some (.int (nI i))] [] (mset (cset M κ) σ) Q := by
  obtain ⟨K, I, S, T, f⟩ := Z
  rw [ms_cs]
  have hC1 := CI_ms (σ := σ) hC
  obtain ⟨ow, hDo⟩ := hC1.1.1
  have s1 : cset (mset M σ) κ 2 = .inl (7, L, .inl xs) := (cset_o (by omega)).trans ((if_pos (by decide)).trans h2)
  refine Wp.n (pc' := 991) 4 rfl ?_
  refine Wp.iaddN (x := i) (y := 1) (len := 1) rfl ?_
  refine Wp.ialdN (j := i + 1) (len := 1) rfl (s1) rfl (by omega) (by omega) ?_
  refine Wp.n (pc' := 996) 3 rfl ?_
  refine Wp.iaddN (x := i) (y := 2) (len := 1) rfl ?_
  refine Wp.ialdN (j := i + 2) (len := 1) rfl (s1) rfl (by omega) (by omega) ?_
  refine Wp.n (pc' := 1001) 3 rfl ?_
  refine Wp.iaddN (x := i) (y := 3) (len := 1) rfl ?_
  refine Wp.ialdN (j := i + 3) (len := 1) rfl (s1) rfl (by omega) (by omega) ?_
  refine Wp.callV (len := 3) rfl rfl rfl ((cset_o (by omega)).trans hDo) rfl (by decide) rfl (Wp.mono (k_ways hC1.1 hC1.2.2.2.1 _ _ _) (fun v M' r => CR_s hC1 r)) ?_
  rintro _ _ ⟨rfl, M2, κ2, rfl, hC2, e2⟩
  rw [ms_ab e2]
  have s2 : mset (cset M2 κ2) σ 2 = .inl (7, L, .inl xs) := (if_pos (by decide)).trans ((cset_o (by omega)).trans ((e2 2 (by omega)).trans ((if_pos (by decide)).trans h2)))
  refine Wp.n (pc' := 1011) 5 rfl ?_
  refine Wp.iaddN (x := i) (y := 1) (len := 1) rfl ?_
  refine Wp.ialdN (j := i + 1) (len := 1) rfl (s2) rfl (by omega) (by omega) ?_
  refine Wp.n (pc' := 1016) 3 rfl ?_
  refine Wp.iaddN (x := i) (y := 2) (len := 1) rfl ?_
  refine Wp.ialdN (j := i + 2) (len := 1) rfl (s2) rfl (by omega) (by omega) ?_
  refine Wp.n (pc' := 1021) 3 rfl ?_
  refine Wp.iaddN (x := i) (y := 3) (len := 1) rfl ?_
  refine Wp.ialdN (j := i + 3) (len := 1) rfl (s2) rfl (by omega) (by omega) ?_
  refine Wp.callV (len := 3) rfl rfl rfl (rfl) rfl (by decide) rfl (Wp.mono (m_ways hM.1 _ _ _) (fun v M' r => MQ_s hM r)) ?_
  rintro _ _ ⟨rfl, σ2, rfl, hM2⟩
  refine Wp.n (pc' := 1763) 2 rfl ?_
  exact kk M2 κ2 σ2 _ hC2 hM2 (hZ) (fun q hq => (e2 q (Or.inl hq)).trans (if_pos (by omega)))
theorem L_all (hi : i + 6 ≤ L) (hL : L ≤ 3072) (h2 : M 2 = .inl (7, L, .inl xs)) (hC : CI M κ Z) (hM : MI σ Z) (hZ : ZG Z) (kk : LK M i Q) : Wp 60 md_263 1030 [some (.ref 2), some (.ref 32), some (.ref 287), some (.int (nI i))] [] (mset (cset M κ) σ) Q := by
  obtain ⟨K, I, S, T, f⟩ := Z
  rw [ms_cs]
  have hC1 := CI_ms (σ := σ) hC
  obtain ⟨ow, hDo⟩ := hC1.1.1
  have s1 : cset (mset M σ) κ 2 = .inl (7, L, .inl xs) := (cset_o (by omega)).trans ((if_pos (by decide)).trans h2)
  refine Wp.n (pc' := 1034) 4 rfl ?_
  refine Wp.iaddN (x := i) (y := 1) (len := 1) rfl ?_
  refine Wp.ialdN (j := i + 1) (len := 1) rfl (s1) rfl (by omega) (by omega) ?_
  refine Wp.callV (len := 3) rfl rfl rfl ((cset_o (by omega)).trans hDo) rfl (by decide) rfl (Wp.mono (k_all hC1.1 hC1.2.2.2.1 _) (fun v M' r => CR_s hC1 r)) ?_
  rintro _ _ ⟨rfl, M2, κ2, rfl, hC2, e2⟩
  rw [ms_ab e2]
  have s2 : mset (cset M2 κ2) σ 2 = .inl (7, L, .inl xs) := (if_pos (by decide)).trans ((cset_o (by omega)).trans ((e2 2 (by omega)).trans ((if_pos (by decide)).trans h2)))
  refine Wp.n (pc' := 1044) 5 rfl ?_
  refine Wp.iaddN (x := i) (y := 1) (len := 1) rfl ?_
  refine Wp.ialdN (j := i + 1) (len := 1) rfl (s2) rfl (by omega) (by omega) ?_
  refine Wp.callV (len := 3) rfl rfl rfl (rfl) rfl (by decide) rfl (Wp.mono (m_all hM.1 _) (fun v M' r => MQ_s hM r)) ?_
  rintro _ _ ⟨rfl, σ2, rfl, hM2⟩
  refine Wp.n (pc' := 1763) 2 rfl ?_
  exact kk M2 κ2 σ2 _ hC2 hM2 (hZ) (fun q hq => (e2 q (Or.inl hq)).trans (if_pos (by omega)))
theorem L_lane (hi : i + 6 ≤ L) (hL : L ≤ 3072) (h2 : M 2 = .inl (7, L, .inl xs)) (hC : CI M κ Z) (hM : MI σ Z) (hZ : ZG Z) (kk : LK M i Q) : Wp 60 md_263 1053 [some (.ref 2), some (.ref 32), some (.ref 287), some (.int (nI i))] [] (mset (cset M κ) σ) Q := by
  obtain ⟨K, I, S, T, f⟩ := Z
  rw [ms_cs]
  have hC1 := CI_ms (σ := σ) hC
  obtain ⟨ow, hDo⟩ := hC1.1.1
  have s1 : cset (mset M σ) κ 2 = .inl (7, L, .inl xs) := (cset_o (by omega)).trans ((if_pos (by decide)).trans h2)
  refine Wp.n (pc' := 1057) 4 rfl ?_
  refine Wp.iaddN (x := i) (y := 1) (len := 1) rfl ?_
  refine Wp.ialdN (j := i + 1) (len := 1) rfl (s1) rfl (by omega) (by omega) ?_
  refine Wp.n (pc' := 1062) 3 rfl ?_
  refine Wp.iaddN (x := i) (y := 2) (len := 1) rfl ?_
  refine Wp.ialdN (j := i + 2) (len := 1) rfl (s1) rfl (by omega) (by omega) ?_
  refine Wp.n (pc' := 1067) 3 rfl ?_
  refine Wp.iaddN (x := i) (y := 3) (len := 1) rfl ?_
  refine Wp.ialdN (j := i + 3) (len := 1) rfl (s1) rfl (by omega) (by omega) ?_
  refine Wp.n (pc' := 1072) 3 rfl ?_
  refine Wp.iaddN (x := i) (y := 4) (len := 1) rfl ?_
  refine Wp.ialdN (j := i + 4) (len := 1) rfl (s1) rfl (by omega) (by omega) ?_
  refine Wp.callV (len := 3) rfl rfl rfl ((cset_o (by omega)).trans hDo) rfl (by decide) rfl (Wp.mono (k_lane ⟨hC1.1, hC1.2.2.2.1, hC1.2.2.2.2.1⟩ hZ.1.1 hZ.1.2.2 _ _ _ _) (fun v M' r => CR_d hC1 r)) ?_
  rintro _ _ ⟨rfl, M2, κ2, rfl, hC2, e2⟩
  rw [ms_ab e2]
  have s2 : mset (cset M2 κ2) σ 2 = .inl (7, L, .inl xs) := (if_pos (by decide)).trans ((cset_o (by omega)).trans ((e2 2 (by omega)).trans ((if_pos (by decide)).trans h2)))
  refine Wp.n (pc' := 1082) 5 rfl ?_
  refine Wp.iaddN (x := i) (y := 1) (len := 1) rfl ?_
  refine Wp.ialdN (j := i + 1) (len := 1) rfl (s2) rfl (by omega) (by omega) ?_
  refine Wp.n (pc' := 1087) 3 rfl ?_
  refine Wp.iaddN (x := i) (y := 2) (len := 1) rfl ?_
  refine Wp.ialdN (j := i + 2) (len := 1) rfl (s2) rfl (by omega) (by omega) ?_
  refine Wp.n (pc' := 1092) 3 rfl ?_
  refine Wp.iaddN (x := i) (y := 3) (len := 1) rfl ?_
  refine Wp.ialdN (j := i + 3) (len := 1) rfl (s2) rfl (by omega) (by omega) ?_
  refine Wp.n (pc' := 1097) 3 rfl ?_
  refine Wp.iaddN (x := i) (y := 4) (len := 1) rfl ?_
  refine Wp.ialdN (j := i + 4) (len := 1) rfl (s2) rfl (by omega) (by omega) ?_
  refine Wp.callV (len := 3) rfl rfl rfl (rfl) rfl (by decide) rfl (Wp.mono (m_lane hM.1 hZ.1.1 _ _ _ _) (fun v M' r => MQ_l hM hZ.1.1 r)) ?_
  rintro _ _ ⟨rfl, σ2, rfl, hM2⟩
  refine Wp.n (pc' := 1763) 2 rfl ?_
  exact kk M2 κ2 σ2 _ hC2 hM2 (hZ) (fun q hq => (e2 q (Or.inl hq)).trans (if_pos (by omega)))
theorem L_help (hi : i + 6 ≤ L) (hL : L ≤ 3072) (h2 : M 2 = .inl (7, L, .inl xs)) (hC : CI M κ Z) (hM : MI σ Z) (hZ : ZG Z) (kk : LK M i Q) : Wp 60 md_263 1106 [some (.ref 2), some (.ref 32), some (.ref 287), some (.int (nI i))] [] (mset (cset M κ) σ) Q := by
  obtain ⟨K, I, S, T, f⟩ := Z
  rw [ms_cs]
  have hC1 := CI_ms (σ := σ) hC
  obtain ⟨ow, hDo⟩ := hC1.1.1
  have s1 : cset (mset M σ) κ 2 = .inl (7, L, .inl xs) := (cset_o (by omega)).trans ((if_pos (by decide)).trans h2)
  refine Wp.n (pc' := 1110) 4 rfl ?_
  refine Wp.iaddN (x := i) (y := 1) (len := 1) rfl ?_
  refine Wp.ialdN (j := i + 1) (len := 1) rfl (s1) rfl (by omega) (by omega) ?_
  refine Wp.callV (len := 3) rfl rfl rfl ((cset_o (by omega)).trans hDo) rfl (by decide) rfl (Wp.mono (k_help ⟨hC1.1, hC1.2.2.2.1, hC1.2.2.2.2.1⟩ hZ.1.1 hZ.1.2.2 _) (fun v M' r => CR_d hC1 r)) ?_
  rintro _ _ ⟨rfl, M2, κ2, rfl, hC2, e2⟩
  rw [ms_ab e2]
  have s2 : mset (cset M2 κ2) σ 2 = .inl (7, L, .inl xs) := (if_pos (by decide)).trans ((cset_o (by omega)).trans ((e2 2 (by omega)).trans ((if_pos (by decide)).trans h2)))
  refine Wp.n (pc' := 1120) 5 rfl ?_
  refine Wp.iaddN (x := i) (y := 1) (len := 1) rfl ?_
  refine Wp.ialdN (j := i + 1) (len := 1) rfl (s2) rfl (by omega) (by omega) ?_
  refine Wp.callV (len := 3) rfl rfl rfl (rfl) rfl (by decide) rfl (Wp.mono (m_help hM.1 hZ.1.1 _) (fun v M' r => MQ_l hM hZ.1.1 r)) ?_
  rintro _ _ ⟨rfl, σ2, rfl, hM2⟩
  refine Wp.n (pc' := 1763) 2 rfl ?_
  exact kk M2 κ2 σ2 _ hC2 hM2 (hZ) (fun q hq => (e2 q (Or.inl hq)).trans (if_pos (by omega)))
theorem L_bend (hi : i + 6 ≤ L) (hL : L ≤ 3072) (h2 : M 2 = .inl (7, L, .inl xs)) (hC : CI M κ Z) (hM : MI σ Z) (hZ : ZG Z) (kk : LK M i Q) : Wp 60 md_263 1129 [some (.ref 2), some (.ref 32), some (.ref 287), some (.int (nI i))] [] (mset (cset M κ) σ) Q := by
  obtain ⟨K, I, S, T, f⟩ := Z
  rw [ms_cs]
  have hC1 := CI_ms (σ := σ) hC
  obtain ⟨ow, hDo⟩ := hC1.1.1
  have s1 : cset (mset M σ) κ 2 = .inl (7, L, .inl xs) := (cset_o (by omega)).trans ((if_pos (by decide)).trans h2)
  refine Wp.n (pc' := 1133) 4 rfl ?_
  refine Wp.iaddN (x := i) (y := 1) (len := 1) rfl ?_
  refine Wp.ialdN (j := i + 1) (len := 1) rfl (s1) rfl (by omega) (by omega) ?_
  refine Wp.n (pc' := 1138) 3 rfl ?_
  refine Wp.iaddN (x := i) (y := 2) (len := 1) rfl ?_
  refine Wp.ialdN (j := i + 2) (len := 1) rfl (s1) rfl (by omega) (by omega) ?_
  refine Wp.n (pc' := 1143) 3 rfl ?_
  refine Wp.iaddN (x := i) (y := 3) (len := 1) rfl ?_
  refine Wp.ialdN (j := i + 3) (len := 1) rfl (s1) rfl (by omega) (by omega) ?_
  refine Wp.callV (len := 3) rfl rfl rfl ((cset_o (by omega)).trans hDo) rfl (by decide) rfl (Wp.mono (k_bend ⟨hC1.1, hC1.2.2.2.1, hC1.2.2.2.2.1⟩ hZ.1.1 hZ.1.2.1 _ _ _) (fun v M' r => CR_d hC1 r)) ?_
  rintro _ _ ⟨rfl, M2, κ2, rfl, hC2, e2⟩
  rw [ms_ab e2]
  have s2 : mset (cset M2 κ2) σ 2 = .inl (7, L, .inl xs) := (if_pos (by decide)).trans ((cset_o (by omega)).trans ((e2 2 (by omega)).trans ((if_pos (by decide)).trans h2)))
  refine Wp.n (pc' := 1153) 5 rfl ?_
  refine Wp.iaddN (x := i) (y := 1) (len := 1) rfl ?_
  refine Wp.ialdN (j := i + 1) (len := 1) rfl (s2) rfl (by omega) (by omega) ?_
  refine Wp.n (pc' := 1158) 3 rfl ?_
  refine Wp.iaddN (x := i) (y := 2) (len := 1) rfl ?_
  refine Wp.ialdN (j := i + 2) (len := 1) rfl (s2) rfl (by omega) (by omega) ?_
  refine Wp.n (pc' := 1163) 3 rfl ?_
  refine Wp.iaddN (x := i) (y := 3) (len := 1) rfl ?_
  refine Wp.ialdN (j := i + 3) (len := 1) rfl (s2) rfl (by omega) (by omega) ?_
  refine Wp.callV (len := 3) rfl rfl rfl (rfl) rfl (by decide) rfl (Wp.mono (m_bend hM.1 hZ.1.2.1 _ _ _) (fun v M' r => MQ_s hM r)) ?_
  rintro _ _ ⟨rfl, σ2, rfl, hM2⟩
  refine Wp.n (pc' := 1763) 2 rfl ?_
  exact kk M2 κ2 σ2 _ hC2 hM2 (hZ) (fun q hq => (e2 q (Or.inl hq)).trans (if_pos (by omega)))
theorem L_duke (hi : i + 6 ≤ L) (hL : L ≤ 3072) (h2 : M 2 = .inl (7, L, .inl xs)) (hC : CI M κ Z) (hM : MI σ Z) (hZ : ZG Z) (kk : LK M i Q) : Wp 60 md_263 1172 [some (.ref 2), some (.ref 32), some (.ref 287), some (.int (nI i))] [] (mset (cset M κ) σ) Q := by
  obtain ⟨K, I, S, T, f⟩ := Z
  rw [ms_cs]
  have hC1 := CI_ms (σ := σ) hC
  obtain ⟨ow, hDo⟩ := hC1.1.1
  have s1 : cset (mset M σ) κ 2 = .inl (7, L, .inl xs) := (cset_o (by omega)).trans ((if_pos (by decide)).trans h2)
  refine Wp.n (pc' := 1176) 4 rfl ?_
  refine Wp.iaddN (x := i) (y := 1) (len := 1) rfl ?_
  refine Wp.ialdN (j := i + 1) (len := 1) rfl (s1) rfl (by omega) (by omega) ?_
  refine Wp.callV (len := 3) rfl rfl rfl ((cset_o (by omega)).trans hDo) rfl (by decide) rfl (Wp.mono (k_duke ⟨hC1.1, hC1.2.2.2.1, hC1.2.2.2.2.1⟩ hZ.1.1 hZ.1.2.1 _) (fun v M' r => CR_d hC1 r)) ?_
  rintro _ _ ⟨rfl, M2, κ2, rfl, hC2, e2⟩
  rw [ms_ab e2]
  have s2 : mset (cset M2 κ2) σ 2 = .inl (7, L, .inl xs) := (if_pos (by decide)).trans ((cset_o (by omega)).trans ((e2 2 (by omega)).trans ((if_pos (by decide)).trans h2)))
  refine Wp.n (pc' := 1186) 5 rfl ?_
  refine Wp.iaddN (x := i) (y := 1) (len := 1) rfl ?_
  refine Wp.ialdN (j := i + 1) (len := 1) rfl (s2) rfl (by omega) (by omega) ?_
  refine Wp.callV (len := 3) rfl rfl rfl (rfl) rfl (by decide) rfl (Wp.mono (m_duke hM.1 hZ.1.2.1 _) (fun v M' r => MQ_s hM r)) ?_
  rintro _ _ ⟨rfl, σ2, rfl, hM2⟩
  refine Wp.n (pc' := 1763) 2 rfl ?_
  exact kk M2 κ2 σ2 _ hC2 hM2 (hZ) (fun q hq => (e2 q (Or.inl hq)).trans (if_pos (by omega)))
theorem L_watchers (hi : i + 6 ≤ L) (hL : L ≤ 3072) (h2 : M 2 = .inl (7, L, .inl xs)) (hC : CI M κ Z) (hM : MI σ Z) (hZ : ZG Z) (kk : LK M i Q) : Wp 60 md_263 1195 [some (.ref 2), some (.ref 32), some (.ref 287), some (.int (nI i))] [] (mset (cset M κ) σ) Q := by
  obtain ⟨K, I, S, T, f⟩ := Z
  rw [ms_cs]
  have hC1 := CI_ms (σ := σ) hC
  obtain ⟨ow, hDo⟩ := hC1.1.1
  have s1 : cset (mset M σ) κ 2 = .inl (7, L, .inl xs) := (cset_o (by omega)).trans ((if_pos (by decide)).trans h2)
  refine Wp.n (pc' := 1199) 4 rfl ?_
  refine Wp.iaddN (x := i) (y := 1) (len := 1) rfl ?_
  refine Wp.ialdN (j := i + 1) (len := 1) rfl (s1) rfl (by omega) (by omega) ?_
  refine Wp.callV (len := 3) rfl rfl rfl ((cset_o (by omega)).trans hDo) rfl (by decide) rfl (C_watchers hC1 hZ.1.1) ?_
  rintro _ _ ⟨a, ha, rfl, M2, κ2, rfl, hC2, e2⟩
  rw [ms_ab e2]
  have s2 : mset (cset M2 κ2) σ 2 = .inl (7, L, .inl xs) := (if_pos (by decide)).trans ((cset_o (by omega)).trans ((e2 2 (by omega)).trans ((if_pos (by decide)).trans h2)))
  refine Wp.n (pc' := 1209) 5 rfl ?_
  refine Wp.iaddN (x := i) (y := 1) (len := 1) rfl ?_
  refine Wp.ialdN (j := i + 1) (len := 1) rfl (s2) rfl (by omega) (by omega) ?_
  refine Wp.callV (len := 3) rfl rfl rfl (rfl) rfl (by decide) rfl (Wp.mono (m_watchers hM.1 _) (fun v M' r => MQ_s hM r)) ?_
  rintro _ _ ⟨rfl, σ2, rfl, hM2⟩
  refine Wp.n (pc' := 1763) 2 rfl ?_
  exact kk M2 κ2 σ2 _ hC2 hM2 (hZ) (fun q hq => (e2 q (Or.inl hq)).trans (if_pos (by omega)))
end LCB
end
section
/-! THE LAW: its cases, c. -/
section LCC
variable {L i : Nat} {xs : Nat → Int32} {M : AM} {κ : CS} {σ : MS} {Z : Zt} {Q : Option Value → AM → Prop}
theorem L_by (hi : i + 6 ≤ L) (hL : L ≤ 3072) (h2 : M 2 = .inl (7, L, .inl xs)) (hC : CI M κ Z) (hM : MI σ Z) (hZ : ZG Z) (kk : LK M i Q) : Wp 60 md_263 1218 [some (.ref 2), some (.ref 32), some (.ref 287), some (.int (nI i))] [] (mset (cset M κ) σ) Q := by
  obtain ⟨K, I, S, T, f⟩ := Z
  rw [ms_cs]
  have hC1 := CI_ms (σ := σ) hC
  obtain ⟨ow, hDo⟩ := hC1.1.1
  have s1 : cset (mset M σ) κ 2 = .inl (7, L, .inl xs) := (cset_o (by omega)).trans ((if_pos (by decide)).trans h2)
  refine Wp.n (pc' := 1222) 4 rfl ?_
  refine Wp.iaddN (x := i) (y := 1) (len := 1) rfl ?_
  refine Wp.ialdN (j := i + 1) (len := 1) rfl (s1) rfl (by omega) (by omega) ?_
  refine Wp.n (pc' := 1227) 3 rfl ?_
  refine Wp.iaddN (x := i) (y := 2) (len := 1) rfl ?_
  refine Wp.ialdN (j := i + 2) (len := 1) rfl (s1) rfl (by omega) (by omega) ?_
  refine Wp.callV (len := 3) rfl rfl rfl ((cset_o (by omega)).trans hDo) rfl (by decide) rfl (Wp.mono (k_by ⟨hC1.1, hC1.2.2.2.1, hC1.2.2.2.2.1⟩ hZ.1.1 _ _) (fun v M' r => CR_d hC1 r)) ?_
  rintro _ _ ⟨rfl, M2, κ2, rfl, hC2, e2⟩
  rw [ms_ab e2]
  have s2 : mset (cset M2 κ2) σ 2 = .inl (7, L, .inl xs) := (if_pos (by decide)).trans ((cset_o (by omega)).trans ((e2 2 (by omega)).trans ((if_pos (by decide)).trans h2)))
  refine Wp.n (pc' := 1237) 5 rfl ?_
  refine Wp.iaddN (x := i) (y := 1) (len := 1) rfl ?_
  refine Wp.ialdN (j := i + 1) (len := 1) rfl (s2) rfl (by omega) (by omega) ?_
  refine Wp.n (pc' := 1242) 3 rfl ?_
  refine Wp.iaddN (x := i) (y := 2) (len := 1) rfl ?_
  refine Wp.ialdN (j := i + 2) (len := 1) rfl (s2) rfl (by omega) (by omega) ?_
  refine Wp.callV (len := 3) rfl rfl rfl (rfl) rfl (by decide) rfl (Wp.mono (m_by hM.1 _ _) (fun v M' r => MQ_s hM r)) ?_
  rintro _ _ ⟨rfl, σ2, rfl, hM2⟩
  refine Wp.n (pc' := 1763) 2 rfl ?_
  exact kk M2 κ2 σ2 _ hC2 hM2 (hZ) (fun q hq => (e2 q (Or.inl hq)).trans (if_pos (by omega)))
theorem L_rate (hi : i + 6 ≤ L) (hL : L ≤ 3072) (h2 : M 2 = .inl (7, L, .inl xs)) (hC : CI M κ Z) (hM : MI σ Z) (hZ : ZG Z) (kk : LK M i Q) : Wp 60 md_263 1251 [some (.ref 2), some (.ref 32), some (.ref 287), some (.int (nI i))] [] (mset (cset M κ) σ) Q := by
  obtain ⟨K, I, S, T, f⟩ := Z
  rw [ms_cs]
  have hC1 := CI_ms (σ := σ) hC
  obtain ⟨ow, hDo⟩ := hC1.1.1
  have s1 : cset (mset M σ) κ 2 = .inl (7, L, .inl xs) := (cset_o (by omega)).trans ((if_pos (by decide)).trans h2)
  refine Wp.n (pc' := 1255) 4 rfl ?_
  refine Wp.iaddN (x := i) (y := 1) (len := 1) rfl ?_
  refine Wp.ialdN (j := i + 1) (len := 1) rfl (s1) rfl (by omega) (by omega) ?_
  refine Wp.callV (len := 3) rfl rfl rfl ((cset_o (by omega)).trans hDo) rfl (by decide) rfl (Wp.mono (k_rate ⟨hC1.1, hC1.2.2.2.1, hC1.2.2.2.2.1⟩ hZ.1.1 _) (fun v M' r => CR_d hC1 r)) ?_
  rintro _ _ ⟨rfl, M2, κ2, rfl, hC2, e2⟩
  rw [ms_ab e2]
  have s2 : mset (cset M2 κ2) σ 2 = .inl (7, L, .inl xs) := (if_pos (by decide)).trans ((cset_o (by omega)).trans ((e2 2 (by omega)).trans ((if_pos (by decide)).trans h2)))
  refine Wp.n (pc' := 1265) 5 rfl ?_
  refine Wp.iaddN (x := i) (y := 1) (len := 1) rfl ?_
  refine Wp.ialdN (j := i + 1) (len := 1) rfl (s2) rfl (by omega) (by omega) ?_
  refine Wp.callV (len := 3) rfl rfl rfl (rfl) rfl (by decide) rfl (Wp.mono (m_rate hM.1 _) (fun v M' r => MQ_s hM r)) ?_
  rintro _ _ ⟨rfl, σ2, rfl, hM2⟩
  refine Wp.n (pc' := 1763) 2 rfl ?_
  exact kk M2 κ2 σ2 _ hC2 hM2 (hZ) (fun q hq => (e2 q (Or.inl hq)).trans (if_pos (by omega)))
theorem L_law (hi : i + 6 ≤ L) (hL : L ≤ 3072) (h2 : M 2 = .inl (7, L, .inl xs)) (hC : CI M κ Z) (hM : MI σ Z) (hZ : ZG Z) (kk : LK M i Q) : Wp 60 md_263 1274 [some (.ref 2), some (.ref 32), some (.ref 287), some (.int (nI i))] [] (mset (cset M κ) σ) Q := by
  obtain ⟨K, I, S, T, f⟩ := Z
  rw [ms_cs]
  have hC1 := CI_ms (σ := σ) hC
  obtain ⟨ow, hDo⟩ := hC1.1.1
  have s1 : cset (mset M σ) κ 2 = .inl (7, L, .inl xs) := (cset_o (by omega)).trans ((if_pos (by decide)).trans h2)
  refine Wp.n (pc' := 1278) 4 rfl ?_
  refine Wp.iaddN (x := i) (y := 1) (len := 1) rfl ?_
  refine Wp.ialdN (j := i + 1) (len := 1) rfl (s1) rfl (by omega) (by omega) ?_
  refine Wp.n (pc' := 1283) 3 rfl ?_
  refine Wp.iaddN (x := i) (y := 2) (len := 1) rfl ?_
  refine Wp.ialdN (j := i + 2) (len := 1) rfl (s1) rfl (by omega) (by omega) ?_
  refine Wp.callV (len := 3) rfl rfl rfl ((cset_o (by omega)).trans hDo) rfl (by decide) rfl (C_law hC1) ?_
  rintro _ _ ⟨rfl, M2, κ2, rfl, hC2, e2⟩
  rw [ms_ab e2]
  have s2 : mset (cset M2 κ2) σ 2 = .inl (7, L, .inl xs) := (if_pos (by decide)).trans ((cset_o (by omega)).trans ((e2 2 (by omega)).trans ((if_pos (by decide)).trans h2)))
  refine Wp.n (pc' := 1293) 5 rfl ?_
  refine Wp.iaddN (x := i) (y := 1) (len := 1) rfl ?_
  refine Wp.ialdN (j := i + 1) (len := 1) rfl (s2) rfl (by omega) (by omega) ?_
  refine Wp.n (pc' := 1298) 3 rfl ?_
  refine Wp.iaddN (x := i) (y := 2) (len := 1) rfl ?_
  refine Wp.ialdN (j := i + 2) (len := 1) rfl (s2) rfl (by omega) (by omega) ?_
  refine Wp.callV (len := 3) rfl rfl rfl (rfl) rfl (by decide) rfl (D_law hM) ?_
  rintro _ _ ⟨rfl, σ2, rfl, hM2⟩
  refine Wp.n (pc' := 1763) 2 rfl ?_
  exact kk M2 κ2 σ2 _ hC2 hM2 (⟨KG_law hZ.1, hZ.2⟩) (fun q hq => (e2 q (Or.inl hq)).trans (if_pos (by omega)))
theorem L_paid (hi : i + 6 ≤ L) (hL : L ≤ 3072) (h2 : M 2 = .inl (7, L, .inl xs)) (hC : CI M κ Z) (hM : MI σ Z) (hZ : ZG Z) (kk : LK M i Q) : Wp 60 md_263 1307 [some (.ref 2), some (.ref 32), some (.ref 287), some (.int (nI i))] [] (mset (cset M κ) σ) Q := by
  obtain ⟨K, I, S, T, f⟩ := Z
  rw [ms_cs]
  have hC1 := CI_ms (σ := σ) hC
  obtain ⟨ow, hDo⟩ := hC1.1.1
  have s1 : cset (mset M σ) κ 2 = .inl (7, L, .inl xs) := (cset_o (by omega)).trans ((if_pos (by decide)).trans h2)
  refine Wp.n (pc' := 1311) 4 rfl ?_
  refine Wp.iaddN (x := i) (y := 1) (len := 1) rfl ?_
  refine Wp.ialdN (j := i + 1) (len := 1) rfl (s1) rfl (by omega) (by omega) ?_
  refine Wp.n (pc' := 1316) 3 rfl ?_
  refine Wp.iaddN (x := i) (y := 2) (len := 1) rfl ?_
  refine Wp.ialdN (j := i + 2) (len := 1) rfl (s1) rfl (by omega) (by omega) ?_
  refine Wp.callV (len := 3) rfl rfl rfl ((cset_o (by omega)).trans hDo) rfl (by decide) rfl (Wp.mono (k_paid hC1.1 hC1.2.2.2.1 hZ.1.1 _ _) (fun v M' r => CR_s hC1 r)) ?_
  rintro _ _ ⟨rfl, M2, κ2, rfl, hC2, e2⟩
  rw [ms_ab e2]
  have s2 : mset (cset M2 κ2) σ 2 = .inl (7, L, .inl xs) := (if_pos (by decide)).trans ((cset_o (by omega)).trans ((e2 2 (by omega)).trans ((if_pos (by decide)).trans h2)))
  refine Wp.n (pc' := 1326) 5 rfl ?_
  refine Wp.iaddN (x := i) (y := 1) (len := 1) rfl ?_
  refine Wp.ialdN (j := i + 1) (len := 1) rfl (s2) rfl (by omega) (by omega) ?_
  refine Wp.n (pc' := 1331) 3 rfl ?_
  refine Wp.iaddN (x := i) (y := 2) (len := 1) rfl ?_
  refine Wp.ialdN (j := i + 2) (len := 1) rfl (s2) rfl (by omega) (by omega) ?_
  refine Wp.callV (len := 3) rfl rfl rfl (rfl) rfl (by decide) rfl (Wp.mono (m_paid hM.1 _ _) (fun v M' r => MQ_s hM r)) ?_
  rintro _ _ ⟨rfl, σ2, rfl, hM2⟩
  refine Wp.n (pc' := 1763) 2 rfl ?_
  exact kk M2 κ2 σ2 _ hC2 hM2 (hZ) (fun q hq => (e2 q (Or.inl hq)).trans (if_pos (by omega)))
theorem L_sure (hi : i + 6 ≤ L) (hL : L ≤ 3072) (h2 : M 2 = .inl (7, L, .inl xs)) (hC : CI M κ Z) (hM : MI σ Z) (hZ : ZG Z) (kk : LK M i Q) : Wp 60 md_263 1340 [some (.ref 2), some (.ref 32), some (.ref 287), some (.int (nI i))] [] (mset (cset M κ) σ) Q := by
  obtain ⟨K, I, S, T, f⟩ := Z
  rw [ms_cs]
  have hC1 := CI_ms (σ := σ) hC
  obtain ⟨ow, hDo⟩ := hC1.1.1
  have s1 : cset (mset M σ) κ 2 = .inl (7, L, .inl xs) := (cset_o (by omega)).trans ((if_pos (by decide)).trans h2)
  refine Wp.n (pc' := 1344) 4 rfl ?_
  refine Wp.iaddN (x := i) (y := 1) (len := 1) rfl ?_
  refine Wp.ialdN (j := i + 1) (len := 1) rfl (s1) rfl (by omega) (by omega) ?_
  refine Wp.n (pc' := 1349) 3 rfl ?_
  refine Wp.iaddN (x := i) (y := 2) (len := 1) rfl ?_
  refine Wp.ialdN (j := i + 2) (len := 1) rfl (s1) rfl (by omega) (by omega) ?_
  refine Wp.callV (len := 3) rfl rfl rfl ((cset_o (by omega)).trans hDo) rfl (by decide) rfl (Wp.mono (k_sure hC1.1 hC1.2.2.2.1 hZ.1.1 _ _) (fun v M' r => CR_s hC1 r)) ?_
  rintro _ _ ⟨rfl, M2, κ2, rfl, hC2, e2⟩
  rw [ms_ab e2]
  have s2 : mset (cset M2 κ2) σ 2 = .inl (7, L, .inl xs) := (if_pos (by decide)).trans ((cset_o (by omega)).trans ((e2 2 (by omega)).trans ((if_pos (by decide)).trans h2)))
  refine Wp.n (pc' := 1359) 5 rfl ?_
  refine Wp.iaddN (x := i) (y := 1) (len := 1) rfl ?_
  refine Wp.ialdN (j := i + 1) (len := 1) rfl (s2) rfl (by omega) (by omega) ?_
  refine Wp.n (pc' := 1364) 3 rfl ?_
  refine Wp.iaddN (x := i) (y := 2) (len := 1) rfl ?_
  refine Wp.ialdN (j := i + 2) (len := 1) rfl (s2) rfl (by omega) (by omega) ?_
  refine Wp.callV (len := 3) rfl rfl rfl (rfl) rfl (by decide) rfl (Wp.mono (m_sure hM.1 _ _) (fun v M' r => MQ_s hM r)) ?_
  rintro _ _ ⟨rfl, σ2, rfl, hM2⟩
  refine Wp.n (pc' := 1763) 2 rfl ?_
  exact kk M2 κ2 σ2 _ hC2 hM2 (hZ) (fun q hq => (e2 q (Or.inl hq)).trans (if_pos (by omega)))
theorem L_ford (hi : i + 6 ≤ L) (hL : L ≤ 3072) (h2 : M 2 = .inl (7, L, .inl xs)) (hC : CI M κ Z) (hM : MI σ Z) (hZ : ZG Z) (kk : LK M i Q) : Wp 60 md_263 1373 [some (.ref 2), some (.ref 32), some (.ref 287), some (.int (nI i))] [] (mset (cset M κ) σ) Q := by
  obtain ⟨K, I, S, T, f⟩ := Z
  rw [ms_cs]
  have hC1 := CI_ms (σ := σ) hC
  obtain ⟨ow, hDo⟩ := hC1.1.1
  have s1 : cset (mset M σ) κ 2 = .inl (7, L, .inl xs) := (cset_o (by omega)).trans ((if_pos (by decide)).trans h2)
  refine Wp.n (pc' := 1377) 4 rfl ?_
  refine Wp.iaddN (x := i) (y := 1) (len := 1) rfl ?_
  refine Wp.ialdN (j := i + 1) (len := 1) rfl (s1) rfl (by omega) (by omega) ?_
  refine Wp.callV (len := 3) rfl rfl rfl ((cset_o (by omega)).trans hDo) rfl (by decide) rfl (Wp.mono (k_ford hC1.1 hC1.2.2.2.1 hZ.1.1 hC1.2.2.2.2.2.2.1 _) (fun v M' r => CR_s hC1 r)) ?_
  rintro _ _ ⟨rfl, M2, κ2, rfl, hC2, e2⟩
  rw [ms_ab e2]
  have s2 : mset (cset M2 κ2) σ 2 = .inl (7, L, .inl xs) := (if_pos (by decide)).trans ((cset_o (by omega)).trans ((e2 2 (by omega)).trans ((if_pos (by decide)).trans h2)))
  refine Wp.n (pc' := 1387) 5 rfl ?_
  refine Wp.iaddN (x := i) (y := 1) (len := 1) rfl ?_
  refine Wp.ialdN (j := i + 1) (len := 1) rfl (s2) rfl (by omega) (by omega) ?_
  refine Wp.callV (len := 3) rfl rfl rfl (rfl) rfl (by decide) rfl (Wp.mono (m_ford hM.1 hM.2.2.1 _) (fun v M' r => MQ_s hM r)) ?_
  rintro _ _ ⟨rfl, σ2, rfl, hM2⟩
  refine Wp.n (pc' := 1763) 2 rfl ?_
  exact kk M2 κ2 σ2 _ hC2 hM2 (hZ) (fun q hq => (e2 q (Or.inl hq)).trans (if_pos (by omega)))
theorem L_must (hi : i + 6 ≤ L) (hL : L ≤ 3072) (h2 : M 2 = .inl (7, L, .inl xs)) (hC : CI M κ Z) (hM : MI σ Z) (hZ : ZG Z) (kk : LK M i Q) : Wp 60 md_263 1396 [some (.ref 2), some (.ref 32), some (.ref 287), some (.int (nI i))] [] (mset (cset M κ) σ) Q := by
  obtain ⟨K, I, S, T, f⟩ := Z
  rw [ms_cs]
  have hC1 := CI_ms (σ := σ) hC
  obtain ⟨ow, hDo⟩ := hC1.1.1
  have s1 : cset (mset M σ) κ 2 = .inl (7, L, .inl xs) := (cset_o (by omega)).trans ((if_pos (by decide)).trans h2)
  refine Wp.n (pc' := 1400) 4 rfl ?_
  refine Wp.iaddN (x := i) (y := 1) (len := 1) rfl ?_
  refine Wp.ialdN (j := i + 1) (len := 1) rfl (s1) rfl (by omega) (by omega) ?_
  refine Wp.n (pc' := 1405) 3 rfl ?_
  refine Wp.iaddN (x := i) (y := 2) (len := 1) rfl ?_
  refine Wp.ialdN (j := i + 2) (len := 1) rfl (s1) rfl (by omega) (by omega) ?_
  refine Wp.n (pc' := 1410) 3 rfl ?_
  refine Wp.iaddN (x := i) (y := 3) (len := 1) rfl ?_
  refine Wp.ialdN (j := i + 3) (len := 1) rfl (s1) rfl (by omega) (by omega) ?_
  refine Wp.n (pc' := 1415) 3 rfl ?_
  refine Wp.iaddN (x := i) (y := 4) (len := 1) rfl ?_
  refine Wp.ialdN (j := i + 4) (len := 1) rfl (s1) rfl (by omega) (by omega) ?_
  refine Wp.callV (len := 3) rfl rfl rfl ((cset_o (by omega)).trans hDo) rfl (by decide) rfl (Wp.mono (k_must ⟨hC1.1, hC1.2.2.2.1, hC1.2.2.2.2.1⟩ hZ.1.1 hZ.1.2.2 _ _ _ _) (fun v M' r => CR_d hC1 r)) ?_
  rintro _ _ ⟨rfl, M2, κ2, rfl, hC2, e2⟩
  rw [ms_ab e2]
  have s2 : mset (cset M2 κ2) σ 2 = .inl (7, L, .inl xs) := (if_pos (by decide)).trans ((cset_o (by omega)).trans ((e2 2 (by omega)).trans ((if_pos (by decide)).trans h2)))
  refine Wp.n (pc' := 1425) 5 rfl ?_
  refine Wp.iaddN (x := i) (y := 1) (len := 1) rfl ?_
  refine Wp.ialdN (j := i + 1) (len := 1) rfl (s2) rfl (by omega) (by omega) ?_
  refine Wp.n (pc' := 1430) 3 rfl ?_
  refine Wp.iaddN (x := i) (y := 2) (len := 1) rfl ?_
  refine Wp.ialdN (j := i + 2) (len := 1) rfl (s2) rfl (by omega) (by omega) ?_
  refine Wp.n (pc' := 1435) 3 rfl ?_
  refine Wp.iaddN (x := i) (y := 3) (len := 1) rfl ?_
  refine Wp.ialdN (j := i + 3) (len := 1) rfl (s2) rfl (by omega) (by omega) ?_
  refine Wp.n (pc' := 1440) 3 rfl ?_
  refine Wp.iaddN (x := i) (y := 4) (len := 1) rfl ?_
  refine Wp.ialdN (j := i + 4) (len := 1) rfl (s2) rfl (by omega) (by omega) ?_
  refine Wp.callV (len := 3) rfl rfl rfl (rfl) rfl (by decide) rfl (Wp.mono (m_must hM.1 hZ.1.1 _ _ _ _) (fun v M' r => MQ_l hM hZ.1.1 r)) ?_
  rintro _ _ ⟨rfl, σ2, rfl, hM2⟩
  refine Wp.n (pc' := 1763) 2 rfl ?_
  exact kk M2 κ2 σ2 _ hC2 hM2 (hZ) (fun q hq => (e2 q (Or.inl hq)).trans (if_pos (by omega)))
theorem L_seen (hi : i + 6 ≤ L) (hL : L ≤ 3072) (h2 : M 2 = .inl (7, L, .inl xs)) (hC : CI M κ Z) (hM : MI σ Z) (hZ : ZG Z) (kk : LK M i Q) : Wp 60 md_263 1449 [some (.ref 2), some (.ref 32), some (.ref 287), some (.int (nI i))] [] (mset (cset M κ) σ) Q := by
  obtain ⟨K, I, S, T, f⟩ := Z
  rw [ms_cs]
  have hC1 := CI_ms (σ := σ) hC
  obtain ⟨ow, hDo⟩ := hC1.1.1
  have s1 : cset (mset M σ) κ 2 = .inl (7, L, .inl xs) := (cset_o (by omega)).trans ((if_pos (by decide)).trans h2)
  refine Wp.n (pc' := 1453) 4 rfl ?_
  refine Wp.iaddN (x := i) (y := 1) (len := 1) rfl ?_
  refine Wp.ialdN (j := i + 1) (len := 1) rfl (s1) rfl (by omega) (by omega) ?_
  refine Wp.n (pc' := 1458) 3 rfl ?_
  refine Wp.iaddN (x := i) (y := 2) (len := 1) rfl ?_
  refine Wp.ialdN (j := i + 2) (len := 1) rfl (s1) rfl (by omega) (by omega) ?_
  refine Wp.callV (len := 3) rfl rfl rfl ((cset_o (by omega)).trans hDo) rfl (by decide) rfl (Wp.mono (k_seen hC1.1 hC1.2.2.2.1 _ _) (fun v M' r => CR_s hC1 r)) ?_
  rintro _ _ ⟨rfl, M2, κ2, rfl, hC2, e2⟩
  rw [ms_ab e2]
  have s2 : mset (cset M2 κ2) σ 2 = .inl (7, L, .inl xs) := (if_pos (by decide)).trans ((cset_o (by omega)).trans ((e2 2 (by omega)).trans ((if_pos (by decide)).trans h2)))
  refine Wp.n (pc' := 1468) 5 rfl ?_
  refine Wp.iaddN (x := i) (y := 1) (len := 1) rfl ?_
  refine Wp.ialdN (j := i + 1) (len := 1) rfl (s2) rfl (by omega) (by omega) ?_
  refine Wp.n (pc' := 1473) 3 rfl ?_
  refine Wp.iaddN (x := i) (y := 2) (len := 1) rfl ?_
  refine Wp.ialdN (j := i + 2) (len := 1) rfl (s2) rfl (by omega) (by omega) ?_
  refine Wp.callV (len := 3) rfl rfl rfl (rfl) rfl (by decide) rfl (Wp.mono (m_seen hM.1 _ _) (fun v M' r => MQ_s hM r)) ?_
  rintro _ _ ⟨rfl, σ2, rfl, hM2⟩
  refine Wp.n (pc' := 1763) 2 rfl ?_
  exact kk M2 κ2 σ2 _ hC2 hM2 (hZ) (fun q hq => (e2 q (Or.inl hq)).trans (if_pos (by omega)))
theorem L_caught (hi : i + 6 ≤ L) (hL : L ≤ 3072) (h2 : M 2 = .inl (7, L, .inl xs)) (hC : CI M κ Z) (hM : MI σ Z) (hZ : ZG Z) (kk : LK M i Q) : Wp 60 md_263 1482 [some (.ref 2), some (.ref 32), some (.ref 287), some (.int (nI i))] [] (mset (cset M κ) σ) Q := by
  obtain ⟨K, I, S, T, f⟩ := Z
  rw [ms_cs]
  have hC1 := CI_ms (σ := σ) hC
  obtain ⟨ow, hDo⟩ := hC1.1.1
  have s1 : cset (mset M σ) κ 2 = .inl (7, L, .inl xs) := (cset_o (by omega)).trans ((if_pos (by decide)).trans h2)
  refine Wp.n (pc' := 1486) 4 rfl ?_
  refine Wp.iaddN (x := i) (y := 1) (len := 1) rfl ?_
  refine Wp.ialdN (j := i + 1) (len := 1) rfl (s1) rfl (by omega) (by omega) ?_
  refine Wp.n (pc' := 1491) 3 rfl ?_
  refine Wp.iaddN (x := i) (y := 2) (len := 1) rfl ?_
  refine Wp.ialdN (j := i + 2) (len := 1) rfl (s1) rfl (by omega) (by omega) ?_
  refine Wp.callV (len := 3) rfl rfl rfl ((cset_o (by omega)).trans hDo) rfl (by decide) rfl (Wp.mono (k_caught hC1.1 hC1.2.2.2.1 _ _) (fun v M' r => CR_s hC1 r)) ?_
  rintro _ _ ⟨rfl, M2, κ2, rfl, hC2, e2⟩
  rw [ms_ab e2]
  have s2 : mset (cset M2 κ2) σ 2 = .inl (7, L, .inl xs) := (if_pos (by decide)).trans ((cset_o (by omega)).trans ((e2 2 (by omega)).trans ((if_pos (by decide)).trans h2)))
  refine Wp.n (pc' := 1501) 5 rfl ?_
  refine Wp.iaddN (x := i) (y := 1) (len := 1) rfl ?_
  refine Wp.ialdN (j := i + 1) (len := 1) rfl (s2) rfl (by omega) (by omega) ?_
  refine Wp.n (pc' := 1506) 3 rfl ?_
  refine Wp.iaddN (x := i) (y := 2) (len := 1) rfl ?_
  refine Wp.ialdN (j := i + 2) (len := 1) rfl (s2) rfl (by omega) (by omega) ?_
  refine Wp.callV (len := 3) rfl rfl rfl (rfl) rfl (by decide) rfl (Wp.mono (m_caught hM.1 _ _) (fun v M' r => MQ_s hM r)) ?_
  rintro _ _ ⟨rfl, σ2, rfl, hM2⟩
  refine Wp.n (pc' := 1763) 2 rfl ?_
  exact kk M2 κ2 σ2 _ hC2 hM2 (hZ) (fun q hq => (e2 q (Or.inl hq)).trans (if_pos (by omega)))
theorem L_count (hi : i + 6 ≤ L) (hL : L ≤ 3072) (h2 : M 2 = .inl (7, L, .inl xs)) (hC : CI M κ Z) (hM : MI σ Z) (hZ : ZG Z) (kk : LK M i Q) : Wp 60 md_263 1515 [some (.ref 2), some (.ref 32), some (.ref 287), some (.int (nI i))] [] (mset (cset M κ) σ) Q := by
  obtain ⟨K, I, S, T, f⟩ := Z
  rw [ms_cs]
  have hC1 := CI_ms (σ := σ) hC
  obtain ⟨ow, hDo⟩ := hC1.1.1
  have s1 : cset (mset M σ) κ 2 = .inl (7, L, .inl xs) := (cset_o (by omega)).trans ((if_pos (by decide)).trans h2)
  refine Wp.n (pc' := 1519) 4 rfl ?_
  refine Wp.iaddN (x := i) (y := 1) (len := 1) rfl ?_
  refine Wp.ialdN (j := i + 1) (len := 1) rfl (s1) rfl (by omega) (by omega) ?_
  refine Wp.callV (len := 3) rfl rfl rfl ((cset_o (by omega)).trans hDo) rfl (by decide) rfl (CR_e hC1 (k_count hC1.1 hC1.2.2.2.1 hZ.1.1 hC1.2.2.2.2.2.2.1 hC1.2.2.2.2.2.2.2.1 _)) ?_
  rintro _ _ ⟨rfl, M2, κ2, rfl, hC2, e2⟩
  rw [ms_ab e2]
  have s2 : mset (cset M2 κ2) σ 2 = .inl (7, L, .inl xs) := (if_pos (by decide)).trans ((cset_o (by omega)).trans ((e2 2 (by omega)).trans ((if_pos (by decide)).trans h2)))
  refine Wp.n (pc' := 1529) 5 rfl ?_
  refine Wp.iaddN (x := i) (y := 1) (len := 1) rfl ?_
  refine Wp.ialdN (j := i + 1) (len := 1) rfl (s2) rfl (by omega) (by omega) ?_
  refine Wp.callV (len := 3) rfl rfl rfl (rfl) rfl (by decide) rfl (MQ_e hM (m_count hM.1 hM.2.2.1 hM.2.2.2.1 _)) ?_
  rintro _ _ ⟨rfl, σ2, rfl, hM2⟩
  refine Wp.n (pc' := 1763) 2 rfl ?_
  exact kk M2 κ2 σ2 _ hC2 hM2 (hZ) (fun q hq => (e2 q (Or.inl hq)).trans (if_pos (by omega)))
theorem L_keep (hi : i + 6 ≤ L) (hL : L ≤ 3072) (h2 : M 2 = .inl (7, L, .inl xs)) (hC : CI M κ Z) (hM : MI σ Z) (hZ : ZG Z) (kk : LK M i Q) : Wp 60 md_263 1538 [some (.ref 2), some (.ref 32), some (.ref 287), some (.int (nI i))] [] (mset (cset M κ) σ) Q := by
  obtain ⟨K, I, S, T, f⟩ := Z
  rw [ms_cs]
  have hC1 := CI_ms (σ := σ) hC
  obtain ⟨ow, hDo⟩ := hC1.1.1
  have s1 : cset (mset M σ) κ 2 = .inl (7, L, .inl xs) := (cset_o (by omega)).trans ((if_pos (by decide)).trans h2)
  refine Wp.n (pc' := 1542) 4 rfl ?_
  refine Wp.iaddN (x := i) (y := 1) (len := 1) rfl ?_
  refine Wp.ialdN (j := i + 1) (len := 1) rfl (s1) rfl (by omega) (by omega) ?_
  refine Wp.callV (len := 3) rfl rfl rfl ((cset_o (by omega)).trans hDo) rfl (by decide) rfl (C_keep hC1 hZ.1.1) ?_
  rintro _ _ ⟨rfl, M2, κ2, rfl, hC2, e2⟩
  rw [ms_ab e2]
  have s2 : mset (cset M2 κ2) σ 2 = .inl (7, L, .inl xs) := (if_pos (by decide)).trans ((cset_o (by omega)).trans ((e2 2 (by omega)).trans ((if_pos (by decide)).trans h2)))
  refine Wp.n (pc' := 1552) 5 rfl ?_
  refine Wp.iaddN (x := i) (y := 1) (len := 1) rfl ?_
  refine Wp.ialdN (j := i + 1) (len := 1) rfl (s2) rfl (by omega) (by omega) ?_
  refine Wp.callV (len := 3) rfl rfl rfl (rfl) rfl (by decide) rfl (D_keep hM hZ.1.1) ?_
  rintro _ _ ⟨rfl, σ2, rfl, hM2⟩
  refine Wp.n (pc' := 1763) 2 rfl ?_
  exact kk M2 κ2 σ2 _ hC2 hM2 (ZG_keep hZ) (fun q hq => (e2 q (Or.inl hq)).trans (if_pos (by omega)))
theorem L_back (hi : i + 6 ≤ L) (hL : L ≤ 3072) (h2 : M 2 = .inl (7, L, .inl xs)) (hC : CI M κ Z) (hM : MI σ Z) (hZ : ZG Z) (kk : LK M i Q) : Wp 60 md_263 1561 [some (.ref 2), some (.ref 32), some (.ref 287), some (.int (nI i))] [] (mset (cset M κ) σ) Q := by
  obtain ⟨K, I, S, T, f⟩ := Z
  rw [ms_cs]
  have hC1 := CI_ms (σ := σ) hC
  obtain ⟨ow, hDo⟩ := hC1.1.1
  have s1 : cset (mset M σ) κ 2 = .inl (7, L, .inl xs) := (cset_o (by omega)).trans ((if_pos (by decide)).trans h2)
  refine Wp.n (pc' := 1565) 4 rfl ?_
  refine Wp.iaddN (x := i) (y := 1) (len := 1) rfl ?_
  refine Wp.ialdN (j := i + 1) (len := 1) rfl (s1) rfl (by omega) (by omega) ?_
  refine Wp.callV (len := 3) rfl rfl rfl ((cset_o (by omega)).trans hDo) rfl (by decide) rfl (C_back hC1) ?_
  rintro _ _ ⟨rfl, M2, κ2, rfl, hC2, e2⟩
  rw [ms_ab e2]
  have s2 : mset (cset M2 κ2) σ 2 = .inl (7, L, .inl xs) := (if_pos (by decide)).trans ((cset_o (by omega)).trans ((e2 2 (by omega)).trans ((if_pos (by decide)).trans h2)))
  refine Wp.n (pc' := 1575) 5 rfl ?_
  refine Wp.iaddN (x := i) (y := 1) (len := 1) rfl ?_
  refine Wp.ialdN (j := i + 1) (len := 1) rfl (s2) rfl (by omega) (by omega) ?_
  refine Wp.callV (len := 3) rfl rfl rfl (rfl) rfl (by decide) rfl (D_back hM hZ.1.1) ?_
  rintro _ _ ⟨rfl, σ2, rfl, hM2⟩
  refine Wp.n (pc' := 1763) 2 rfl ?_
  exact kk M2 κ2 σ2 _ hC2 hM2 (⟨KG_back hZ, hZ.2⟩) (fun q hq => (e2 q (Or.inl hq)).trans (if_pos (by omega)))
theorem L_row (hi : i + 6 ≤ L) (hL : L ≤ 3072) (h2 : M 2 = .inl (7, L, .inl xs)) (hC : CI M κ Z) (hM : MI σ Z) (hZ : ZG Z) (kk : LK M i Q) : Wp 60 md_263 1584 [some (.ref 2), some (.ref 32), some (.ref 287), some (.int (nI i))] [] (mset (cset M κ) σ) Q := by
  obtain ⟨K, I, S, T, f⟩ := Z
  rw [ms_cs]
  have hC1 := CI_ms (σ := σ) hC
  obtain ⟨ow, hDo⟩ := hC1.1.1
  have s1 : cset (mset M σ) κ 2 = .inl (7, L, .inl xs) := (cset_o (by omega)).trans ((if_pos (by decide)).trans h2)
  refine Wp.n (pc' := 1588) 4 rfl ?_
  refine Wp.iaddN (x := i) (y := 1) (len := 1) rfl ?_
  refine Wp.ialdN (j := i + 1) (len := 1) rfl (s1) rfl (by omega) (by omega) ?_
  refine Wp.n (pc' := 1593) 3 rfl ?_
  refine Wp.iaddN (x := i) (y := 2) (len := 1) rfl ?_
  refine Wp.ialdN (j := i + 2) (len := 1) rfl (s1) rfl (by omega) (by omega) ?_
  refine Wp.n (pc' := 1598) 3 rfl ?_
  refine Wp.iaddN (x := i) (y := 3) (len := 1) rfl ?_
  refine Wp.ialdN (j := i + 3) (len := 1) rfl (s1) rfl (by omega) (by omega) ?_
  refine Wp.callV (len := 3) rfl rfl rfl ((cset_o (by omega)).trans hDo) rfl (by decide) rfl (C_row hC1) ?_
  rintro _ _ ⟨rfl, M2, κ2, rfl, hC2, e2⟩
  rw [ms_ab e2]
  have s2 : mset (cset M2 κ2) σ 2 = .inl (7, L, .inl xs) := (if_pos (by decide)).trans ((cset_o (by omega)).trans ((e2 2 (by omega)).trans ((if_pos (by decide)).trans h2)))
  refine Wp.n (pc' := 1608) 5 rfl ?_
  refine Wp.iaddN (x := i) (y := 1) (len := 1) rfl ?_
  refine Wp.ialdN (j := i + 1) (len := 1) rfl (s2) rfl (by omega) (by omega) ?_
  refine Wp.n (pc' := 1613) 3 rfl ?_
  refine Wp.iaddN (x := i) (y := 2) (len := 1) rfl ?_
  refine Wp.ialdN (j := i + 2) (len := 1) rfl (s2) rfl (by omega) (by omega) ?_
  refine Wp.n (pc' := 1618) 3 rfl ?_
  refine Wp.iaddN (x := i) (y := 3) (len := 1) rfl ?_
  refine Wp.ialdN (j := i + 3) (len := 1) rfl (s2) rfl (by omega) (by omega) ?_
  refine Wp.callV (len := 3) rfl rfl rfl (rfl) rfl (by decide) rfl (D_row hM) ?_
  rintro _ _ ⟨rfl, σ2, rfl, hM2⟩
  refine Wp.n (pc' := 1763) 2 rfl ?_
  exact kk M2 κ2 σ2 _ hC2 hM2 (⟨hZ.1, hZ.2⟩) (fun q hq => (e2 q (Or.inl hq)).trans (if_pos (by omega)))
theorem L_write (hi : i + 6 ≤ L) (hL : L ≤ 3072) (h2 : M 2 = .inl (7, L, .inl xs)) (hC : CI M κ Z) (hM : MI σ Z) (hZ : ZG Z) (kk : LK M i Q) : Wp 60 md_263 1627 [some (.ref 2), some (.ref 32), some (.ref 287), some (.int (nI i))] [] (mset (cset M κ) σ) Q := by
  obtain ⟨K, I, S, T, f⟩ := Z
  rw [ms_cs]
  have hC1 := CI_ms (σ := σ) hC
  obtain ⟨ow, hDo⟩ := hC1.1.1
  have s1 : cset (mset M σ) κ 2 = .inl (7, L, .inl xs) := (cset_o (by omega)).trans ((if_pos (by decide)).trans h2)
  refine Wp.n (pc' := 1631) 4 rfl ?_
  refine Wp.iaddN (x := i) (y := 1) (len := 1) rfl ?_
  refine Wp.ialdN (j := i + 1) (len := 1) rfl (s1) rfl (by omega) (by omega) ?_
  refine Wp.n (pc' := 1636) 3 rfl ?_
  refine Wp.iaddN (x := i) (y := 2) (len := 1) rfl ?_
  refine Wp.ialdN (j := i + 2) (len := 1) rfl (s1) rfl (by omega) (by omega) ?_
  refine Wp.n (pc' := 1641) 3 rfl ?_
  refine Wp.iaddN (x := i) (y := 3) (len := 1) rfl ?_
  refine Wp.ialdN (j := i + 3) (len := 1) rfl (s1) rfl (by omega) (by omega) ?_
  refine Wp.n (pc' := 1650) 6 rfl ?_
  refine Wp.iaddN (x := i) (y := 4) (len := 1) rfl ?_
  refine Wp.ialdN (j := i + 4) (len := 1) rfl (s1) rfl (by omega) (by omega) ?_
  refine Wp.n (pc' := 1658) 4 rfl ?_
  refine Wp.callV (len := 3) rfl rfl rfl ((cset_o (by omega)).trans hDo) rfl (by decide) rfl (C_write hC1) ?_
  rintro _ _ ⟨rfl, M2, κ2, rfl, hC2, e2⟩
  rw [ms_ab e2]
  have s2 : mset (cset M2 κ2) σ 2 = .inl (7, L, .inl xs) := (if_pos (by decide)).trans ((cset_o (by omega)).trans ((e2 2 (by omega)).trans ((if_pos (by decide)).trans h2)))
  refine Wp.n (pc' := 1666) 5 rfl ?_
  refine Wp.iaddN (x := i) (y := 1) (len := 1) rfl ?_
  refine Wp.ialdN (j := i + 1) (len := 1) rfl (s2) rfl (by omega) (by omega) ?_
  refine Wp.n (pc' := 1671) 3 rfl ?_
  refine Wp.iaddN (x := i) (y := 2) (len := 1) rfl ?_
  refine Wp.ialdN (j := i + 2) (len := 1) rfl (s2) rfl (by omega) (by omega) ?_
  refine Wp.n (pc' := 1676) 3 rfl ?_
  refine Wp.iaddN (x := i) (y := 3) (len := 1) rfl ?_
  refine Wp.ialdN (j := i + 3) (len := 1) rfl (s2) rfl (by omega) (by omega) ?_
  refine Wp.n (pc' := 1685) 6 rfl ?_
  refine Wp.iaddN (x := i) (y := 4) (len := 1) rfl ?_
  refine Wp.ialdN (j := i + 4) (len := 1) rfl (s2) rfl (by omega) (by omega) ?_
  refine Wp.n (pc' := 1693) 4 rfl ?_
  refine Wp.callV (len := 3) rfl rfl rfl (rfl) rfl (by decide) rfl (D_write hM) ?_
  rintro _ _ ⟨rfl, σ2, rfl, hM2⟩
  refine Wp.n (pc' := 1763) 2 rfl ?_
  exact kk M2 κ2 σ2 _ hC2 hM2 (⟨hZ.1, hZ.2⟩) (fun q hq => (e2 q (Or.inl hq)).trans (if_pos (by omega)))
theorem L_paste (hi : i + 6 ≤ L) (hL : L ≤ 3072) (h2 : M 2 = .inl (7, L, .inl xs)) (hC : CI M κ Z) (hM : MI σ Z) (hZ : ZG Z) (kk : LK M i Q) : Wp 60 md_263 1700 [some (.ref 2), some (.ref 32), some (.ref 287), some (.int (nI i))] [] (mset (cset M κ) σ) Q := by
  obtain ⟨K, I, S, T, f⟩ := Z
  rw [ms_cs]
  have hC1 := CI_ms (σ := σ) hC
  obtain ⟨ow, hDo⟩ := hC1.1.1
  have s1 : cset (mset M σ) κ 2 = .inl (7, L, .inl xs) := (cset_o (by omega)).trans ((if_pos (by decide)).trans h2)
  refine Wp.n (pc' := 1704) 4 rfl ?_
  refine Wp.iaddN (x := i) (y := 1) (len := 1) rfl ?_
  refine Wp.ialdN (j := i + 1) (len := 1) rfl (s1) rfl (by omega) (by omega) ?_
  refine Wp.n (pc' := 1709) 3 rfl ?_
  refine Wp.iaddN (x := i) (y := 2) (len := 1) rfl ?_
  refine Wp.ialdN (j := i + 2) (len := 1) rfl (s1) rfl (by omega) (by omega) ?_
  refine Wp.n (pc' := 1714) 3 rfl ?_
  refine Wp.iaddN (x := i) (y := 3) (len := 1) rfl ?_
  refine Wp.ialdN (j := i + 3) (len := 1) rfl (s1) rfl (by omega) (by omega) ?_
  refine Wp.n (pc' := 1719) 3 rfl ?_
  refine Wp.iaddN (x := i) (y := 4) (len := 1) rfl ?_
  refine Wp.ialdN (j := i + 4) (len := 1) rfl (s1) rfl (by omega) (by omega) ?_
  refine Wp.n (pc' := 1724) 3 rfl ?_
  refine Wp.iaddN (x := i) (y := 5) (len := 1) rfl ?_
  refine Wp.ialdN (j := i + 5) (len := 1) rfl (s1) rfl (by omega) (by omega) ?_
  refine Wp.callV (len := 3) rfl rfl rfl ((cset_o (by omega)).trans hDo) rfl (by decide) rfl (C_paste hC1) ?_
  rintro _ _ ⟨rfl, M2, κ2, rfl, hC2, e2⟩
  rw [ms_ab e2]
  have s2 : mset (cset M2 κ2) σ 2 = .inl (7, L, .inl xs) := (if_pos (by decide)).trans ((cset_o (by omega)).trans ((e2 2 (by omega)).trans ((if_pos (by decide)).trans h2)))
  refine Wp.n (pc' := 1734) 5 rfl ?_
  refine Wp.iaddN (x := i) (y := 1) (len := 1) rfl ?_
  refine Wp.ialdN (j := i + 1) (len := 1) rfl (s2) rfl (by omega) (by omega) ?_
  refine Wp.n (pc' := 1739) 3 rfl ?_
  refine Wp.iaddN (x := i) (y := 2) (len := 1) rfl ?_
  refine Wp.ialdN (j := i + 2) (len := 1) rfl (s2) rfl (by omega) (by omega) ?_
  refine Wp.n (pc' := 1744) 3 rfl ?_
  refine Wp.iaddN (x := i) (y := 3) (len := 1) rfl ?_
  refine Wp.ialdN (j := i + 3) (len := 1) rfl (s2) rfl (by omega) (by omega) ?_
  refine Wp.n (pc' := 1749) 3 rfl ?_
  refine Wp.iaddN (x := i) (y := 4) (len := 1) rfl ?_
  refine Wp.ialdN (j := i + 4) (len := 1) rfl (s2) rfl (by omega) (by omega) ?_
  refine Wp.n (pc' := 1754) 3 rfl ?_
  refine Wp.iaddN (x := i) (y := 5) (len := 1) rfl ?_
  refine Wp.ialdN (j := i + 5) (len := 1) rfl (s2) rfl (by omega) (by omega) ?_
  refine Wp.callV (len := 3) rfl rfl rfl (rfl) rfl (by decide) rfl (D_paste hM) ?_
  rintro _ _ ⟨rfl, σ2, rfl, hM2⟩
  refine Wp.n (pc' := 1763) 2 rfl ?_
  exact kk M2 κ2 σ2 _ hC2 hM2 (⟨hZ.1, hZ.2⟩) (fun q hq => (e2 q (Or.inl hq)).trans (if_pos (by omega)))
end LCC
end
