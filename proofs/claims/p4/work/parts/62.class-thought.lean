/-! THE CLASS: what is thought of. -/
/-- a realm with one lane more, of which ends and length are not said -/
def PL (ρ : RC) (K : KD) (e : Nat) : Prop := rhd ρ 0 = nI (kh K 0) ∧ rhd ρ 1 = nI (kh K 1) ∧ rhd ρ 2 = nI (kh K 5) ∧ rhd ρ 3 = nI (kh K 12) ∧ rhd ρ 6 = nI (kh K 2) ∧ rhd ρ 8 = nI (kh K 3 + 1) ∧ rhd ρ 10 = nI (kh K 4)
  ∧ (0 < kh K 0 → ∀ j, j < 5 → rlw ρ j = nI (kh K (6 + j)))
  ∧ (∀ i, i < kh K 2 → rlk ρ i 1 = 0 ∧ rlk ρ i 2 = bitsE (kr K i 0) (kr K i 1) ∧ rlk ρ i 3 = nI (kr K i 2) ∧ rlk ρ i 6 = 0)
  ∧ (∀ l, l < kh K 3 → rlk ρ (12 + l) 1 = nI (kl K l 5 + 1) ∧ rlk ρ (12 + l) 2 = bitsE (kl K l 0) (kl K l 1) ∧ rlk ρ (12 + l) 3 = nI (kl K l 2) ∧ rlk ρ (12 + l) 4 = nI (kl K l 3) ∧ rlk ρ (12 + l) 5 = nI (kl K l 4) ∧ rlk ρ (12 + l) 6 = nI (kl K l 6))
  ∧ (rlk ρ (12 + kh K 3) 1 = 1 ∧ rlk ρ (12 + kh K 3) 4 = 0 ∧ rlk ρ (12 + kh K 3) 5 = nI e ∧ rlk ρ (12 + kh K 3) 6 = 0)
  ∧ (∀ i, i < kh K 4 → rwk ρ i 0 = nI (kw K i 0) ∧ rwk ρ i 1 = nI (kw K i 1) ∧ rwk ρ i 2 = nI (kw K i 2) ∧ rwk ρ i 3 = nI (kw K i 3 - 1) ∧ ∀ j, j < kw K i 3 → rst ρ i j = nI (kw K i (4 + j)))
section THC
variable {d : Nat} {M : AM} {r : Nat} {ρ : RC} {K : KD} {κ κ' : CS} {Q : Option Value → AM → Prop}
theorem k_linkBegin {i : Nat} (hi : i < 9) {x : Int32} : Wp d md_6 0 [some (.ref (r + 16 + i)), some (.int x)] [] (rset M r ρ) (fun v M' => v = none ∧ ∃ ρ', M' = rset M r ρ' ∧ ρ'.1 = ρ.1 ∧ ρ'.2.1 = ρ.2.1 ∧ ρ'.2.2.2 = ρ.2.2.2 ∧ (∀ q, q ≠ 12 + i → rlk ρ' q = rlk ρ q) ∧ rlk ρ' (12 + i) 1 = x ∧ ∀ j, 2 ≤ j → j ≤ 6 → rlk ρ' (12 + i) j = 0) := by
  refine Wp.n (pc' := 2) 2 rfl ?_
  refine Wp.kputL 1 rfl hi (len := 3) rfl ?_
  refine Wp.n (pc' := 7) 2 rfl ?_
  refine Wp.kputL 2 rfl hi (len := 3) rfl ?_
  refine Wp.n (pc' := 12) 2 rfl ?_
  refine Wp.kputL 3 rfl hi (len := 3) rfl ?_
  refine Wp.n (pc' := 17) 2 rfl ?_
  refine Wp.kputL 4 rfl hi (len := 3) rfl ?_
  refine Wp.n (pc' := 22) 2 rfl ?_
  refine Wp.kputL 5 rfl hi (len := 3) rfl ?_
  refine Wp.n (pc' := 27) 2 rfl ?_
  refine Wp.kputL 6 rfl hi (len := 3) rfl ?_
  refine Wp.retV (len := 1) rfl rfl ?_
  refine ⟨rfl, _, rfl, rfl, rfl, rfl, fun q hq => ?_, ?_, fun j h2 h6 => ?_⟩
  · rw [rlk_kn hq, rlk_kn hq, rlk_kn hq, rlk_kn hq, rlk_kn hq, rlk_kn hq]
  · rw [rlk_ks, rlk_ks, rlk_ks, rlk_ks, rlk_ks, rlk_ks]
    rfl
  · rw [rlk_ks, rlk_ks, rlk_ks, rlk_ks, rlk_ks, rlk_ks]
    obtain rfl | rfl | rfl | rfl | rfl : j = 2 ∨ j = 3 ∨ j = 4 ∨ j = 5 ∨ j = 6 := by omega
    all_goals rfl

theorem k_addLane (hK : RepC ρ K) (ok : KOK K) (h11 : kh K 11 = 0) (h1 : 1 ≤ kh K 1) (hr : 32 ≤ r) : Wp (d + 1) md_46 0 [some (.ref r)] [] (rset M r ρ) (fun v M' => v = none ∧ ∃ ρ', M' = rset M r ρ' ∧ PL ρ' K (kh K 1 - 1) ∧ rds ρ' = rds ρ) := by
  obtain ⟨b0, b1, b2, b3, b4, b5, b6, b7, b8, b9, b10, b11, b12⟩ := ok_h ok
  have h8 : rhd ρ 8 = nI (kh K 3) := by rw [rc_la hK, h11, Nat.add_zero]
  refine Wp.n (pc' := 1) 1 rfl ?_
  refine Wp.get (len := 3) rfl (rs_obj) rfl ?_
  refine Wp.top h8 ?_
  refine Wp.n (pc' := 6) 1 rfl ?_
  refine Wp.nc4 (x := kh K 3) (y := 8) (tgt := 50) (len := 3) rfl (by omega) (by omega) (fun h6 => ?_) (fun h6 => ?_)
  · omega
  · skip
    refine Wp.n (pc' := 10) 1 rfl ?_
    refine Wp.get (len := 3) rfl (rs_obj) rfl ?_
    refine Wp.n (pc' := 14) 1 rfl ?_
    refine Wp.get (len := 3) rfl (rs_obj) rfl ?_
    refine Wp.top h8 ?_
    refine Wp.aaldN (j := kh K 3) (len := 1) rfl (rs_lanes) rfl (by omega) (by decide) (if_pos (by omega)) ?_
    refine Wp.n (pc' := 19) 1 rfl ?_
    refine Wp.callV (len := 3) rfl rfl rfl (rs_lane (by omega)) rfl (by omega) rfl (k_linkBegin (i := kh K 3) (by omega)) ?_
    rintro _ _ ⟨rfl, ρ2, rfl, e1, e2, e3, e4, e5, e6⟩
    refine Wp.n (pc' := 23) 1 rfl ?_
    refine Wp.get (len := 3) rfl (rs_obj) rfl ?_
    refine Wp.n (pc' := 27) 1 rfl ?_
    refine Wp.get (len := 3) rfl (rs_obj) rfl ?_
    refine Wp.top (show _ = nI (kh K 3) from by show ρ2.1 8 = _; rw [e1]; exact h8) ?_
    refine Wp.aaldN (j := kh K 3) (len := 1) rfl (rs_lanes) rfl (by omega) (by decide) (if_pos (by omega)) ?_
    refine Wp.n (pc' := 32) 1 rfl ?_
    refine Wp.get (len := 3) rfl (rs_obj) rfl ?_
    refine Wp.top (show _ = nI (kh K 1) from by show ρ2.1 1 = _; rw [e1]; exact rc_dy hK) ?_
    refine Wp.n (pc' := 36) 1 rfl ?_
    refine Wp.isubN (x := kh K 1) (y := 1) (len := 1) rfl (by omega) ?_
    refine Wp.kputL 5 rfl (i := kh K 3) (by omega) (len := 3) rfl ?_
    refine Wp.n (pc' := 42) 2 rfl ?_
    refine Wp.get (len := 3) rfl (rs_obj) rfl ?_
    refine Wp.top (show _ = nI (kh K 3) from by show ρ2.1 8 = _; rw [e1]; exact h8) ?_
    refine Wp.n (pc' := 46) 1 rfl ?_
    refine Wp.iaddN (x := kh K 3) (y := 1) (len := 1) rfl ?_
    refine Wp.rput 8 rfl (len := 3) rfl ?_
    refine Wp.retV (len := 1) rfl rfl ?_
    refine ⟨rfl, _, rfl, ⟨?_, ?_, ?_, ?_, ?_, rfl, ?_, fun h0 j hj => ?_, fun i hi => ?_, fun l hl => ?_, ⟨?_, ?_, ?_, ?_⟩, fun i hi => ?_⟩, ?_⟩
    · show ρ2.1 0 = _
      rw [e1]; exact rc_pl hK
    · show ρ2.1 1 = _
      rw [e1]; exact rc_dy hK
    · show ρ2.1 2 = _
      rw [e1]; exact rc_ln hK
    · show ρ2.1 3 = _
      rw [e1]; exact rc_fl hK
    · show ρ2.1 6 = _
      rw [e1]; exact rc_rd hK
    · show ρ2.1 10 = _
      rw [e1]; exact rc_wk hK
    · show ρ2.2.1 j = _
      rw [e2]; exact rc_law hK h0 hj
    · have q := rc_road hK hi
      show rlk (kset ρ2 (12 + kh K 3) 5 _) i 1 = 0 ∧ rlk (kset ρ2 (12 + kh K 3) 5 _) i 2 = _ ∧ rlk (kset ρ2 (12 + kh K 3) 5 _) i 3 = _ ∧ rlk (kset ρ2 (12 + kh K 3) 5 _) i 6 = 0
      rw [rlk_kn (by omega), e4 i (by omega)]
      exact q
    · have q := rc_lane hK (Or.inl hl)
      rw [show phL K l = l from if_neg (by omega)] at q
      show rlk (kset ρ2 (12 + kh K 3) 5 _) (12 + l) 1 = _ ∧ rlk (kset ρ2 (12 + kh K 3) 5 _) (12 + l) 2 = _ ∧ rlk (kset ρ2 (12 + kh K 3) 5 _) (12 + l) 3 = _ ∧ rlk (kset ρ2 (12 + kh K 3) 5 _) (12 + l) 4 = _ ∧ rlk (kset ρ2 (12 + kh K 3) 5 _) (12 + l) 5 = _ ∧ rlk (kset ρ2 (12 + kh K 3) 5 _) (12 + l) 6 = _
      rw [rlk_kn (by omega), e4 (12 + l) (by omega)]
      exact q
    · show rlk (kset ρ2 (12 + kh K 3) 5 _) (12 + kh K 3) 1 = _
      rw [rlk_ks, pk_un (by decide)]; exact e5
    · show rlk (kset ρ2 (12 + kh K 3) 5 _) (12 + kh K 3) 4 = _
      rw [rlk_ks, pk_un (by decide)]; exact e6 4 (by decide) (by decide)
    · show rlk (kset ρ2 (12 + kh K 3) 5 _) (12 + kh K 3) 5 = _
      rw [rlk_ks, pk_us]
    · show rlk (kset ρ2 (12 + kh K 3) 5 _) (12 + kh K 3) 6 = _
      rw [rlk_ks, pk_un (by decide)]; exact e6 6 (by decide) (by decide)
    · have q := rc_walk hK hi
      show ρ2.2.2.2.1 i 0 = _ ∧ ρ2.2.2.2.1 i 1 = _ ∧ ρ2.2.2.2.1 i 2 = _ ∧ ρ2.2.2.2.1 i 3 = _ ∧ ∀ j, j < kw K i 3 → ρ2.2.2.2.2.1 i j = _
      rw [e3]
      exact q
    · show ρ2.2.2.2.2.2 = _
      rw [e3]
      rfl

theorem k_placeLast {e : Nat} (hP : PL ρ K e) (ok : KOK K) (hr : 32 ≤ r) {a b m : Nat} : Wp d md_47 0 [some (.ref r), some (.int (nI a)), some (.int (nI b)), some (.int (nI m))] [] (rset M r ρ) (fun v M' => v = none ∧ ∃ ρ', M' = rset M r ρ' ∧ PL ρ' K e ∧ RepC ρ' (laneK K a b m e) ∧ rds ρ' = rds ρ) := by
  obtain ⟨b0, b1, b2, b3, b4, b5, b6, b7, b8, b9, b10, b11, b12⟩ := ok_h ok
  obtain ⟨p0, p1, p2, p3, p6, p8, p10, pl, pr, pn, ⟨q1, q4, q5, q6⟩, pw⟩ := hP
  refine Wp.n (pc' := 1) 1 rfl ?_
  refine Wp.get (len := 3) rfl (rs_obj) rfl ?_
  refine Wp.top p8 ?_
  refine Wp.nz5 (x := kh K 3 + 1) (tgt := 43) (len := 3) rfl (by omega) (fun h4 => ?_) (fun h4 => ?_)
  · omega
  · skip
    refine Wp.n (pc' := 8) 1 rfl ?_
    refine Wp.get (len := 3) rfl (rs_obj) rfl ?_
    refine Wp.n (pc' := 12) 1 rfl ?_
    refine Wp.get (len := 3) rfl (rs_obj) rfl ?_
    refine Wp.top p8 ?_
    refine Wp.n (pc' := 16) 1 rfl ?_
    refine Wp.isubN (x := kh K 3 + 1) (y := 1) (len := 1) rfl (by omega) ?_
    refine Wp.top (show nI (kh K 3 + 1 - 1) = nI (kh K 3) from rfl) ?_
    refine Wp.aaldN (j := kh K 3) (len := 1) rfl (rs_lanes) rfl (by omega) (by decide) (if_pos (by omega)) ?_
    refine Wp.n (pc' := 25) 7 rfl ?_
    refine Wp.kputL 2 rfl (i := kh K 3) (by omega) (len := 3) rfl ?_
    refine Wp.n (pc' := 29) 1 rfl ?_
    refine Wp.get (len := 3) rfl (rs_obj) rfl ?_
    refine Wp.n (pc' := 33) 1 rfl ?_
    refine Wp.get (len := 3) rfl (rs_obj) rfl ?_
    refine Wp.top (show _ = nI (kh K 3 + 1) from p8) ?_
    refine Wp.n (pc' := 37) 1 rfl ?_
    refine Wp.isubN (x := kh K 3 + 1) (y := 1) (len := 1) rfl (by omega) ?_
    refine Wp.top (show nI (kh K 3 + 1 - 1) = nI (kh K 3) from rfl) ?_
    refine Wp.aaldN (j := kh K 3) (len := 1) rfl (rs_lanes) rfl (by omega) (by decide) (if_pos (by omega)) ?_
    refine Wp.n (pc' := 40) 1 rfl ?_
    refine Wp.kputL 3 rfl (i := kh K 3) (by omega) (len := 3) rfl ?_
    refine Wp.retV (len := 1) rfl rfl ?_
    have ko : ∀ q, q ≠ 12 + kh K 3 → rlk (kset (kset ρ (12 + kh K 3) 2 (bitsE a b)) (12 + kh K 3) 3 (nI m)) q = rlk ρ q := fun q hq => by rw [rlk_kn hq, rlk_kn hq]
    have ks : ∀ j, j ≠ 2 → j ≠ 3 → rlk (kset (kset ρ (12 + kh K 3) 2 (bitsE a b)) (12 + kh K 3) 3 (nI m)) (12 + kh K 3) j = rlk ρ (12 + kh K 3) j := fun j h2 h3 => by rw [rlk_ks, rlk_ks, pk_un h3, pk_un h2]
    have k2 : rlk (kset (kset ρ (12 + kh K 3) 2 (bitsE a b)) (12 + kh K 3) 3 (nI m)) (12 + kh K 3) 2 = bitsE a b := by rw [rlk_ks, rlk_ks, pk_un (by decide), pk_us]
    have k3 : rlk (kset (kset ρ (12 + kh K 3) 2 (bitsE a b)) (12 + kh K 3) 3 (nI m)) (12 + kh K 3) 3 = nI m := by rw [rlk_ks, pk_us]
    refine ⟨rfl, kset (kset ρ (12 + kh K 3) 2 (bitsE a b)) (12 + kh K 3) 3 (nI m), rfl, ⟨p0, p1, p2, p3, p6, p8, p10, pl, fun i hi => ?_, fun l hl => ?_, ?_, pw⟩, ⟨p0, p1, p2, p3, p6, p8, p10, fun h0 j hj => (pl h0 j hj).trans (by rw [show kh (laneK K a b m e) (6 + j) = kh K (6 + j) from if_neg (by omega)]), fun i hi => ?_, fun l hl => ?_, pw⟩, rfl⟩
    · rw [ko i (by omega)]; exact pr i hi
    · rw [ko (12 + l) (by omega)]; exact pn l hl
    · rw [ks 1 (by decide) (by decide), ks 4 (by decide) (by decide), ks 5 (by decide) (by decide), ks 6 (by decide) (by decide)]
      exact ⟨q1, q4, q5, q6⟩
    · rw [ko i (by have : i < kh K 2 := hi; omega)]; exact pr i hi
    · by_cases c : l = 8
      · subst c
        rw [show phL (laneK K a b m e) 8 = kh K 3 from if_pos rfl, ks 1 (by decide) (by decide), ks 4 (by decide) (by decide), ks 5 (by decide) (by decide), ks 6 (by decide) (by decide), k2, k3]
        exact ⟨q1, rfl, rfl, q4, q5, q6⟩
      · have hl3 : l < kh K 3 := by
          rcases hl with q | q
          · exact q
          · exact absurd q.1 c
        rw [show phL (laneK K a b m e) l = l from if_neg c, ko (12 + l) (by omega), show kl (laneK K a b m e) l = kl K l from if_neg c]
        exact pn l hl3

/-- the class's object, its realm, and a draft -/
def HDR (M : AM) (K : KD) : Prop := HD M ∧ RK M 36 K ∧ ∃ ρ, RA M 83 ρ
theorem HDR_d {ρ : RC} (h : HDR M K) : HDR (rset M 83 ρ) K := by
  obtain ⟨h1, h2, h3⟩ := h
  exact ⟨hd_to (rset_ne (by omega)) (rset_ne (by omega)) h1, RK_of h2 (fun k a b => rset_ne (by omega)), ρ, rset_ra⟩
def RDI (M : AM) (κ : CS) (a : Int32) : Option Value → AM → Prop := fun v M' => v = some (.int a) ∧ ∃ ρ κ', M' = cset (rset M 83 ρ) κ' ∧ ScC κ κ'
theorem RDI_s {ρ : RC} {a b : Int32} (e : ScC κ κ') (h : a = b) : RDI M κ b (some (.int a)) (cset (rset M 83 ρ) κ') := ⟨by rw [h], ρ, κ', rfl, e⟩
theorem RDI_r {a b : Int32} (hR : ∃ ρ, RA M 83 ρ) (e : ScC κ κ') (h : a = b) : RDI M κ b (some (.int a)) (cset M κ') := by
  obtain ⟨ρ, hρ⟩ := hR
  have w := RDI_s (M := M) (ρ := ρ) e h
  rw [show rset M 83 ρ = M from hρ] at w
  exact w
theorem RK_lane {a b m : Nat} {ρ : RC} (ok : KOK (laneK K a b m (kh K 1 - 1))) (hK : RepC ρ (laneK K a b m (kh K 1 - 1))) (hD : DC (rds ρ) K (distK K)) : RK (rset M 83 ρ) 83 (laneK K a b m (kh K 1 - 1)) := ⟨ρ, rset_ra, hK, hD, ok, by decide, by decide⟩
theorem k_becomeD (h : HDR M K) (h11 : kh K 11 = 0) : Wp (d + 9) md_32 0 [some (.ref 83), some (.ref 36), none] [] (cset M κ) (fun v M' => v = none ∧ ∃ ρ, M' = cset (rset M 83 ρ) κ ∧ RepC ρ K ∧ DC (rds ρ) K (distK K)) := by
  obtain ⟨hD, ⟨ρs, hR, hK, hDC, ok, _, _⟩, ρ, hρ⟩ := h
  have b0 := (ok_h ok).1
  refine Wp.mono (k_become (RA_c hρ (by decide) (by decide)) (RA_c hR (by decide) (by decide)) (by decide) (by decide) (by decide) hK ok h11) ?_
  rintro _ _ ⟨rfl, ρ', rfl, h1, h2⟩
  exact ⟨rfl, ρ', rset_c (by decide) (by decide), h1, fun x y hx hy => by rw [h2 _ (by omega)]; exact hDC x y hx hy⟩
theorem k_addLaneD {ρ : RC} (hK : RepC ρ K) (ok : KOK K) (h11 : kh K 11 = 0) (h1 : 1 ≤ kh K 1) : Wp (d + 1) md_46 0 [some (.ref 83)] [] (cset (rset M 83 ρ) κ) (fun v M' => v = none ∧ ∃ ρ', M' = cset (rset M 83 ρ') κ ∧ PL ρ' K (kh K 1 - 1) ∧ rds ρ' = rds ρ) := by
  rw [← rset_c (by decide) (by decide)]
  refine Wp.mono (k_addLane hK ok h11 h1 (by decide)) ?_
  rintro _ _ ⟨rfl, ρ', rfl, h2, h3⟩
  exact ⟨rfl, ρ', rset_c (by decide) (by decide), h2, h3⟩
theorem k_placeD {ρ : RC} {e a b m : Nat} (hP : PL ρ K e) (ok : KOK K) : Wp d md_47 0 [some (.ref 83), some (.int (nI a)), some (.int (nI b)), some (.int (nI m))] [] (cset (rset M 83 ρ) κ) (fun v M' => v = none ∧ ∃ ρ', M' = cset (rset M 83 ρ') κ ∧ PL ρ' K e ∧ RepC ρ' (laneK K a b m e) ∧ rds ρ' = rds ρ) := by
  rw [← rset_c (by decide) (by decide)]
  refine Wp.mono (k_placeLast hP ok (by decide)) ?_
  rintro _ _ ⟨rfl, ρ', rfl, h2, h3⟩
  exact ⟨rfl, ρ', rset_c (by decide) (by decide), h2, h3⟩

theorem k_lane (hH : HDR M K) (h11 : kh K 11 = 0) (hd1 : 0 < kh K 0 → 1 ≤ kh K 1) (x y m k : Int32) : Wp (d + 14) md_125 0 [some (.ref 32), some (.int x), some (.int y), some (.int m), some (.int k)] [] (cset M κ) (RDI M κ (laneA K x y m k)) := by
  obtain ⟨ρr, hR, hK, hDC, ok, hr1, hr2⟩ := id hH.2.1
  obtain ⟨b0, b1, b2, b3, b4, b5, b6, b7, b8, b9, b10, b11, b12⟩ := ok_h ok
  obtain ⟨ow, hDo⟩ := hH.1.1
  have hO : ∀ (ρ : RC) (κ : CS), cset (rset M 83 ρ) κ 32 = .inr (9, hdl ow) := fun ρ κ => (cset_o (by omega)).trans ((rset_ne (by omega)).trans hDo)
  have hO0 : ∀ κ : CS, cset M κ 32 = .inr (9, hdl ow) := fun κ => (cset_o (by omega)).trans hDo
  have hR0 : ∀ κ : CS, RA (cset M κ) 36 ρr := fun κ => RA_c hR hr1 hr2
  have hRd : ∀ (ρ : RC) (κ : CS), RA (cset (rset M 83 ρ) κ) 36 ρr := fun ρ κ => RA_c (RA_of hR (fun k a b => rset_ne (by omega))) hr1 hr2
  have hDd : ∀ (ρ : RC) (κ : CS), cset (rset M 83 ρ) κ 83 = .inr (3, rfs 83 ρ) := fun ρ κ => (cset_o (by omega)).trans rs_obj
  have hD0 : ∃ ρ0, ∀ κ : CS, cset M κ 83 = .inr (3, rfs 83 ρ0) := by
    obtain ⟨ρ0, h0⟩ := hH.2.2
    exact ⟨ρ0, fun κ => (cset_o (by omega)).trans (ra_obj h0)⟩
  obtain ⟨ρ0, hD0⟩ := hD0
  unfold laneA
  refine Wp.n (pc' := 3) 3 rfl ?_
  refine Wp.ecallV (len := 3) rfl rfl rfl (hO0 _) rfl (by decide) rfl (k_arePlaces hH.1 hH.2.1 _ _) ?_
  refine Wp.ifb0 (tgt := 29) (len := 3) rfl (fun h6 => ?_) (fun h6 => ?_)
  · skip
    refine Wp.n (pc' := 32) 1 rfl ?_
    refine Wp.retI (len := 1) rfl rfl ?_
    refine RDI_r hH.2.2 ScC_r ?_
    first
      | rw [if_neg (fun q => by have q1 := q.1; unfold areT at q1; rw [h6] at q1; cases q1)]
      | rw [if_neg (fun q => by have q1 := q.1; unfold areT at q1; rw [decide_eq_true h11_, Bool.not_true, Bool.and_false] at q1; cases q1)]
      | rw [if_neg (fun q => by rw [show isR 1 99 m = false from h18] at q; exact absurd q.2.1 (by decide))]
      | rw [if_neg (fun q => by rw [h26] at q; exact absurd q.2.2 (by decide))]
  · skip
    refine Wp.n (pc' := 11) 2 rfl ?_
    refine Wp.ic0 (tgt := 29) (len := 3) rfl (fun h11_ => ?_) (fun h11_ => ?_)
    · skip
      refine Wp.n (pc' := 32) 1 rfl ?_
      refine Wp.retI (len := 1) rfl rfl ?_
      refine RDI_r hH.2.2 ScC_r ?_
      first
        | rw [if_neg (fun q => by have q1 := q.1; unfold areT at q1; rw [h6] at q1; cases q1)]
        | rw [if_neg (fun q => by have q1 := q.1; unfold areT at q1; rw [decide_eq_true h11_, Bool.not_true, Bool.and_false] at q1; cases q1)]
        | rw [if_neg (fun q => by rw [show isR 1 99 m = false from h18] at q; exact absurd q.2.1 (by decide))]
        | rw [if_neg (fun q => by rw [h26] at q; exact absurd q.2.2 (by decide))]
    · skip
      refine Wp.n (pc' := 15) 1 rfl ?_
      refine Wp.ecallS (len := 3) rfl rfl rfl rfl (c_isThought _) ?_
      refine Wp.ifb0 (tgt := 29) (len := 3) rfl (fun h18 => ?_) (fun h18 => ?_)
      · skip
        refine Wp.n (pc' := 32) 1 rfl ?_
        refine Wp.retI (len := 1) rfl rfl ?_
        refine RDI_r hH.2.2 ScC_r ?_
        first
          | rw [if_neg (fun q => by have q1 := q.1; unfold areT at q1; rw [h6] at q1; cases q1)]
          | rw [if_neg (fun q => by have q1 := q.1; unfold areT at q1; rw [decide_eq_true h11_, Bool.not_true, Bool.and_false] at q1; cases q1)]
          | rw [if_neg (fun q => by rw [show isR 1 99 m = false from h18] at q; exact absurd q.2.1 (by decide))]
          | rw [if_neg (fun q => by rw [h26] at q; exact absurd q.2.2 (by decide))]
      · skip
        refine Wp.n (pc' := 23) 1 rfl ?_
        refine Wp.ecallS (len := 3) rfl rfl rfl rfl (k_isSumN _) ?_
        refine Wp.ifb1 (tgt := 33) (len := 3) rfl (fun h26 => ?_) (fun h26 => ?_)
        · skip
          have hT : areT K x y = true := by unfold areT; rw [h6, decide_eq_false h11_]; rfl
          obtain ⟨a, t, ha, ht, hat, rfl, rfl⟩ := areT_of hT
          obtain ⟨m, hm1, hm9, hm, rfl⟩ := isR_of (lo := 1) (hi := 99) h18
          obtain ⟨k, hk4, rfl⟩ := isN_of h26
          rw [if_pos ⟨hT, h18, h26⟩, nI_clamp (by omega), nI_clamp (by omega), nI_clamp hm, nI_clamp (by omega), allK_lane ok]
          refine Wp.n (pc' := 34) 1 rfl ?_
          refine Wp.get (len := 3) rfl (hO0 _) rfl ?_
          refine Wp.n (pc' := 38) 1 rfl ?_
          refine Wp.get (len := 3) rfl (hO0 _) rfl ?_
          refine Wp.callV (len := 3) rfl rfl rfl (hD0 _) rfl (by decide) rfl (k_becomeD hH h11) ?_
          rintro _ _ ⟨rfl, ρ1, rfl, hK1, hDC1⟩
          refine Wp.n (pc' := 45) 1 rfl ?_
          refine Wp.get (len := 3) rfl (hO _ _) rfl ?_
          refine Wp.callV (len := 3) rfl rfl rfl (hDd _ _) rfl (by decide) rfl (k_addLaneD hK1 ok h11 (hd1 (by omega))) ?_
          rintro _ _ ⟨rfl, ρ2, rfl, hP2, hd2⟩
          refine Wp.n (pc' := 52) 1 rfl ?_
          refine Wp.get (len := 3) rfl (hO _ _) rfl ?_
          refine Wp.n (pc' := 58) 3 rfl ?_
          refine Wp.callV (len := 3) rfl rfl rfl (hDd _ _) rfl (by decide) rfl (k_placeD (a := a) (b := t) (m := m) hP2 ok) ?_
          rintro _ _ ⟨rfl, ρ3, rfl, hP3, hK3, hd3⟩
          have hD3 : DC (rds ρ3) K (distK K) := by rw [hd3, hd2]; exact hDC1
          have ok3 := laneK_ok ok (e := kh K 1 - 1) ha ht hat hm1 hm9 (by omega)
          refine Wp.n (pc' := 63) 2 rfl ?_
          refine Wp.get (len := 3) rfl (hO _ _) rfl ?_
          refine Wp.n (pc' := 68) 1 rfl ?_
          refine Wp.callV (len := 3) rfl rfl rfl (hO _ _) rfl (by decide) rfl (k_bestSum (HDR_d hH).1 (RK_lane ok3 hK3 hD3) hk4) ?_
          rintro _ _ ⟨rfl, κ4, rfl, hS4⟩
          refine Wp.n (pc' := 73) 2 rfl ?_
          refine Wp.get (len := 3) rfl (hO _ _) rfl ?_
          refine Wp.n (pc' := 78) 1 rfl ?_
          refine Wp.callV (len := 3) rfl rfl rfl (hO _ _) rfl (by decide) rfl (k_bestSum (HDR_d hH).1 (HDR_d hH).2.1 hk4) ?_
          rintro _ _ ⟨rfl, κ5, rfl, hS5⟩
          refine Wp.n (pc' := 82) 1 rfl ?_
          refine Wp.retI (len := 1) rfl rfl ?_
          exact RDI_s (ScC_t hS4 hS5) rfl
        · skip
          refine Wp.n (pc' := 32) 1 rfl ?_
          refine Wp.retI (len := 1) rfl rfl ?_
          refine RDI_r hH.2.2 ScC_r ?_
          first
            | rw [if_neg (fun q => by have q1 := q.1; unfold areT at q1; rw [h6] at q1; cases q1)]
            | rw [if_neg (fun q => by have q1 := q.1; unfold areT at q1; rw [decide_eq_true h11_, Bool.not_true, Bool.and_false] at q1; cases q1)]
            | rw [if_neg (fun q => by rw [show isR 1 99 m = false from h18] at q; exact absurd q.2.1 (by decide))]
            | rw [if_neg (fun q => by rw [h26] at q; exact absurd q.2.2 (by decide))]

theorem k_help_b (hH : HDR M K) (h11 : kh K 11 = 0) {m a : Nat} (h1 : 1 ≤ m) (h2 : m ≤ 99) (ha : a < kh K 0) : ∀ (n b : Nat) (st : Nat × Option Nat) (κ2 : CS) (ρ : RC) (z6 : Option Value), b + n = kh K 0 → a < b → ScC κ κ2 → st.1 ≤ 7662600 → PL ρ K (kh K 1 - 1) → DC (rds ρ) K (distK K) → (∀ κ3 ρ3 z6' st', st' = fld (hst K m a) n b st → st'.1 ≤ 7662600 → ScC κ κ3 → PL ρ3 K (kh K 1 - 1) → DC (rds ρ3) K (distK K) → Wp (d + 14) md_127 130 [some (.ref 32), some (.int (nI m)), some (.int (nI (st'.1))), some (.int (oI st'.2)), some (.int (nI a)), some (.int (nI (kh K 0))), z6'] [] (cset (rset M 83 ρ3) κ3) Q) → Wp (d + 14) md_127 71 [some (.ref 32), some (.int (nI m)), some (.int (nI (st.1))), some (.int (oI st.2)), some (.int (nI a)), some (.int (nI b)), z6] [] (cset (rset M 83 ρ) κ2) Q := by
  obtain ⟨ρr, hR, hK, hDC, ok, hr1, hr2⟩ := id hH.2.1
  obtain ⟨b0, b1, b2, b3, b4, b5, b6, b7, b8, b9, b10, b11, b12⟩ := ok_h ok
  obtain ⟨ow, hDo⟩ := hH.1.1
  have hO : ∀ (ρ : RC) (κ : CS), cset (rset M 83 ρ) κ 32 = .inr (9, hdl ow) := fun ρ κ => (cset_o (by omega)).trans ((rset_ne (by omega)).trans hDo)
  have hO0 : ∀ κ : CS, cset M κ 32 = .inr (9, hdl ow) := fun κ => (cset_o (by omega)).trans hDo
  have hR0 : ∀ κ : CS, RA (cset M κ) 36 ρr := fun κ => RA_c hR hr1 hr2
  have hRd : ∀ (ρ : RC) (κ : CS), RA (cset (rset M 83 ρ) κ) 36 ρr := fun ρ κ => RA_c (RA_of hR (fun k a b => rset_ne (by omega))) hr1 hr2
  have hDd : ∀ (ρ : RC) (κ : CS), cset (rset M 83 ρ) κ 83 = .inr (3, rfs 83 ρ) := fun ρ κ => (cset_o (by omega)).trans rs_obj
  have hD0 : ∃ ρ0, ∀ κ : CS, cset M κ 83 = .inr (3, rfs 83 ρ0) := by
    obtain ⟨ρ0, h0⟩ := hH.2.2
    exact ⟨ρ0, fun κ => (cset_o (by omega)).trans (ra_obj h0)⟩
  obtain ⟨ρ0, hD0⟩ := hD0
  intro n
  induction n with
  | zero =>
    intro b st κ2 ρ z6 hb hab hS hs7 hP hDd2 kk
    refine Wp.n (pc' := 74) 2 rfl ?_
    refine Wp.get (len := 3) rfl (hO _ _) rfl ?_
    refine Wp.get (len := 3) rfl (ra_obj (hRd _ _)) rfl ?_
    refine Wp.top (rc_pl hK) ?_
    refine Wp.nc3 (x := b) (y := kh K 0) (tgt := 130) (len := 3) rfl (by omega) (by omega) (fun h80 => ?_) (fun h80 => ?_)
    · skip
      rw [show b = kh K 0 by omega]
      exact kk κ2 ρ _ st rfl hs7 hS hP hDd2
    · omega
  | succ n ih =>
    intro b st κ2 ρ z6 hb hab hS hs7 hP hDd2 kk
    have ok3 := laneK_ok ok (e := kh K 1 - 1) ha (show b < kh K 0 by omega) (by omega) h1 h2 (by omega)
    have hab2 := allK_b (K := laneK K a b m 30) (k := 1) (laneK_ok ok ha (by omega) (by omega) h1 h2 (Nat.le_refl _))
    refine Wp.n (pc' := 74) 2 rfl ?_
    refine Wp.get (len := 3) rfl (hO _ _) rfl ?_
    refine Wp.get (len := 3) rfl (ra_obj (hRd _ _)) rfl ?_
    refine Wp.top (rc_pl hK) ?_
    refine Wp.nc3 (x := b) (y := kh K 0) (tgt := 130) (len := 3) rfl (by omega) (by omega) (fun h80 => ?_) (fun h80 => ?_)
    · omega
    · skip
      refine Wp.n (pc' := 84) 1 rfl ?_
      refine Wp.get (len := 3) rfl (hO _ _) rfl ?_
      refine Wp.n (pc' := 92) 3 rfl ?_
      refine Wp.callV (len := 3) rfl rfl rfl (hDd _ _) rfl (by decide) rfl (k_placeD (a := a) (b := b) (m := m) hP ok) ?_
      rintro _ _ ⟨rfl, ρ3, rfl, hP3, hK3, hd3⟩
      have hD3 : DC (rds ρ3) K (distK K) := by rw [hd3]; exact hDd2
      refine Wp.n (pc' := 97) 2 rfl ?_
      refine Wp.get (len := 3) rfl (hO _ _) rfl ?_
      refine Wp.n (pc' := 101) 1 rfl ?_
      refine Wp.callV (len := 3) rfl rfl rfl (hO _ _) rfl (by decide) rfl (k_bestSum (HDR_d hH).1 (RK_lane ok3 hK3 hD3) (by decide)) ?_
      rintro _ _ ⟨rfl, κ4, rfl, hS4⟩
      rw [← allK_lane ok]
      refine Wp.n (pc' := 109) 3 rfl ?_
      refine Wp.nc3 (x := allK (laneK K a b m 30) 1) (y := st.1) (tgt := 124) (len := 3) rfl (by omega) (by omega) (fun h109 => ?_) (fun h109 => ?_)
      · skip
        refine Wp.incN (x := b) (len := 3) rfl rfl ?_
        refine Wp.n (pc' := 71) 1 rfl ?_
        have ihh := ih (b + 1) (hst K m a st b) κ4 ρ3
        first
          | (have e : hst K m a st b = (allK (laneK K a b m 30) 1, some (10 * a + b)) := if_pos (by omega)
             rw [e] at ihh
             exact ihh _ (by omega) (by omega) (ScC_t hS hS4) hab2 hP3 hD3 (fun κ5 ρ5 z5 st5 e5 => kk κ5 ρ5 z5 st5 (by rw [e5, ← e]; rfl)))
          | (have e : hst K m a st b = st := if_neg (by omega)
             rw [e] at ihh
             exact ihh _ (by omega) (by omega) (ScC_t hS hS4) hs7 hP3 hD3 (fun κ5 ρ5 z5 st5 e5 => kk κ5 ρ5 z5 st5 (e5.trans (congrArg (fld (hst K m a) n (b + 1)) e.symm))))
      · skip
        refine Wp.n (pc' := 119) 4 rfl ?_
        refine Wp.imulN (x := 10) (y := a) (len := 1) rfl ?_
        refine Wp.n (pc' := 122) 1 rfl ?_
        refine Wp.iaddN (x := 10 * a) (y := b) (len := 1) rfl ?_
        refine Wp.n (pc' := 124) 1 rfl ?_
        refine Wp.incN (x := b) (len := 3) rfl rfl ?_
        refine Wp.n (pc' := 71) 1 rfl ?_
        have ihh := ih (b + 1) (hst K m a st b) κ4 ρ3
        first
          | (have e : hst K m a st b = (allK (laneK K a b m 30) 1, some (10 * a + b)) := if_pos (by omega)
             rw [e] at ihh
             exact ihh _ (by omega) (by omega) (ScC_t hS hS4) hab2 hP3 hD3 (fun κ5 ρ5 z5 st5 e5 => kk κ5 ρ5 z5 st5 (by rw [e5, ← e]; rfl)))
          | (have e : hst K m a st b = st := if_neg (by omega)
             rw [e] at ihh
             exact ihh _ (by omega) (by omega) (ScC_t hS hS4) hs7 hP3 hD3 (fun κ5 ρ5 z5 st5 e5 => kk κ5 ρ5 z5 st5 (e5.trans (congrArg (fld (hst K m a) n (b + 1)) e.symm))))

theorem k_help_a (hH : HDR M K) (h11 : kh K 11 = 0) {m : Nat} (h1 : 1 ≤ m) (h2 : m ≤ 99) : ∀ (n a : Nat) (st : Nat × Option Nat) (κ2 : CS) (ρ : RC) (z5 z6 : Option Value), a + n = kh K 0 → ScC κ κ2 → st.1 ≤ 7662600 → PL ρ K (kh K 1 - 1) → DC (rds ρ) K (distK K) → Wp (d + 14) md_127 53 [some (.ref 32), some (.int (nI m)), some (.int (nI (st.1))), some (.int (oI st.2)), some (.int (nI a)), z5, z6] [] (cset (rset M 83 ρ) κ2) (RDI M κ (oI (fld (hstA K m) n a st).2)) := by
  obtain ⟨ρr, hR, hK, hDC, ok, hr1, hr2⟩ := id hH.2.1
  obtain ⟨b0, b1, b2, b3, b4, b5, b6, b7, b8, b9, b10, b11, b12⟩ := ok_h ok
  obtain ⟨ow, hDo⟩ := hH.1.1
  have hO : ∀ (ρ : RC) (κ : CS), cset (rset M 83 ρ) κ 32 = .inr (9, hdl ow) := fun ρ κ => (cset_o (by omega)).trans ((rset_ne (by omega)).trans hDo)
  have hO0 : ∀ κ : CS, cset M κ 32 = .inr (9, hdl ow) := fun κ => (cset_o (by omega)).trans hDo
  have hR0 : ∀ κ : CS, RA (cset M κ) 36 ρr := fun κ => RA_c hR hr1 hr2
  have hRd : ∀ (ρ : RC) (κ : CS), RA (cset (rset M 83 ρ) κ) 36 ρr := fun ρ κ => RA_c (RA_of hR (fun k a b => rset_ne (by omega))) hr1 hr2
  have hDd : ∀ (ρ : RC) (κ : CS), cset (rset M 83 ρ) κ 83 = .inr (3, rfs 83 ρ) := fun ρ κ => (cset_o (by omega)).trans rs_obj
  have hD0 : ∃ ρ0, ∀ κ : CS, cset M κ 83 = .inr (3, rfs 83 ρ0) := by
    obtain ⟨ρ0, h0⟩ := hH.2.2
    exact ⟨ρ0, fun κ => (cset_o (by omega)).trans (ra_obj h0)⟩
  obtain ⟨ρ0, hD0⟩ := hD0
  intro n
  induction n with
  | zero =>
    intro a st κ2 ρ z5 z6 ha hS hs7 hP hDd2
    refine Wp.n (pc' := 56) 2 rfl ?_
    refine Wp.get (len := 3) rfl (hO _ _) rfl ?_
    refine Wp.get (len := 3) rfl (ra_obj (hRd _ _)) rfl ?_
    refine Wp.top (rc_pl hK) ?_
    refine Wp.nc3 (x := a) (y := kh K 0) (tgt := 136) (len := 3) rfl (by omega) (by omega) (fun h62 => ?_) (fun h62 => ?_)
    · skip
      refine Wp.n (pc' := 137) 1 rfl ?_
      refine Wp.retI (len := 1) rfl rfl ?_
      exact RDI_s hS rfl
    · omega
  | succ n ih =>
    intro a st κ2 ρ z5 z6 ha hS hs7 hP hDd2
    refine Wp.n (pc' := 56) 2 rfl ?_
    refine Wp.get (len := 3) rfl (hO _ _) rfl ?_
    refine Wp.get (len := 3) rfl (ra_obj (hRd _ _)) rfl ?_
    refine Wp.top (rc_pl hK) ?_
    refine Wp.nc3 (x := a) (y := kh K 0) (tgt := 136) (len := 3) rfl (by omega) (by omega) (fun h62 => ?_) (fun h62 => ?_)
    · omega
    · skip
      refine Wp.n (pc' := 68) 2 rfl ?_
      refine Wp.iaddN (x := a) (y := 1) (len := 1) rfl ?_
      refine Wp.n (pc' := 71) 1 rfl ?_
      refine k_help_b (κ := κ) hH h11 h1 h2 (by omega) (kh K 0 - (a + 1)) (a + 1) st κ2 ρ _ (by omega) (by omega) hS hs7 hP hDd2 (fun κ3 ρ3 z3 st3 e3 hs3 hS3 hP3 hD3 => ?_)
      refine Wp.incN (x := a) (len := 3) rfl rfl ?_
      refine Wp.n (pc' := 53) 1 rfl ?_
      subst e3
      exact ih (a + 1) _ κ3 ρ3 _ _ (by omega) hS3 hs3 hP3 hD3

theorem k_help (hH : HDR M K) (h11 : kh K 11 = 0) (hd1 : 0 < kh K 0 → 1 ≤ kh K 1) (x : Int32) : Wp (d + 14) md_127 0 [some (.ref 32), some (.int x), none, none, none, none, none] [] (cset M κ) (RDI M κ (helpA K x)) := by
  obtain ⟨ρr, hR, hK, hDC, ok, hr1, hr2⟩ := id hH.2.1
  obtain ⟨b0, b1, b2, b3, b4, b5, b6, b7, b8, b9, b10, b11, b12⟩ := ok_h ok
  obtain ⟨ow, hDo⟩ := hH.1.1
  have hO : ∀ (ρ : RC) (κ : CS), cset (rset M 83 ρ) κ 32 = .inr (9, hdl ow) := fun ρ κ => (cset_o (by omega)).trans ((rset_ne (by omega)).trans hDo)
  have hO0 : ∀ κ : CS, cset M κ 32 = .inr (9, hdl ow) := fun κ => (cset_o (by omega)).trans hDo
  have hR0 : ∀ κ : CS, RA (cset M κ) 36 ρr := fun κ => RA_c hR hr1 hr2
  have hRd : ∀ (ρ : RC) (κ : CS), RA (cset (rset M 83 ρ) κ) 36 ρr := fun ρ κ => RA_c (RA_of hR (fun k a b => rset_ne (by omega))) hr1 hr2
  have hDd : ∀ (ρ : RC) (κ : CS), cset (rset M 83 ρ) κ 83 = .inr (3, rfs 83 ρ) := fun ρ κ => (cset_o (by omega)).trans rs_obj
  have hD0 : ∃ ρ0, ∀ κ : CS, cset M κ 83 = .inr (3, rfs 83 ρ0) := by
    obtain ⟨ρ0, h0⟩ := hH.2.2
    exact ⟨ρ0, fun κ => (cset_o (by omega)).trans (ra_obj h0)⟩
  obtain ⟨ρ0, hD0⟩ := hD0
  unfold helpA
  refine Wp.n (pc' := 1) 1 rfl ?_
  refine Wp.get (len := 3) rfl (hO0 _) rfl ?_
  refine Wp.ecallV (len := 3) rfl rfl rfl (ra_obj (hR0 _)) rfl (by decide) rfl (k_exists (RK_c hH.2.1)) ?_
  refine Wp.ifb0 (tgt := 17) (len := 3) rfl (fun h7 => ?_) (fun h7 => ?_)
  · skip
    refine Wp.n (pc' := 19) 1 rfl ?_
    refine Wp.retI (len := 1) rfl rfl ?_
    refine RDI_r hH.2.2 ScC_r ?_
    first
      | rw [if_neg (fun q => of_decide_eq_false h7 q.1)]
      | rw [if_neg (fun q => by rw [show isR 1 99 x = false from h14] at q; exact absurd q.2 (by decide))]
  · skip
    refine Wp.n (pc' := 11) 1 rfl ?_
    refine Wp.ecallS (len := 3) rfl rfl rfl rfl (c_isThought _) ?_
    refine Wp.ifb1 (tgt := 20) (len := 3) rfl (fun h14 => ?_) (fun h14 => ?_)
    · skip
      obtain ⟨m, hm1, hm9, hm, rfl⟩ := isR_of (lo := 1) (hi := 99) h14
      rw [if_pos ⟨of_decide_eq_true h7, h14⟩, nI_clamp hm]
      refine Wp.n (pc' := 21) 1 rfl ?_
      refine Wp.get (len := 3) rfl (hO0 _) rfl ?_
      refine Wp.n (pc' := 25) 1 rfl ?_
      refine Wp.get (len := 3) rfl (hO0 _) rfl ?_
      refine Wp.callV (len := 3) rfl rfl rfl (hD0 _) rfl (by decide) rfl (k_becomeD hH h11) ?_
      rintro _ _ ⟨rfl, ρ1, rfl, hK1, hDC1⟩
      refine Wp.n (pc' := 32) 1 rfl ?_
      refine Wp.get (len := 3) rfl (hO _ _) rfl ?_
      refine Wp.callV (len := 3) rfl rfl rfl (hDd _ _) rfl (by decide) rfl (k_addLaneD hK1 ok h11 (hd1 (of_decide_eq_true h7))) ?_
      rintro _ _ ⟨rfl, ρ2, rfl, hP2, hd2⟩
      have hD2 : DC (rds ρ2) K (distK K) := by rw [hd2]; exact hDC1
      refine Wp.n (pc' := 40) 2 rfl ?_
      refine Wp.get (len := 3) rfl (hO _ _) rfl ?_
      refine Wp.n (pc' := 44) 1 rfl ?_
      refine Wp.callV (len := 3) rfl rfl rfl (hO _ _) rfl (by decide) rfl (k_bestSum (HDR_d hH).1 (HDR_d hH).2.1 (by decide)) ?_
      rintro _ _ ⟨rfl, κ5, rfl, hS5⟩
      refine Wp.n (pc' := 53) 5 rfl ?_
      exact k_help_a hH h11 hm1 hm9 (kh K 0) 0 (allK K 1, none) κ5 ρ2 _ _ (by omega) hS5 (allK_b ok) hP2 hD2
    · skip
      refine Wp.n (pc' := 19) 1 rfl ?_
      refine Wp.retI (len := 1) rfl rfl ?_
      refine RDI_r hH.2.2 ScC_r ?_
      first
        | rw [if_neg (fun q => of_decide_eq_false h7 q.1)]
        | rw [if_neg (fun q => by rw [show isR 1 99 x = false from h14] at q; exact absurd q.2 (by decide))]

theorem bent_repC {ρ : RC} (hK : RepC ρ K) {k m : Nat} (hk : k < kh K 2) (b2 : kh K 2 ≤ 12) : RepC (kset ρ k 3 (nI (kr K k 2 + m))) (bentK K k m) := by
  obtain ⟨p0, p1, p2, p3, p6, p8, p10, pl, pr, pn, pw⟩ := hK
  refine ⟨p0, p1, p2, p3, p6, p8, p10, pl, fun i hi => ?_, fun l hl => ?_, pw⟩
  · have q := pr i hi
    have e : ∀ j, j ≠ 2 → kr (bentK K k m) i j = kr K i j := fun j hj => by
      show (if i = k then (fun j => if j = 2 then kr K k 2 + m else kr K k j) else kr K i) j = kr K i j
      by_cases c : i = k
      · rw [if_pos c, c]
        exact if_neg hj
      · rw [if_neg c]
    rw [e 0 (by decide), e 1 (by decide)]
    by_cases c : i = k
    · subst c
      rw [rlk_ks, pk_un (by decide), pk_un (by decide), pk_us, pk_un (by decide)]
      refine ⟨q.1, q.2.1, ?_, q.2.2.2⟩
      show _ = nI ((if i = i then (fun j => if j = 2 then kr K i 2 + m else kr K i j) else kr K i) 2)
      rw [if_pos rfl]
      rfl
    · rw [rlk_kn c]
      refine ⟨q.1, q.2.1, ?_, q.2.2.2⟩
      show _ = nI ((if i = k then (fun j => if j = 2 then kr K k 2 + m else kr K k j) else kr K i) 2)
      rw [if_neg c]
      exact q.2.2.1
  · have hl' : 12 + phL (bentK K k m) l ≠ k := by omega
    rw [rlk_kn hl']
    exact pn l hl
theorem k_bendDraft (hH : HDR M K) (h11 : kh K 11 = 0) (h30 : R30 K) {k m : Nat} (hk : k < kh K 2) (hm : m ≤ 99) : Wp (d + 10) md_129 0 [some (.ref 32), some (.int (nI k)), some (.int (nI m))] [] (cset M κ) (fun v M' => v = none ∧ ∃ ρ, M' = cset (rset M 83 ρ) κ ∧ RK (rset M 83 ρ) 83 (bentK K k m)) := by
  obtain ⟨ρr, hR, hK, hDC, ok, hr1, hr2⟩ := id hH.2.1
  obtain ⟨b0, b1, b2, b3, b4, b5, b6, b7, b8, b9, b10, b11, b12⟩ := ok_h ok
  obtain ⟨ow, hDo⟩ := hH.1.1
  have hO : ∀ (ρ : RC) (κ : CS), cset (rset M 83 ρ) κ 32 = .inr (9, hdl ow) := fun ρ κ => (cset_o (by omega)).trans ((rset_ne (by omega)).trans hDo)
  have hO0 : ∀ κ : CS, cset M κ 32 = .inr (9, hdl ow) := fun κ => (cset_o (by omega)).trans hDo
  have hR0 : ∀ κ : CS, RA (cset M κ) 36 ρr := fun κ => RA_c hR hr1 hr2
  have hRd : ∀ (ρ : RC) (κ : CS), RA (cset (rset M 83 ρ) κ) 36 ρr := fun ρ κ => RA_c (RA_of hR (fun k a b => rset_ne (by omega))) hr1 hr2
  have hDd : ∀ (ρ : RC) (κ : CS), cset (rset M 83 ρ) κ 83 = .inr (3, rfs 83 ρ) := fun ρ κ => (cset_o (by omega)).trans rs_obj
  have hD0 : ∃ ρ0, ∀ κ : CS, cset M κ 83 = .inr (3, rfs 83 ρ0) := by
    obtain ⟨ρ0, h0⟩ := hH.2.2
    exact ⟨ρ0, fun κ => (cset_o (by omega)).trans (ra_obj h0)⟩
  obtain ⟨ρ0, hD0⟩ := hD0
  have h30k := h30 k hk
  have okb := bentK_ok ok hk h30 hm
  refine Wp.n (pc' := 1) 1 rfl ?_
  refine Wp.get (len := 3) rfl (hO0 _) rfl ?_
  refine Wp.n (pc' := 5) 1 rfl ?_
  refine Wp.get (len := 3) rfl (hO0 _) rfl ?_
  refine Wp.callV (len := 3) rfl rfl rfl (hD0 _) rfl (by decide) rfl (k_becomeD hH h11) ?_
  rintro _ _ ⟨rfl, ρ1, rfl, hK1, hDC1⟩
  have hrow : cset (rset M 83 ρ1) κ (83 + 2) = .inl (4, 12, .inr (.inr (.inr (.inr (fun i => if i < 12 then some (83 + 3 + i) else none))))) := (cset_o (by omega)).trans rs_roads
  have hrd : cset (rset M 83 ρ1) κ (83 + 3 + k) = .inr (1, kfs k (rlk ρ1 k)) := (cset_o (by omega)).trans (rs_road (by omega))
  refine Wp.n (pc' := 12) 1 rfl ?_
  refine Wp.get (len := 3) rfl (hO _ _) rfl ?_
  refine Wp.get (len := 3) rfl (hDd _ _) rfl ?_
  refine Wp.n (pc' := 19) 1 rfl ?_
  refine Wp.aaldN (j := k) (len := 1) rfl (hrow) rfl (by omega) (by decide) (if_pos (by omega)) ?_
  refine Wp.n (pc' := 21) 1 rfl ?_
  refine Wp.get (len := 3) rfl (hrd) rfl ?_
  refine Wp.top (rc_road hK1 hk).2.2.1 ?_
  refine Wp.n (pc' := 25) 1 rfl ?_
  refine Wp.iaddN (x := kr K k 2) (y := m) (len := 1) rfl ?_
  rw [← rset_c (by decide) (by decide)]
  refine Wp.kputR 3 rfl (i := k) (by omega) (len := 3) rfl ?_
  rw [rset_c (by decide) (by decide)]
  refine Wp.n (pc' := 30) 1 rfl ?_
  refine Wp.get (len := 3) rfl (hO _ _) rfl ?_
  refine Wp.callV (len := 3) rfl rfl rfl (hDd _ _) rfl (by decide) rfl (k_reckonRoads (d := d + 1) (bent_repC hK1 hk b2) okb (by decide) (RA_c rset_ra (by decide) (by decide))) ?_
  rintro _ _ ⟨rfl, f, rfl, hf⟩
  refine Wp.retV (len := 1) rfl rfl ?_
  refine ⟨rfl, dset (kset ρ1 k 3 (nI (kr K k 2 + m))) f, ?_, _, rset_ra, bent_repC hK1 hk b2, hf, okb, by decide, by decide⟩
  rw [rset_c (by decide) (by decide), rset_rset]

theorem k_bend (hH : HDR M K) (h11 : kh K 11 = 0) (h30 : R30 K) (x m k : Int32) : Wp (d + 14) md_128 0 [some (.ref 32), some (.int x), some (.int m), some (.int k)] [] (cset M κ) (RDI M κ (bendA K x m k)) := by
  obtain ⟨ρr, hR, hK, hDC, ok, hr1, hr2⟩ := id hH.2.1
  obtain ⟨b0, b1, b2, b3, b4, b5, b6, b7, b8, b9, b10, b11, b12⟩ := ok_h ok
  obtain ⟨ow, hDo⟩ := hH.1.1
  have hO : ∀ (ρ : RC) (κ : CS), cset (rset M 83 ρ) κ 32 = .inr (9, hdl ow) := fun ρ κ => (cset_o (by omega)).trans ((rset_ne (by omega)).trans hDo)
  have hO0 : ∀ κ : CS, cset M κ 32 = .inr (9, hdl ow) := fun κ => (cset_o (by omega)).trans hDo
  have hR0 : ∀ κ : CS, RA (cset M κ) 36 ρr := fun κ => RA_c hR hr1 hr2
  have hRd : ∀ (ρ : RC) (κ : CS), RA (cset (rset M 83 ρ) κ) 36 ρr := fun ρ κ => RA_c (RA_of hR (fun k a b => rset_ne (by omega))) hr1 hr2
  have hDd : ∀ (ρ : RC) (κ : CS), cset (rset M 83 ρ) κ 83 = .inr (3, rfs 83 ρ) := fun ρ κ => (cset_o (by omega)).trans rs_obj
  have hD0 : ∃ ρ0, ∀ κ : CS, cset M κ 83 = .inr (3, rfs 83 ρ0) := by
    obtain ⟨ρ0, h0⟩ := hH.2.2
    exact ⟨ρ0, fun κ => (cset_o (by omega)).trans (ra_obj h0)⟩
  obtain ⟨ρ0, hD0⟩ := hD0
  unfold bendA
  refine Wp.n (pc' := 1) 1 rfl ?_
  refine Wp.get (len := 3) rfl (hO0 _) rfl ?_
  refine Wp.n (pc' := 5) 1 rfl ?_
  refine Wp.ecallV (len := 3) rfl rfl rfl (ra_obj (hR0 _)) rfl (by decide) rfl (k_hasRoad (RK_c hH.2.1) _) ?_
  refine Wp.ifb0 (tgt := 25) (len := 3) rfl (fun h8 => ?_) (fun h8 => ?_)
  · skip
    refine Wp.n (pc' := 28) 1 rfl ?_
    refine Wp.retI (len := 1) rfl rfl ?_
    refine RDI_r hH.2.2 ScC_r ?_
    first
      | rw [if_neg (fun q => by rw [h8] at q; exact absurd q.1 (by decide))]
      | rw [if_neg (fun q => by rw [show isR 1 99 m = false from h15] at q; exact absurd q.2.1 (by decide))]
      | rw [if_neg (fun q => by rw [h22] at q; exact absurd q.2.2 (by decide))]
  · skip
    refine Wp.n (pc' := 12) 1 rfl ?_
    refine Wp.ecallS (len := 3) rfl rfl rfl rfl (c_isThought _) ?_
    refine Wp.ifb0 (tgt := 25) (len := 3) rfl (fun h15 => ?_) (fun h15 => ?_)
    · skip
      refine Wp.n (pc' := 28) 1 rfl ?_
      refine Wp.retI (len := 1) rfl rfl ?_
      refine RDI_r hH.2.2 ScC_r ?_
      first
        | rw [if_neg (fun q => by rw [h8] at q; exact absurd q.1 (by decide))]
        | rw [if_neg (fun q => by rw [show isR 1 99 m = false from h15] at q; exact absurd q.2.1 (by decide))]
        | rw [if_neg (fun q => by rw [h22] at q; exact absurd q.2.2 (by decide))]
    · skip
      refine Wp.n (pc' := 19) 1 rfl ?_
      refine Wp.ecallS (len := 3) rfl rfl rfl rfl (k_isSumN _) ?_
      refine Wp.ifb1 (tgt := 29) (len := 3) rfl (fun h22 => ?_) (fun h22 => ?_)
      · skip
        obtain ⟨w, hw, rfl⟩ := isN_of h8
        obtain ⟨m, hm1, hm9, hm, rfl⟩ := isR_of (lo := 1) (hi := 99) h15
        obtain ⟨k, hk4, rfl⟩ := isN_of h22
        rw [if_pos ⟨h8, h15, h22⟩, nI_clamp (by omega), nI_clamp hm, nI_clamp (by omega)]
        refine Wp.n (pc' := 32) 3 rfl ?_
        refine Wp.callV (len := 3) rfl rfl rfl (hO0 _) rfl (by decide) rfl (k_bendDraft hH h11 h30 hw hm9) ?_
        rintro _ _ ⟨rfl, ρ1, rfl, hk1⟩
        refine Wp.n (pc' := 37) 2 rfl ?_
        refine Wp.get (len := 3) rfl (hO _ _) rfl ?_
        refine Wp.n (pc' := 41) 1 rfl ?_
        refine Wp.callV (len := 3) rfl rfl rfl (hO _ _) rfl (by decide) rfl (k_bestSum (HDR_d hH).1 hk1 hk4) ?_
        rintro _ _ ⟨rfl, κ4, rfl, hS4⟩
        refine Wp.n (pc' := 46) 2 rfl ?_
        refine Wp.get (len := 3) rfl (hO _ _) rfl ?_
        refine Wp.n (pc' := 50) 1 rfl ?_
        refine Wp.callV (len := 3) rfl rfl rfl (hO _ _) rfl (by decide) rfl (k_bestSum (HDR_d hH).1 (HDR_d hH).2.1 hk4) ?_
        rintro _ _ ⟨rfl, κ5, rfl, hS5⟩
        refine Wp.n (pc' := 54) 1 rfl ?_
        refine Wp.retI (len := 1) rfl rfl ?_
        exact RDI_s (ScC_t hS4 hS5) rfl
      · skip
        refine Wp.n (pc' := 28) 1 rfl ?_
        refine Wp.retI (len := 1) rfl rfl ?_
        refine RDI_r hH.2.2 ScC_r ?_
        first
          | rw [if_neg (fun q => by rw [h8] at q; exact absurd q.1 (by decide))]
          | rw [if_neg (fun q => by rw [show isR 1 99 m = false from h15] at q; exact absurd q.2.1 (by decide))]
          | rw [if_neg (fun q => by rw [h22] at q; exact absurd q.2.2 (by decide))]

theorem k_duke_l (h11 : kh K 11 = 0) (h30 : R30 K) {m : Nat} (hm : m ≤ 99) : ∀ (n k : Nat) (st : Nat × Option Nat) (M : AM) (κ2 : CS) (z5 : Option Value), HDR M K → k + n = kh K 2 → ScC κ κ2 → st.1 ≤ 7662600 → Wp (d + 14) md_130 35 [some (.ref 32), some (.int (nI m)), some (.int (nI (st.1))), some (.int (oI st.2)), some (.int (nI k)), z5] [] (cset M κ2) (RDI M κ (oI (fld (dst K m) n k st).2)) := by
  intro n
  induction n with
  | zero =>
    intro k st M κ2 z5 hH hk hS hs7
    obtain ⟨ρr, hR, hK, hDC, ok, hr1, hr2⟩ := id hH.2.1
    obtain ⟨b0, b1, b2, b3, b4, b5, b6, b7, b8, b9, b10, b11, b12⟩ := ok_h ok
    obtain ⟨ow, hDo⟩ := hH.1.1
    have hO : ∀ (ρ : RC) (κ : CS), cset (rset M 83 ρ) κ 32 = .inr (9, hdl ow) := fun ρ κ => (cset_o (by omega)).trans ((rset_ne (by omega)).trans hDo)
    have hO0 : ∀ κ : CS, cset M κ 32 = .inr (9, hdl ow) := fun κ => (cset_o (by omega)).trans hDo
    have hR0 : ∀ κ : CS, RA (cset M κ) 36 ρr := fun κ => RA_c hR hr1 hr2
    have hRd : ∀ (ρ : RC) (κ : CS), RA (cset (rset M 83 ρ) κ) 36 ρr := fun ρ κ => RA_c (RA_of hR (fun k a b => rset_ne (by omega))) hr1 hr2
    have hDd : ∀ (ρ : RC) (κ : CS), cset (rset M 83 ρ) κ 83 = .inr (3, rfs 83 ρ) := fun ρ κ => (cset_o (by omega)).trans rs_obj
    have hD0 : ∃ ρ0, ∀ κ : CS, cset M κ 83 = .inr (3, rfs 83 ρ0) := by
      obtain ⟨ρ0, h0⟩ := hH.2.2
      exact ⟨ρ0, fun κ => (cset_o (by omega)).trans (ra_obj h0)⟩
    obtain ⟨ρ0, hD0⟩ := hD0
    refine Wp.n (pc' := 38) 2 rfl ?_
    refine Wp.get (len := 3) rfl (hO0 _) rfl ?_
    refine Wp.get (len := 3) rfl (ra_obj (hR0 _)) rfl ?_
    refine Wp.top (rc_rd hK) ?_
    refine Wp.nc3 (x := k) (y := kh K 2) (tgt := 83) (len := 3) rfl (by omega) (by omega) (fun h44 => ?_) (fun h44 => ?_)
    · skip
      refine Wp.n (pc' := 84) 1 rfl ?_
      refine Wp.retI (len := 1) rfl rfl ?_
      exact RDI_r hH.2.2 hS rfl
    · omega
  | succ n ih =>
    intro k st M κ2 z5 hH hk hS hs7
    obtain ⟨ρr, hR, hK, hDC, ok, hr1, hr2⟩ := id hH.2.1
    obtain ⟨b0, b1, b2, b3, b4, b5, b6, b7, b8, b9, b10, b11, b12⟩ := ok_h ok
    obtain ⟨ow, hDo⟩ := hH.1.1
    have hO : ∀ (ρ : RC) (κ : CS), cset (rset M 83 ρ) κ 32 = .inr (9, hdl ow) := fun ρ κ => (cset_o (by omega)).trans ((rset_ne (by omega)).trans hDo)
    have hO0 : ∀ κ : CS, cset M κ 32 = .inr (9, hdl ow) := fun κ => (cset_o (by omega)).trans hDo
    have hR0 : ∀ κ : CS, RA (cset M κ) 36 ρr := fun κ => RA_c hR hr1 hr2
    have hRd : ∀ (ρ : RC) (κ : CS), RA (cset (rset M 83 ρ) κ) 36 ρr := fun ρ κ => RA_c (RA_of hR (fun k a b => rset_ne (by omega))) hr1 hr2
    have hDd : ∀ (ρ : RC) (κ : CS), cset (rset M 83 ρ) κ 83 = .inr (3, rfs 83 ρ) := fun ρ κ => (cset_o (by omega)).trans rs_obj
    have hD0 : ∃ ρ0, ∀ κ : CS, cset M κ 83 = .inr (3, rfs 83 ρ0) := by
      obtain ⟨ρ0, h0⟩ := hH.2.2
      exact ⟨ρ0, fun κ => (cset_o (by omega)).trans (ra_obj h0)⟩
    obtain ⟨ρ0, hD0⟩ := hD0
    have hab2 := allK_b (K := bentK K k m) (k := 0) (bentK_ok ok (by omega) h30 hm)
    rw [show fld (dst K m) (n + 1) k st = fld (dst K m) n (k + 1) (dst K m st k) from rfl]
    refine Wp.n (pc' := 38) 2 rfl ?_
    refine Wp.get (len := 3) rfl (hO0 _) rfl ?_
    refine Wp.get (len := 3) rfl (ra_obj (hR0 _)) rfl ?_
    refine Wp.top (rc_rd hK) ?_
    refine Wp.nc3 (x := k) (y := kh K 2) (tgt := 83) (len := 3) rfl (by omega) (by omega) (fun h44 => ?_) (fun h44 => ?_)
    · omega
    · skip
      refine Wp.n (pc' := 51) 3 rfl ?_
      refine Wp.callV (len := 3) rfl rfl rfl (hO0 _) rfl (by decide) rfl (k_bendDraft hH h11 h30 (by omega) hm) ?_
      rintro _ _ ⟨rfl, ρ1, rfl, hk1⟩
      refine Wp.n (pc' := 56) 2 rfl ?_
      refine Wp.get (len := 3) rfl (hO _ _) rfl ?_
      refine Wp.n (pc' := 60) 1 rfl ?_
      refine Wp.callV (len := 3) rfl rfl rfl (hO _ _) rfl (by decide) rfl (k_bestSum (HDR_d hH).1 hk1 (by decide)) ?_
      rintro _ _ ⟨rfl, κ4, rfl, hS4⟩
      refine Wp.n (pc' := 68) 3 rfl ?_
      refine Wp.nc5 (x := allK (bentK K k m) 0) (y := st.1) (tgt := 77) (len := 3) rfl (by omega) (by omega) (fun h68 => ?_) (fun h68 => ?_)
      · skip
        refine Wp.incN (x := k) (len := 3) rfl rfl ?_
        refine Wp.n (pc' := 35) 1 rfl ?_
        have fin2 : ∀ st2 : Nat × Option Nat, dst K m st k = st2 → st2.1 ≤ 7662600 → ∀ z5, Wp (d + 14) md_130 35 [some (.ref 32), some (.int (nI m)), some (.int (nI (st2.1))), some (.int (oI st2.2)), some (.int (nI (k + 1))), z5] [] (cset (rset M 83 ρ1) κ4) (RDI M κ (oI (fld (dst K m) n (k + 1) (dst K m st k)).2)) := by
          intro st2 e2 hb2 z5
          rw [e2]
          refine Wp.mono (ih (k + 1) st2 (rset M 83 ρ1) κ4 z5 (HDR_d hH) (by omega) (ScC_t hS hS4) hb2) ?_
          rintro _ _ ⟨rfl, ρ9, κ9, rfl, h9⟩
          rw [rset_rset]
          exact RDI_s h9 rfl
        first
          | exact fin2 (allK (bentK K k m) 0, some k) (if_pos (by omega)) hab2 _
          | exact fin2 st (if_neg (by omega)) hs7 _
      · skip
        refine Wp.n (pc' := 77) 4 rfl ?_
        refine Wp.incN (x := k) (len := 3) rfl rfl ?_
        refine Wp.n (pc' := 35) 1 rfl ?_
        have fin2 : ∀ st2 : Nat × Option Nat, dst K m st k = st2 → st2.1 ≤ 7662600 → ∀ z5, Wp (d + 14) md_130 35 [some (.ref 32), some (.int (nI m)), some (.int (nI (st2.1))), some (.int (oI st2.2)), some (.int (nI (k + 1))), z5] [] (cset (rset M 83 ρ1) κ4) (RDI M κ (oI (fld (dst K m) n (k + 1) (dst K m st k)).2)) := by
          intro st2 e2 hb2 z5
          rw [e2]
          refine Wp.mono (ih (k + 1) st2 (rset M 83 ρ1) κ4 z5 (HDR_d hH) (by omega) (ScC_t hS hS4) hb2) ?_
          rintro _ _ ⟨rfl, ρ9, κ9, rfl, h9⟩
          rw [rset_rset]
          exact RDI_s h9 rfl
        first
          | exact fin2 (allK (bentK K k m) 0, some k) (if_pos (by omega)) hab2 _
          | exact fin2 st (if_neg (by omega)) hs7 _

theorem k_duke (hH : HDR M K) (h11 : kh K 11 = 0) (h30 : R30 K) (x : Int32) : Wp (d + 14) md_130 0 [some (.ref 32), some (.int x), none, none, none, none] [] (cset M κ) (RDI M κ (dukeA K x)) := by
  obtain ⟨ρr, hR, hK, hDC, ok, hr1, hr2⟩ := id hH.2.1
  obtain ⟨b0, b1, b2, b3, b4, b5, b6, b7, b8, b9, b10, b11, b12⟩ := ok_h ok
  obtain ⟨ow, hDo⟩ := hH.1.1
  have hO : ∀ (ρ : RC) (κ : CS), cset (rset M 83 ρ) κ 32 = .inr (9, hdl ow) := fun ρ κ => (cset_o (by omega)).trans ((rset_ne (by omega)).trans hDo)
  have hO0 : ∀ κ : CS, cset M κ 32 = .inr (9, hdl ow) := fun κ => (cset_o (by omega)).trans hDo
  have hR0 : ∀ κ : CS, RA (cset M κ) 36 ρr := fun κ => RA_c hR hr1 hr2
  have hRd : ∀ (ρ : RC) (κ : CS), RA (cset (rset M 83 ρ) κ) 36 ρr := fun ρ κ => RA_c (RA_of hR (fun k a b => rset_ne (by omega))) hr1 hr2
  have hDd : ∀ (ρ : RC) (κ : CS), cset (rset M 83 ρ) κ 83 = .inr (3, rfs 83 ρ) := fun ρ κ => (cset_o (by omega)).trans rs_obj
  have hD0 : ∃ ρ0, ∀ κ : CS, cset M κ 83 = .inr (3, rfs 83 ρ0) := by
    obtain ⟨ρ0, h0⟩ := hH.2.2
    exact ⟨ρ0, fun κ => (cset_o (by omega)).trans (ra_obj h0)⟩
  obtain ⟨ρ0, hD0⟩ := hD0
  unfold dukeA
  refine Wp.n (pc' := 1) 1 rfl ?_
  refine Wp.get (len := 3) rfl (hO0 _) rfl ?_
  refine Wp.ecallV (len := 3) rfl rfl rfl (ra_obj (hR0 _)) rfl (by decide) rfl (k_exists (RK_c hH.2.1)) ?_
  refine Wp.ifb0 (tgt := 17) (len := 3) rfl (fun h7 => ?_) (fun h7 => ?_)
  · skip
    refine Wp.n (pc' := 19) 1 rfl ?_
    refine Wp.retI (len := 1) rfl rfl ?_
    refine RDI_r hH.2.2 ScC_r ?_
    first
      | rw [if_neg (fun q => of_decide_eq_false h7 q.1)]
      | rw [if_neg (fun q => by rw [show isR 1 99 x = false from h14] at q; exact absurd q.2 (by decide))]
  · skip
    refine Wp.n (pc' := 11) 1 rfl ?_
    refine Wp.ecallS (len := 3) rfl rfl rfl rfl (c_isThought _) ?_
    refine Wp.ifb1 (tgt := 20) (len := 3) rfl (fun h14 => ?_) (fun h14 => ?_)
    · skip
      obtain ⟨m, hm1, hm9, hm, rfl⟩ := isR_of (lo := 1) (hi := 99) h14
      rw [if_pos ⟨of_decide_eq_true h7, h14⟩, nI_clamp hm]
      refine Wp.n (pc' := 22) 2 rfl ?_
      refine Wp.get (len := 3) rfl (hO0 _) rfl ?_
      refine Wp.n (pc' := 26) 1 rfl ?_
      refine Wp.callV (len := 3) rfl rfl rfl (hO0 _) rfl (by decide) rfl (k_bestSum hH.1 hH.2.1 (by decide)) ?_
      rintro _ _ ⟨rfl, κ5, rfl, hS5⟩
      refine Wp.n (pc' := 35) 5 rfl ?_
      exact k_duke_l h11 h30 hm9 (kh K 2) 0 (allK K 0, none) M κ5 _ hH (by omega) hS5 (allK_b ok)
    · skip
      refine Wp.n (pc' := 19) 1 rfl ?_
      refine Wp.retI (len := 1) rfl rfl ?_
      refine RDI_r hH.2.2 ScC_r ?_
      first
        | rw [if_neg (fun q => of_decide_eq_false h7 q.1)]
        | rw [if_neg (fun q => by rw [show isR 1 99 x = false from h14] at q; exact absurd q.2 (by decide))]

theorem laws_repC {ρ : RC} (hK : RepC ρ K) {x f : Nat} : RepC (wset (wset ρ 0 (nI x)) 1 (nI f)) (lawsK K x f) := by
  obtain ⟨p0, p1, p2, p3, p6, p8, p10, pl, pr, pn, pw⟩ := hK
  refine ⟨p0, p1, p2, p3, p6, p8, p10, fun h0 j hj => ?_, pr, pn, pw⟩
  have q := pl h0 j hj
  match j, hj with
  | 0, _ => rfl
  | 1, _ => rfl
  | 2, _ => exact q
  | 3, _ => exact q
  | 4, _ => exact q
theorem k_draftLaw (hH : HDR M K) (h11 : kh K 11 = 0) {x f : Nat} (hx : x ≤ 99) (hf : f ≤ 99) : Wp (d + 10) md_134 0 [some (.ref 32), some (.int (nI x)), some (.int (nI f))] [] (cset M κ) (fun v M' => v = none ∧ ∃ ρ, M' = cset (rset M 83 ρ) κ ∧ RK (rset M 83 ρ) 83 (lawsK K x f)) := by
  obtain ⟨ρr, hR, hK, hDC, ok, hr1, hr2⟩ := id hH.2.1
  obtain ⟨b0, b1, b2, b3, b4, b5, b6, b7, b8, b9, b10, b11, b12⟩ := ok_h ok
  obtain ⟨ow, hDo⟩ := hH.1.1
  have hO : ∀ (ρ : RC) (κ : CS), cset (rset M 83 ρ) κ 32 = .inr (9, hdl ow) := fun ρ κ => (cset_o (by omega)).trans ((rset_ne (by omega)).trans hDo)
  have hO0 : ∀ κ : CS, cset M κ 32 = .inr (9, hdl ow) := fun κ => (cset_o (by omega)).trans hDo
  have hR0 : ∀ κ : CS, RA (cset M κ) 36 ρr := fun κ => RA_c hR hr1 hr2
  have hRd : ∀ (ρ : RC) (κ : CS), RA (cset (rset M 83 ρ) κ) 36 ρr := fun ρ κ => RA_c (RA_of hR (fun k a b => rset_ne (by omega))) hr1 hr2
  have hDd : ∀ (ρ : RC) (κ : CS), cset (rset M 83 ρ) κ 83 = .inr (3, rfs 83 ρ) := fun ρ κ => (cset_o (by omega)).trans rs_obj
  have hD0 : ∃ ρ0, ∀ κ : CS, cset M κ 83 = .inr (3, rfs 83 ρ0) := by
    obtain ⟨ρ0, h0⟩ := hH.2.2
    exact ⟨ρ0, fun κ => (cset_o (by omega)).trans (ra_obj h0)⟩
  obtain ⟨ρ0, hD0⟩ := hD0
  refine Wp.n (pc' := 1) 1 rfl ?_
  refine Wp.get (len := 3) rfl (hO0 _) rfl ?_
  refine Wp.n (pc' := 5) 1 rfl ?_
  refine Wp.get (len := 3) rfl (hO0 _) rfl ?_
  refine Wp.callV (len := 3) rfl rfl rfl (hD0 _) rfl (by decide) rfl (k_becomeD hH h11) ?_
  rintro _ _ ⟨rfl, ρ1, rfl, hK1, hDC1⟩
  refine Wp.n (pc' := 12) 1 rfl ?_
  refine Wp.get (len := 3) rfl (hO _ _) rfl ?_
  refine Wp.get (len := 3) rfl (hDd _ _) rfl ?_
  refine Wp.n (pc' := 19) 1 rfl ?_
  rw [← rset_c (by decide) (by decide)]
  refine Wp.wput 0 rfl (len := 3) rfl ?_
  rw [rset_c (by decide) (by decide)]
  refine Wp.n (pc' := 23) 1 rfl ?_
  refine Wp.get (len := 3) rfl (hO _ _) rfl ?_
  refine Wp.get (len := 3) rfl (hDd _ _) rfl ?_
  refine Wp.n (pc' := 30) 1 rfl ?_
  rw [← rset_c (by decide) (by decide)]
  refine Wp.wput 1 rfl (len := 3) rfl ?_
  rw [rset_c (by decide) (by decide)]
  refine Wp.retV (len := 1) rfl rfl ?_
  exact ⟨rfl, _, rfl, _, rset_ra, laws_repC hK1, hDC1, lawsK_ok ok hx hf, by decide, by decide⟩

theorem k_by (hH : HDR M K) (h11 : kh K 11 = 0) (x y : Int32) : Wp (d + 13) md_133 0 [some (.ref 32), some (.int x), some (.int y)] [] (cset M κ) (RDI M κ (byA K x y)) := by
  obtain ⟨ρr, hR, hK, hDC, ok, hr1, hr2⟩ := id hH.2.1
  obtain ⟨b0, b1, b2, b3, b4, b5, b6, b7, b8, b9, b10, b11, b12⟩ := ok_h ok
  obtain ⟨ow, hDo⟩ := hH.1.1
  have hO : ∀ (ρ : RC) (κ : CS), cset (rset M 83 ρ) κ 32 = .inr (9, hdl ow) := fun ρ κ => (cset_o (by omega)).trans ((rset_ne (by omega)).trans hDo)
  have hO0 : ∀ κ : CS, cset M κ 32 = .inr (9, hdl ow) := fun κ => (cset_o (by omega)).trans hDo
  have hR0 : ∀ κ : CS, RA (cset M κ) 36 ρr := fun κ => RA_c hR hr1 hr2
  have hRd : ∀ (ρ : RC) (κ : CS), RA (cset (rset M 83 ρ) κ) 36 ρr := fun ρ κ => RA_c (RA_of hR (fun k a b => rset_ne (by omega))) hr1 hr2
  have hDd : ∀ (ρ : RC) (κ : CS), cset (rset M 83 ρ) κ 83 = .inr (3, rfs 83 ρ) := fun ρ κ => (cset_o (by omega)).trans rs_obj
  have hD0 : ∃ ρ0, ∀ κ : CS, cset M κ 83 = .inr (3, rfs 83 ρ0) := by
    obtain ⟨ρ0, h0⟩ := hH.2.2
    exact ⟨ρ0, fun κ => (cset_o (by omega)).trans (ra_obj h0)⟩
  obtain ⟨ρ0, hD0⟩ := hD0
  unfold byA
  refine Wp.n (pc' := 1) 1 rfl ?_
  refine Wp.get (len := 3) rfl (hO0 _) rfl ?_
  refine Wp.ecallV (len := 3) rfl rfl rfl (ra_obj (hR0 _)) rfl (by decide) rfl (k_exists (RK_c hH.2.1)) ?_
  refine Wp.ifb0 (tgt := 30) (len := 3) rfl (fun h7 => ?_) (fun h7 => ?_)
  · skip
    refine Wp.n (pc' := 32) 1 rfl ?_
    refine Wp.retI (len := 1) rfl rfl ?_
    refine RDI_r hH.2.2 ScC_r ?_
    first
      | rw [if_neg (fun q => of_decide_eq_false h7 q.1)]
      | rw [if_neg (fun q => by rw [h17] at q; exact absurd q.2.1 (by decide))]
      | rw [if_neg (fun q => by rw [h27] at q; exact absurd q.2.2 (by decide))]
  · skip
    refine Wp.n (pc' := 14) 3 rfl ?_
    refine Wp.ecallS (len := 3) rfl rfl rfl rfl (k_isWithinN (hi := 99) x (by decide)) ?_
    refine Wp.ifb0 (tgt := 30) (len := 3) rfl (fun h17 => ?_) (fun h17 => ?_)
    · skip
      refine Wp.n (pc' := 32) 1 rfl ?_
      refine Wp.retI (len := 1) rfl rfl ?_
      refine RDI_r hH.2.2 ScC_r ?_
      first
        | rw [if_neg (fun q => of_decide_eq_false h7 q.1)]
        | rw [if_neg (fun q => by rw [h17] at q; exact absurd q.2.1 (by decide))]
        | rw [if_neg (fun q => by rw [h27] at q; exact absurd q.2.2 (by decide))]
    · skip
      refine Wp.n (pc' := 24) 3 rfl ?_
      refine Wp.ecallS (len := 3) rfl rfl rfl rfl (k_isWithinN (hi := 99) y (by decide)) ?_
      refine Wp.ifb1 (tgt := 33) (len := 3) rfl (fun h27 => ?_) (fun h27 => ?_)
      · skip
        obtain ⟨v, hv, rfl⟩ := isN_of h17
        obtain ⟨f, hf, rfl⟩ := isN_of h27
        rw [if_pos ⟨of_decide_eq_true h7, h17, h27⟩, nI_clamp (by omega), nI_clamp (by omega)]
        refine Wp.n (pc' := 36) 3 rfl ?_
        refine Wp.callV (len := 3) rfl rfl rfl (hO0 _) rfl (by decide) rfl (k_draftLaw hH h11 (by omega) (by omega)) ?_
        rintro _ _ ⟨rfl, ρ1, rfl, hk1⟩
        refine Wp.n (pc' := 41) 2 rfl ?_
        refine Wp.get (len := 3) rfl (hO _ _) rfl ?_
        refine Wp.n (pc' := 46) 2 rfl ?_
        refine Wp.callV (len := 3) rfl rfl rfl (hO _ _) rfl (by decide) rfl (k_dutySum (HDR_d hH).1 hk1 (by decide) (-1) (-1)) ?_
        rintro _ _ ⟨rfl, κ4, rfl, hS4⟩
        refine Wp.retI (len := 1) rfl rfl ?_
        exact RDI_s hS4 rfl
      · skip
        refine Wp.n (pc' := 32) 1 rfl ?_
        refine Wp.retI (len := 1) rfl rfl ?_
        refine RDI_r hH.2.2 ScC_r ?_
        first
          | rw [if_neg (fun q => of_decide_eq_false h7 q.1)]
          | rw [if_neg (fun q => by rw [h17] at q; exact absurd q.2.1 (by decide))]
          | rw [if_neg (fun q => by rw [h27] at q; exact absurd q.2.2 (by decide))]

theorem k_rate_l {ρ : RC} {κ2 : CS} (hS : ScC κ κ2) {m s : Nat} (hm : m ≤ 999999) (hs : s ≤ 6896340) : ∀ (n x : Nat), x + n = 100 → Wp d md_135 52 [some (.ref 32), some (.int (nI m)), some (.int (nI s)), some (.int (nI x))] [] (cset (rset M 83 ρ) κ2) (RDI M κ (oI (fnd (fun x => decide (m ≤ x * s)) n x))) := by
  intro n
  induction n with
  | zero =>
    intro x hx
    refine Wp.n (pc' := 55) 2 rfl ?_
    refine Wp.nc4 (x := x) (y := 99) (tgt := 73) (len := 3) rfl (by omega) (by omega) (fun h55 => ?_) (fun h55 => ?_)
    · skip
      refine Wp.n (pc' := 74) 1 rfl ?_
      refine Wp.retI (len := 1) rfl rfl ?_
      exact RDI_s hS rfl
    · omega
  | succ n ih =>
    intro x hx
    have hb : x * s ≤ 99 * 6896340 := Nat.mul_le_mul (by omega) hs
    rw [show fnd (fun x => decide (m ≤ x * s)) (n + 1) x = if decide (m ≤ x * s) = true then some x else fnd (fun x => decide (m ≤ x * s)) n (x + 1) from rfl]
    refine Wp.n (pc' := 55) 2 rfl ?_
    refine Wp.nc4 (x := x) (y := 99) (tgt := 73) (len := 3) rfl (by omega) (by omega) (fun h55 => ?_) (fun h55 => ?_)
    · omega
    · skip
      refine Wp.n (pc' := 60) 2 rfl ?_
      refine Wp.imulN (x := x) (y := s) (len := 1) rfl ?_
      refine Wp.n (pc' := 62) 1 rfl ?_
      refine Wp.nc2 (x := x * s) (y := m) (tgt := 67) (len := 3) rfl (by omega) (by omega) (fun h62 => ?_) (fun h62 => ?_)
      · skip
        refine Wp.incN (x := x) (len := 3) rfl rfl ?_
        refine Wp.n (pc' := 52) 1 rfl ?_
        rw [if_neg (by rw [decide_eq_true_iff]; omega)]
        exact ih (x + 1) (by omega)
      · skip
        refine Wp.n (pc' := 66) 1 rfl ?_
        refine Wp.retI (len := 1) rfl rfl ?_
        rw [if_pos (decide_eq_true h62)]
        exact RDI_s hS rfl

theorem k_rate (hH : HDR M K) (h11 : kh K 11 = 0) (x : Int32) : Wp (d + 13) md_135 0 [some (.ref 32), some (.int x), none, none] [] (cset M κ) (RDI M κ (rateA K x)) := by
  obtain ⟨ρr, hR, hK, hDC, ok, hr1, hr2⟩ := id hH.2.1
  obtain ⟨b0, b1, b2, b3, b4, b5, b6, b7, b8, b9, b10, b11, b12⟩ := ok_h ok
  obtain ⟨ow, hDo⟩ := hH.1.1
  have hO : ∀ (ρ : RC) (κ : CS), cset (rset M 83 ρ) κ 32 = .inr (9, hdl ow) := fun ρ κ => (cset_o (by omega)).trans ((rset_ne (by omega)).trans hDo)
  have hO0 : ∀ κ : CS, cset M κ 32 = .inr (9, hdl ow) := fun κ => (cset_o (by omega)).trans hDo
  have hR0 : ∀ κ : CS, RA (cset M κ) 36 ρr := fun κ => RA_c hR hr1 hr2
  have hRd : ∀ (ρ : RC) (κ : CS), RA (cset (rset M 83 ρ) κ) 36 ρr := fun ρ κ => RA_c (RA_of hR (fun k a b => rset_ne (by omega))) hr1 hr2
  have hDd : ∀ (ρ : RC) (κ : CS), cset (rset M 83 ρ) κ 83 = .inr (3, rfs 83 ρ) := fun ρ κ => (cset_o (by omega)).trans rs_obj
  have hD0 : ∃ ρ0, ∀ κ : CS, cset M κ 83 = .inr (3, rfs 83 ρ0) := by
    obtain ⟨ρ0, h0⟩ := hH.2.2
    exact ⟨ρ0, fun κ => (cset_o (by omega)).trans (ra_obj h0)⟩
  obtain ⟨ρ0, hD0⟩ := hD0
  unfold rateA
  refine Wp.n (pc' := 1) 1 rfl ?_
  refine Wp.get (len := 3) rfl (hO0 _) rfl ?_
  refine Wp.ecallV (len := 3) rfl rfl rfl (ra_obj (hR0 _)) rfl (by decide) rfl (k_exists (RK_c hH.2.1)) ?_
  refine Wp.ifb0 (tgt := 21) (len := 3) rfl (fun h7 => ?_) (fun h7 => ?_)
  · skip
    refine Wp.n (pc' := 23) 1 rfl ?_
    refine Wp.retI (len := 1) rfl rfl ?_
    refine RDI_r hH.2.2 ScC_r ?_
    first
      | rw [if_neg (fun q => of_decide_eq_false h7 q.1)]
      | rw [if_neg (fun q => by rw [h18] at q; exact absurd q.2 (by decide))]
  · skip
    refine Wp.n (pc' := 15) 3 rfl ?_
    refine Wp.ecallS (len := 3) rfl rfl rfl rfl (k_isWithinR (lo := 1) (hi := 999999) x (by decide) (by decide)) ?_
    refine Wp.ifb1 (tgt := 24) (len := 3) rfl (fun h18 => ?_) (fun h18 => ?_)
    · skip
      obtain ⟨m, hm1, hm9, hm, rfl⟩ := isR_of (lo := 1) (hi := 999999) h18
      rw [if_pos ⟨of_decide_eq_true h7, h18⟩, nI_clamp hm]
      refine Wp.n (pc' := 27) 3 rfl ?_
      refine Wp.get (len := 3) rfl (hO0 _) rfl ?_
      refine Wp.get (len := 3) rfl (ra_obj (hR0 _)) rfl ?_
      refine Wp.get (len := 3) rfl (ra_law (hR0 _)) rfl ?_
      refine Wp.top (rc_law hK (of_decide_eq_true h7) (j := 1) (by decide)) ?_
      refine Wp.callV (len := 3) rfl rfl rfl (hO0 _) rfl (by decide) rfl (k_draftLaw (x := 1) (f := kh K 7) hH h11 (by omega) b7) ?_
      rintro _ _ ⟨rfl, ρ1, rfl, hk1⟩
      refine Wp.n (pc' := 41) 2 rfl ?_
      refine Wp.get (len := 3) rfl (hO _ _) rfl ?_
      refine Wp.n (pc' := 46) 2 rfl ?_
      refine Wp.callV (len := 3) rfl rfl rfl (hO _ _) rfl (by decide) rfl (k_dutySum (HDR_d hH).1 hk1 (by decide) (-1) (-1)) ?_
      rintro _ _ ⟨rfl, κ4, rfl, hS4⟩
      refine Wp.n (pc' := 52) 3 rfl ?_
      have e : rateP K m = (fun x => decide (m ≤ x * takeK (lawsK K 1 (kh K 7)))) := by
        funext x
        unfold rateP
        rw [take_lin]
      rw [e]
      exact k_rate_l hS4 hm9 (takeK_b (lawsK_ok ok (by decide) b7)) 100 0 (by decide)
    · skip
      refine Wp.n (pc' := 23) 1 rfl ?_
      refine Wp.retI (len := 1) rfl rfl ?_
      refine RDI_r hH.2.2 ScC_r ?_
      first
        | rw [if_neg (fun q => of_decide_eq_false h7 q.1)]
        | rw [if_neg (fun q => by rw [h18] at q; exact absurd q.2 (by decide))]

end THC
