/-! THE CLASS: roads, lanes, what joins, facts of a walk; all that is sought. -/
section QW
variable {d : Nat} {M : AM} {r : Nat} {K : KD} {κ κ' : CS} {Q : Option Value → AM → Prop}
theorem k_arePlaces (hD : HD M) (hk : RK M 36 K) (x y : Int32) : Ev (d + 1) md_94 0 [some (.ref 32), some (.int x), some (.int y)] [] (cset M κ) (some (.int (bI (isN (kh K 0) x && isN (kh K 0) y))), cset M κ) := by
  obtain ⟨ρ, hR, hK, hDC, ok, hr1, hr2⟩ := id hk
  obtain ⟨b0, b1, b2, b3, b4, b5, b6, b7, b8, b9, b10, b11, b12⟩ := ok_h ok
  obtain ⟨ow, hDo⟩ := hD.1
  have hO : ∀ κ : CS, cset M κ 32 = .inr (9, hdl ow) := fun κ => (cset_o (by omega)).trans hDo
  have hRc : ∀ κ : CS, RA (cset M κ) 36 ρ := fun κ => RA_c hR hr1 hr2
  refine Wp.toEv ?_
  refine Wp.n (pc' := 1) 1 rfl ?_
  refine Wp.get (len := 3) rfl (hO _) rfl ?_
  refine Wp.n (pc' := 5) 1 rfl ?_
  refine Wp.ecallV (len := 3) rfl rfl rfl (ra_obj (hRc _)) rfl (by decide) rfl (k_hasPlace (RK_c hk) _) ?_
  refine Wp.ifb0 (tgt := 26) (len := 3) rfl (fun h8 => ?_) (fun h8 => ?_)
  · skip
    refine Wp.n (pc' := 27) 1 rfl ?_
    refine Wp.retZ (len := 1) (c := false) rfl rfl rfl ?_
    first
      | exact ⟨by rw [h8, h19]; rfl, rfl⟩
      | exact ⟨by rw [h8]; rfl, rfl⟩
      | exact ⟨by rw [h19, Bool.and_false], rfl⟩
  · skip
    refine Wp.n (pc' := 12) 1 rfl ?_
    refine Wp.get (len := 3) rfl (hO _) rfl ?_
    refine Wp.n (pc' := 16) 1 rfl ?_
    refine Wp.ecallV (len := 3) rfl rfl rfl (ra_obj (hRc _)) rfl (by decide) rfl (k_hasPlace (RK_c hk) _) ?_
    refine Wp.ifb0 (tgt := 26) (len := 3) rfl (fun h19 => ?_) (fun h19 => ?_)
    · skip
      refine Wp.n (pc' := 27) 1 rfl ?_
      refine Wp.retZ (len := 1) (c := false) rfl rfl rfl ?_
      first
        | exact ⟨by rw [h8, h19]; rfl, rfl⟩
        | exact ⟨by rw [h8]; rfl, rfl⟩
        | exact ⟨by rw [h19, Bool.and_false], rfl⟩
    · skip
      refine Wp.n (pc' := 27) 2 rfl ?_
      refine Wp.retZ (len := 1) (c := true) rfl rfl rfl ?_
      first
        | exact ⟨by rw [h8, h19]; rfl, rfl⟩
        | exact ⟨by rw [h8]; rfl, rfl⟩
        | exact ⟨by rw [h19, Bool.and_false], rfl⟩

theorem k_isJourney (hD : HD M) (hk : RK M 36 K) (x y z : Int32) : Ev (d + 2) md_98 0 [some (.ref 32), some (.int x), some (.int y), some (.int z)] [] (cset M κ) (some (.int (bI (isT K x y z))), cset M κ) := by
  obtain ⟨ρ, hR, hK, hDC, ok, hr1, hr2⟩ := id hk
  obtain ⟨b0, b1, b2, b3, b4, b5, b6, b7, b8, b9, b10, b11, b12⟩ := ok_h ok
  obtain ⟨ow, hDo⟩ := hD.1
  have hO : ∀ κ : CS, cset M κ 32 = .inr (9, hdl ow) := fun κ => (cset_o (by omega)).trans hDo
  have hRc : ∀ κ : CS, RA (cset M κ) 36 ρ := fun κ => RA_c hR hr1 hr2
  refine Wp.toEv ?_
  unfold isT areT
  refine Wp.n (pc' := 3) 3 rfl ?_
  refine Wp.ecallV (len := 3) rfl rfl rfl (hO _) rfl (by decide) rfl (k_arePlaces hD hk _ _) ?_
  refine Wp.ifb0 (tgt := 29) (len := 3) rfl (fun h6 => ?_) (fun h6 => ?_)
  · skip
    refine Wp.n (pc' := 30) 1 rfl ?_
    refine Wp.retZ (len := 1) (c := false) rfl rfl rfl ?_
    first
      | exact ⟨by rw [h6, h22, decide_eq_false h11]; rfl, rfl⟩
      | exact ⟨by rw [h6]; rfl, rfl⟩
      | exact ⟨by rw [decide_eq_true h11, Bool.not_true, Bool.and_false]; rfl, rfl⟩
      | exact ⟨by rw [h22, Bool.and_false], rfl⟩
  · skip
    refine Wp.n (pc' := 11) 2 rfl ?_
    refine Wp.ic0 (tgt := 29) (len := 3) rfl (fun h11 => ?_) (fun h11 => ?_)
    · skip
      refine Wp.n (pc' := 30) 1 rfl ?_
      refine Wp.retZ (len := 1) (c := false) rfl rfl rfl ?_
      first
        | exact ⟨by rw [h6, h22, decide_eq_false h11]; rfl, rfl⟩
        | exact ⟨by rw [h6]; rfl, rfl⟩
        | exact ⟨by rw [decide_eq_true h11, Bool.not_true, Bool.and_false]; rfl, rfl⟩
        | exact ⟨by rw [h22, Bool.and_false], rfl⟩
    · skip
      refine Wp.n (pc' := 15) 1 rfl ?_
      refine Wp.get (len := 3) rfl (hO _) rfl ?_
      refine Wp.n (pc' := 19) 1 rfl ?_
      refine Wp.ecallV (len := 3) rfl rfl rfl (ra_obj (hRc _)) rfl (by decide) rfl (k_hasDay (RK_c hk) _) ?_
      refine Wp.ifb0 (tgt := 29) (len := 3) rfl (fun h22 => ?_) (fun h22 => ?_)
      · skip
        refine Wp.n (pc' := 30) 1 rfl ?_
        refine Wp.retZ (len := 1) (c := false) rfl rfl rfl ?_
        first
          | exact ⟨by rw [h6, h22, decide_eq_false h11]; rfl, rfl⟩
          | exact ⟨by rw [h6]; rfl, rfl⟩
          | exact ⟨by rw [decide_eq_true h11, Bool.not_true, Bool.and_false]; rfl, rfl⟩
          | exact ⟨by rw [h22, Bool.and_false], rfl⟩
      · skip
        refine Wp.n (pc' := 30) 2 rfl ?_
        refine Wp.retZ (len := 1) (c := true) rfl rfl rfl ?_
        first
          | exact ⟨by rw [h6, h22, decide_eq_false h11]; rfl, rfl⟩
          | exact ⟨by rw [h6]; rfl, rfl⟩
          | exact ⟨by rw [decide_eq_true h11, Bool.not_true, Bool.and_false]; rfl, rfl⟩
          | exact ⟨by rw [h22, Bool.and_false], rfl⟩

theorem k_road (hD : HD M) (hk : RK M 36 K) (x y : Int32) : Wp (d + 2) md_93 0 [some (.ref 32), some (.int x), some (.int y)] [] (cset M κ) (RCI M κ (roadA K x y)) := by
  obtain ⟨ρ, hR, hK, hDC, ok, hr1, hr2⟩ := id hk
  obtain ⟨b0, b1, b2, b3, b4, b5, b6, b7, b8, b9, b10, b11, b12⟩ := ok_h ok
  obtain ⟨ow, hDo⟩ := hD.1
  have hO : ∀ κ : CS, cset M κ 32 = .inr (9, hdl ow) := fun κ => (cset_o (by omega)).trans hDo
  have hRc : ∀ κ : CS, RA (cset M κ) 36 ρ := fun κ => RA_c hR hr1 hr2
  unfold roadA
  refine Wp.n (pc' := 3) 3 rfl ?_
  refine Wp.ecallV (len := 3) rfl rfl rfl (hO _) rfl (by decide) rfl (k_arePlaces hD hk _ _) ?_
  refine Wp.ifb0 (tgt := 21) (len := 3) rfl (fun h6 => ?_) (fun h6 => ?_)
  · skip
    refine Wp.n (pc' := 23) 1 rfl ?_
    refine Wp.retI (len := 1) rfl rfl ?_
    first
      | exact RCI_r rfl
      | (rw [if_neg (by rw [h6]; decide)]; exact RCI_r rfl)
  · skip
    have h6' := Bool.and_eq_true_iff.mp h6
    obtain ⟨a, ha, rfl⟩ := isN_of h6'.1
    obtain ⟨t, ht, rfl⟩ := isN_of h6'.2
    rw [if_pos h6, nI_clamp (by omega), nI_clamp (by omega)]
    refine Wp.n (pc' := 10) 1 rfl ?_
    refine Wp.get (len := 3) rfl (hO _) rfl ?_
    refine Wp.n (pc' := 15) 2 rfl ?_
    refine Wp.ecallV (len := 3) rfl rfl rfl (ra_obj (hRc _)) rfl (by decide) rfl (k_byRoad (hRc _) hDC ok ha ht) ?_
    refine Wp.n (pc' := 23) 1 rfl ?_
    refine Wp.retI (len := 1) rfl rfl ?_
    first
      | exact RCI_r rfl
      | (rw [if_neg (by rw [h6]; decide)]; exact RCI_r rfl)

theorem k_way (hD : HD M) (hk : RK M 36 K) (x y i : Int32) : Wp (d + 4) md_95 0 [some (.ref 32), some (.int x), some (.int y), some (.int i)] [] (cset M κ) (RCI M κ (wayQ K x y i)) := by
  obtain ⟨ρ, hR, hK, hDC, ok, hr1, hr2⟩ := id hk
  obtain ⟨b0, b1, b2, b3, b4, b5, b6, b7, b8, b9, b10, b11, b12⟩ := ok_h ok
  obtain ⟨ow, hDo⟩ := hD.1
  have hO : ∀ κ : CS, cset M κ 32 = .inr (9, hdl ow) := fun κ => (cset_o (by omega)).trans hDo
  have hRc : ∀ κ : CS, RA (cset M κ) 36 ρ := fun κ => RA_c hR hr1 hr2
  unfold wayQ
  refine Wp.n (pc' := 3) 3 rfl ?_
  refine Wp.ecallV (len := 3) rfl rfl rfl (hO _) rfl (by decide) rfl (k_arePlaces hD hk _ _) ?_
  refine Wp.ifb0 (tgt := 22) (len := 3) rfl (fun h6 => ?_) (fun h6 => ?_)
  · skip
    refine Wp.n (pc' := 24) 1 rfl ?_
    refine Wp.retI (len := 1) rfl rfl ?_
    first
      | exact RCI_r rfl
      | (rw [if_neg (by rw [h6]; decide)]; exact RCI_r rfl)
  · skip
    have h6' := Bool.and_eq_true_iff.mp h6
    obtain ⟨a, ha, rfl⟩ := isN_of h6'.1
    obtain ⟨t, ht, rfl⟩ := isN_of h6'.2
    rw [if_pos h6, nI_clamp (by omega), nI_clamp (by omega)]
    refine Wp.n (pc' := 10) 1 rfl ?_
    refine Wp.get (len := 3) rfl (hO _) rfl ?_
    refine Wp.n (pc' := 16) 3 rfl ?_
    refine Wp.ecallV (len := 3) rfl rfl rfl (ra_obj (hRc _)) rfl (by decide) rfl (k_placeByRoad (hRc _) hK hDC ok (by decide) ha ht _) ?_
    refine Wp.n (pc' := 24) 1 rfl ?_
    refine Wp.retI (len := 1) rfl rfl ?_
    first
      | exact RCI_r rfl
      | (rw [if_neg (by rw [h6]; decide)]; exact RCI_r rfl)

theorem k_open (hD : HD M) (hk : RK M 36 K) (h11 : kh K 11 = 0) (x y : Int32) : Wp (d + 2) md_96 0 [some (.ref 32), some (.int x), some (.int y)] [] (cset M κ) (RCI M κ (openA K x y)) := by
  obtain ⟨ρ, hR, hK, hDC, ok, hr1, hr2⟩ := id hk
  obtain ⟨b0, b1, b2, b3, b4, b5, b6, b7, b8, b9, b10, b11, b12⟩ := ok_h ok
  obtain ⟨ow, hDo⟩ := hD.1
  have hO : ∀ κ : CS, cset M κ 32 = .inr (9, hdl ow) := fun κ => (cset_o (by omega)).trans hDo
  have hRc : ∀ κ : CS, RA (cset M κ) 36 ρ := fun κ => RA_c hR hr1 hr2
  unfold openA
  refine Wp.n (pc' := 1) 1 rfl ?_
  refine Wp.get (len := 3) rfl (hO _) rfl ?_
  refine Wp.n (pc' := 5) 1 rfl ?_
  refine Wp.ecallV (len := 3) rfl rfl rfl (ra_obj (hRc _)) rfl (by decide) rfl (k_hasLane (RK_c hk) _) ?_
  refine Wp.ifb0 (tgt := 22) (len := 3) rfl (fun h8 => ?_) (fun h8 => ?_)
  · rw [h11, Nat.add_zero] at h8
    refine Wp.n (pc' := 24) 1 rfl ?_
    refine Wp.retI (len := 1) rfl rfl ?_
    first
      | exact RCI_r (by rw [h42]; rfl)
      | (rw [if_neg (fun q => by rw [h8] at q; exact absurd q.1 (by decide))]; exact RCI_r rfl)
      | (rw [if_neg (fun q => by rw [h19] at q; exact absurd q.2 (by decide))]; exact RCI_r rfl)
  · rw [h11, Nat.add_zero] at h8
    refine Wp.n (pc' := 12) 1 rfl ?_
    refine Wp.get (len := 3) rfl (hO _) rfl ?_
    refine Wp.n (pc' := 16) 1 rfl ?_
    refine Wp.ecallV (len := 3) rfl rfl rfl (ra_obj (hRc _)) rfl (by decide) rfl (k_hasDay (RK_c hk) _) ?_
    refine Wp.ifb1 (tgt := 25) (len := 3) rfl (fun h19 => ?_) (fun h19 => ?_)
    · skip
      obtain ⟨l, hl, rfl⟩ := isN_of h8
      obtain ⟨v, hv, rfl⟩ := isN_of h19
      rw [if_pos ⟨h8, h19⟩, nI_clamp (by omega), nI_clamp (by omega)]
      refine Wp.n (pc' := 26) 1 rfl ?_
      refine Wp.get (len := 3) rfl (hO _) rfl ?_
      refine Wp.n (pc' := 30) 1 rfl ?_
      refine Wp.get (len := 3) rfl (hO _) rfl ?_
      refine Wp.get (len := 3) rfl (ra_obj (hRc _)) rfl ?_
      refine Wp.n (pc' := 37) 1 rfl ?_
      refine Wp.aaldN (j := l) (len := 1) rfl (ra_lanes (hRc _)) rfl (by omega) (by decide) (if_pos (by omega)) ?_
      refine Wp.n (pc' := 39) 1 rfl ?_
      refine Wp.ecallV (len := 3) rfl rfl rfl (ra_obj (hRc _)) rfl (by decide) rfl (by
        have e := k_isOpen (d := d + 1) (hRc κ) hK ok (l := l) (y := v) (Or.inl hl) (by omega)
        rw [show phL K l = l from if_neg (by omega)] at e
        exact e) ?_
      refine Wp.ifb0 (tgt := 49) (len := 3) rfl (fun h42 => ?_) (fun h42 => ?_)
      · skip
        refine Wp.n (pc' := 50) 1 rfl ?_
        refine Wp.retI (len := 1) rfl rfl ?_
        first
          | exact RCI_r (by rw [h42]; rfl)
          | (rw [if_neg (fun q => by rw [h8] at q; exact absurd q.1 (by decide))]; exact RCI_r rfl)
          | (rw [if_neg (fun q => by rw [h19] at q; exact absurd q.2 (by decide))]; exact RCI_r rfl)
      · skip
        refine Wp.n (pc' := 50) 2 rfl ?_
        refine Wp.retI (len := 1) rfl rfl ?_
        first
          | exact RCI_r (by rw [h42]; rfl)
          | (rw [if_neg (fun q => by rw [h8] at q; exact absurd q.1 (by decide))]; exact RCI_r rfl)
          | (rw [if_neg (fun q => by rw [h19] at q; exact absurd q.2 (by decide))]; exact RCI_r rfl)
    · skip
      refine Wp.n (pc' := 24) 1 rfl ?_
      refine Wp.retI (len := 1) rfl rfl ?_
      first
        | exact RCI_r (by rw [h42]; rfl)
        | (rw [if_neg (fun q => by rw [h8] at q; exact absurd q.1 (by decide))]; exact RCI_r rfl)
        | (rw [if_neg (fun q => by rw [h19] at q; exact absurd q.2 (by decide))]; exact RCI_r rfl)

theorem k_joins (hD : HD M) (hk : RK M 36 K) (h11 : kh K 11 = 0) (x y z : Int32) : Wp (d + 3) md_97 0 [some (.ref 32), some (.int x), some (.int y), some (.int z), none] [] (cset M κ) (RCI M κ (joinsA K x y z)) := by
  obtain ⟨ρ, hR, hK, hDC, ok, hr1, hr2⟩ := id hk
  obtain ⟨b0, b1, b2, b3, b4, b5, b6, b7, b8, b9, b10, b11, b12⟩ := ok_h ok
  obtain ⟨ow, hDo⟩ := hD.1
  have hO : ∀ κ : CS, cset M κ 32 = .inr (9, hdl ow) := fun κ => (cset_o (by omega)).trans hDo
  have hRc : ∀ κ : CS, RA (cset M κ) 36 ρ := fun κ => RA_c hR hr1 hr2
  unfold joinsA
  refine Wp.n (pc' := 4) 4 rfl ?_
  refine Wp.ecallV (len := 3) rfl rfl rfl (hO _) rfl (by decide) rfl (k_isJourney hD hk _ _ _) ?_
  refine Wp.ifb1 (tgt := 13) (len := 3) rfl (fun h7 => ?_) (fun h7 => ?_)
  · skip
    obtain ⟨a, t, v, ha, ht, hv, hat, rfl, rfl, rfl⟩ := isT_of h7
    rw [if_pos h7, nI_clamp (by omega), nI_clamp (by omega), nI_clamp (by omega)]
    refine Wp.n (pc' := 14) 1 rfl ?_
    refine Wp.get (len := 3) rfl (hO _) rfl ?_
    refine Wp.n (pc' := 20) 3 rfl ?_
    refine Wp.ecallV (len := 3) rfl rfl rfl (ra_obj (hRc _)) rfl (by decide) rfl (k_linkOf (hRc _) hK ok (by decide) (by omega) (by omega) (by omega)) ?_
    rcases hj : joinK K a t v with _ | j
    · skip
      refine Wp.n (pc' := 27) 2 rfl ?_
      refine Wp.s (pc' := 30) rfl ?_
      refine Wp.n (pc' := 31) 1 rfl ?_
      refine Wp.retI (len := 1) rfl rfl ?_
      exact RCI_r rfl
    · have hjv := joinK_v ok hj
      obtain ⟨n0, f0, q1, hf3, hlo, hhi⟩ := j_obj hR hK ok hjv
      have hjm : ∀ κ : CS, cset M κ (jad K 36 j) = .inr (1, kfs n0 f0) := fun κ => by
        rw [← q1]
        refine cset_o (Or.inr (Or.inl ?_))
        unfold jad
        rcases hjv with h | ⟨h, h5⟩
        · rw [if_pos (by omega)]; omega
        · have := LV_ph ok h5
          rw [if_neg (by omega)]; omega
      have hkind : (f0 1 = 0 ↔ j < 20) := by
        rcases hjv with h | ⟨h, h5⟩
        · exact ⟨fun _ => by omega, fun _ => (hlo (by omega)).2.1⟩
        · refine ⟨fun e => ?_, fun e => by omega⟩
          have t9 := ok_lane ok h5
          rw [(hhi h).2.1] at e
          have := (nI_eq (a := kl K (j - 20) 5 + 1) (b := 0) (by omega) (by decide)).mp e
          omega
      refine Wp.n (pc' := 27) 2 rfl ?_
      refine Wp.s (pc' := 32) rfl ?_
      refine Wp.n (pc' := 34) 1 rfl ?_
      refine Wp.get (len := 3) rfl (hjm _) rfl ?_
      refine Wp.if1 (tgt := 48) (len := 3) rfl (fun h37 => ?_) (fun h37 => ?_)
      · skip
        refine Wp.n (pc' := 52) 2 rfl ?_
        refine Wp.get (len := 3) rfl (hjm _) rfl ?_
        refine Wp.n (pc' := 56) 1 rfl ?_
        refine Wp.retI (len := 1) rfl rfl ?_
        by_cases hq : j < 20
        · refine RCI_r ?_
          first
            | exact absurd (hkind.mpr hq) h37
            | (rw [(hlo hq).1]; rfl)
        · have h20 : 20 ≤ j := by omega
          have hlv : LV K (j - 20) := by
            rcases hjv with h | ⟨h, h5⟩
            · omega
            · exact h5
          have hph : phL K (j - 20) = j - 20 := if_neg (by unfold LV at hlv; omega)
          refine RCI_r ?_
          first
            | exact absurd (hkind.mp h37) hq
            | (rw [(hhi h20).1, hph, show (20 : Int32) = nI 20 from rfl, nI_add, show 20 + (j - 20) = j by omega]; rfl)
      · skip
        refine Wp.n (pc' := 42) 1 rfl ?_
        refine Wp.get (len := 3) rfl (hjm _) rfl ?_
        refine Wp.n (pc' := 56) 1 rfl ?_
        refine Wp.retI (len := 1) rfl rfl ?_
        by_cases hq : j < 20
        · refine RCI_r ?_
          first
            | exact absurd (hkind.mpr hq) h37
            | (rw [(hlo hq).1]; rfl)
        · have h20 : 20 ≤ j := by omega
          have hlv : LV K (j - 20) := by
            rcases hjv with h | ⟨h, h5⟩
            · omega
            · exact h5
          have hph : phL K (j - 20) = j - 20 := if_neg (by unfold LV at hlv; omega)
          refine RCI_r ?_
          first
            | exact absurd (hkind.mp h37) hq
            | (rw [(hhi h20).1, hph, show (20 : Int32) = nI 20 from rfl, nI_add, show 20 + (j - 20) = j by omega]; rfl)
  · skip
    refine Wp.n (pc' := 12) 1 rfl ?_
    refine Wp.retI (len := 1) rfl rfl ?_
    rw [if_neg (by rw [h7]; decide)]
    exact RCI_r rfl

theorem k_walk (hD : HD M) (hk : RK M 36 K) (x y : Int32) : Wp (d + 3) md_99 0 [some (.ref 32), some (.int x), some (.int y), none] [] (cset M κ) (RCI M κ (walkA K x y)) := by
  obtain ⟨ρ, hR, hK, hDC, ok, hr1, hr2⟩ := id hk
  obtain ⟨b0, b1, b2, b3, b4, b5, b6, b7, b8, b9, b10, b11, b12⟩ := ok_h ok
  obtain ⟨ow, hDo⟩ := hD.1
  have hO : ∀ κ : CS, cset M κ 32 = .inr (9, hdl ow) := fun κ => (cset_o (by omega)).trans hDo
  have hRc : ∀ κ : CS, RA (cset M κ) 36 ρ := fun κ => RA_c hR hr1 hr2
  unfold walkA
  refine Wp.n (pc' := 1) 1 rfl ?_
  refine Wp.get (len := 3) rfl (hO _) rfl ?_
  refine Wp.n (pc' := 5) 1 rfl ?_
  refine Wp.ecallV (len := 3) rfl rfl rfl (ra_obj (hRc _)) rfl (by decide) rfl (k_hasWalk (RK_c hk) _) ?_
  refine Wp.ifb1 (tgt := 14) (len := 3) rfl (fun h8 => ?_) (fun h8 => ?_)
  · skip
    obtain ⟨w, hw, rfl⟩ := isN_of h8
    have q := rc_walk hK hw
    have tw := ok_walk ok hw
    have hwk : ∀ κ : CS, cset M κ (36 + 26 + 2 * w) = .inr (7, wfs (rwk ρ w) (36 + 27 + 2 * w)) := fun κ => ra_walk (hRc κ) (by omega)
    rw [nI_clamp (show w < 2 ^ 31 by omega)]
    refine Wp.n (pc' := 15) 1 rfl ?_
    refine Wp.get (len := 3) rfl (hO _) rfl ?_
    refine Wp.get (len := 3) rfl (ra_obj (hRc _)) rfl ?_
    refine Wp.n (pc' := 22) 1 rfl ?_
    refine Wp.aaldN (j := w) (len := 1) rfl (ra_walks (hRc _)) rfl (by omega) (by decide) (if_pos (by omega)) ?_
    refine Wp.n (pc' := 25) 2 rfl ?_
    by_cases h6 : isN 6 y = true
    · rw [if_pos ⟨h8, h6⟩]
      obtain ⟨k, hkk, rfl⟩ := isN_of h6
      rw [nI_clamp (by omega)]
      have ex : (nI k).toInt = (0 : Int) + k := by rw [nI_toInt (by omega)]; omega
      match k, hkk, ex with
      | 0, _, ex =>
        refine Wp.sw (len := 39) (t := 64) rfl (sw_at rfl 0 ex rfl) ?_
        refine Wp.n (pc' := 65) 1 rfl ?_
        refine Wp.get (len := 3) rfl (hwk _) rfl ?_
        refine Wp.top q.1 ?_
        refine Wp.retI (len := 1) rfl rfl ?_
        exact RCI_r rfl
      | 1, _, ex =>
        refine Wp.sw (len := 39) (t := 69) rfl (sw_at rfl 1 ex rfl) ?_
        refine Wp.n (pc' := 70) 1 rfl ?_
        refine Wp.get (len := 3) rfl (hwk _) rfl ?_
        refine Wp.top q.2.1 ?_
        refine Wp.retI (len := 1) rfl rfl ?_
        exact RCI_r rfl
      | 2, _, ex =>
        refine Wp.sw (len := 39) (t := 74) rfl (sw_at rfl 2 ex rfl) ?_
        refine Wp.n (pc' := 75) 1 rfl ?_
        refine Wp.get (len := 3) rfl (hwk _) rfl ?_
        refine Wp.top q.2.2.1 ?_
        refine Wp.retI (len := 1) rfl rfl ?_
        exact RCI_r rfl
      | 3, _, ex =>
        refine Wp.sw (len := 39) (t := 79) rfl (sw_at rfl 3 ex rfl) ?_
        refine Wp.n (pc' := 80) 1 rfl ?_
        refine Wp.ecallV (len := 3) rfl rfl rfl (hwk _) rfl (by omega) rfl (k_first (hRc _) hK ok (by decide) hw) ?_
        refine Wp.retI (len := 1) rfl rfl ?_
        exact RCI_r rfl
      | 4, _, ex =>
        refine Wp.sw (len := 39) (t := 84) rfl (sw_at rfl 4 ex rfl) ?_
        refine Wp.n (pc' := 85) 1 rfl ?_
        refine Wp.ecallV (len := 3) rfl rfl rfl (hwk _) rfl (by omega) rfl (k_last (hRc _) hK ok (by decide) hw) ?_
        refine Wp.retI (len := 1) rfl rfl ?_
        exact RCI_r rfl
      | 5, _, ex =>
        refine Wp.sw (len := 39) (t := 89) rfl (sw_at rfl 5 ex rfl) ?_
        refine Wp.n (pc' := 90) 1 rfl ?_
        refine Wp.get (len := 3) rfl (hwk _) rfl ?_
        refine Wp.top q.2.2.2.1 ?_
        refine Wp.retI (len := 1) rfl rfl ?_
        exact RCI_r rfl
    · rw [if_neg (fun q => h6 q.2)]
      refine Wp.sw (len := 39) (t := 94) rfl (sw_def rfl ?_) ?_
      · by_cases c : y.toInt < 0
        · exact Or.inl c
        · refine Or.inr ?_
          show (0 : Int) + 6 ≤ y.toInt
          by_cases c2 : y.toInt < 6
          · exact absurd (isN_f c c2) h6
          · omega
      · refine Wp.n (pc' := 96) 1 rfl ?_
        refine Wp.retI (len := 1) rfl rfl ?_
        exact RCI_r rfl
  · skip
    refine Wp.n (pc' := 13) 1 rfl ?_
    refine Wp.retI (len := 1) rfl rfl ?_
    rw [if_neg (fun q => by rw [h8] at q; exact absurd q.1 (by decide))]
    exact RCI_r rfl

theorem allW_any {a t y aim : Nat} (ok : KOK K) (ha : a < kh K 0) : ∀ w, w ∈ allW K y a t → w.2.1 ≤ 774 ∧ bitsC K w.2.2 < 2 ^ 9 := fun w hw => ⟨(allW_b ok ha hw).1, (allW_b ok ha hw).2.2.1⟩

theorem k_shortest (hD : HD M) (hk : RK M 36 K) (x y z : Int32) : Wp (d + 12) md_113 0 [some (.ref 32), some (.int x), some (.int y), some (.int z)] [] (cset M κ) (RCI M κ (shortestA K x y z)) := by
  obtain ⟨ρ, hR, hK, hDC, ok, hr1, hr2⟩ := id hk
  obtain ⟨b0, b1, b2, b3, b4, b5, b6, b7, b8, b9, b10, b11, b12⟩ := ok_h ok
  obtain ⟨ow, hDo⟩ := hD.1
  have hO : ∀ κ : CS, cset M κ 32 = .inr (9, hdl ow) := fun κ => (cset_o (by omega)).trans hDo
  have hRc : ∀ κ : CS, RA (cset M κ) 36 ρ := fun κ => RA_c hR hr1 hr2
  unfold shortestA
  refine Wp.n (pc' := 4) 4 rfl ?_
  refine Wp.ecallV (len := 3) rfl rfl rfl (hO _) rfl (by decide) rfl (k_isJourney hD hk _ _ _) ?_
  refine Wp.ifb1 (tgt := 13) (len := 3) rfl (fun h7 => ?_) (fun h7 => ?_)
  · skip
    obtain ⟨a, t, v, ha, ht, hv, hat, rfl, rfl, rfl⟩ := isT_of h7
    rw [if_pos h7, nI_clamp (by omega), nI_clamp (by omega), nI_clamp (by omega)]
    have h3 := allW_len ok (y := v) ha ht
    refine Wp.n (pc' := 14) 1 rfl ?_
    refine Wp.get (len := 3) rfl (hO _) rfl ?_
    refine Wp.n (pc' := 18) 1 rfl ?_
    refine Wp.get (len := 3) rfl (hO _) rfl ?_
    refine Wp.n (pc' := 25) 4 rfl ?_
    refine Wp.callV (len := 3) rfl rfl rfl (rfl) rfl (by decide) rfl (t_find (load := 1) hk ha ht (by omega)) ?_
    rintro _ _ ⟨rfl, κ2, rfl, hS, hW⟩
    refine Wp.n (pc' := 29) 1 rfl ?_
    refine Wp.get (len := 3) rfl (hO _) rfl ?_
    refine Wp.n (pc' := 33) 1 rfl ?_
    refine Wp.ecallV (len := 3) rfl rfl rfl (rfl) rfl (by decide) rfl (t_least (sh := 0) (P := PA K 0) hW.2 h3 (fun w hw => by rw [Nat.and_zero]; exact ⟨fun _ => rfl, fun _ => rfl⟩) (allW_any (aim := 0) ok ha)) ?_
    refine Wp.retI (len := 1) rfl rfl ?_
    first
      | exact RCI_s hS (shortW_eq (Or.inl rfl)).symm
      | (rw [if_neg (by rw [h7]; decide)]; exact RCI_r rfl)
  · skip
    refine Wp.n (pc' := 12) 1 rfl ?_
    refine Wp.retI (len := 1) rfl rfl ?_
    first
      | exact RCI_s hS (shortW_eq (Or.inl rfl)).symm
      | (rw [if_neg (by rw [h7]; decide)]; exact RCI_r rfl)

theorem k_hidden (hD : HD M) (hk : RK M 36 K) (x y z : Int32) : Wp (d + 12) md_114 0 [some (.ref 32), some (.int x), some (.int y), some (.int z)] [] (cset M κ) (RCI M κ (hiddenA K x y z)) := by
  obtain ⟨ρ, hR, hK, hDC, ok, hr1, hr2⟩ := id hk
  obtain ⟨b0, b1, b2, b3, b4, b5, b6, b7, b8, b9, b10, b11, b12⟩ := ok_h ok
  obtain ⟨ow, hDo⟩ := hD.1
  have hO : ∀ κ : CS, cset M κ 32 = .inr (9, hdl ow) := fun κ => (cset_o (by omega)).trans hDo
  have hRc : ∀ κ : CS, RA (cset M κ) 36 ρ := fun κ => RA_c hR hr1 hr2
  unfold hiddenA
  refine Wp.n (pc' := 4) 4 rfl ?_
  refine Wp.ecallV (len := 3) rfl rfl rfl (hO _) rfl (by decide) rfl (k_isJourney hD hk _ _ _) ?_
  refine Wp.ifb1 (tgt := 13) (len := 3) rfl (fun h7 => ?_) (fun h7 => ?_)
  · skip
    obtain ⟨a, t, v, ha, ht, hv, hat, rfl, rfl, rfl⟩ := isT_of h7
    rw [if_pos h7, nI_clamp (by omega), nI_clamp (by omega), nI_clamp (by omega)]
    have h3 := allW_len ok (y := v) ha ht
    refine Wp.n (pc' := 14) 1 rfl ?_
    refine Wp.get (len := 3) rfl (hO _) rfl ?_
    refine Wp.n (pc' := 18) 1 rfl ?_
    refine Wp.get (len := 3) rfl (hO _) rfl ?_
    refine Wp.n (pc' := 25) 4 rfl ?_
    refine Wp.callV (len := 3) rfl rfl rfl (rfl) rfl (by decide) rfl (t_find (load := 1) hk ha ht (by omega)) ?_
    rintro _ _ ⟨rfl, κ2, rfl, hS, hW⟩
    refine Wp.n (pc' := 29) 1 rfl ?_
    refine Wp.get (len := 3) rfl (hO _) rfl ?_
    refine Wp.n (pc' := 33) 1 rfl ?_
    refine Wp.get (len := 3) rfl (hO _) rfl ?_
    refine Wp.ecallV (len := 3) rfl rfl rfl (ra_obj (hRc _)) rfl (by decide) rfl (k_watchedLanes (hRc _) hK ok) ?_
    refine Wp.ecallV (len := 3) rfl rfl rfl (rfl) rfl (by decide) rfl (t_least (sh := watC K) (P := PA K 1) hW.2 h3 (fun w hw => by
      rw [watC_and ok (allW_b ok ha hw).2.1]
      show _ ↔ (!(w.2.2.any (watP K))) = true
      cases w.2.2.any (watP K) <;> decide) (allW_any (aim := 1) ok ha)) ?_
    refine Wp.retI (len := 1) rfl rfl ?_
    first
      | exact RCI_s hS (shortW_eq (Or.inr rfl)).symm
      | (rw [if_neg (by rw [h7]; decide)]; exact RCI_r rfl)
  · skip
    refine Wp.n (pc' := 12) 1 rfl ?_
    refine Wp.retI (len := 1) rfl rfl ?_
    first
      | exact RCI_s hS (shortW_eq (Or.inr rfl)).symm
      | (rw [if_neg (by rw [h7]; decide)]; exact RCI_r rfl)

theorem k_ways (hD : HD M) (hk : RK M 36 K) (x y z : Int32) : Wp (d + 12) md_119 0 [some (.ref 32), some (.int x), some (.int y), some (.int z)] [] (cset M κ) (RCI M κ (waysA K x y z)) := by
  obtain ⟨ρ, hR, hK, hDC, ok, hr1, hr2⟩ := id hk
  obtain ⟨b0, b1, b2, b3, b4, b5, b6, b7, b8, b9, b10, b11, b12⟩ := ok_h ok
  obtain ⟨ow, hDo⟩ := hD.1
  have hO : ∀ κ : CS, cset M κ 32 = .inr (9, hdl ow) := fun κ => (cset_o (by omega)).trans hDo
  have hRc : ∀ κ : CS, RA (cset M κ) 36 ρ := fun κ => RA_c hR hr1 hr2
  unfold waysA
  refine Wp.n (pc' := 4) 4 rfl ?_
  refine Wp.ecallV (len := 3) rfl rfl rfl (hO _) rfl (by decide) rfl (k_isJourney hD hk _ _ _) ?_
  refine Wp.ifb1 (tgt := 13) (len := 3) rfl (fun h7 => ?_) (fun h7 => ?_)
  · skip
    obtain ⟨a, t, v, ha, ht, hv, hat, rfl, rfl, rfl⟩ := isT_of h7
    rw [if_pos h7, nI_clamp (by omega), nI_clamp (by omega), nI_clamp (by omega)]
    have h3 := allW_len ok (y := v) ha ht
    refine Wp.n (pc' := 14) 1 rfl ?_
    refine Wp.get (len := 3) rfl (hO _) rfl ?_
    refine Wp.n (pc' := 18) 1 rfl ?_
    refine Wp.get (len := 3) rfl (hO _) rfl ?_
    refine Wp.n (pc' := 25) 4 rfl ?_
    refine Wp.callV (len := 3) rfl rfl rfl (rfl) rfl (by decide) rfl (t_find (load := 1) hk ha ht (by omega)) ?_
    rintro _ _ ⟨rfl, κ2, rfl, hS, hW⟩
    refine Wp.n (pc' := 29) 1 rfl ?_
    refine Wp.get (len := 3) rfl (hO _) rfl ?_
    refine Wp.get (len := 3) rfl (rfl) rfl ?_
    refine Wp.top hW.2.1 ?_
    refine Wp.retI (len := 1) rfl rfl ?_
    first
      | exact RCI_s hS (by rw [fin0_len])
      | (rw [if_neg (by rw [h7]; decide)]; exact RCI_r rfl)
  · skip
    refine Wp.n (pc' := 12) 1 rfl ?_
    refine Wp.retI (len := 1) rfl rfl ?_
    first
      | exact RCI_s hS (by rw [fin0_len])
      | (rw [if_neg (by rw [h7]; decide)]; exact RCI_r rfl)

theorem k_best (hD : HD M) (hk : RK M 36 K) (x y z l k : Int32) : Wp (d + 12) md_115 0 [some (.ref 32), some (.int x), some (.int y), some (.int z), some (.int l), some (.int k), none] [] (cset M κ) (RCI M κ (bestA K x y z l k)) := by
  obtain ⟨ρ, hR, hK, hDC, ok, hr1, hr2⟩ := id hk
  obtain ⟨b0, b1, b2, b3, b4, b5, b6, b7, b8, b9, b10, b11, b12⟩ := ok_h ok
  obtain ⟨ow, hDo⟩ := hD.1
  have hO : ∀ κ : CS, cset M κ 32 = .inr (9, hdl ow) := fun κ => (cset_o (by omega)).trans hDo
  have hRc : ∀ κ : CS, RA (cset M κ) 36 ρ := fun κ => RA_c hR hr1 hr2
  unfold bestA
  refine Wp.n (pc' := 4) 4 rfl ?_
  refine Wp.ecallV (len := 3) rfl rfl rfl (hO _) rfl (by decide) rfl (k_isJourney hD hk _ _ _) ?_
  refine Wp.ifb0 (tgt := 29) (len := 3) rfl (fun h7 => ?_) (fun h7 => ?_)
  · skip
    refine Wp.n (pc' := 31) 1 rfl ?_
    refine Wp.retI (len := 1) rfl rfl ?_
    first
      | (rw [if_neg (fun q => by rw [h7] at q; exact absurd q.1 (by decide))]; exact RCI_r rfl)
      | (rw [if_neg (fun q => by rw [show isR 1 9 l = false from h15] at q; exact absurd q.2.1 (by decide))]; exact RCI_r rfl)
      | (rw [if_neg (fun q => by have := of_decide_eq_true q.2.2; have e1 : k.toInt < 0 := h20; omega)]; exact RCI_r rfl)
      | (rw [if_neg (fun q => by have := of_decide_eq_true q.2.2; have e1 : ¬ k.toInt ≤ 3 := h26; omega)]; exact RCI_r rfl)
  · skip
    refine Wp.n (pc' := 12) 1 rfl ?_
    refine Wp.ecallS (len := 3) rfl rfl rfl rfl (c_isLoad _) ?_
    refine Wp.ifb0 (tgt := 29) (len := 3) rfl (fun h15 => ?_) (fun h15 => ?_)
    · skip
      refine Wp.n (pc' := 31) 1 rfl ?_
      refine Wp.retI (len := 1) rfl rfl ?_
      first
        | (rw [if_neg (fun q => by rw [h7] at q; exact absurd q.1 (by decide))]; exact RCI_r rfl)
        | (rw [if_neg (fun q => by rw [show isR 1 9 l = false from h15] at q; exact absurd q.2.1 (by decide))]; exact RCI_r rfl)
        | (rw [if_neg (fun q => by have := of_decide_eq_true q.2.2; have e1 : k.toInt < 0 := h20; omega)]; exact RCI_r rfl)
        | (rw [if_neg (fun q => by have := of_decide_eq_true q.2.2; have e1 : ¬ k.toInt ≤ 3 := h26; omega)]; exact RCI_r rfl)
    · skip
      refine Wp.n (pc' := 20) 1 rfl ?_
      refine Wp.if2 (tgt := 29) (len := 3) rfl (fun h20 => ?_) (fun h20 => ?_)
      · rw [i_lt] at h20
        refine Wp.n (pc' := 31) 1 rfl ?_
        refine Wp.retI (len := 1) rfl rfl ?_
        first
          | (rw [if_neg (fun q => by rw [h7] at q; exact absurd q.1 (by decide))]; exact RCI_r rfl)
          | (rw [if_neg (fun q => by rw [show isR 1 9 l = false from h15] at q; exact absurd q.2.1 (by decide))]; exact RCI_r rfl)
          | (rw [if_neg (fun q => by have := of_decide_eq_true q.2.2; have e1 : k.toInt < 0 := h20; omega)]; exact RCI_r rfl)
          | (rw [if_neg (fun q => by have := of_decide_eq_true q.2.2; have e1 : ¬ k.toInt ≤ 3 := h26; omega)]; exact RCI_r rfl)
      · rw [i_lt] at h20
        refine Wp.n (pc' := 26) 2 rfl ?_
        refine Wp.ic5 (tgt := 32) (len := 3) rfl (fun h26 => ?_) (fun h26 => ?_)
        · rw [i_le] at h26
          obtain ⟨a, t, v, ha, ht, hv, hat, rfl, rfl, rfl⟩ := isT_of h7
          obtain ⟨l, hl1, hl9, hl, rfl⟩ := isR_of (lo := 1) (hi := 9) h15
          have h3 := allW_len ok (y := v) ha ht
          have hk4 : isN 4 k = true := decide_eq_true (by have e1 : ¬ k.toInt < 0 := h20; have e2 : k.toInt ≤ 3 := h26; omega)
          obtain ⟨k, hk4', rfl⟩ := isN_of hk4
          rw [if_pos ⟨h7, h15, hk4⟩, nI_clamp (by omega), nI_clamp (by omega), nI_clamp (by omega), nI_clamp hl, nI_clamp (by omega)]
          unfold bestW
          refine Wp.n (pc' := 33) 1 rfl ?_
          refine Wp.get (len := 3) rfl (hO _) rfl ?_
          refine Wp.n (pc' := 37) 1 rfl ?_
          refine Wp.get (len := 3) rfl (hO _) rfl ?_
          refine Wp.n (pc' := 45) 4 rfl ?_
          refine Wp.callV (len := 3) rfl rfl rfl (rfl) rfl (by decide) rfl (t_find (load := l) hk ha ht (by omega)) ?_
          rintro _ _ ⟨rfl, κ2, rfl, hS, hW⟩
          refine Wp.n (pc' := 49) 1 rfl ?_
          refine Wp.get (len := 3) rfl (hO _) rfl ?_
          refine Wp.ecallV (len := 3) rfl rfl rfl (rfl) rfl (by decide) rfl (t_best hk ha (by omega) hl9 hW h3) ?_
          rcases best_eq (K := K) (t := t) (y := v) (load := l) (dn := 0) ok ha hl9 with ⟨e0, eb⟩ | ⟨e0, b, eb, hb, eC, eL, eD, eP⟩
          · rw [if_pos e0, eb]
            refine Wp.n (pc' := 60) 3 rfl ?_
            refine Wp.ic1 (tgt := 65) (len := 3) rfl (fun h60 => ?_) (fun h60 => ?_)
            · exact absurd rfl h60
            · skip
              refine Wp.n (pc' := 64) 1 rfl ?_
              refine Wp.retI (len := 1) rfl rfl ?_
              exact RCI_s hS rfl
          · rw [if_neg (by omega), eb, eC, eL, eD, eP]
            obtain ⟨n1, n2, n3, n4⟩ := hW.2.2 b hb
            refine Wp.n (pc' := 60) 3 rfl ?_
            refine Wp.ic1 (tgt := 65) (len := 3) rfl (fun h60 => ?_) (fun h60 => ?_)
            · skip
              refine Wp.n (pc' := 67) 1 rfl ?_
              have ex : (nI k).toInt = (0 : Int) + k := by rw [nI_toInt (by omega)]; omega
              match k, hk4', ex with
              | 0, _, ex =>
                refine Wp.sw (len := 25) (t := 92) rfl (sw_at rfl 0 ex rfl) ?_
                refine Wp.n (pc' := 93) 1 rfl ?_
                refine Wp.get (len := 3) rfl (hO _) rfl ?_
                refine Wp.n (pc' := 98) 1 rfl ?_
                refine Wp.ecallV (len := 3) rfl rfl rfl (rfl) rfl (by decide) rfl (t_costOf hk ha (by omega) hl9 hW hb h3) ?_
                refine Wp.retI (len := 1) rfl rfl ?_
                exact RCI_s hS rfl
              | 1, _, ex =>
                refine Wp.sw (len := 25) (t := 102) rfl (sw_at rfl 1 ex rfl) ?_
                refine Wp.n (pc' := 103) 1 rfl ?_
                refine Wp.get (len := 3) rfl (hO _) rfl ?_
                refine Wp.get (len := 3) rfl (rfl) rfl ?_
                refine Wp.n (pc' := 111) 1 rfl ?_
                refine Wp.ialdN (j := b) (len := 1) rfl (rfl) rfl (by omega) (by decide) ?_
                refine Wp.top n2 ?_
                refine Wp.retI (len := 1) rfl rfl ?_
                exact RCI_s hS rfl
              | 2, _, ex =>
                refine Wp.sw (len := 25) (t := 113) rfl (sw_at rfl 2 ex rfl) ?_
                refine Wp.n (pc' := 114) 1 rfl ?_
                refine Wp.get (len := 3) rfl (hO _) rfl ?_
                refine Wp.n (pc' := 120) 2 rfl ?_
                refine Wp.ecallV (len := 3) rfl rfl rfl (rfl) rfl (by decide) rfl (t_dutyOf hk ha (by omega) hl9 hW hb h3 (m := 0) (by decide)) ?_
                refine Wp.retI (len := 1) rfl rfl ?_
                exact RCI_s hS rfl
              | 3, _, ex =>
                refine Wp.sw (len := 25) (t := 124) rfl (sw_def rfl (Or.inr (by rw [ex]; decide))) ?_
                refine Wp.n (pc' := 125) 1 rfl ?_
                refine Wp.get (len := 3) rfl (hO _) rfl ?_
                refine Wp.get (len := 3) rfl (rfl) rfl ?_
                refine Wp.n (pc' := 133) 1 rfl ?_
                refine Wp.ialdN (j := b) (len := 1) rfl (rfl) rfl (by omega) (by decide) ?_
                refine Wp.top n1 ?_
                refine Wp.retI (len := 1) rfl rfl ?_
                exact RCI_s hS rfl
              
            · exact absurd h60 (oI_ne (by omega))
          
        · rw [i_le] at h26
          refine Wp.n (pc' := 31) 1 rfl ?_
          refine Wp.retI (len := 1) rfl rfl ?_
          first
            | (rw [if_neg (fun q => by rw [h7] at q; exact absurd q.1 (by decide))]; exact RCI_r rfl)
            | (rw [if_neg (fun q => by rw [show isR 1 9 l = false from h15] at q; exact absurd q.2.1 (by decide))]; exact RCI_r rfl)
            | (rw [if_neg (fun q => by have := of_decide_eq_true q.2.2; have e1 : k.toInt < 0 := h20; omega)]; exact RCI_r rfl)
            | (rw [if_neg (fun q => by have := of_decide_eq_true q.2.2; have e1 : ¬ k.toInt ≤ 3 := h26; omega)]; exact RCI_r rfl)

theorem k_goes (hD : HD M) (hk : RK M 36 K) (x y z l i : Int32) : Wp (d + 12) md_118 0 [some (.ref 32), some (.int x), some (.int y), some (.int z), some (.int l), some (.int i)] [] (cset M κ) (RCI M κ (goesA K x y z l i)) := by
  obtain ⟨ρ, hR, hK, hDC, ok, hr1, hr2⟩ := id hk
  obtain ⟨b0, b1, b2, b3, b4, b5, b6, b7, b8, b9, b10, b11, b12⟩ := ok_h ok
  obtain ⟨ow, hDo⟩ := hD.1
  have hO : ∀ κ : CS, cset M κ 32 = .inr (9, hdl ow) := fun κ => (cset_o (by omega)).trans hDo
  have hRc : ∀ κ : CS, RA (cset M κ) 36 ρ := fun κ => RA_c hR hr1 hr2
  unfold goesA
  refine Wp.n (pc' := 4) 4 rfl ?_
  refine Wp.ecallV (len := 3) rfl rfl rfl (hO _) rfl (by decide) rfl (k_isJourney hD hk _ _ _) ?_
  refine Wp.ifb0 (tgt := 18) (len := 3) rfl (fun h7 => ?_) (fun h7 => ?_)
  · skip
    refine Wp.n (pc' := 20) 1 rfl ?_
    refine Wp.retI (len := 1) rfl rfl ?_
    first
      | (rw [if_neg (fun q => by rw [h7] at q; exact absurd q.1 (by decide))]; exact RCI_r rfl)
      | (rw [if_neg (fun q => by rw [show isR 1 9 l = false from h15] at q; exact absurd q.2 (by decide))]; exact RCI_r rfl)
  · skip
    refine Wp.n (pc' := 12) 1 rfl ?_
    refine Wp.ecallS (len := 3) rfl rfl rfl rfl (c_isLoad _) ?_
    refine Wp.ifb1 (tgt := 21) (len := 3) rfl (fun h15 => ?_) (fun h15 => ?_)
    · skip
      obtain ⟨a, t, v, ha, ht, hv, hat, rfl, rfl, rfl⟩ := isT_of h7
      obtain ⟨l, hl1, hl9, hl, rfl⟩ := isR_of (lo := 1) (hi := 9) h15
      have h3 := allW_len ok (y := v) ha ht
      rw [if_pos ⟨h7, h15⟩, nI_clamp (by omega), nI_clamp (by omega), nI_clamp (by omega), nI_clamp hl]
      unfold goesW
      refine Wp.n (pc' := 22) 1 rfl ?_
      refine Wp.get (len := 3) rfl (hO _) rfl ?_
      refine Wp.n (pc' := 26) 1 rfl ?_
      refine Wp.get (len := 3) rfl (hO _) rfl ?_
      refine Wp.n (pc' := 34) 4 rfl ?_
      refine Wp.callV (len := 3) rfl rfl rfl (rfl) rfl (by decide) rfl (t_find (load := l) hk ha ht (by omega)) ?_
      rintro _ _ ⟨rfl, κ2, rfl, hS, hW⟩
      refine Wp.n (pc' := 38) 1 rfl ?_
      refine Wp.get (len := 3) rfl (hO _) rfl ?_
      refine Wp.n (pc' := 42) 1 rfl ?_
      refine Wp.get (len := 3) rfl (hO _) rfl ?_
      refine Wp.ecallV (len := 3) rfl rfl rfl (rfl) rfl (by decide) rfl (t_best hk ha (by omega) hl9 hW h3) ?_
      refine Wp.n (pc' := 50) 1 rfl ?_
      refine Wp.ecallV (len := 3) rfl rfl rfl (rfl) rfl (by decide) rfl (t_placeOf ok ha hW h3 (fun b hb => bstK_b ok ha hl9 hb) i) ?_
      refine Wp.retI (len := 1) rfl rfl ?_
      rcases best_eq (K := K) (t := t) (y := v) (load := l) (dn := 0) ok ha hl9 with ⟨e0, eb⟩ | ⟨e0, b, eb, hb, eC, eL, eD, eP⟩
      · rw [if_neg (fun q => by have := q.1; omega), eb]
        exact RCI_s hS rfl
      · rw [eb, eP]
        refine RCI_s hS ?_
        by_cases c : isN ((allW K v a t).getD b wy0).1.length i = true
        · rw [if_pos ⟨e0, c⟩]
          show (if isN ((allW K v a t).getD b wy0).1.length i = true then _ else _) = _
          rw [if_pos c]
        · rw [if_neg (fun q => c q.2)]
          show (if isN ((allW K v a t).getD b wy0).1.length i = true then _ else _) = _
          rw [if_neg c]
    · skip
      refine Wp.n (pc' := 20) 1 rfl ?_
      refine Wp.retI (len := 1) rfl rfl ?_
      first
        | (rw [if_neg (fun q => by rw [h7] at q; exact absurd q.1 (by decide))]; exact RCI_r rfl)
        | (rw [if_neg (fun q => by rw [show isR 1 9 l = false from h15] at q; exact absurd q.2 (by decide))]; exact RCI_r rfl)

/-- the ways of a told walk -/
def WRw (κ : CS) (K : KD) (r w : Nat) : Prop := WR κ K r (kw K w 4) (kw K w (3 + kw K w 3)) (kw K w 2) (kw K w 1)
theorem walk_b (ok : KOK K) {w : Nat} (hw : w < kh K 4) : kw K w 4 < kh K 0 ∧ kw K w (3 + kw K w 3) < kh K 0 ∧ kw K w 2 < 31 ∧ kw K w 1 ≤ 9 ∧ (allW K (kw K w 2) (kw K w 4) (kw K w (3 + kw K w 3))).length ≤ 326 := by
  have b1 := (ok_h ok).2.1
  have tw := ok_walk ok hw
  have p0 := tw.2.2.2.2.2.2.1 0 (by omega)
  have p1 := tw.2.2.2.2.2.2.1 (kw K w 3 - 1) (by omega)
  rw [show 4 + (kw K w 3 - 1) = 3 + kw K w 3 by omega] at p1
  exact ⟨p0, p1, by omega, tw.2.2.1, allW_len ok p0 p1⟩
theorem k_findForWalk (hD : HD M) (hk : RK M r K) {w : Nat} (hw : w < kh K 4) : Wp (d + 12) md_123 0 [some (.ref 32), some (.ref r), some (.int (nI w)), none] [] (cset M κ) (fun v M' => v = none ∧ ∃ κ', M' = cset M κ' ∧ ScC κ κ' ∧ WRw κ' K r w) := by
  obtain ⟨ρ, hR, hK, hDC, ok, hr1, hr2⟩ := id hk
  obtain ⟨b0, b1, b2, b3, b4, b5, b6, b7, b8, b9, b10, b11, b12⟩ := ok_h ok
  obtain ⟨ow, hDo⟩ := hD.1
  have hO : ∀ κ : CS, cset M κ 32 = .inr (9, hdl ow) := fun κ => (cset_o (by omega)).trans hDo
  have hRc : ∀ κ : CS, RA (cset M κ) r ρ := fun κ => RA_c hR hr1 hr2
  have q := rc_walk hK hw
  obtain ⟨p0, p1, p2, p3, p4⟩ := walk_b ok hw
  have hwk : ∀ κ : CS, cset M κ (r + 26 + 2 * w) = .inr (7, wfs (rwk ρ w) (r + 27 + 2 * w)) := fun κ => ra_walk (hRc κ) (by omega)
  refine Wp.n (pc' := 1) 1 rfl ?_
  refine Wp.get (len := 3) rfl (ra_obj (hRc _)) rfl ?_
  refine Wp.n (pc' := 5) 1 rfl ?_
  refine Wp.aaldN (j := w) (len := 1) rfl (ra_walks (hRc _)) rfl (by omega) (by decide) (if_pos (by omega)) ?_
  refine Wp.n (pc' := 8) 2 rfl ?_
  refine Wp.get (len := 3) rfl (hO _) rfl ?_
  refine Wp.n (pc' := 13) 2 rfl ?_
  refine Wp.ecallV (len := 3) rfl rfl rfl (hwk _) rfl (by omega) rfl (k_first (hRc _) hK ok (by omega) hw) ?_
  refine Wp.n (pc' := 17) 1 rfl ?_
  refine Wp.ecallV (len := 3) rfl rfl rfl (hwk _) rfl (by omega) rfl (k_last (hRc _) hK ok (by omega) hw) ?_
  refine Wp.n (pc' := 21) 1 rfl ?_
  refine Wp.get (len := 3) rfl (hwk _) rfl ?_
  refine Wp.top q.2.2.1 ?_
  refine Wp.n (pc' := 25) 1 rfl ?_
  refine Wp.get (len := 3) rfl (hwk _) rfl ?_
  refine Wp.top q.2.1 ?_
  refine Wp.callV (len := 3) rfl rfl rfl (rfl) rfl (by decide) rfl (t_find hk p0 p1 p2) ?_
  rintro _ _ ⟨rfl, κ2, rfl, hS, hW⟩
  refine Wp.retV (len := 1) rfl rfl ?_
  exact ⟨rfl, κ2, rfl, hS, hW⟩

theorem k_bestShare (hD : HD M) (hk : RK M r K) {w k : Nat} (hw : w < kh K 4) (hk4 : k < 4) (hW : WRw κ K r w) : Ev (d + 11) md_124 0 [some (.ref 32), some (.int (oI (bstK K (kw K w 4) (kw K w (3 + kw K w 3)) (kw K w 2) (kw K w 1)))), some (.int (nI k))] [] (cset M κ) (some (.int (nI (shareK K k w))), cset M κ) := by
  obtain ⟨ρ, hR, hK, hDC, ok, hr1, hr2⟩ := id hk
  obtain ⟨b0, b1, b2, b3, b4, b5, b6, b7, b8, b9, b10, b11, b12⟩ := ok_h ok
  obtain ⟨ow, hDo⟩ := hD.1
  have hO : ∀ κ : CS, cset M κ 32 = .inr (9, hdl ow) := fun κ => (cset_o (by omega)).trans hDo
  have hRc : ∀ κ : CS, RA (cset M κ) r ρ := fun κ => RA_c hR hr1 hr2
  obtain ⟨p0, p1, p2, p3, p4⟩ := walk_b ok hw
  refine Wp.toEv ?_
  unfold shareK
  rcases best_eq (K := K) (t := kw K w (3 + kw K w 3)) (y := kw K w 2) (load := kw K w 1) (dn := 0) ok p0 p3 with ⟨e0, eb⟩ | ⟨e0, b, eb, hb, eC, eL, eD, eP⟩
  · rw [if_pos (show (finW K w).1 = 0 from e0), eb]
    refine Wp.n (pc' := 2) 2 rfl ?_
    refine Wp.ic1 (tgt := 16) (len := 3) rfl (fun h2 => ?_) (fun h2 => ?_)
    · exact absurd rfl h2
    · skip
      refine Wp.n (pc' := 7) 2 rfl ?_
      refine Wp.nc1 (x := k) (y := 3) (tgt := 14) (len := 3) rfl (by omega) (by omega) (fun h7 => ?_) (fun h7 => ?_)
      · skip
        refine Wp.n (pc' := 15) 1 rfl ?_
        refine Wp.retI (len := 1) rfl rfl ?_
        first
          | exact ⟨by rw [if_pos h7]; rfl, rfl⟩
          | exact ⟨by rw [if_neg h7]; rfl, rfl⟩
      · skip
        refine Wp.n (pc' := 15) 2 rfl ?_
        refine Wp.retI (len := 1) rfl rfl ?_
        first
          | exact ⟨by rw [if_pos h7]; rfl, rfl⟩
          | exact ⟨by rw [if_neg h7]; rfl, rfl⟩
  · obtain ⟨n1, n2, n3, n4⟩ := hW.2.2 b hb
    rw [if_neg (show ¬ (finW K w).1 = 0 from fun q => by have e0' : 0 < (finW K w).1 := e0; omega), eb, show bD (finW K w) = _ from eD, show (finW K w).2.1 = _ from eC, show (finW K w).2.2.1 = _ from eL]
    refine Wp.n (pc' := 2) 2 rfl ?_
    refine Wp.ic1 (tgt := 16) (len := 3) rfl (fun h2 => ?_) (fun h2 => ?_)
    · skip
      refine Wp.n (pc' := 17) 1 rfl ?_
      have ex : (nI k).toInt = (0 : Int) + k := by rw [nI_toInt (by omega)]; omega
      match k, hk4, ex with
      | 0, _, ex =>
        refine Wp.sw (len := 27) (t := 44) rfl (sw_at rfl 0 ex rfl) ?_
        refine Wp.n (pc' := 45) 1 rfl ?_
        refine Wp.get (len := 3) rfl (hO _) rfl ?_
        refine Wp.n (pc' := 50) 2 rfl ?_
        refine Wp.ecallV (len := 3) rfl rfl rfl (rfl) rfl (by decide) rfl (t_dutyOf hk p0 p2 p3 hW hb p4 (m := 0) (by decide)) ?_
        refine Wp.retI (len := 1) rfl rfl ?_
        exact ⟨rfl, rfl⟩
      | 1, _, ex =>
        refine Wp.sw (len := 27) (t := 54) rfl (sw_at rfl 1 ex rfl) ?_
        refine Wp.n (pc' := 55) 1 rfl ?_
        refine Wp.get (len := 3) rfl (hO _) rfl ?_
        refine Wp.n (pc' := 59) 1 rfl ?_
        refine Wp.ecallV (len := 3) rfl rfl rfl (rfl) rfl (by decide) rfl (t_costOf hk p0 p2 p3 hW hb p4) ?_
        refine Wp.retI (len := 1) rfl rfl ?_
        exact ⟨rfl, rfl⟩
      | 2, _, ex =>
        refine Wp.sw (len := 27) (t := 63) rfl (sw_at rfl 2 ex rfl) ?_
        refine Wp.n (pc' := 64) 1 rfl ?_
        refine Wp.get (len := 3) rfl (hO _) rfl ?_
        refine Wp.get (len := 3) rfl (rfl) rfl ?_
        refine Wp.n (pc' := 71) 1 rfl ?_
        refine Wp.ialdN (j := b) (len := 1) rfl (rfl) rfl (by omega) (by decide) ?_
        refine Wp.top n2 ?_
        refine Wp.retI (len := 1) rfl rfl ?_
        exact ⟨rfl, rfl⟩
      | 3, _, ex =>
        refine Wp.sw (len := 27) (t := 73) rfl (sw_def rfl (Or.inr (by rw [ex]; decide))) ?_
        refine Wp.n (pc' := 74) 1 rfl ?_
        refine Wp.retI (len := 1) rfl rfl ?_
        exact ⟨rfl, rfl⟩
      
    · exact absurd h2 (oI_ne (by omega))

theorem k_bestSum_l (hD : HD M) (hk : RK M r K) {k : Nat} (hk4 : k < 4) : ∀ (n w s : Nat) (κ2 : CS), w + n = kh K 4 → ScC κ κ2 → Wp (d + 13) md_122 5 [some (.ref 32), some (.ref r), some (.int (nI k)), some (.int (nI s)), some (.int (nI w))] [] (cset M κ2) (RCI M κ (nI (fld (fun s w => s + shareK K k w) n w s))) := by
  obtain ⟨ρ, hR, hK, hDC, ok, hr1, hr2⟩ := id hk
  obtain ⟨b0, b1, b2, b3, b4, b5, b6, b7, b8, b9, b10, b11, b12⟩ := ok_h ok
  obtain ⟨ow, hDo⟩ := hD.1
  have hO : ∀ κ : CS, cset M κ 32 = .inr (9, hdl ow) := fun κ => (cset_o (by omega)).trans hDo
  have hRc : ∀ κ : CS, RA (cset M κ) r ρ := fun κ => RA_c hR hr1 hr2
  intro n
  induction n with
  | zero =>
    intro w s κ2 hw hS
    refine Wp.n (pc' := 8) 2 rfl ?_
    refine Wp.get (len := 3) rfl (ra_obj (hRc _)) rfl ?_
    refine Wp.top (rc_wk hK) ?_
    refine Wp.nc3 (x := w) (y := kh K 4) (tgt := 42) (len := 3) rfl (by omega) (by omega) (fun h11 => ?_) (fun h11 => ?_)
    · skip
      refine Wp.n (pc' := 43) 1 rfl ?_
      refine Wp.retI (len := 1) rfl rfl ?_
      exact RCI_s hS rfl
    · omega
  | succ n ih =>
    intro w s κ2 hw hS
    obtain ⟨p0, p1, p2, p3, p4⟩ := walk_b ok (w := w) (by omega)
    show Wp _ _ _ _ _ _ (RCI M κ (nI (fld (fun s w => s + shareK K k w) n (w + 1) (s + shareK K k w))))
    refine Wp.n (pc' := 8) 2 rfl ?_
    refine Wp.get (len := 3) rfl (ra_obj (hRc _)) rfl ?_
    refine Wp.top (rc_wk hK) ?_
    refine Wp.nc3 (x := w) (y := kh K 4) (tgt := 42) (len := 3) rfl (by omega) (by omega) (fun h11 => ?_) (fun h11 => ?_)
    · omega
    · skip
      refine Wp.n (pc' := 18) 3 rfl ?_
      refine Wp.callV (len := 3) rfl rfl rfl (hO _) rfl (by decide) rfl (k_findForWalk hD hk (w := w) (by omega)) ?_
      rintro _ _ ⟨rfl, κ3, rfl, hS3, hW⟩
      refine Wp.n (pc' := 24) 3 rfl ?_
      refine Wp.get (len := 3) rfl (hO _) rfl ?_
      refine Wp.ecallV (len := 3) rfl rfl rfl (rfl) rfl (by decide) rfl (t_best hk p0 p2 p3 hW p4) ?_
      refine Wp.n (pc' := 31) 1 rfl ?_
      refine Wp.ecallV (len := 3) rfl rfl rfl (hO _) rfl (by decide) rfl (k_bestShare hD hk (by omega) hk4 hW) ?_
      refine Wp.iaddN (x := s) (y := shareK K k w) (len := 1) rfl ?_
      refine Wp.n (pc' := 36) 1 rfl ?_
      refine Wp.incN (x := w) (len := 3) rfl rfl ?_
      refine Wp.n (pc' := 5) 1 rfl ?_
      exact ih (w + 1) _ κ3 (by omega) (ScC_t hS hS3)

theorem k_bestSum (hD : HD M) (hk : RK M r K) {k : Nat} (hk4 : k < 4) : Wp (d + 13) md_122 0 [some (.ref 32), some (.ref r), some (.int (nI k)), none, none] [] (cset M κ) (RCI M κ (nI (allK K k))) := by
  refine Wp.n (pc' := 5) 4 rfl ?_
  exact k_bestSum_l hD hk hk4 (kh K 4) 0 0 κ (by omega) ScC_r
theorem k_isSumN (x : Int32) : Ev (d + 1) md_121 0 [some (.int x)] [] M (some (.int (bI (isN 4 x))), M) := by
  have w := c_isSum (d := d) (M := M) x
  rw [show decide (0 ≤ x.toInt ∧ x.toInt ≤ 3) = isR 0 3 x from rfl, isR_0] at w
  exact w
theorem k_all (hD : HD M) (hk : RK M 36 K) (x : Int32) : Wp (d + 14) md_120 0 [some (.ref 32), some (.int x)] [] (cset M κ) (RCI M κ (allA K x)) := by
  obtain ⟨ρ, hR, hK, hDC, ok, hr1, hr2⟩ := id hk
  obtain ⟨b0, b1, b2, b3, b4, b5, b6, b7, b8, b9, b10, b11, b12⟩ := ok_h ok
  obtain ⟨ow, hDo⟩ := hD.1
  have hO : ∀ κ : CS, cset M κ 32 = .inr (9, hdl ow) := fun κ => (cset_o (by omega)).trans hDo
  have hRc : ∀ κ : CS, RA (cset M κ) 36 ρ := fun κ => RA_c hR hr1 hr2
  unfold allA
  refine Wp.n (pc' := 1) 1 rfl ?_
  refine Wp.get (len := 3) rfl (hO _) rfl ?_
  refine Wp.ecallV (len := 3) rfl rfl rfl (ra_obj (hRc _)) rfl (by decide) rfl (k_exists (RK_c hk)) ?_
  refine Wp.ifb0 (tgt := 29) (len := 3) rfl (fun h7 => ?_) (fun h7 => ?_)
  · skip
    refine Wp.n (pc' := 31) 1 rfl ?_
    refine Wp.retI (len := 1) rfl rfl ?_
    first
      | exact RCI_s hS rfl
      | (rw [if_neg (fun q => of_decide_eq_false h7 q.1)]; exact RCI_r rfl)
      | (rw [if_neg (fun q => by rw [h14] at q; exact absurd q.2 (by decide))]; exact RCI_r rfl)
  · skip
    refine Wp.n (pc' := 11) 1 rfl ?_
    refine Wp.ecallS (len := 3) rfl rfl rfl rfl (k_isSumN _) ?_
    refine Wp.ifb0 (tgt := 29) (len := 3) rfl (fun h14 => ?_) (fun h14 => ?_)
    · skip
      refine Wp.n (pc' := 31) 1 rfl ?_
      refine Wp.retI (len := 1) rfl rfl ?_
      first
        | exact RCI_s hS rfl
        | (rw [if_neg (fun q => of_decide_eq_false h7 q.1)]; exact RCI_r rfl)
        | (rw [if_neg (fun q => by rw [h14] at q; exact absurd q.2 (by decide))]; exact RCI_r rfl)
    · skip
      obtain ⟨k, hk4, rfl⟩ := isN_of h14
      rw [if_pos ⟨of_decide_eq_true h7, h14⟩, nI_clamp (by omega)]
      refine Wp.n (pc' := 19) 2 rfl ?_
      refine Wp.get (len := 3) rfl (hO _) rfl ?_
      refine Wp.n (pc' := 23) 1 rfl ?_
      refine Wp.callV (len := 3) rfl rfl rfl (hO _) rfl (by decide) rfl (k_bestSum hD hk hk4) ?_
      rintro _ _ ⟨rfl, κ2, rfl, hS⟩
      refine Wp.n (pc' := 31) 1 rfl ?_
      refine Wp.retI (len := 1) rfl rfl ?_
      first
        | exact RCI_s hS rfl
        | (rw [if_neg (fun q => of_decide_eq_false h7 q.1)]; exact RCI_r rfl)
        | (rw [if_neg (fun q => by rw [h14] at q; exact absurd q.2 (by decide))]; exact RCI_r rfl)


theorem k_paid (hD : HD M) (hk : RK M 36 K) (h11 : kh K 11 = 0) (x y : Int32) : Wp (d + 13) md_137 0 [some (.ref 32), some (.int x), some (.int y)] [] (cset M κ) (RCI M κ (paidA K x y)) := by
  obtain ⟨ρ, hR, hK, hDC, ok, hr1, hr2⟩ := id hk
  obtain ⟨b0, b1, b2, b3, b4, b5, b6, b7, b8, b9, b10, b11, b12⟩ := ok_h ok
  obtain ⟨ow, hDo⟩ := hD.1
  have hO : ∀ κ : CS, cset M κ 32 = .inr (9, hdl ow) := fun κ => (cset_o (by omega)).trans hDo
  have hRc : ∀ κ : CS, RA (cset M κ) 36 ρ := fun κ => RA_c hR hr1 hr2
  unfold paidA
  refine Wp.n (pc' := 1) 1 rfl ?_
  refine Wp.get (len := 3) rfl (hO _) rfl ?_
  refine Wp.n (pc' := 5) 1 rfl ?_
  refine Wp.ecallV (len := 3) rfl rfl rfl (ra_obj (hRc _)) rfl (by decide) rfl (k_hasWalk (RK_c hk) _) ?_
  refine Wp.ifb0 (tgt := 15) (len := 3) rfl (fun h8 => ?_) (fun h8 => ?_)
  · skip
    refine Wp.n (pc' := 17) 1 rfl ?_
    refine Wp.retI (len := 1) rfl rfl ?_
    first
      | exact RCI_s hS (congrArg nI hE.1.symm)
      | (rw [if_neg (fun q => by rw [h8] at q; exact absurd q.1 (by decide))]; exact RCI_r rfl)
      | (rw [if_neg (fun q => h12 q.2)]; exact RCI_r rfl)
  · skip
    refine Wp.n (pc' := 12) 1 rfl ?_
    refine Wp.if3 (tgt := 18) (len := 3) rfl (fun h12 => ?_) (fun h12 => ?_)
    · skip
      obtain ⟨w, hw, rfl⟩ := isN_of h8
      obtain ⟨m, hm, rfl⟩ := ge_of h12
      obtain ⟨p0, p1, p2, p3, p4⟩ := walk_b ok hw
      have hE := owe_eq (K := K) (t := kw K w (3 + kw K w 3)) (y := kw K w 2) (load := kw K w 1) (dn := m) ok h11 p0 p3 hm
      rw [if_pos ⟨h8, h12⟩, nI_clamp (by omega), nI_clamp hm]
      refine Wp.n (pc' := 20) 2 rfl ?_
      refine Wp.get (len := 3) rfl (hO _) rfl ?_
      refine Wp.n (pc' := 24) 1 rfl ?_
      refine Wp.callV (len := 3) rfl rfl rfl (hO _) rfl (by decide) rfl (k_findForWalk hD hk hw) ?_
      rintro _ _ ⟨rfl, κ2, rfl, hS, hW⟩
      refine Wp.n (pc' := 28) 1 rfl ?_
      refine Wp.get (len := 3) rfl (hO _) rfl ?_
      refine Wp.n (pc' := 32) 1 rfl ?_
      refine Wp.i2lM (x := m) (len := 1) rfl (by omega) ?_
      refine Wp.ecallV (len := 3) rfl rfl rfl (rfl) rfl (by decide) rfl (t_count hk p0 p2 p3 hW p4 (lN m)) ?_
      refine Wp.retI (len := 1) rfl rfl ?_
      first
        | exact RCI_s hS (congrArg nI hE.1.symm)
        | (rw [if_neg (fun q => by rw [h8] at q; exact absurd q.1 (by decide))]; exact RCI_r rfl)
        | (rw [if_neg (fun q => h12 q.2)]; exact RCI_r rfl)
    · skip
      refine Wp.n (pc' := 17) 1 rfl ?_
      refine Wp.retI (len := 1) rfl rfl ?_
      first
        | exact RCI_s hS (congrArg nI hE.1.symm)
        | (rw [if_neg (fun q => by rw [h8] at q; exact absurd q.1 (by decide))]; exact RCI_r rfl)
        | (rw [if_neg (fun q => h12 q.2)]; exact RCI_r rfl)

theorem k_sure (hD : HD M) (hk : RK M 36 K) (h11 : kh K 11 = 0) (x y : Int32) : Wp (d + 13) md_138 0 [some (.ref 32), some (.int x), some (.int y)] [] (cset M κ) (RCI M κ (sureA K x y)) := by
  obtain ⟨ρ, hR, hK, hDC, ok, hr1, hr2⟩ := id hk
  obtain ⟨b0, b1, b2, b3, b4, b5, b6, b7, b8, b9, b10, b11, b12⟩ := ok_h ok
  obtain ⟨ow, hDo⟩ := hD.1
  have hO : ∀ κ : CS, cset M κ 32 = .inr (9, hdl ow) := fun κ => (cset_o (by omega)).trans hDo
  have hRc : ∀ κ : CS, RA (cset M κ) 36 ρ := fun κ => RA_c hR hr1 hr2
  unfold sureA
  refine Wp.n (pc' := 1) 1 rfl ?_
  refine Wp.get (len := 3) rfl (hO _) rfl ?_
  refine Wp.n (pc' := 5) 1 rfl ?_
  refine Wp.ecallV (len := 3) rfl rfl rfl (ra_obj (hRc _)) rfl (by decide) rfl (k_hasWalk (RK_c hk) _) ?_
  refine Wp.ifb0 (tgt := 15) (len := 3) rfl (fun h8 => ?_) (fun h8 => ?_)
  · skip
    refine Wp.n (pc' := 17) 1 rfl ?_
    refine Wp.retI (len := 1) rfl rfl ?_
    first
      | (refine RCI_s hS ?_
         by_cases c : (finP K 3 w m).1 = 0
         · rw [if_pos c, hE.2.2.mp (hE.1.symm.trans c)]
           rfl
         · rw [if_neg c]
           exact congrArg oI hE.2.1.symm)
      | (rw [if_neg (fun q => by rw [h8] at q; exact absurd q.1 (by decide))]; exact RCI_r rfl)
      | (rw [if_neg (fun q => h12 q.2)]; exact RCI_r rfl)
  · skip
    refine Wp.n (pc' := 12) 1 rfl ?_
    refine Wp.if3 (tgt := 18) (len := 3) rfl (fun h12 => ?_) (fun h12 => ?_)
    · skip
      obtain ⟨w, hw, rfl⟩ := isN_of h8
      obtain ⟨m, hm, rfl⟩ := ge_of h12
      obtain ⟨p0, p1, p2, p3, p4⟩ := walk_b ok hw
      have hE := owe_eq (K := K) (t := kw K w (3 + kw K w 3)) (y := kw K w 2) (load := kw K w 1) (dn := m) ok h11 p0 p3 hm
      rw [if_pos ⟨h8, h12⟩, nI_clamp (by omega), nI_clamp hm]
      refine Wp.n (pc' := 20) 2 rfl ?_
      refine Wp.get (len := 3) rfl (hO _) rfl ?_
      refine Wp.n (pc' := 24) 1 rfl ?_
      refine Wp.callV (len := 3) rfl rfl rfl (hO _) rfl (by decide) rfl (k_findForWalk hD hk hw) ?_
      rintro _ _ ⟨rfl, κ2, rfl, hS, hW⟩
      refine Wp.n (pc' := 28) 1 rfl ?_
      refine Wp.get (len := 3) rfl (hO _) rfl ?_
      refine Wp.n (pc' := 32) 1 rfl ?_
      refine Wp.ecallV (len := 3) rfl rfl rfl (rfl) rfl (by decide) rfl (t_common hk p0 p2 p3 hW p4 hm) ?_
      refine Wp.retI (len := 1) rfl rfl ?_
      first
        | (refine RCI_s hS ?_
           by_cases c : (finP K 3 w m).1 = 0
           · rw [if_pos c, hE.2.2.mp (hE.1.symm.trans c)]
             rfl
           · rw [if_neg c]
             exact congrArg oI hE.2.1.symm)
        | (rw [if_neg (fun q => by rw [h8] at q; exact absurd q.1 (by decide))]; exact RCI_r rfl)
        | (rw [if_neg (fun q => h12 q.2)]; exact RCI_r rfl)
    · skip
      refine Wp.n (pc' := 17) 1 rfl ?_
      refine Wp.retI (len := 1) rfl rfl ?_
      first
        | (refine RCI_s hS ?_
           by_cases c : (finP K 3 w m).1 = 0
           · rw [if_pos c, hE.2.2.mp (hE.1.symm.trans c)]
             rfl
           · rw [if_neg c]
             exact congrArg oI hE.2.1.symm)
        | (rw [if_neg (fun q => by rw [h8] at q; exact absurd q.1 (by decide))]; exact RCI_r rfl)
        | (rw [if_neg (fun q => h12 q.2)]; exact RCI_r rfl)

end QW
