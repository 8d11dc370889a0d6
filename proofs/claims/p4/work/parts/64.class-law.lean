/-! THE CLASS: watchers, the law, slots, the tape, images, counts. -/
section WATCH
variable {d : Nat} {M : AM} {r : Nat} {K : KD} {κ κ' : CS} {Q : Option Value → AM → Prop}
/-- the class's object and its row of owing lanes, over M -/
def wmm (M : AM) (ow : Int32) (f : Nat → Int32) : AM := fun q => if q = 32 then .inr (9, hdl ow) else if q = 286 then .inl (0, 10, .inl f) else M q
theorem wmm_ne {ow : Int32} {f : Nat → Int32} {q : Nat} (h1 : q ≠ 32) (h2 : q ≠ 286) : wmm M ow f q = M q := by
  unfold wmm
  rw [if_neg h1, if_neg h2]
theorem wmm_r {ow : Int32} {f : Nat → Int32} : wmm M ow f 286 = .inl (0, 10, .inl f) := by
  unfold wmm
  rw [if_neg (by decide), if_pos rfl]
theorem wmm_hd {ow : Int32} {f : Nat → Int32} : HD (wmm M ow f) := ⟨⟨ow, if_pos rfl⟩, f, wmm_r⟩
theorem wmm_of (hD : HD M) : ∃ (ow : Int32) (f : Nat → Int32), M = wmm M ow f := by
  obtain ⟨⟨ow, h1⟩, f, h2⟩ := hD
  refine ⟨ow, f, ?_⟩
  funext q
  unfold wmm
  by_cases c1 : q = 32
  · rw [if_pos c1, c1, h1]
  · rw [if_neg c1]
    by_cases c2 : q = 286
    · rw [if_pos c2, c2, h2]
    · rw [if_neg c2]
theorem wmm_rk {ow : Int32} {f : Nat → Int32} (hk : RK M 36 K) : RK (wmm M ow f) 36 K := RK_of hk (fun q a b => wmm_ne (by omega) (by omega))
theorem wmm_32 {ow x : Int32} {f : Nat → Int32} : va_up (cset (wmm M ow f) κ) 32 (.inr (9, hdl x)) = cset (wmm M x f) κ := by
  funext q
  by_cases c : q = 32
  · rw [c, va_up_self]
    exact ((cset_o (by omega)).trans (if_pos rfl)).symm
  · rw [va_up_ne _ _ c]
    have e : wmm M ow f q = wmm M x f q := by
      unfold wmm
      rw [if_neg c, if_neg c]
    unfold cset
    rw [e]
theorem wmm_286 {ow : Int32} {f h : Nat → Int32} : va_up (cset (wmm M ow f) κ) 286 (.inl (0, 10, .inl h)) = cset (wmm M ow h) κ := by
  funext q
  by_cases c : q = 286
  · rw [c, va_up_self]
    exact ((cset_o (by omega)).trans wmm_r).symm
  · rw [va_up_ne _ _ c]
    have e : wmm M ow f q = wmm M ow h q := by
      unfold wmm
      rw [if_neg c, if_neg c]
    unfold cset
    rw [e]
theorem Wp.cgm {X : MD} {pc : Nat} {l : AL} {st : List Value} {M' : AM} (h : M = M') (w : Wp d X pc l st M' Q) : Wp d X pc l st M Q := h ▸ w
def NOp (M : AM) (κ : CS) : Option Value → AM → Prop := fun v M' => v = none ∧ ∃ (m : Nat) (f : Nat → Int32) (κ' : CS), m ≤ 10 ∧ M' = cset (wmm M (nI m) f) κ' ∧ ScC κ κ'
theorem k_owing_l (hk : RK M 36 K) : ∀ (n w m : Nat) (f : Nat → Int32) (κ2 : CS), w + n = kh K 4 → m ≤ 10 → ScC κ κ2 → Wp (d + 11) md_265 7 [some (.ref 32), some (.int (nI w))] [] (cset (wmm M (nI m) f) κ2) (NOp M κ) := by
  obtain ⟨ρ, hR, hK, hDC, ok, hr1, hr2⟩ := id hk
  obtain ⟨b0, b1, b2, b3, b4, b5, b6, b7, b8, b9, b10, b11, b12⟩ := ok_h ok
  have hO : ∀ (ow : Int32) (f : Nat → Int32) (κ : CS), cset (wmm M ow f) κ 32 = .inr (9, hdl ow) := fun ow f κ => (cset_o (by omega)).trans (if_pos rfl)
  have hrow : ∀ (ow : Int32) (f : Nat → Int32) (κ : CS), cset (wmm M ow f) κ 286 = .inl (0, 10, .inl f) := fun ow f κ => (cset_o (by omega)).trans wmm_r
  have hRc : ∀ (ow : Int32) (f : Nat → Int32) (κ : CS), RA (cset (wmm M ow f) κ) 36 ρ := fun ow f κ => RA_c (RA_of hR (fun q a b => wmm_ne (by omega) (by omega))) hr1 hr2
  intro n
  induction n with
  | zero =>
    intro w m f κ2 hw hm hS
    refine Wp.n (pc' := 9) 2 rfl ?_
    refine Wp.get (len := 3) rfl (hO _ _ _) rfl ?_
    refine Wp.get (len := 3) rfl (ra_obj (hRc _ _ _)) rfl ?_
    refine Wp.top (rc_wk hK) ?_
    refine Wp.nc3 (x := w) (y := kh K 4) (tgt := 81) (len := 3) rfl (by omega) (by omega) (fun h15 => ?_) (fun h15 => ?_)
    · skip
      refine Wp.retV (len := 1) rfl rfl ?_
      exact ⟨rfl, m, f, κ2, hm, rfl, hS⟩
    · omega
  | succ n ih =>
    intro w m f κ2 hw hm hS
    have hdb := dutW_b ok (w := w) (by omega)
    refine Wp.n (pc' := 9) 2 rfl ?_
    refine Wp.get (len := 3) rfl (hO _ _ _) rfl ?_
    refine Wp.get (len := 3) rfl (ra_obj (hRc _ _ _)) rfl ?_
    refine Wp.top (rc_wk hK) ?_
    refine Wp.nc3 (x := w) (y := kh K 4) (tgt := 81) (len := 3) rfl (by omega) (by omega) (fun h15 => ?_) (fun h15 => ?_)
    · omega
    · skip
      refine Wp.n (pc' := 20) 2 rfl ?_
      refine Wp.get (len := 3) rfl (hO _ _ _) rfl ?_
      refine Wp.n (pc' := 24) 1 rfl ?_
      refine Wp.callV (len := 3) rfl rfl rfl (hO _ _ _) rfl (by decide) rfl (k_isLawful wmm_hd (wmm_rk hk) (by omega)) ?_
      rintro _ _ ⟨rfl, κ3, rfl, hF, hT⟩
      refine Wp.ifb0 (tgt := 75) (len := 3) rfl (fun h27 => ?_) (fun h27 => ?_)
      · skip
        refine Wp.incN (x := w) (len := 3) rfl rfl ?_
        refine Wp.n (pc' := 7) 1 rfl ?_
        first
          | exact ih (w + 1) m f κ3 (by omega) hm (ScC_t hS (ScC_11 hF))
          | exact ih (w + 1) (m + 1) _ κ3 (by omega) (by omega) (ScC_t hS (ScC_11 hF))
      · skip
        refine Wp.n (pc' := 31) 1 rfl ?_
        refine Wp.get (len := 3) rfl (hO _ _ _) rfl ?_
        refine Wp.get (len := 3) rfl (rfl) rfl ?_
        refine Wp.top hT.2.2.2 ?_
        refine Wp.nz5 (x := dutW K w) (tgt := 75) (len := 3) rfl (by omega) (fun h37 => ?_) (fun h37 => ?_)
        · skip
          refine Wp.incN (x := w) (len := 3) rfl rfl ?_
          refine Wp.n (pc' := 7) 1 rfl ?_
          first
            | exact ih (w + 1) m f κ3 (by omega) hm (ScC_t hS (ScC_11 hF))
            | exact ih (w + 1) (m + 1) _ κ3 (by omega) (by omega) (ScC_t hS (ScC_11 hF))
        · skip
          refine Wp.n (pc' := 41) 1 rfl ?_
          refine Wp.get (len := 3) rfl (hO _ _ _) rfl ?_
          refine Wp.n (pc' := 46) 1 rfl ?_
          refine Wp.nc3 (x := m) (y := 10) (tgt := 75) (len := 3) rfl (by omega) (by omega) (fun h46 => ?_) (fun h46 => ?_)
          · skip
            refine Wp.incN (x := w) (len := 3) rfl rfl ?_
            refine Wp.n (pc' := 7) 1 rfl ?_
            first
              | exact ih (w + 1) m f κ3 (by omega) hm (ScC_t hS (ScC_11 hF))
              | exact ih (w + 1) (m + 1) _ κ3 (by omega) (by omega) (ScC_t hS (ScC_11 hF))
          · skip
            refine Wp.n (pc' := 50) 1 rfl ?_
            refine Wp.get (len := 3) rfl (hO _ _ _) rfl ?_
            refine Wp.n (pc' := 54) 1 rfl ?_
            refine Wp.get (len := 3) rfl (hO _ _ _) rfl ?_
            refine Wp.n (pc' := 58) 1 rfl ?_
            refine Wp.get (len := 3) rfl (hO _ _ _) rfl ?_
            refine Wp.get (len := 3) rfl (rfl) rfl ?_
            refine Wp.iastN (j := m) (len := 1) rfl (hrow _ _ _) (by omega) (by decide) ?_
            refine Wp.cgm wmm_286 ?_
            refine Wp.n (pc' := 67) 2 rfl ?_
            refine Wp.get (len := 3) rfl (hO _ _ _) rfl ?_
            refine Wp.n (pc' := 71) 1 rfl ?_
            refine Wp.iaddN (x := m) (y := 1) (len := 1) rfl ?_
            refine Wp.put (len := 3) rfl (hO _ _ _) rfl ?_
            refine Wp.cgm (wmm_32 (ow := nI m) (x := nI (m + 1))) ?_
            refine Wp.incN (x := w) (len := 3) rfl rfl ?_
            refine Wp.n (pc' := 7) 1 rfl ?_
            first
              | exact ih (w + 1) m f κ3 (by omega) hm (ScC_t hS (ScC_11 hF))
              | exact ih (w + 1) (m + 1) _ κ3 (by omega) (by omega) (ScC_t hS (ScC_11 hF))
theorem k_owing (hD : HD M) (hk : RK M 36 K) : Wp (d + 11) md_265 0 [some (.ref 32), none] [] (cset M κ) (NOp M κ) := by
  obtain ⟨ow, f, e⟩ := wmm_of hD
  have e2 : cset M κ = cset (wmm M ow f) κ := congrArg (fun m => cset m κ) e
  rw [e2]
  obtain ⟨ρ, hR, hK, hDC, ok, hr1, hr2⟩ := id hk
  obtain ⟨b0, b1, b2, b3, b4, b5, b6, b7, b8, b9, b10, b11, b12⟩ := ok_h ok
  have hO : ∀ (ow : Int32) (f : Nat → Int32) (κ : CS), cset (wmm M ow f) κ 32 = .inr (9, hdl ow) := fun ow f κ => (cset_o (by omega)).trans (if_pos rfl)
  have hrow : ∀ (ow : Int32) (f : Nat → Int32) (κ : CS), cset (wmm M ow f) κ 286 = .inl (0, 10, .inl f) := fun ow f κ => (cset_o (by omega)).trans wmm_r
  have hRc : ∀ (ow : Int32) (f : Nat → Int32) (κ : CS), RA (cset (wmm M ow f) κ) 36 ρ := fun ow f κ => RA_c (RA_of hR (fun q a b => wmm_ne (by omega) (by omega))) hr1 hr2
  refine Wp.n (pc' := 2) 2 rfl ?_
  refine Wp.put (len := 3) rfl (hO _ _ _) rfl ?_
  refine Wp.cgm (wmm_32 (ow := ow) (x := nI 0)) ?_
  refine Wp.n (pc' := 7) 2 rfl ?_
  exact k_owing_l hk (kh K 4) 0 0 f κ (by omega) (by omega) ScC_r
theorem k_meets_l (hk : RK M 36 K) {m : Nat} (hm : m ≤ 10) {f : Nat → Int32} {x : Int32} : ∀ (n i : Nat), i + n = m → Wp (d + 11) md_132 2 [some (.ref 32), some (.int x), some (.int (nI i))] [] (cset (wmm M (nI m) f) κ) (fun v M' => (∃ b : Bool, v = some (.int (bI b))) ∧ M' = cset (wmm M (nI m) f) κ) := by
  obtain ⟨ρ, hR, hK, hDC, ok, hr1, hr2⟩ := id hk
  obtain ⟨b0, b1, b2, b3, b4, b5, b6, b7, b8, b9, b10, b11, b12⟩ := ok_h ok
  have hO : ∀ (ow : Int32) (f : Nat → Int32) (κ : CS), cset (wmm M ow f) κ 32 = .inr (9, hdl ow) := fun ow f κ => (cset_o (by omega)).trans (if_pos rfl)
  have hrow : ∀ (ow : Int32) (f : Nat → Int32) (κ : CS), cset (wmm M ow f) κ 286 = .inl (0, 10, .inl f) := fun ow f κ => (cset_o (by omega)).trans wmm_r
  have hRc : ∀ (ow : Int32) (f : Nat → Int32) (κ : CS), RA (cset (wmm M ow f) κ) 36 ρ := fun ow f κ => RA_c (RA_of hR (fun q a b => wmm_ne (by omega) (by omega))) hr1 hr2
  intro n
  induction n with
  | zero =>
    intro i hi
    refine Wp.n (pc' := 4) 2 rfl ?_
    refine Wp.get (len := 3) rfl (hO _ _ _) rfl ?_
    refine Wp.nc3 (x := i) (y := m) (tgt := 29) (len := 3) rfl (by omega) (by omega) (fun h7 => ?_) (fun h7 => ?_)
    · skip
      refine Wp.n (pc' := 30) 1 rfl ?_
      refine Wp.retZ (len := 1) (c := true) rfl rfl rfl ?_
      exact ⟨⟨_, rfl⟩, rfl⟩
    · omega
  | succ n ih =>
    intro i hi
    refine Wp.n (pc' := 4) 2 rfl ?_
    refine Wp.get (len := 3) rfl (hO _ _ _) rfl ?_
    refine Wp.nc3 (x := i) (y := m) (tgt := 29) (len := 3) rfl (by omega) (by omega) (fun h7 => ?_) (fun h7 => ?_)
    · omega
    · skip
      refine Wp.n (pc' := 11) 1 rfl ?_
      refine Wp.get (len := 3) rfl (hO _ _ _) rfl ?_
      refine Wp.n (pc' := 15) 1 rfl ?_
      refine Wp.ialdN (j := i) (len := 1) rfl (hrow _ _ _) rfl (by omega) (by decide) ?_
      refine Wp.n (pc' := 18) 2 rfl ?_
      refine Wp.if1 (tgt := 23) (len := 3) rfl (fun h18 => ?_) (fun h18 => ?_)
      · skip
        refine Wp.incN (x := i) (len := 3) rfl rfl ?_
        refine Wp.n (pc' := 2) 1 rfl ?_
        exact ih (i + 1) (by omega)
      · skip
        refine Wp.n (pc' := 22) 1 rfl ?_
        refine Wp.retZ (len := 1) (c := false) rfl rfl rfl ?_
        exact ⟨⟨_, rfl⟩, rfl⟩
theorem k_meets (hk : RK M 36 K) {m : Nat} (hm : m ≤ 10) {f : Nat → Int32} {x : Int32} : Wp (d + 11) md_132 0 [some (.ref 32), some (.int x), none] [] (cset (wmm M (nI m) f) κ) (fun v M' => (∃ b : Bool, v = some (.int (bI b))) ∧ M' = cset (wmm M (nI m) f) κ) := by
  refine Wp.n (pc' := 2) 2 rfl ?_
  exact k_meets_l hk hm m 0 (by omega)
/-- watchers answers something, and -2 where there is no kingdom; the object's row and count may change -/
def WAp (M : AM) (κ : CS) (K : KD) : Option Value → AM → Prop := fun v M' => (∃ a : Int32, v = some (.int a) ∧ (kh K 0 = 0 → a = -2)) ∧ ∃ (ow : Int32) (f : Nat → Int32) (κ' : CS), M' = cset (wmm M ow f) κ' ∧ ScC κ κ'
theorem k_wt_l (hk : RK M 36 K) (h11 : kh K 11 = 0) (h0 : 0 < kh K 0) {m : Nat} (hm : m ≤ 10) {f : Nat → Int32} {x : Int32} {κ2 : CS} (hS : ScC κ κ2) : ∀ (n s b : Nat), s + n = 2 ^ kh K 3 → b < 256 → Wp (d + 12) md_131 49 [some (.ref 32), some (.int x), some (.int (nI b)), some (.int (nI s))] [] (cset (wmm M (nI m) f) κ2) (WAp M κ K) := by
  obtain ⟨ρ, hR, hK, hDC, ok, hr1, hr2⟩ := id hk
  obtain ⟨b0, b1, b2, b3, b4, b5, b6, b7, b8, b9, b10, b11, b12⟩ := ok_h ok
  have hO : ∀ (ow : Int32) (f : Nat → Int32) (κ : CS), cset (wmm M ow f) κ 32 = .inr (9, hdl ow) := fun ow f κ => (cset_o (by omega)).trans (if_pos rfl)
  have hrow : ∀ (ow : Int32) (f : Nat → Int32) (κ : CS), cset (wmm M ow f) κ 286 = .inl (0, 10, .inl f) := fun ow f κ => (cset_o (by omega)).trans wmm_r
  have hRc : ∀ (ow : Int32) (f : Nat → Int32) (κ : CS), RA (cset (wmm M ow f) κ) 36 ρ := fun ow f κ => RA_c (RA_of hR (fun q a b => wmm_ne (by omega) (by omega))) hr1 hr2
  have h28 : 2 ^ kh K 3 ≤ 256 := Nat.pow_le_pow_right (by decide) b3
  have h8 : rhd ρ 8 = nI (kh K 3) := by rw [rc_la hK, h11, Nat.add_zero]
  intro n
  induction n with
  | zero =>
    intro s b hs hb2
    refine Wp.n (pc' := 52) 3 rfl ?_
    refine Wp.get (len := 3) rfl (hO _ _ _) rfl ?_
    refine Wp.get (len := 3) rfl (ra_obj (hRc _ _ _)) rfl ?_
    refine Wp.top h8 ?_
    refine Wp.n (pc' := 59) 1 rfl ?_
    refine Wp.top (n_sh1 _ (by omega)) ?_
    refine Wp.nc3 (x := s) (y := 2 ^ kh K 3) (tgt := 89) (len := 3) rfl (by omega) (by omega) (fun h59 => ?_) (fun h59 => ?_)
    · skip
      refine Wp.n (pc' := 90) 1 rfl ?_
      refine Wp.if1 (tgt := 100) (len := 3) rfl (fun h90 => ?_) (fun h90 => ?_)
      · skip
        refine Wp.n (pc' := 101) 1 rfl ?_
        refine Wp.retI (len := 1) rfl rfl ?_
        exact ⟨⟨_, rfl, fun q => by omega⟩, _, f, κ2, rfl, hS⟩
      · skip
        refine Wp.n (pc' := 94) 1 rfl ?_
        refine Wp.ecallS (len := 3) rfl rfl rfl rfl (j_bitCount (by omega)) ?_
        refine Wp.n (pc' := 101) 1 rfl ?_
        refine Wp.retI (len := 1) rfl rfl ?_
        exact ⟨⟨_, rfl, fun q => by omega⟩, _, f, κ2, rfl, hS⟩
    · omega
  | succ n ih =>
    intro s b hs hb2
    have hs2 : s < 256 := by omega
    have pb1 := pop_b (v := b)
    have pb2 := pop_b (v := s)
    refine Wp.n (pc' := 52) 3 rfl ?_
    refine Wp.get (len := 3) rfl (hO _ _ _) rfl ?_
    refine Wp.get (len := 3) rfl (ra_obj (hRc _ _ _)) rfl ?_
    refine Wp.top h8 ?_
    refine Wp.n (pc' := 59) 1 rfl ?_
    refine Wp.top (n_sh1 _ (by omega)) ?_
    refine Wp.nc3 (x := s) (y := 2 ^ kh K 3) (tgt := 89) (len := 3) rfl (by omega) (by omega) (fun h59 => ?_) (fun h59 => ?_)
    · omega
    · skip
      refine Wp.n (pc' := 63) 1 rfl ?_
      refine Wp.ecallS (len := 3) rfl rfl rfl rfl (j_bitCount (by omega)) ?_
      refine Wp.top (show _ = nI (pop s) from by rw [pop4_8 hs2]) ?_
      refine Wp.n (pc' := 67) 1 rfl ?_
      refine Wp.ecallS (len := 3) rfl rfl rfl rfl (j_bitCount (by omega)) ?_
      refine Wp.top (show _ = nI (pop b) from by rw [pop4_8 hb2]) ?_
      refine Wp.nc3 (x := pop s) (y := pop b) (tgt := 83) (len := 3) rfl (by omega) (by omega) (fun h70 => ?_) (fun h70 => ?_)
      · skip
        refine Wp.incN (x := s) (len := 3) rfl rfl ?_
        refine Wp.n (pc' := 49) 1 rfl ?_
        first
          | exact ih (s + 1) b (by omega) hb2
          | exact ih (s + 1) s (by omega) hs2
      · skip
        refine Wp.n (pc' := 75) 2 rfl ?_
        refine Wp.callV (len := 3) rfl rfl rfl (hO _ _ _) rfl (by decide) rfl (k_meets hk hm) ?_
        rintro _ _ ⟨⟨u, rfl⟩, rfl⟩
        refine Wp.ifb0 (tgt := 83) (len := 3) rfl (fun h78 => ?_) (fun h78 => ?_)
        · skip
          refine Wp.incN (x := s) (len := 3) rfl rfl ?_
          refine Wp.n (pc' := 49) 1 rfl ?_
          first
            | exact ih (s + 1) b (by omega) hb2
            | exact ih (s + 1) s (by omega) hs2
        · skip
          refine Wp.n (pc' := 83) 2 rfl ?_
          refine Wp.incN (x := s) (len := 3) rfl rfl ?_
          refine Wp.n (pc' := 49) 1 rfl ?_
          first
            | exact ih (s + 1) b (by omega) hb2
            | exact ih (s + 1) s (by omega) hs2
theorem k_watchers (hD : HD M) (hk : RK M 36 K) (h11 : kh K 11 = 0) (x : Int32) : Wp (d + 12) md_131 0 [some (.ref 32), some (.int x), none, none] [] (cset M κ) (WAp M κ K) := by
  obtain ⟨ρ, hR, hK, hDC, ok, hr1, hr2⟩ := id hk
  obtain ⟨b0, b1, b2, b3, b4, b5, b6, b7, b8, b9, b10, b11, b12⟩ := ok_h ok
  have hO : ∀ (ow : Int32) (f : Nat → Int32) (κ : CS), cset (wmm M ow f) κ 32 = .inr (9, hdl ow) := fun ow f κ => (cset_o (by omega)).trans (if_pos rfl)
  have hrow : ∀ (ow : Int32) (f : Nat → Int32) (κ : CS), cset (wmm M ow f) κ 286 = .inl (0, 10, .inl f) := fun ow f κ => (cset_o (by omega)).trans wmm_r
  have hRc : ∀ (ow : Int32) (f : Nat → Int32) (κ : CS), RA (cset (wmm M ow f) κ) 36 ρ := fun ow f κ => RA_c (RA_of hR (fun q a b => wmm_ne (by omega) (by omega))) hr1 hr2
  have h28 : 2 ^ kh K 3 ≤ 256 := Nat.pow_le_pow_right (by decide) b3
  have h1p : 1 ≤ 2 ^ kh K 3 := Nat.one_le_two_pow
  have h8 : rhd ρ 8 = nI (kh K 3) := by rw [rc_la hK, h11, Nat.add_zero]
  obtain ⟨ow, f, e⟩ := wmm_of hD
  have hO0 : ∀ κ : CS, cset M κ 32 = .inr (9, hdl ow) := fun κ => by rw [e]; exact hO _ _ _
  have hR0 : ∀ κ : CS, RA (cset M κ) 36 ρ := fun κ => RA_c hR hr1 hr2
  have hE : ∃ (ow : Int32) (f : Nat → Int32) (κ' : CS), cset M κ = cset (wmm M ow f) κ' ∧ ScC κ κ' := ⟨ow, f, κ, congrArg (fun m => cset m κ) e, ScC_r⟩
  refine Wp.n (pc' := 1) 1 rfl ?_
  refine Wp.get (len := 3) rfl (hO0 _) rfl ?_
  refine Wp.ecallV (len := 3) rfl rfl rfl (ra_obj (hR0 _)) rfl (by decide) rfl (k_exists (RK_c hk)) ?_
  refine Wp.ifb0 (tgt := 19) (len := 3) rfl (fun h7 => ?_) (fun h7 => ?_)
  · skip
    refine Wp.n (pc' := 21) 1 rfl ?_
    refine Wp.retI (len := 1) rfl rfl ?_
    exact ⟨⟨_, rfl, fun _ => rfl⟩, hE⟩
  · skip
    refine Wp.n (pc' := 11) 1 rfl ?_
    refine Wp.if2 (tgt := 19) (len := 3) rfl (fun h11_ => ?_) (fun h11_ => ?_)
    · skip
      refine Wp.n (pc' := 21) 1 rfl ?_
      refine Wp.retI (len := 1) rfl rfl ?_
      exact ⟨⟨_, rfl, fun _ => rfl⟩, hE⟩
    · skip
      refine Wp.n (pc' := 16) 2 rfl ?_
      refine Wp.ic5 (tgt := 22) (len := 3) rfl (fun h16 => ?_) (fun h16 => ?_)
      · skip
        refine Wp.n (pc' := 23) 1 rfl ?_
        refine Wp.callV (len := 3) rfl rfl rfl (hO0 _) rfl (by decide) rfl (k_owing hD hk) ?_
        have hp := of_decide_eq_true h7
        rintro _ _ ⟨rfl, m, g, κ2, hm, rfl, hS⟩
        refine Wp.n (pc' := 27) 1 rfl ?_
        refine Wp.get (len := 3) rfl (hO _ _ _) rfl ?_
        refine Wp.nz1 (x := m) (tgt := 35) (len := 3) rfl (by omega) (fun h30 => ?_) (fun h30 => ?_)
        · skip
          refine Wp.n (pc' := 37) 2 rfl ?_
          refine Wp.get (len := 3) rfl (hO _ _ _) rfl ?_
          refine Wp.get (len := 3) rfl (ra_obj (hRc _ _ _)) rfl ?_
          refine Wp.top h8 ?_
          refine Wp.n (pc' := 44) 1 rfl ?_
          refine Wp.top (n_sh1 _ (by omega)) ?_
          refine Wp.n (pc' := 45) 1 rfl ?_
          refine Wp.isubN (x := 2 ^ kh K 3) (y := 1) (len := 1) rfl (by omega) ?_
          refine Wp.n (pc' := 49) 3 rfl ?_
          exact k_wt_l hk h11 hp hm hS (2 ^ kh K 3 - 1) 1 (2 ^ kh K 3 - 1) (by omega) (by omega)
        · skip
          refine Wp.n (pc' := 34) 1 rfl ?_
          refine Wp.retI (len := 1) rfl rfl ?_
          exact ⟨⟨_, rfl, fun q => by omega⟩, _, g, κ2, rfl, hS⟩
      · skip
        refine Wp.n (pc' := 21) 1 rfl ?_
        refine Wp.retI (len := 1) rfl rfl ?_
        exact ⟨⟨_, rfl, fun _ => rfl⟩, hE⟩
theorem set_repC {ρ : RC} (hK : RepC ρ K) {w m : Nat} (hw : w < 5) : RepC (wset ρ w (nI m)) (setK K w m) := by
  obtain ⟨p0, p1, p2, p3, p6, p8, p10, pl, pr, pn, pw⟩ := hK
  have e : ∀ i, i < 6 ∨ 11 ≤ i → kh (setK K w m) i = kh K i := fun i hi => if_neg (by omega)
  refine ⟨?_, ?_, ?_, ?_, ?_, ?_, ?_, fun h0 j hj => ?_, ?_, ?_, ?_⟩
  · rw [e 0 (by omega)]; exact p0
  · rw [e 1 (by omega)]; exact p1
  · rw [e 5 (by omega)]; exact p2
  · rw [e 12 (by omega)]; exact p3
  · rw [e 2 (by omega)]; exact p6
  · rw [e 3 (by omega), e 11 (by omega)]; exact p8
  · rw [e 4 (by omega)]; exact p10
  · rw [e 0 (by omega)] at h0
    show upd (rlw ρ) w (nI m) j = nI (if 6 + j = 6 + w then m else kh K (6 + j))
    by_cases c : j = w
    · rw [if_pos (by omega), c, pk_us]
    · rw [if_neg (by omega), pk_un c]
      exact pl h0 j hj
  · rw [e 2 (by omega)]; exact pr
  · intro l hl
    rw [e 3 (by omega), e 11 (by omega)] at hl
    have ph : phL (setK K w m) l = phL K l := by
      unfold phL
      rw [e 3 (by omega)]
    rw [ph]
    exact pn l hl
  · rw [e 4 (by omega)]; exact pw
theorem k_exchange {ρ : RC} {w : Nat} (hw : w < 5) {x : Int32} : Wp d md_4 0 [some (.ref (r + 1)), some (.int (nI w)), some (.int x), none] [] (rset M r ρ) (fun v M' => v = some (.int (rlw ρ w)) ∧ M' = rset M r (wset ρ w x)) := by
  refine Wp.n (pc' := 3) 3 rfl ?_
  have ex : (nI w).toInt = (0 : Int) + w := by rw [nI_toInt (by omega)]; omega
  match w, hw, ex with

  | 0, _, ex =>
    refine Wp.sw (len := 29) (t := 32) rfl (sw_at rfl 0 ex rfl) ?_
    refine Wp.n (pc' := 33) 1 rfl ?_
    refine Wp.get (len := 3) rfl (rs_law) rfl ?_
    refine Wp.n (pc' := 39) 3 rfl ?_
    refine Wp.wput 0 rfl (len := 3) rfl ?_
    refine Wp.n (pc' := 95) 2 rfl ?_
    refine Wp.retI (len := 1) rfl rfl ?_
    exact ⟨rfl, rfl⟩
  | 1, _, ex =>
    refine Wp.sw (len := 29) (t := 45) rfl (sw_at rfl 1 ex rfl) ?_
    refine Wp.n (pc' := 46) 1 rfl ?_
    refine Wp.get (len := 3) rfl (rs_law) rfl ?_
    refine Wp.n (pc' := 52) 3 rfl ?_
    refine Wp.wput 1 rfl (len := 3) rfl ?_
    refine Wp.n (pc' := 95) 2 rfl ?_
    refine Wp.retI (len := 1) rfl rfl ?_
    exact ⟨rfl, rfl⟩
  | 2, _, ex =>
    refine Wp.sw (len := 29) (t := 58) rfl (sw_at rfl 2 ex rfl) ?_
    refine Wp.n (pc' := 59) 1 rfl ?_
    refine Wp.get (len := 3) rfl (rs_law) rfl ?_
    refine Wp.n (pc' := 65) 3 rfl ?_
    refine Wp.wput 2 rfl (len := 3) rfl ?_
    refine Wp.n (pc' := 95) 2 rfl ?_
    refine Wp.retI (len := 1) rfl rfl ?_
    exact ⟨rfl, rfl⟩
  | 3, _, ex =>
    refine Wp.sw (len := 29) (t := 71) rfl (sw_at rfl 3 ex rfl) ?_
    refine Wp.n (pc' := 72) 1 rfl ?_
    refine Wp.get (len := 3) rfl (rs_law) rfl ?_
    refine Wp.n (pc' := 78) 3 rfl ?_
    refine Wp.wput 3 rfl (len := 3) rfl ?_
    refine Wp.n (pc' := 95) 2 rfl ?_
    refine Wp.retI (len := 1) rfl rfl ?_
    exact ⟨rfl, rfl⟩
  | 4, _, ex =>
    refine Wp.sw (len := 29) (t := 84) rfl (sw_def rfl (Or.inr (by rw [ex]; decide))) ?_
    refine Wp.n (pc' := 85) 1 rfl ?_
    refine Wp.get (len := 3) rfl (rs_law) rfl ?_
    refine Wp.n (pc' := 91) 3 rfl ?_
    refine Wp.wput 4 rfl (len := 3) rfl ?_
    refine Wp.n (pc' := 95) 1 rfl ?_
    refine Wp.retI (len := 1) rfl rfl ?_
    exact ⟨rfl, rfl⟩
theorem k_law (hD : HD M) (hk : RK M 36 K) (x y : Int32) : Wp (d + 2) md_136 0 [some (.ref 32), some (.int x), some (.int y)] [] (cset M κ) (fun v M' => v = some (.int (lawA K x y)) ∧ ∃ ρ, M' = cset (rset M 36 ρ) κ ∧ RK (rset M 36 ρ) 36 (lawN K x y)) := by
  obtain ⟨ρ, hR, hK, hDC, ok, hr1, hr2⟩ := id hk
  obtain ⟨b0, b1, b2, b3, b4, b5, b6, b7, b8, b9, b10, b11, b12⟩ := ok_h ok
  obtain ⟨ow, hDo⟩ := hD.1
  have hO : ∀ κ : CS, cset M κ 32 = .inr (9, hdl ow) := fun κ => (cset_o (by omega)).trans hDo
  have hRc : ∀ κ : CS, RA (cset M κ) 36 ρ := fun κ => RA_c hR hr1 hr2
  unfold lawA lawN
  have kn : ∃ ρ, cset M κ = cset (rset M 36 ρ) κ ∧ RK (rset M 36 ρ) 36 K := by
    refine ⟨ρ, ?_, ?_⟩
    · rw [show rset M 36 ρ = M from hR]
    · rw [show rset M 36 ρ = M from hR]; exact hk
  refine Wp.n (pc' := 1) 1 rfl ?_
  refine Wp.get (len := 3) rfl (hO _) rfl ?_
  refine Wp.ecallV (len := 3) rfl rfl rfl (ra_obj (hRc _)) rfl (by decide) rfl (k_exists (RK_c hk)) ?_
  refine Wp.ifb0 (tgt := 38) (len := 3) rfl (fun h7 => ?_) (fun h7 => ?_)
  · skip
    refine Wp.n (pc' := 40) 1 rfl ?_
    refine Wp.retI (len := 1) rfl rfl ?_
    have hC : lawC K x y = false := by
      unfold lawC
      first
        | (rw [h7, Bool.false_and, Bool.false_and])
        | (rw [h16, Bool.and_false, Bool.false_and])
        | (rw [show decide ((0 : Int32).toInt ≤ y.toInt ∧ y.toInt ≤ (99 : Int32).toInt) = isN 100 y from isR_0 (hi := 99)] at h35
           rw [if_pos (by rw [i_le] at h23; have : x.toInt ≤ 2 := h23; omega), h35, Bool.and_false])
        | (rw [show decide ((0 : Int32).toInt ≤ y.toInt ∧ y.toInt ≤ (1 : Int32).toInt) = isN 2 y from isR_0 (hi := 1)] at h35
           rw [if_neg (by rw [i_le] at h23; have : ¬ x.toInt ≤ 2 := h23; omega), h35, Bool.and_false])
    rw [if_neg (by rw [hC]; decide), if_neg (by rw [hC]; decide)]
    exact ⟨rfl, kn⟩
  · skip
    refine Wp.n (pc' := 13) 3 rfl ?_
    refine Wp.ecallS (len := 3) rfl rfl rfl rfl (k_isWithinN (hi := 4) x (by decide)) ?_
    refine Wp.ifb0 (tgt := 38) (len := 3) rfl (fun h16 => ?_) (fun h16 => ?_)
    · skip
      refine Wp.n (pc' := 40) 1 rfl ?_
      refine Wp.retI (len := 1) rfl rfl ?_
      have hC : lawC K x y = false := by
        unfold lawC
        first
          | (rw [h7, Bool.false_and, Bool.false_and])
          | (rw [h16, Bool.and_false, Bool.false_and])
          | (rw [show decide ((0 : Int32).toInt ≤ y.toInt ∧ y.toInt ≤ (99 : Int32).toInt) = isN 100 y from isR_0 (hi := 99)] at h35
             rw [if_pos (by rw [i_le] at h23; have : x.toInt ≤ 2 := h23; omega), h35, Bool.and_false])
          | (rw [show decide ((0 : Int32).toInt ≤ y.toInt ∧ y.toInt ≤ (1 : Int32).toInt) = isN 2 y from isR_0 (hi := 1)] at h35
             rw [if_neg (by rw [i_le] at h23; have : ¬ x.toInt ≤ 2 := h23; omega), h35, Bool.and_false])
      rw [if_neg (by rw [hC]; decide), if_neg (by rw [hC]; decide)]
      exact ⟨rfl, kn⟩
    · skip
      refine Wp.n (pc' := 23) 4 rfl ?_
      refine Wp.ic5 (tgt := 30) (len := 3) rfl (fun h23 => ?_) (fun h23 => ?_)
      · skip
        refine Wp.n (pc' := 32) 1 rfl ?_
        refine Wp.ecallS (len := 3) rfl rfl rfl rfl (c_isWithin _ _ _) ?_
        refine Wp.ifb1 (tgt := 41) (len := 3) rfl (fun h35 => ?_) (fun h35 => ?_)
        · skip
          have hC : lawC K x y = true := by
            unfold lawC
            rw [h7, h16]
            first
              | (rw [show decide ((0 : Int32).toInt ≤ y.toInt ∧ y.toInt ≤ (99 : Int32).toInt) = isN 100 y from isR_0 (hi := 99)] at h35
                 rw [if_pos (by rw [i_le] at h23; have : x.toInt ≤ 2 := h23; omega), h35]; rfl)
              | (rw [show decide ((0 : Int32).toInt ≤ y.toInt ∧ y.toInt ≤ (1 : Int32).toInt) = isN 2 y from isR_0 (hi := 1)] at h35
                 rw [if_neg (by rw [i_le] at h23; have : ¬ x.toInt ≤ 2 := h23; omega), h35]; rfl)
          obtain ⟨h0, w, m, hw, hm, rfl, rfl, hm1⟩ := lawC_of hC
          rw [if_pos hC, if_pos hC, nI_clamp (by omega), nI_clamp (by omega)]
          refine Wp.n (pc' := 42) 1 rfl ?_
          refine Wp.get (len := 3) rfl (hO _) rfl ?_
          refine Wp.get (len := 3) rfl (ra_obj (hRc _)) rfl ?_
          refine Wp.n (pc' := 50) 2 rfl ?_
          rw [show cset M κ = rset (cset M κ) 36 ρ from (hRc κ).symm]
          refine Wp.callV (len := 3) rfl rfl rfl rs_law rfl (by decide) rfl (k_exchange hw) ?_
          rintro _ _ ⟨rfl, rfl⟩
          refine Wp.retI (len := 1) rfl rfl ?_
          refine ⟨by rw [rc_law hK h0 hw], _, rset_c (by decide) (by decide), _, rset_ra, set_repC hK hw, ?_, setK_ok ok hw hm, by decide, by decide⟩
          intro p q hp hq
          have e0 : kh (setK K w m) 0 = kh K 0 := if_neg (by omega)
          rw [e0] at hp hq
          have ed : distK (setK K w m) = distK K := by
            unfold distK
            rw [e0]
            have e2 : D0 (setK K w m) = D0 K := by
              funext a b
              unfold D0 roadK
              rw [show kh (setK K w m) 2 = kh K 2 from if_neg (by omega)]
              rfl
            rw [e2]
          rw [ed]
          exact hDC p q hp hq
        · skip
          refine Wp.n (pc' := 40) 1 rfl ?_
          refine Wp.retI (len := 1) rfl rfl ?_
          have hC : lawC K x y = false := by
            unfold lawC
            first
              | (rw [h7, Bool.false_and, Bool.false_and])
              | (rw [h16, Bool.and_false, Bool.false_and])
              | (rw [show decide ((0 : Int32).toInt ≤ y.toInt ∧ y.toInt ≤ (99 : Int32).toInt) = isN 100 y from isR_0 (hi := 99)] at h35
                 rw [if_pos (by rw [i_le] at h23; have : x.toInt ≤ 2 := h23; omega), h35, Bool.and_false])
              | (rw [show decide ((0 : Int32).toInt ≤ y.toInt ∧ y.toInt ≤ (1 : Int32).toInt) = isN 2 y from isR_0 (hi := 1)] at h35
                 rw [if_neg (by rw [i_le] at h23; have : ¬ x.toInt ≤ 2 := h23; omega), h35, Bool.and_false])
          rw [if_neg (by rw [hC]; decide), if_neg (by rw [hC]; decide)]
          exact ⟨rfl, kn⟩
      · skip
        refine Wp.n (pc' := 32) 2 rfl ?_
        refine Wp.ecallS (len := 3) rfl rfl rfl rfl (c_isWithin _ _ _) ?_
        refine Wp.ifb1 (tgt := 41) (len := 3) rfl (fun h35 => ?_) (fun h35 => ?_)
        · skip
          have hC : lawC K x y = true := by
            unfold lawC
            rw [h7, h16]
            first
              | (rw [show decide ((0 : Int32).toInt ≤ y.toInt ∧ y.toInt ≤ (99 : Int32).toInt) = isN 100 y from isR_0 (hi := 99)] at h35
                 rw [if_pos (by rw [i_le] at h23; have : x.toInt ≤ 2 := h23; omega), h35]; rfl)
              | (rw [show decide ((0 : Int32).toInt ≤ y.toInt ∧ y.toInt ≤ (1 : Int32).toInt) = isN 2 y from isR_0 (hi := 1)] at h35
                 rw [if_neg (by rw [i_le] at h23; have : ¬ x.toInt ≤ 2 := h23; omega), h35]; rfl)
          obtain ⟨h0, w, m, hw, hm, rfl, rfl, hm1⟩ := lawC_of hC
          rw [if_pos hC, if_pos hC, nI_clamp (by omega), nI_clamp (by omega)]
          refine Wp.n (pc' := 42) 1 rfl ?_
          refine Wp.get (len := 3) rfl (hO _) rfl ?_
          refine Wp.get (len := 3) rfl (ra_obj (hRc _)) rfl ?_
          refine Wp.n (pc' := 50) 2 rfl ?_
          rw [show cset M κ = rset (cset M κ) 36 ρ from (hRc κ).symm]
          refine Wp.callV (len := 3) rfl rfl rfl rs_law rfl (by decide) rfl (k_exchange hw) ?_
          rintro _ _ ⟨rfl, rfl⟩
          refine Wp.retI (len := 1) rfl rfl ?_
          refine ⟨by rw [rc_law hK h0 hw], _, rset_c (by decide) (by decide), _, rset_ra, set_repC hK hw, ?_, setK_ok ok hw hm, by decide, by decide⟩
          intro p q hp hq
          have e0 : kh (setK K w m) 0 = kh K 0 := if_neg (by omega)
          rw [e0] at hp hq
          have ed : distK (setK K w m) = distK K := by
            unfold distK
            rw [e0]
            have e2 : D0 (setK K w m) = D0 K := by
              funext a b
              unfold D0 roadK
              rw [show kh (setK K w m) 2 = kh K 2 from if_neg (by omega)]
              rfl
            rw [e2]
          rw [ed]
          exact hDC p q hp hq
        · skip
          refine Wp.n (pc' := 40) 1 rfl ?_
          refine Wp.retI (len := 1) rfl rfl ?_
          have hC : lawC K x y = false := by
            unfold lawC
            first
              | (rw [h7, Bool.false_and, Bool.false_and])
              | (rw [h16, Bool.and_false, Bool.false_and])
              | (rw [show decide ((0 : Int32).toInt ≤ y.toInt ∧ y.toInt ≤ (99 : Int32).toInt) = isN 100 y from isR_0 (hi := 99)] at h35
                 rw [if_pos (by rw [i_le] at h23; have : x.toInt ≤ 2 := h23; omega), h35, Bool.and_false])
              | (rw [show decide ((0 : Int32).toInt ≤ y.toInt ∧ y.toInt ≤ (1 : Int32).toInt) = isN 2 y from isR_0 (hi := 1)] at h35
                 rw [if_neg (by rw [i_le] at h23; have : ¬ x.toInt ≤ 2 := h23; omega), h35, Bool.and_false])
          rw [if_neg (by rw [hC]; decide), if_neg (by rw [hC]; decide)]
          exact ⟨rfl, kn⟩

end WATCH
section MUSTC
variable {d : Nat} {M : AM} {K : KD} {κ κ' : CS} {Q : Option Value → AM → Prop}
theorem k_must_l {ρ : RC} {κ2 : CS} {a b w dn lg : Nat} {z6 : Option Value} (hD : HD (rset M 83 ρ)) (hk : RK (rset M 83 ρ) 83 (laneK K a b 1 (kh K 1 - 1))) (hw : w < kh K 4) (hW : WRw κ2 (laneK K a b 1 (kh K 1 - 1)) 83 w) (hS : ScC κ κ2) (hdn : dn < 2 ^ 31) (hlg : lg ≤ 99) : ∀ (n m : Nat), m + n = lg + 1 → 1 ≤ m → Wp (d + 11) md_140 131 [some (.ref 32), some (.int (nI a)), some (.int (nI b)), some (.int (nI w)), some (.int (nI dn)), some (.int (nI (2 ^ kh K 3))), z6, some (.int (nI lg)), some (.int (nI m))] [] (cset (rset M 83 ρ) κ2) (RDI M κ (oI (fnd (fun m => (allW (laneK K a b 1 (kh K 1 - 1)) (kw K w 2) (kw K w 4) (kw K w (3 + kw K w 3))).any (canP (laneK K a b 1 (kh K 1 - 1)) (kw K w 4) (kw K w (3 + kw K w 3)) (kw K w 2) (kw K w 1) (2 ^ kh K 3) (m - 1) dn)) n m))) := by
  obtain ⟨ow, hDo⟩ := hD.1
  have hO : ∀ κ : CS, cset (rset M 83 ρ) κ 32 = .inr (9, hdl ow) := fun κ => (cset_o (by omega)).trans hDo
  obtain ⟨p0, p1, p2, p3, p4⟩ := walk_b (K := laneK K a b 1 (kh K 1 - 1)) hk.choose_spec.2.2.2.1 hw
  intro n
  induction n with
  | zero =>
    intro m hm h1
    refine Wp.n (pc' := 135) 2 rfl ?_
    refine Wp.nc4 (x := m) (y := lg) (tgt := 165) (len := 3) rfl (by omega) (by omega) (fun h135 => ?_) (fun h135 => ?_)
    · skip
      refine Wp.n (pc' := 166) 1 rfl ?_
      refine Wp.retI (len := 1) rfl rfl ?_
      exact RDI_s hS rfl
    · omega
  | succ n ih =>
    intro m hm h1
    rw [show ∀ p : Nat → Bool, fnd p (n + 1) m = if p m = true then some m else fnd p n (m + 1) from fun p => rfl]
    refine Wp.n (pc' := 135) 2 rfl ?_
    refine Wp.nc4 (x := m) (y := lg) (tgt := 165) (len := 3) rfl (by omega) (by omega) (fun h135 => ?_) (fun h135 => ?_)
    · omega
    · skip
      refine Wp.n (pc' := 139) 1 rfl ?_
      refine Wp.get (len := 3) rfl (hO _) rfl ?_
      refine Wp.n (pc' := 147) 3 rfl ?_
      refine Wp.isubN (x := m) (y := 1) (len := 1) rfl (by omega) ?_
      refine Wp.n (pc' := 150) 1 rfl ?_
      refine Wp.ecallV (len := 3) rfl rfl rfl (rfl) rfl (by decide) rfl (t_can (lb := 2 ^ kh K 3) (m := m - 1) (dn := dn) hk p0 p2 p3 hW p4 hdn (by omega)) ?_
      refine Wp.ifb0 (tgt := 159) (len := 3) rfl (fun h153 => ?_) (fun h153 => ?_)
      · skip
        refine Wp.incN (x := m) (len := 3) rfl rfl ?_
        refine Wp.n (pc' := 131) 1 rfl ?_
        have h153f : (allW (laneK K a b 1 (kh K 1 - 1)) (kw K w 2) (kw K w 4) (kw K w (3 + kw K w 3))).any (canP (laneK K a b 1 (kh K 1 - 1)) (kw K w 4) (kw K w (3 + kw K w 3)) (kw K w 2) (kw K w 1) (2 ^ kh K 3) (m - 1) dn) = false := h153
        rw [if_neg (by rw [h153f]; decide)]
        exact ih (m + 1) (by omega) (by omega)
      · skip
        refine Wp.n (pc' := 158) 1 rfl ?_
        refine Wp.retI (len := 1) rfl rfl ?_
        have h153t : (allW (laneK K a b 1 (kh K 1 - 1)) (kw K w 2) (kw K w 4) (kw K w (3 + kw K w 3))).any (canP (laneK K a b 1 (kh K 1 - 1)) (kw K w 4) (kw K w (3 + kw K w 3)) (kw K w 2) (kw K w 1) (2 ^ kh K 3) (m - 1) dn) = true := h153
        rw [if_pos h153t]
        exact RDI_s hS rfl

theorem k_must (hH : HDR M K) (h11 : kh K 11 = 0) (hd1 : 0 < kh K 0 → 1 ≤ kh K 1) (x y z u : Int32) : Wp (d + 14) md_140 0 [some (.ref 32), some (.int x), some (.int y), some (.int z), some (.int u), none, none, none, none] [] (cset M κ) (RDI M κ (mustA K x y z u)) := by
  obtain ⟨ρr, hR, hK, hDC, ok, hr1, hr2⟩ := id hH.2.1
  obtain ⟨b0, b1, b2, b3, b4, b5, b6, b7, b8, b9, b10, b11, b12⟩ := ok_h ok
  obtain ⟨ow, hDo⟩ := hH.1.1
  have hO : ∀ (ρ : RC) (κ : CS), cset (rset M 83 ρ) κ 32 = .inr (9, hdl ow) := fun ρ κ => (cset_o (by omega)).trans ((rset_ne (by omega)).trans hDo)
  have hO0 : ∀ κ : CS, cset M κ 32 = .inr (9, hdl ow) := fun κ => (cset_o (by omega)).trans hDo
  have hR0 : ∀ κ : CS, RA (cset M κ) 36 ρr := fun κ => RA_c hR hr1 hr2
  have hRd : ∀ (ρ : RC) (κ : CS), RA (cset (rset M 83 ρ) κ) 36 ρr := fun ρ κ => RA_c (RA_of hR (fun k a b => rset_ne (by omega))) hr1 hr2
  have hDd : ∀ (ρ : RC) (κ : CS), cset (rset M 83 ρ) κ 83 = .inr (3, rfs 83 ρ) := fun ρ κ => (cset_o (by omega)).trans rs_obj
  have hD0 : ∃ ρ0, ∀ κ : CS, cset M κ 83 = .inr (3, rfs 83 ρ0) := by
    obtain ⟨ρ0, h0⟩ := hH.2.2
    exact ⟨ρ0, fun κ => (cset_o (by omega)).trans (ra_obj h0)⟩
  obtain ⟨ρ0, hD0⟩ := hD0
  have h8 : rhd ρr 8 = nI (kh K 3) := by rw [rc_la hK, h11, Nat.add_zero]
  unfold mustA
  refine Wp.n (pc' := 3) 3 rfl ?_
  refine Wp.ecallV (len := 3) rfl rfl rfl (hO0 _) rfl (by decide) rfl (k_arePlaces hH.1 hH.2.1 _ _) ?_
  refine Wp.ifb0 (tgt := 30) (len := 3) rfl (fun h6 => ?_) (fun h6 => ?_)
  · skip
    refine Wp.n (pc' := 32) 1 rfl ?_
    refine Wp.retI (len := 1) rfl rfl ?_
    refine RDI_r hH.2.2 ScC_r ?_
    first
      | rw [if_neg (fun q => by have q1 := q.1; unfold areT at q1; rw [h6] at q1; cases q1)]
      | rw [if_neg (fun q => by have q1 := q.1; unfold areT at q1; rw [decide_eq_true h11_, Bool.not_true, Bool.and_false] at q1; cases q1)]
      | rw [if_neg (fun q => by rw [h22] at q; exact absurd q.2.1 (by decide))]
      | rw [if_neg (fun q => h27 q.2.2)]
  · skip
    refine Wp.n (pc' := 11) 2 rfl ?_
    refine Wp.ic0 (tgt := 30) (len := 3) rfl (fun h11_ => ?_) (fun h11_ => ?_)
    · skip
      refine Wp.n (pc' := 32) 1 rfl ?_
      refine Wp.retI (len := 1) rfl rfl ?_
      refine RDI_r hH.2.2 ScC_r ?_
      first
        | rw [if_neg (fun q => by have q1 := q.1; unfold areT at q1; rw [h6] at q1; cases q1)]
        | rw [if_neg (fun q => by have q1 := q.1; unfold areT at q1; rw [decide_eq_true h11_, Bool.not_true, Bool.and_false] at q1; cases q1)]
        | rw [if_neg (fun q => by rw [h22] at q; exact absurd q.2.1 (by decide))]
        | rw [if_neg (fun q => h27 q.2.2)]
    · skip
      refine Wp.n (pc' := 15) 1 rfl ?_
      refine Wp.get (len := 3) rfl (hO0 _) rfl ?_
      refine Wp.n (pc' := 19) 1 rfl ?_
      refine Wp.ecallV (len := 3) rfl rfl rfl (ra_obj (hR0 _)) rfl (by decide) rfl (k_hasWalk (RK_c hH.2.1) _) ?_
      refine Wp.ifb0 (tgt := 30) (len := 3) rfl (fun h22 => ?_) (fun h22 => ?_)
      · skip
        refine Wp.n (pc' := 32) 1 rfl ?_
        refine Wp.retI (len := 1) rfl rfl ?_
        refine RDI_r hH.2.2 ScC_r ?_
        first
          | rw [if_neg (fun q => by have q1 := q.1; unfold areT at q1; rw [h6] at q1; cases q1)]
          | rw [if_neg (fun q => by have q1 := q.1; unfold areT at q1; rw [decide_eq_true h11_, Bool.not_true, Bool.and_false] at q1; cases q1)]
          | rw [if_neg (fun q => by rw [h22] at q; exact absurd q.2.1 (by decide))]
          | rw [if_neg (fun q => h27 q.2.2)]
      · skip
        refine Wp.n (pc' := 27) 1 rfl ?_
        refine Wp.if3 (tgt := 33) (len := 3) rfl (fun h27 => ?_) (fun h27 => ?_)
        · skip
          have hT : areT K x y = true := by unfold areT; rw [h6, decide_eq_false h11_]; rfl
          obtain ⟨a, t, ha, ht, hat, rfl, rfl⟩ := areT_of hT
          obtain ⟨w, hw, rfl⟩ := isN_of h22
          obtain ⟨dn, hdn, rfl⟩ := ge_of h27
          have tw := ok_walk ok hw
          rw [if_pos ⟨hT, h22, h27⟩, nI_clamp (by omega), nI_clamp (by omega), nI_clamp (by omega), nI_clamp hdn]
          refine Wp.n (pc' := 34) 1 rfl ?_
          refine Wp.get (len := 3) rfl (hO0 _) rfl ?_
          refine Wp.n (pc' := 38) 1 rfl ?_
          refine Wp.get (len := 3) rfl (hO0 _) rfl ?_
          refine Wp.callV (len := 3) rfl rfl rfl (hD0 _) rfl (by decide) rfl (k_becomeD hH h11) ?_
          rintro _ _ ⟨rfl, ρ1, rfl, hK1, hDC1⟩
          refine Wp.n (pc' := 45) 1 rfl ?_
          refine Wp.get (len := 3) rfl (hO _ _) rfl ?_
          refine Wp.callV (len := 3) rfl rfl rfl (hDd _ _) rfl (by decide) rfl (k_addLaneD hK1 ok h11 (hd1 (by omega))) ?_
          rintro _ _ ⟨rfl, ρ2, rfl, hP2, hd2⟩
          refine Wp.n (pc' := 52) 1 rfl ?_
          refine Wp.get (len := 3) rfl (hO _ _) rfl ?_
          refine Wp.n (pc' := 58) 3 rfl ?_
          refine Wp.callV (len := 3) rfl rfl rfl (hDd _ _) rfl (by decide) rfl (k_placeD (a := a) (b := t) (m := 1) hP2 ok) ?_
          rintro _ _ ⟨rfl, ρ3, rfl, hP3, hK3, hd3⟩
          have hD3 : DC (rds ρ3) K (distK K) := by rw [hd3, hd2]; exact hDC1
          have ok3 := laneK_ok ok (e := kh K 1 - 1) ha ht hat (Nat.le_refl 1) (by decide) (by omega)
          have hkL : RK (rset M 83 ρ3) 83 (laneK K a t 1 (kh K 1 - 1)) := RK_lane ok3 hK3 hD3
          refine Wp.n (pc' := 63) 2 rfl ?_
          refine Wp.get (len := 3) rfl (hO _ _) rfl ?_
          refine Wp.n (pc' := 67) 1 rfl ?_
          refine Wp.callV (len := 3) rfl rfl rfl (hO _ _) rfl (by decide) rfl (k_findForWalk (HDR_d hH).1 hkL (w := w) hw) ?_
          rintro _ _ ⟨rfl, κ4, rfl, hS4, hW4⟩
          have q := rc_walk hK hw
          have hwk : cset (rset M 83 ρ3) κ4 (36 + 26 + 2 * w) = .inr (7, wfs (rwk ρr w) (36 + 27 + 2 * w)) := ra_walk (hRd _ _) (by omega)
          refine Wp.n (pc' := 72) 2 rfl ?_
          refine Wp.get (len := 3) rfl (hO _ _) rfl ?_
          refine Wp.get (len := 3) rfl (ra_obj (hRd _ _)) rfl ?_
          refine Wp.top h8 ?_
          refine Wp.n (pc' := 79) 1 rfl ?_
          refine Wp.top (n_sh1 _ (by omega)) ?_
          refine Wp.n (pc' := 82) 2 rfl ?_
          refine Wp.get (len := 3) rfl (hO _ _) rfl ?_
          refine Wp.n (pc' := 88) 3 rfl ?_
          refine Wp.get (len := 3) rfl (hO _ _) rfl ?_
          refine Wp.get (len := 3) rfl (ra_obj (hRd _ _)) rfl ?_
          refine Wp.n (pc' := 95) 1 rfl ?_
          refine Wp.aaldN (j := w) (len := 1) rfl (ra_walks (hRd _ _)) rfl (by omega) (by decide) (if_pos (by omega)) ?_
          refine Wp.get (len := 3) rfl (hwk) rfl ?_
          refine Wp.top q.2.2.1 ?_
          refine Wp.ecallV (len := 3) rfl rfl rfl (ra_obj (hRd _ _)) rfl (by decide) rfl (k_linkOf (hRd _ _) hK ok (by decide) (by omega) (by omega) (by omega)) ?_
          rcases hj : joinK K a t (kw K w 2) with _ | j
          · have hlg : lngK K a t (kw K w 2) = 99 := by unfold lngK; rw [hj]
            refine Wp.n (pc' := 106) 2 rfl ?_
            refine Wp.s (pc' := 109) rfl ?_
            refine Wp.n (pc' := 131) 5 rfl ?_
            have hl99 : lngK K a t (kw K w 2) ≤ 99 := by rw [hlg]; omega
            rw [fnd_cut (m := lngK K a t (kw K w 2)) (q := fun m => (allW (laneK K a t 1 (kh K 1 - 1)) (kw K w 2) (kw K w 4) (kw K w (3 + kw K w 3))).any (canP (laneK K a t 1 (kh K 1 - 1)) (kw K w 4) (kw K w (3 + kw K w 3)) (kw K w 2) (kw K w 1) (2 ^ kh K 3) (m - 1) dn)) 99 1 (fun j h1 h2 => must_eq ok h11 ha ht hat hw h1 (by omega)) (by omega) (by omega)]
            have wl := fun z6 => k_must_l (d := d + 3) (κ := κ) (z6 := z6) (a := a) (b := t) (dn := dn) (lg := lngK K a t (kw K w 2)) (HDR_d hH).1 hkL hw hW4 hS4 hdn hl99 (lngK K a t (kw K w 2) + 1 - 1) 1 (by omega) (Nat.le_refl 1)
            rw [hlg] at wl ⊢
            exact wl _
          · have hjv := joinK_v ok hj
            have hsj := spanJ_b ok hjv
            have hlg : lngK K a t (kw K w 2) = min 99 (spanJ K j - 1) := by unfold lngK; rw [hj]
            obtain ⟨n0, f0, q1, hf3, _, _⟩ := j_obj (hRd ρ3 κ4) hK ok hjv
            have hjm : cset (rset M 83 ρ3) κ4 (jad K 36 j) = .inr (1, kfs n0 f0) := q1
            refine Wp.n (pc' := 106) 2 rfl ?_
            refine Wp.s (pc' := 114) rfl ?_
            refine Wp.n (pc' := 118) 2 rfl ?_
            refine Wp.get (len := 3) rfl (hjm) rfl ?_
            refine Wp.top hf3 ?_
            refine Wp.n (pc' := 122) 1 rfl ?_
            refine Wp.isubN (x := spanJ K j) (y := 1) (len := 1) rfl (by omega) ?_
            refine Wp.bi (len := 3) rfl (by decide) rfl (by omega) ?_
            refine Wp.top (n_min (x := 99) (y := spanJ K j - 1) (by decide) (by omega)) ?_
            refine Wp.n (pc' := 131) 3 rfl ?_
            have hl99 : lngK K a t (kw K w 2) ≤ 99 := by rw [hlg]; omega
            rw [fnd_cut (m := lngK K a t (kw K w 2)) (q := fun m => (allW (laneK K a t 1 (kh K 1 - 1)) (kw K w 2) (kw K w 4) (kw K w (3 + kw K w 3))).any (canP (laneK K a t 1 (kh K 1 - 1)) (kw K w 4) (kw K w (3 + kw K w 3)) (kw K w 2) (kw K w 1) (2 ^ kh K 3) (m - 1) dn)) 99 1 (fun j h1 h2 => must_eq ok h11 ha ht hat hw h1 (by omega)) (by omega) (by omega)]
            have wl := fun z6 => k_must_l (d := d + 3) (κ := κ) (z6 := z6) (a := a) (b := t) (dn := dn) (lg := lngK K a t (kw K w 2)) (HDR_d hH).1 hkL hw hW4 hS4 hdn hl99 (lngK K a t (kw K w 2) + 1 - 1) 1 (by omega) (Nat.le_refl 1)
            rw [hlg] at wl ⊢
            exact wl _
        · skip
          refine Wp.n (pc' := 32) 1 rfl ?_
          refine Wp.retI (len := 1) rfl rfl ?_
          refine RDI_r hH.2.2 ScC_r ?_
          first
            | rw [if_neg (fun q => by have q1 := q.1; unfold areT at q1; rw [h6] at q1; cases q1)]
            | rw [if_neg (fun q => by have q1 := q.1; unfold areT at q1; rw [decide_eq_true h11_, Bool.not_true, Bool.and_false] at q1; cases q1)]
            | rw [if_neg (fun q => by rw [h22] at q; exact absurd q.2.1 (by decide))]
            | rw [if_neg (fun q => h27 q.2.2)]

end MUSTC
