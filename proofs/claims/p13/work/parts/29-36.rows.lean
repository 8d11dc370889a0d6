section
/-! WHAT JOINS, in the class. -/
/-- the lane at a place of the class -/
def lgl (K : KD) (i : Nat) : Nat := if i < kh K 3 then i else 8
def jad (K : KD) (r j : Nat) : Nat := if j < 20 then r + 3 + j else r + 16 + phL K (j - 20)
def LV (K : KD) (l : Nat) : Prop := l < kh K 3 ∨ (l = 8 ∧ kh K 11 = 1)
def JV (K : KD) (j : Nat) : Prop := j < kh K 2 ∨ (20 ≤ j ∧ LV K (j - 20))
theorem fld_s {α : Type} {f : α → Nat → α} : ∀ (n i : Nat) (x : α), fld f (n + 1) i x = f (fld f n i x) (i + n)
  | 0, i, x => rfl
  | n + 1, i, x => by
    show fld f (n + 1) (i + 1) (f x i) = f (fld f n (i + 1) (f x i)) (i + (n + 1))
    rw [fld_s n (i + 1) (f x i), show i + 1 + n = i + (n + 1) by omega]
theorem fld_c {α : Type} {f g : α → Nat → α} : ∀ (n i : Nat) (x : α), (∀ j, i ≤ j → j < i + n → ∀ y, f y j = g y j) → fld f n i x = fld g n i x
  | 0, i, x, _ => rfl
  | n + 1, i, x, h => by
    show fld f n (i + 1) (f x i) = fld g n (i + 1) (g x i)
    rw [h i (by omega) (by omega), fld_c n (i + 1) (g x i) (fun j h1 h2 => h j (by omega) (by omega))]
theorem joinK_c {K : KD} (ok : KOK K) (a b y : Nat) : fld (fun c i => joinStep K a b y c (lgl K i)) (kh K 3 + kh K 11) 0 (roadK K a b) = joinK K a b y := by
  have b11 : kh K 11 ≤ 1 := (ok_h ok).2.2.2.2.2.2.2.2.2.2.2.1
  have e : fld (fun c i => joinStep K a b y c (lgl K i)) (kh K 3) 0 (roadK K a b) = fld (joinStep K a b y) (kh K 3) 0 (roadK K a b) := fld_c _ _ _ (fun j _ h2 c => by
    show joinStep K a b y c (lgl K j) = _
    unfold lgl
    rw [if_pos (by omega)])
  unfold joinK
  by_cases h : kh K 11 = 1
  · rw [h, fld_s, e]
    show joinStep K a b y _ (lgl K (0 + kh K 3)) = _
    unfold lgl
    rw [if_neg (by omega)]
    rfl
  · rw [show kh K 11 = 0 by omega, Nat.add_zero, e]
    rfl
section LINK
variable {d : Nat} {M : AM} {r : Nat} {ρ : RC} {K : KD}
theorem lgl_v (ok : KOK K) {i : Nat} (hi : i < kh K 3 + kh K 11) : LV K (lgl K i) ∧ phL K (lgl K i) = i := by
  obtain ⟨b0, b1, b2, b3, b4, b5, b6, b7, b8, b9, b10, b11, b12⟩ := ok_h ok
  unfold lgl LV phL
  by_cases h : i < kh K 3
  · rw [if_pos h]
    exact ⟨Or.inl h, if_neg (by omega)⟩
  · rw [if_neg h]
    exact ⟨Or.inr ⟨rfl, by omega⟩, by rw [if_pos rfl]; omega⟩
theorem LV_ph (ok : KOK K) {l : Nat} (hl : LV K l) : phL K l ≤ 8 ∧ phL K l < kh K 3 + kh K 11 := by
  obtain ⟨b0, b1, b2, b3, b4, b5, b6, b7, b8, b9, b10, b11, b12⟩ := ok_h ok
  unfold phL
  by_cases h : l = 8
  · rw [if_pos h]
    unfold LV at hl
    omega
  · rw [if_neg h]
    unfold LV at hl
    omega
theorem j_obj (hR : RA M r ρ) (hK : RepC ρ K) (ok : KOK K) {j : Nat} (hj : JV K j) : ∃ n f, M (jad K r j) = .inr (1, kfs n f) ∧ f 3 = nI (spanJ K j) ∧ (j < 20 → n = j ∧ f 1 = 0 ∧ f 6 = 0) ∧ (20 ≤ j → n = phL K (j - 20) ∧ f 1 = nI (kl K (j - 20) 5 + 1) ∧ f 6 = nI (kl K (j - 20) 6)) := by
  obtain ⟨b0, b1, b2, b3, b4, b5, b6, b7, b8, b9, b10, b11, b12⟩ := ok_h ok
  unfold jad spanJ
  rcases hj with h | ⟨h, h2⟩
  · have q := rc_road hK h
    rw [if_pos (by omega), if_pos (by omega)]
    exact ⟨j, rlk ρ j, ra_road hR (by omega), q.2.2.1, fun _ => ⟨rfl, q.1, q.2.2.2⟩, fun _ => by omega⟩
  · have q := rc_lane hK h2
    have p := LV_ph ok h2
    rw [if_neg (by omega), if_neg (by omega)]
    exact ⟨phL K (j - 20), rlk ρ (12 + phL K (j - 20)), ra_lane hR (by omega), q.2.2.1, fun _ => by omega, fun _ => ⟨rfl, q.1, q.2.2.2.2.2⟩⟩
theorem k_isOpen (hR : RA M r ρ) (hK : RepC ρ K) (ok : KOK K) {l y : Nat} (hl : LV K l) (hy : y < 31) : Ev d md_39 0 [some (.ref r), some (.ref (r + 16 + phL K l)), some (.int (nI y))] [] M (some (.int (bI (openK K l y))), M) := by
  refine Wp.toEv ?_
  obtain ⟨b0, b1, b2, b3, b4, b5, b6, b7, b8, b9, b10, b11, b12⟩ := ok_h ok
  have q := rc_lane hK hl
  have p := LV_ph ok hl
  have t := ok_lane ok hl
  have hM := ra_lane hR (i := phL K l) (by omega)
  refine Wp.n (pc' := 1) 1 rfl ?_
  refine Wp.get (len := 3) rfl (hM) rfl ?_
  refine Wp.top q.1 ?_
  obtain hs | hs | hs : kl K l 5 = 0 ∨ kl K l 5 = 1 ∨ kl K l 5 = 2 := by omega
  · rw [hs]
    refine Wp.sw (len := 28) (t := 32) rfl rfl ?_
    refine Wp.n (pc' := 34) 2 rfl ?_
    refine Wp.get (len := 3) rfl (hM) rfl ?_
    refine Wp.top q.2.2.2.1 ?_
    refine Wp.nc2 (x := y) (y := kl K l 3) (tgt := 52) (len := 3) rfl (by omega) (by omega) (fun h37 => ?_) (fun h37 => ?_)
    · skip
      refine Wp.n (pc' := 53) 1 rfl ?_
      refine Wp.retZ (len := 1) (c := false) rfl rfl rfl ?_
      refine ⟨?_, rfl⟩
      unfold openK
      rw [if_neg (by omega), if_neg (by omega)]
      first | rw [decide_eq_true (by omega)] | rw [decide_eq_false (by omega)]
    · skip
      refine Wp.n (pc' := 42) 2 rfl ?_
      refine Wp.get (len := 3) rfl (hM) rfl ?_
      refine Wp.top q.2.2.2.2.1 ?_
      refine Wp.nc4 (x := y) (y := kl K l 4) (tgt := 52) (len := 3) rfl (by omega) (by omega) (fun h45 => ?_) (fun h45 => ?_)
      · skip
        refine Wp.n (pc' := 53) 1 rfl ?_
        refine Wp.retZ (len := 1) (c := false) rfl rfl rfl ?_
        refine ⟨?_, rfl⟩
        unfold openK
        rw [if_neg (by omega), if_neg (by omega)]
        first | rw [decide_eq_true (by omega)] | rw [decide_eq_false (by omega)]
      · skip
        refine Wp.n (pc' := 53) 2 rfl ?_
        refine Wp.retZ (len := 1) (c := true) rfl rfl rfl ?_
        refine ⟨?_, rfl⟩
        unfold openK
        rw [if_neg (by omega), if_neg (by omega)]
        first | rw [decide_eq_true (by omega)] | rw [decide_eq_false (by omega)]
  · rw [hs]
    refine Wp.sw (len := 28) (t := 54) rfl rfl ?_
    refine Wp.n (pc' := 55) 1 rfl ?_
    refine Wp.get (len := 3) rfl (ra_obj hR) rfl ?_
    refine Wp.top (rc_fl hK) ?_
    refine Wp.n (pc' := 62) 4 rfl ?_
    refine Wp.if1 (tgt := 69) (len := 3) rfl (fun h62 => ?_) (fun h62 => ?_)
    · rw [n_bit (by omega) hy] at h62
      refine Wp.n (pc' := 70) 1 rfl ?_
      refine Wp.retZ (len := 1) (c := false) rfl rfl rfl ?_
      refine ⟨?_, rfl⟩
      unfold openK
      rw [if_neg (by omega), if_pos hs]
      simp_all
    · rw [n_bit (by omega) hy] at h62
      refine Wp.n (pc' := 70) 2 rfl ?_
      refine Wp.retZ (len := 1) (c := true) rfl rfl rfl ?_
      refine ⟨?_, rfl⟩
      unfold openK
      rw [if_neg (by omega), if_pos hs]
      simp_all
  · rw [hs]
    refine Wp.sw (len := 28) (t := 71) rfl rfl ?_
    refine Wp.n (pc' := 72) 1 rfl ?_
    refine Wp.retZ (len := 1) (c := true) rfl rfl rfl ?_
    refine ⟨?_, rfl⟩
    unfold openK
    rw [if_pos hs]


theorem spanJ_b (ok : KOK K) {j : Nat} (hj : JV K j) : 1 ≤ spanJ K j ∧ spanJ K j ≤ 129 := by
  obtain ⟨b0, b1, b2, b3, b4, b5, b6, b7, b8, b9, b10, b11, b12⟩ := ok_h ok
  unfold spanJ
  rcases hj with h | ⟨h, h2⟩
  · rw [if_pos (by omega)]
    have := ok_road ok h
    omega
  · rw [if_neg (by omega)]
    have := ok_lane ok h2
    omega
theorem k_linkOf_l (hR : RA M r ρ) (hK : RepC ρ K) (ok : KOK K) (h32 : 32 ≤ r) {a b y : Nat} (ha : a < 7) (hb : b < 7) (hy : y < 31) : ∀ (n i : Nat) (cur : Option Nat) (z : Option Value), i + n = kh K 3 + kh K 11 → (∀ j, cur = some j → JV K j) → Wp (d + 1) md_40 20 [some (.ref r), some (.int (nI a)), some (.int (nI b)), some (.int (nI y)), some (va_rf (cur.map (jad K r))), some (.int (bitsE a b)), some (.int (nI i)), z] [] M (IsR (some (va_rf ((fld (fun c i => joinStep K a b y c (lgl K i)) n i cur).map (jad K r)))) M) := by
  intro n
  obtain ⟨b0, b1, b2, b3, b4, b5, b6, b7, b8, b9, b10, b11, b12⟩ := ok_h ok
  induction n with
  | zero =>
    intro i cur z hi hc
    refine Wp.n (pc' := 23) 2 rfl ?_
    refine Wp.get (len := 3) rfl (ra_obj hR) rfl ?_
    refine Wp.top (rc_la hK) ?_
    refine Wp.nc3 (x := i) (y := kh K 3 + kh K 11) (tgt := 109) (len := 3) rfl (by omega) (by omega) (fun h26 => ?_) (fun h26 => ?_)
    · skip
      rcases cur with _ | j
      · skip
        refine Wp.n (pc' := 111) 1 rfl ?_
        refine Wp.retN (len := 1) rfl rfl ?_
        exact ⟨rfl, rfl⟩
      · skip
        refine Wp.n (pc' := 111) 1 rfl ?_
        refine Wp.retR (len := 1) rfl rfl ?_
        exact ⟨rfl, rfl⟩
    · omega
  | succ n ih =>
    intro i cur z hi hc
    obtain ⟨hl, hph⟩ := lgl_v ok (i := i) (by omega)
    have q := rc_lane hK hl
    rw [hph] at q
    have t := ok_lane ok hl
    have e := bitsE_eq (a := kl K (lgl K i) 0) (b := kl K (lgl K i) 1) (c := a) (d := b) (by omega) (by omega) ha hb t.2.2.1
    have kt : ∀ z : Option Value, (shr K cur (lgl K i) = true ∧ btw (kl K (lgl K i) 0) (kl K (lgl K i) 1) a b = true ∧ openK K (lgl K i) y = true) → Wp (d + 1) md_40 20 [some (.ref r), some (.int (nI a)), some (.int (nI b)), some (.int (nI y)), some (.ref (r + 16 + i)), some (.int (bitsE a b)), some (.int (nI (i + 1))), z] [] M (IsR (some (va_rf ((fld (fun c i => joinStep K a b y c (lgl K i)) (n + 1) i cur).map (jad K r)))) M) := by
      intro z hC
      have w := ih (i + 1) (some (20 + lgl K i)) z (by omega) (fun j hj => by cases hj; exact Or.inr ⟨by omega, by rw [show 20 + lgl K i - 20 = lgl K i by omega]; exact hl⟩)
      have e1 : (some (20 + lgl K i)).map (jad K r) = some (r + 16 + i) := by
        show some (jad K r (20 + lgl K i)) = _
        unfold jad
        rw [if_neg (by omega), show 20 + lgl K i - 20 = lgl K i by omega, hph]
      rw [e1] at w
      have e2 : joinStep K a b y cur (lgl K i) = some (20 + lgl K i) := if_pos hC
      show Wp _ _ _ _ _ _ (IsR (some (va_rf ((fld _ n (i + 1) (joinStep K a b y cur (lgl K i))).map (jad K r)))) M)
      rw [e2]
      exact w
    have kf : ∀ z : Option Value, ¬ (shr K cur (lgl K i) = true ∧ btw (kl K (lgl K i) 0) (kl K (lgl K i) 1) a b = true ∧ openK K (lgl K i) y = true) → Wp (d + 1) md_40 20 [some (.ref r), some (.int (nI a)), some (.int (nI b)), some (.int (nI y)), some (va_rf (cur.map (jad K r))), some (.int (bitsE a b)), some (.int (nI (i + 1))), z] [] M (IsR (some (va_rf ((fld (fun c i => joinStep K a b y c (lgl K i)) (n + 1) i cur).map (jad K r)))) M) := by
      intro z hC
      have e2 : joinStep K a b y cur (lgl K i) = cur := if_neg hC
      show Wp _ _ _ _ _ _ (IsR (some (va_rf ((fld _ n (i + 1) (joinStep K a b y cur (lgl K i))).map (jad K r)))) M)
      rw [e2]
      exact ih (i + 1) cur z (by omega) hc
    refine Wp.n (pc' := 23) 2 rfl ?_
    refine Wp.get (len := 3) rfl (ra_obj hR) rfl ?_
    refine Wp.top (rc_la hK) ?_
    refine Wp.nc3 (x := i) (y := kh K 3 + kh K 11) (tgt := 109) (len := 3) rfl (by omega) (by omega) (fun h26 => ?_) (fun h26 => ?_)
    · omega
    · skip
      rcases cur with _ | j
      · skip
        refine Wp.n (pc' := 31) 1 rfl ?_
        refine Wp.s (pc' := 52) rfl ?_
        refine Wp.n (pc' := 61) 4 rfl ?_
        refine Wp.nz0 (x := 1) (tgt := 103) (len := 3) rfl (by omega) (fun h61 => ?_) (fun h61 => ?_)
        · omega
        · skip
          refine Wp.n (pc' := 65) 1 rfl ?_
          refine Wp.get (len := 3) rfl (ra_obj hR) rfl ?_
          refine Wp.n (pc' := 70) 1 rfl ?_
          refine Wp.aaldN (j := i) (len := 1) rfl (ra_lanes hR) rfl (by omega) (by decide) (if_pos (by omega)) ?_
          refine Wp.get (len := 3) rfl (ra_lane hR (by omega)) rfl ?_
          refine Wp.top q.2.1 ?_
          refine Wp.n (pc' := 76) 1 rfl ?_
          refine Wp.ic1 (tgt := 103) (len := 3) rfl (fun h76 => ?_) (fun h76 => ?_)
          · skip
            refine Wp.incN (x := i) (len := 3) rfl rfl ?_
            refine Wp.n (pc' := 20) 1 rfl ?_
            first
              | exact kf _ (fun c => h76 (e.mpr c.2.1))
              | exact kf _ (fun c => by have := of_decide_eq_true c.1; omega)
              | exact kf _ (fun c => absurd (c.2.2.symm.trans h91) (by decide))
              | exact kt _ ⟨rfl, e.mp h76, h91⟩
              | exact kt _ ⟨decide_eq_true (by omega), e.mp h76, h91⟩
          · skip
            refine Wp.n (pc' := 81) 2 rfl ?_
            refine Wp.get (len := 3) rfl (ra_obj hR) rfl ?_
            refine Wp.n (pc' := 86) 1 rfl ?_
            refine Wp.aaldN (j := i) (len := 1) rfl (ra_lanes hR) rfl (by omega) (by decide) (if_pos (by omega)) ?_
            refine Wp.n (pc' := 88) 1 rfl ?_
            refine Wp.ecallV (len := 3) rfl rfl rfl (ra_obj hR) rfl h32 rfl ((hph ▸ k_isOpen hR hK ok hl (by omega))) ?_
            refine Wp.ifb0 (tgt := 103) (len := 3) rfl (fun h91 => ?_) (fun h91 => ?_)
            · skip
              refine Wp.incN (x := i) (len := 3) rfl rfl ?_
              refine Wp.n (pc' := 20) 1 rfl ?_
              first
                | exact kf _ (fun c => h76 (e.mpr c.2.1))
                | exact kf _ (fun c => by have := of_decide_eq_true c.1; omega)
                | exact kf _ (fun c => absurd (c.2.2.symm.trans h91) (by decide))
                | exact kt _ ⟨rfl, e.mp h76, h91⟩
                | exact kt _ ⟨decide_eq_true (by omega), e.mp h76, h91⟩
            · skip
              refine Wp.n (pc' := 95) 1 rfl ?_
              refine Wp.get (len := 3) rfl (ra_obj hR) rfl ?_
              refine Wp.n (pc' := 100) 1 rfl ?_
              refine Wp.aaldN (j := i) (len := 1) rfl (ra_lanes hR) rfl (by omega) (by decide) (if_pos (by omega)) ?_
              refine Wp.n (pc' := 103) 1 rfl ?_
              refine Wp.incN (x := i) (len := 3) rfl rfl ?_
              refine Wp.n (pc' := 20) 1 rfl ?_
              first
                | exact kf _ (fun c => h76 (e.mpr c.2.1))
                | exact kf _ (fun c => by have := of_decide_eq_true c.1; omega)
                | exact kf _ (fun c => absurd (c.2.2.symm.trans h91) (by decide))
                | exact kt _ ⟨rfl, e.mp h76, h91⟩
                | exact kt _ ⟨decide_eq_true (by omega), e.mp h76, h91⟩
      · obtain ⟨n0, f, hM, hf, _⟩ := j_obj hR hK ok (hc j rfl)
        have hsp := spanJ_b ok (hc j rfl)
        refine Wp.n (pc' := 31) 1 rfl ?_
        refine Wp.s (pc' := 34) rfl ?_
        refine Wp.n (pc' := 35) 1 rfl ?_
        refine Wp.get (len := 3) rfl (ra_obj hR) rfl ?_
        refine Wp.n (pc' := 40) 1 rfl ?_
        refine Wp.aaldN (j := i) (len := 1) rfl (ra_lanes hR) rfl (by omega) (by decide) (if_pos (by omega)) ?_
        refine Wp.get (len := 3) rfl (ra_lane hR (by omega)) rfl ?_
        refine Wp.top q.2.2.1 ?_
        refine Wp.n (pc' := 46) 1 rfl ?_
        refine Wp.get (len := 3) rfl (hM) rfl ?_
        refine Wp.top hf ?_
        refine Wp.nc3 (x := kl K (lgl K i) 2) (y := spanJ K j) (tgt := 56) (len := 3) rfl (by omega) (by omega) (fun h49 => ?_) (fun h49 => ?_)
        · skip
          refine Wp.n (pc' := 61) 3 rfl ?_
          refine Wp.nz0 (x := 0) (tgt := 103) (len := 3) rfl (by omega) (fun h61 => ?_) (fun h61 => ?_)
          · skip
            refine Wp.incN (x := i) (len := 3) rfl rfl ?_
            refine Wp.n (pc' := 20) 1 rfl ?_
            first
              | exact kf _ (fun c => h76 (e.mpr c.2.1))
              | exact kf _ (fun c => by have := of_decide_eq_true c.1; omega)
              | exact kf _ (fun c => absurd (c.2.2.symm.trans h91) (by decide))
              | exact kt _ ⟨rfl, e.mp h76, h91⟩
              | exact kt _ ⟨decide_eq_true (by omega), e.mp h76, h91⟩
          · omega
        · skip
          refine Wp.n (pc' := 61) 4 rfl ?_
          refine Wp.nz0 (x := 1) (tgt := 103) (len := 3) rfl (by omega) (fun h61 => ?_) (fun h61 => ?_)
          · omega
          · skip
            refine Wp.n (pc' := 65) 1 rfl ?_
            refine Wp.get (len := 3) rfl (ra_obj hR) rfl ?_
            refine Wp.n (pc' := 70) 1 rfl ?_
            refine Wp.aaldN (j := i) (len := 1) rfl (ra_lanes hR) rfl (by omega) (by decide) (if_pos (by omega)) ?_
            refine Wp.get (len := 3) rfl (ra_lane hR (by omega)) rfl ?_
            refine Wp.top q.2.1 ?_
            refine Wp.n (pc' := 76) 1 rfl ?_
            refine Wp.ic1 (tgt := 103) (len := 3) rfl (fun h76 => ?_) (fun h76 => ?_)
            · skip
              refine Wp.incN (x := i) (len := 3) rfl rfl ?_
              refine Wp.n (pc' := 20) 1 rfl ?_
              first
                | exact kf _ (fun c => h76 (e.mpr c.2.1))
                | exact kf _ (fun c => by have := of_decide_eq_true c.1; omega)
                | exact kf _ (fun c => absurd (c.2.2.symm.trans h91) (by decide))
                | exact kt _ ⟨rfl, e.mp h76, h91⟩
                | exact kt _ ⟨decide_eq_true (by omega), e.mp h76, h91⟩
            · skip
              refine Wp.n (pc' := 81) 2 rfl ?_
              refine Wp.get (len := 3) rfl (ra_obj hR) rfl ?_
              refine Wp.n (pc' := 86) 1 rfl ?_
              refine Wp.aaldN (j := i) (len := 1) rfl (ra_lanes hR) rfl (by omega) (by decide) (if_pos (by omega)) ?_
              refine Wp.n (pc' := 88) 1 rfl ?_
              refine Wp.ecallV (len := 3) rfl rfl rfl (ra_obj hR) rfl h32 rfl ((hph ▸ k_isOpen hR hK ok hl (by omega))) ?_
              refine Wp.ifb0 (tgt := 103) (len := 3) rfl (fun h91 => ?_) (fun h91 => ?_)
              · skip
                refine Wp.incN (x := i) (len := 3) rfl rfl ?_
                refine Wp.n (pc' := 20) 1 rfl ?_
                first
                  | exact kf _ (fun c => h76 (e.mpr c.2.1))
                  | exact kf _ (fun c => by have := of_decide_eq_true c.1; omega)
                  | exact kf _ (fun c => absurd (c.2.2.symm.trans h91) (by decide))
                  | exact kt _ ⟨rfl, e.mp h76, h91⟩
                  | exact kt _ ⟨decide_eq_true (by omega), e.mp h76, h91⟩
              · skip
                refine Wp.n (pc' := 95) 1 rfl ?_
                refine Wp.get (len := 3) rfl (ra_obj hR) rfl ?_
                refine Wp.n (pc' := 100) 1 rfl ?_
                refine Wp.aaldN (j := i) (len := 1) rfl (ra_lanes hR) rfl (by omega) (by decide) (if_pos (by omega)) ?_
                refine Wp.n (pc' := 103) 1 rfl ?_
                refine Wp.incN (x := i) (len := 3) rfl rfl ?_
                refine Wp.n (pc' := 20) 1 rfl ?_
                first
                  | exact kf _ (fun c => h76 (e.mpr c.2.1))
                  | exact kf _ (fun c => by have := of_decide_eq_true c.1; omega)
                  | exact kf _ (fun c => absurd (c.2.2.symm.trans h91) (by decide))
                  | exact kt _ ⟨rfl, e.mp h76, h91⟩
                  | exact kt _ ⟨decide_eq_true (by omega), e.mp h76, h91⟩

theorem roadK_v {a b j : Nat} (h : roadK K a b = some j) : j < kh K 2 ∧ btw (kr K j 0) (kr K j 1) a b = true := by
  obtain ⟨_, h2, h3⟩ := fnd_lt h
  exact ⟨by omega, h3⟩
theorem k_linkOf (hR : RA M r ρ) (hK : RepC ρ K) (ok : KOK K) (h32 : 32 ≤ r) {a b y : Nat} (ha : a < 7) (hb : b < 7) (hy : y < 31) : Ev (d + 1) md_40 0 [some (.ref r), some (.int (nI a)), some (.int (nI b)), some (.int (nI y)), none, none, none, none] [] M (some (va_rf ((joinK K a b y).map (jad K r))), M) := by
  refine Wp.toEv ?_
  obtain ⟨b0, b1, b2, b3, b4, b5, b6, b7, b8, b9, b10, b11, b12⟩ := ok_h ok
  refine Wp.n (pc' := 3) 3 rfl ?_
  refine Wp.ecallV (len := 3) rfl rfl rfl (ra_obj hR) rfl h32 rfl (k_roadOf hR hK ok ha hb) ?_
  rw [← joinK_c ok]
  have w := k_linkOf_l (d := d) hR hK ok h32 ha hb hy (kh K 3 + kh K 11) 0 (roadK K a b) none (by omega) (fun j hj => Or.inl (roadK_v hj).1)
  have e : (roadK K a b).map (fun i => r + 3 + i) = (roadK K a b).map (jad K r) := by
    cases h : roadK K a b with
    | none => rfl
    | some j =>
      have := (roadK_v h).1
      show some (r + 3 + j) = some (jad K r j)
      unfold jad
      rw [if_pos (by omega)]
  rw [e]
  refine Wp.n (pc' := 20) 11 ?_ w
  cases roadK K a b <;> rfl
end LINK
end
section
/-! WHAT JOINS, in the reference. -/
def oI : Option Nat → Int32
  | none => -1
  | some n => nI n
theorem oI_ne {n : Nat} (h : n < 2 ^ 31) : ¬ nI n = -1 := by
  intro q
  have := nI_pos h
  rw [q] at this
  exact this (by decide)
section BTW
variable {d : Nat} {M : AM} {σ : MS} {K : KD}

theorem m_between9 {q x y a b : Nat} (hq : q + 1 < 180) (h0 : σ.2.2.1 9 q = nI x) (h1 : σ.2.2.1 9 (q + 1) = nI y) (hx : x < 2 ^ 31) (hy : y < 2 ^ 31) (ha : a < 2 ^ 31) (hb : b < 2 ^ 31) : Ev d md_177 0 [some (.ref 297), some (.int (nI q)), some (.int (nI a)), some (.int (nI b))] [] (mset M σ) (some (.int (bI (btw x y a b))), mset M σ) := by
  refine Wp.toEv ?_
  refine Wp.n (pc' := 2) 2 rfl ?_
  refine Wp.mialdN (j := q) (len := 1) rfl rfl rfl (by omega) ?_
  refine Wp.top h0 ?_
  refine Wp.n (pc' := 4) 1 rfl ?_
  refine Wp.nc1 (x := x) (y := a) (tgt := 16) (len := 3) rfl (by assumption) (by assumption) (fun h4 => ?_) (fun h4 => ?_)
  · skip
    refine Wp.n (pc' := 18) 2 rfl ?_
    refine Wp.mialdN (j := q) (len := 1) rfl rfl rfl (by omega) ?_
    refine Wp.top h0 ?_
    refine Wp.n (pc' := 20) 1 rfl ?_
    refine Wp.nc1 (x := x) (y := b) (tgt := 36) (len := 3) rfl (by assumption) (by assumption) (fun h20 => ?_) (fun h20 => ?_)
    · skip
      refine Wp.n (pc' := 37) 1 rfl ?_
      refine Wp.retZ (len := 1) (c := false) rfl rfl rfl ?_
      refine ⟨?_, rfl⟩
      unfold btw
      simp_all [bI]
    · skip
      refine Wp.n (pc' := 26) 3 rfl ?_
      refine Wp.iaddN (x := q) (y := 1) (len := 1) rfl ?_
      refine Wp.mialdN (j := q + 1) (len := 1) rfl rfl rfl (by omega) ?_
      refine Wp.top h1 ?_
      refine Wp.n (pc' := 29) 1 rfl ?_
      refine Wp.nc1 (x := y) (y := a) (tgt := 36) (len := 3) rfl (by assumption) (by assumption) (fun h29 => ?_) (fun h29 => ?_)
      · skip
        refine Wp.n (pc' := 37) 1 rfl ?_
        refine Wp.retZ (len := 1) (c := false) rfl rfl rfl ?_
        refine ⟨?_, rfl⟩
        unfold btw
        simp_all [bI]
      · skip
        refine Wp.n (pc' := 37) 2 rfl ?_
        refine Wp.retZ (len := 1) (c := true) rfl rfl rfl ?_
        refine ⟨?_, rfl⟩
        unfold btw
        simp_all [bI]
  · skip
    refine Wp.n (pc' := 10) 3 rfl ?_
    refine Wp.iaddN (x := q) (y := 1) (len := 1) rfl ?_
    refine Wp.mialdN (j := q + 1) (len := 1) rfl rfl rfl (by omega) ?_
    refine Wp.top h1 ?_
    refine Wp.n (pc' := 13) 1 rfl ?_
    refine Wp.nc0 (x := y) (y := b) (tgt := 32) (len := 3) rfl (by assumption) (by assumption) (fun h13 => ?_) (fun h13 => ?_)
    · skip
      refine Wp.n (pc' := 37) 2 rfl ?_
      refine Wp.retZ (len := 1) (c := true) rfl rfl rfl ?_
      refine ⟨?_, rfl⟩
      unfold btw
      simp_all [bI]
    · skip
      refine Wp.n (pc' := 18) 2 rfl ?_
      refine Wp.mialdN (j := q) (len := 1) rfl rfl rfl (by omega) ?_
      refine Wp.top h0 ?_
      refine Wp.n (pc' := 20) 1 rfl ?_
      refine Wp.nc1 (x := x) (y := b) (tgt := 36) (len := 3) rfl (by assumption) (by assumption) (fun h20 => ?_) (fun h20 => ?_)
      · skip
        refine Wp.n (pc' := 37) 1 rfl ?_
        refine Wp.retZ (len := 1) (c := false) rfl rfl rfl ?_
        refine ⟨?_, rfl⟩
        unfold btw
        simp_all [bI]
      · skip
        refine Wp.n (pc' := 26) 3 rfl ?_
        refine Wp.iaddN (x := q) (y := 1) (len := 1) rfl ?_
        refine Wp.mialdN (j := q + 1) (len := 1) rfl rfl rfl (by omega) ?_
        refine Wp.top h1 ?_
        refine Wp.n (pc' := 29) 1 rfl ?_
        refine Wp.nc1 (x := y) (y := a) (tgt := 36) (len := 3) rfl (by assumption) (by assumption) (fun h29 => ?_) (fun h29 => ?_)
        · skip
          refine Wp.n (pc' := 37) 1 rfl ?_
          refine Wp.retZ (len := 1) (c := false) rfl rfl rfl ?_
          refine ⟨?_, rfl⟩
          unfold btw
          simp_all [bI]
        · skip
          refine Wp.n (pc' := 37) 2 rfl ?_
          refine Wp.retZ (len := 1) (c := true) rfl rfl rfl ?_
          refine ⟨?_, rfl⟩
          unfold btw
          simp_all [bI]


theorem m_between10 {q x y a b : Nat} (hq : q + 1 < 315) (h0 : σ.2.2.1 10 q = nI x) (h1 : σ.2.2.1 10 (q + 1) = nI y) (hx : x < 2 ^ 31) (hy : y < 2 ^ 31) (ha : a < 2 ^ 31) (hb : b < 2 ^ 31) : Ev d md_177 0 [some (.ref 298), some (.int (nI q)), some (.int (nI a)), some (.int (nI b))] [] (mset M σ) (some (.int (bI (btw x y a b))), mset M σ) := by
  refine Wp.toEv ?_
  refine Wp.n (pc' := 2) 2 rfl ?_
  refine Wp.mialdN (j := q) (len := 1) rfl rfl rfl (by omega) ?_
  refine Wp.top h0 ?_
  refine Wp.n (pc' := 4) 1 rfl ?_
  refine Wp.nc1 (x := x) (y := a) (tgt := 16) (len := 3) rfl (by assumption) (by assumption) (fun h4 => ?_) (fun h4 => ?_)
  · skip
    refine Wp.n (pc' := 18) 2 rfl ?_
    refine Wp.mialdN (j := q) (len := 1) rfl rfl rfl (by omega) ?_
    refine Wp.top h0 ?_
    refine Wp.n (pc' := 20) 1 rfl ?_
    refine Wp.nc1 (x := x) (y := b) (tgt := 36) (len := 3) rfl (by assumption) (by assumption) (fun h20 => ?_) (fun h20 => ?_)
    · skip
      refine Wp.n (pc' := 37) 1 rfl ?_
      refine Wp.retZ (len := 1) (c := false) rfl rfl rfl ?_
      refine ⟨?_, rfl⟩
      unfold btw
      simp_all [bI]
    · skip
      refine Wp.n (pc' := 26) 3 rfl ?_
      refine Wp.iaddN (x := q) (y := 1) (len := 1) rfl ?_
      refine Wp.mialdN (j := q + 1) (len := 1) rfl rfl rfl (by omega) ?_
      refine Wp.top h1 ?_
      refine Wp.n (pc' := 29) 1 rfl ?_
      refine Wp.nc1 (x := y) (y := a) (tgt := 36) (len := 3) rfl (by assumption) (by assumption) (fun h29 => ?_) (fun h29 => ?_)
      · skip
        refine Wp.n (pc' := 37) 1 rfl ?_
        refine Wp.retZ (len := 1) (c := false) rfl rfl rfl ?_
        refine ⟨?_, rfl⟩
        unfold btw
        simp_all [bI]
      · skip
        refine Wp.n (pc' := 37) 2 rfl ?_
        refine Wp.retZ (len := 1) (c := true) rfl rfl rfl ?_
        refine ⟨?_, rfl⟩
        unfold btw
        simp_all [bI]
  · skip
    refine Wp.n (pc' := 10) 3 rfl ?_
    refine Wp.iaddN (x := q) (y := 1) (len := 1) rfl ?_
    refine Wp.mialdN (j := q + 1) (len := 1) rfl rfl rfl (by omega) ?_
    refine Wp.top h1 ?_
    refine Wp.n (pc' := 13) 1 rfl ?_
    refine Wp.nc0 (x := y) (y := b) (tgt := 32) (len := 3) rfl (by assumption) (by assumption) (fun h13 => ?_) (fun h13 => ?_)
    · skip
      refine Wp.n (pc' := 37) 2 rfl ?_
      refine Wp.retZ (len := 1) (c := true) rfl rfl rfl ?_
      refine ⟨?_, rfl⟩
      unfold btw
      simp_all [bI]
    · skip
      refine Wp.n (pc' := 18) 2 rfl ?_
      refine Wp.mialdN (j := q) (len := 1) rfl rfl rfl (by omega) ?_
      refine Wp.top h0 ?_
      refine Wp.n (pc' := 20) 1 rfl ?_
      refine Wp.nc1 (x := x) (y := b) (tgt := 36) (len := 3) rfl (by assumption) (by assumption) (fun h20 => ?_) (fun h20 => ?_)
      · skip
        refine Wp.n (pc' := 37) 1 rfl ?_
        refine Wp.retZ (len := 1) (c := false) rfl rfl rfl ?_
        refine ⟨?_, rfl⟩
        unfold btw
        simp_all [bI]
      · skip
        refine Wp.n (pc' := 26) 3 rfl ?_
        refine Wp.iaddN (x := q) (y := 1) (len := 1) rfl ?_
        refine Wp.mialdN (j := q + 1) (len := 1) rfl rfl rfl (by omega) ?_
        refine Wp.top h1 ?_
        refine Wp.n (pc' := 29) 1 rfl ?_
        refine Wp.nc1 (x := y) (y := a) (tgt := 36) (len := 3) rfl (by assumption) (by assumption) (fun h29 => ?_) (fun h29 => ?_)
        · skip
          refine Wp.n (pc' := 37) 1 rfl ?_
          refine Wp.retZ (len := 1) (c := false) rfl rfl rfl ?_
          refine ⟨?_, rfl⟩
          unfold btw
          simp_all [bI]
        · skip
          refine Wp.n (pc' := 37) 2 rfl ?_
          refine Wp.retZ (len := 1) (c := true) rfl rfl rfl ?_
          refine ⟨?_, rfl⟩
          unfold btw
          simp_all [bI]


/-- the reference, with what is thought of -/
def RM (σ : MS) (K : KD) : Prop := RepM σ 0 K ∧ σ.1 25 = nI (kh K 11)
theorem m_roadOf_l (hM : RepM σ 0 K) (ok : KOK K) {a b : Nat} (ha : a < 7) (hb : b < 7) : ∀ (n i : Nat), i + n = kh K 2 → Wp (d + 1) md_191 2 [some (.ref 287), some (.int (nI a)), some (.int (nI b)), some (.int (nI i))] [] (mset M σ) (IsR (some (.int (oI (fnd (fun i => btw (kr K i 0) (kr K i 1) a b) n i)))) (mset M σ)) := by
  intro n
  obtain ⟨b0, b1, b2, b3, b4, b5, b6, b7, b8, b9, b10, b11, b12⟩ := ok_h ok
  induction n with
  | zero =>
    intro i hi
    refine Wp.n (pc' := 8) 4 rfl ?_
    refine Wp.mialdN (j := 2) (len := 1) rfl rfl rfl (by omega) ?_
    refine Wp.top (r0_has hM (by decide)) ?_
    refine Wp.nc3 (x := i) (y := kh K 2) (tgt := 35) (len := 3) rfl (by omega) (by omega) (fun h9 => ?_) (fun h9 => ?_)
    · skip
      refine Wp.n (pc' := 36) 1 rfl ?_
      refine Wp.retI (len := 1) rfl rfl ?_
      exact ⟨rfl, rfl⟩
    · omega
  | succ n ih =>
    intro i hi
    have hk := ok_road ok (i := i) (by omega)
    have hw := ih (i + 1) (by omega)
    unfold fnd
    refine Wp.n (pc' := 8) 4 rfl ?_
    refine Wp.mialdN (j := 2) (len := 1) rfl rfl rfl (by omega) ?_
    refine Wp.top (r0_has hM (by decide)) ?_
    refine Wp.nc3 (x := i) (y := kh K 2) (tgt := 35) (len := 3) rfl (by omega) (by omega) (fun h9 => ?_) (fun h9 => ?_)
    · omega
    · skip
      refine Wp.n (pc' := 18) 4 rfl ?_
      refine Wp.imulN (x := 3) (y := i) (len := 1) rfl ?_
      refine Wp.n (pc' := 21) 2 rfl ?_
      refine Wp.ecallS (len := 3) rfl rfl rfl rfl (m_between9 (by omega) (r0_road hM (j := 0) (i := i) (by omega) (by decide) (by omega)) (r0_road hM (j := 1) (i := i) (by omega) (by decide) (by omega)) (by omega) (by omega) (by omega) (by omega)) ?_
      refine Wp.ifb0 (tgt := 29) (len := 3) rfl (fun h24 => ?_) (fun h24 => ?_)
      · skip
        refine Wp.incN (x := i) (len := 3) rfl rfl ?_
        refine Wp.n (pc' := 2) 1 rfl ?_
        rw [if_neg (by rw [h24]; decide)]
        exact hw
      · skip
        refine Wp.n (pc' := 28) 1 rfl ?_
        refine Wp.retI (len := 1) rfl rfl ?_
        rw [if_pos h24]
        exact ⟨rfl, rfl⟩

theorem m_roadOf (hM : RepM σ 0 K) (ok : KOK K) {a b : Nat} (ha : a < 7) (hb : b < 7) : Ev (d + 1) md_191 0 [some (.ref 287), some (.int (nI a)), some (.int (nI b)), none] [] (mset M σ) (some (.int (oI (roadK K a b))), mset M σ) := by
  refine Wp.toEv ?_
  refine Wp.n (pc' := 2) 2 rfl ?_
  exact m_roadOf_l hM ok ha hb (kh K 2) 0 (by omega)
theorem m_isOpen (hM : RepM σ 0 K) (ok : KOK K) {l y : Nat} (hl : LV K l) (hy : y < 31) : Ev (d + 1) md_194 0 [some (.ref 287), some (.int (nI l)), some (.int (nI y)), none] [] (mset M σ) (some (.int (bI (openK K l y))), mset M σ) := by
  refine Wp.toEv ?_
  obtain ⟨b0, b1, b2, b3, b4, b5, b6, b7, b8, b9, b10, b11, b12⟩ := ok_h ok
  have t := ok_lane ok hl
  have hl8 : l ≤ 8 := by unfold LV at hl; omega
  refine Wp.n (pc' := 7) 4 rfl ?_
  refine Wp.imulN (x := 7) (y := l) (len := 1) rfl ?_
  refine Wp.n (pc' := 9) 1 rfl ?_
  refine Wp.iaddN (x := 7 * l) (y := 5) (len := 1) rfl ?_
  refine Wp.mialdN (j := (7 * l) + 5) (len := 1) rfl rfl rfl (by omega) ?_
  refine Wp.top (r0_lane hM hl (j := 5) (by decide) (by omega)) ?_
  refine Wp.n (pc' := 14) 3 rfl ?_
  refine Wp.nc0 (x := kl K l 5) (y := 2) (tgt := 73) (len := 3) rfl (by omega) (by omega) (fun h14 => ?_) (fun h14 => ?_)
  · skip
    refine Wp.n (pc' := 78) 2 rfl ?_
    refine Wp.retZ (len := 1) (c := true) rfl rfl rfl ?_
    refine ⟨?_, rfl⟩
    unfold openK
    first
      | (exfalso; omega)
      | (rw [if_pos (by omega)]; done)
      | (rw [if_neg (by omega), if_pos (by omega)]; cases hb : Nat.testBit (kh K 12) y <;> rw [hb] at h34 <;> first | rfl | exact absurd h34 (by decide) | exact absurd rfl h34)
      | (rw [if_neg (by omega), if_neg (by omega)]; first | (rw [decide_eq_true (by have := of_decide_eq_true h70; omega)]; done) | (rw [decide_eq_false (by have := of_decide_eq_false h70; omega)]; done))
      | omega
  · skip
    refine Wp.n (pc' := 19) 2 rfl ?_
    refine Wp.nc1 (x := kl K l 5) (y := 1) (tgt := 37) (len := 3) rfl (by omega) (by omega) (fun h19 => ?_) (fun h19 => ?_)
    · skip
      refine Wp.n (pc' := 38) 1 rfl ?_
      refine Wp.nz1 (x := kl K l 5) (tgt := 77) (len := 3) rfl (by omega) (fun h38 => ?_) (fun h38 => ?_)
      · skip
        refine Wp.n (pc' := 78) 1 rfl ?_
        refine Wp.retZ (len := 1) (c := false) rfl rfl rfl ?_
        refine ⟨?_, rfl⟩
        unfold openK
        first
          | (exfalso; omega)
          | (rw [if_pos (by omega)]; done)
          | (rw [if_neg (by omega), if_pos (by omega)]; cases hb : Nat.testBit (kh K 12) y <;> rw [hb] at h34 <;> first | rfl | exact absurd h34 (by decide) | exact absurd rfl h34)
          | (rw [if_neg (by omega), if_neg (by omega)]; first | (rw [decide_eq_true (by have := of_decide_eq_true h70; omega)]; done) | (rw [decide_eq_false (by have := of_decide_eq_false h70; omega)]; done))
          | omega
      · skip
        refine Wp.n (pc' := 50) 6 rfl ?_
        refine Wp.imulN (x := 7) (y := l) (len := 1) rfl ?_
        refine Wp.n (pc' := 52) 1 rfl ?_
        refine Wp.iaddN (x := 7 * l) (y := 3) (len := 1) rfl ?_
        refine Wp.mialdN (j := (7 * l) + 3) (len := 1) rfl rfl rfl (by omega) ?_
        refine Wp.top (r0_lane hM hl (j := 3) (by decide) (by omega)) ?_
        refine Wp.n (pc' := 62) 5 rfl ?_
        refine Wp.imulN (x := 7) (y := l) (len := 1) rfl ?_
        refine Wp.n (pc' := 64) 1 rfl ?_
        refine Wp.iaddN (x := 7 * l) (y := 4) (len := 1) rfl ?_
        refine Wp.mialdN (j := (7 * l) + 4) (len := 1) rfl rfl rfl (by omega) ?_
        refine Wp.top (r0_lane hM hl (j := 4) (by decide) (by omega)) ?_
        refine Wp.n (pc' := 67) 1 rfl ?_
        refine Wp.ecallS (len := 3) rfl rfl rfl rfl (m_in _ _ _) ?_
        refine Wp.ifb0 (tgt := 77) (len := 3) rfl (fun h70 => ?_) (fun h70 => ?_)
        · rw [il_toInt, il_toInt, il_toInt, nI_toInt (by omega), nI_toInt (by omega), nI_toInt (by omega)] at h70
          refine Wp.n (pc' := 78) 1 rfl ?_
          refine Wp.retZ (len := 1) (c := false) rfl rfl rfl ?_
          refine ⟨?_, rfl⟩
          unfold openK
          first
            | (exfalso; omega)
            | (rw [if_pos (by omega)]; done)
            | (rw [if_neg (by omega), if_pos (by omega)]; cases hb : Nat.testBit (kh K 12) y <;> rw [hb] at h34 <;> first | rfl | exact absurd h34 (by decide) | exact absurd rfl h34)
            | (rw [if_neg (by omega), if_neg (by omega)]; first | (rw [decide_eq_true (by have := of_decide_eq_true h70; omega)]; done) | (rw [decide_eq_false (by have := of_decide_eq_false h70; omega)]; done))
            | omega
        · rw [il_toInt, il_toInt, il_toInt, nI_toInt (by omega), nI_toInt (by omega), nI_toInt (by omega)] at h70
          refine Wp.n (pc' := 78) 2 rfl ?_
          refine Wp.retZ (len := 1) (c := true) rfl rfl rfl ?_
          refine ⟨?_, rfl⟩
          unfold openK
          first
            | (exfalso; omega)
            | (rw [if_pos (by omega)]; done)
            | (rw [if_neg (by omega), if_pos (by omega)]; cases hb : Nat.testBit (kh K 12) y <;> rw [hb] at h34 <;> first | rfl | exact absurd h34 (by decide) | exact absurd rfl h34)
            | (rw [if_neg (by omega), if_neg (by omega)]; first | (rw [decide_eq_true (by have := of_decide_eq_true h70; omega)]; done) | (rw [decide_eq_false (by have := of_decide_eq_false h70; omega)]; done))
            | omega
    · skip
      refine Wp.n (pc' := 27) 3 rfl ?_
      refine Wp.mlaldN (j := 0) (len := 1) rfl rfl rfl (by omega) ?_
      refine Wp.topL (rm_fl hM) ?_
      refine Wp.n (pc' := 33) 5 rfl ?_
      rw [l_bit (by omega) hy]
      refine Wp.n (pc' := 34) 1 rfl ?_
      refine Wp.if0 (tgt := 73) (len := 3) rfl (fun h34 => ?_) (fun h34 => ?_)
      · rw [cmp_eq] at h34
        refine Wp.n (pc' := 78) 2 rfl ?_
        refine Wp.retZ (len := 1) (c := true) rfl rfl rfl ?_
        refine ⟨?_, rfl⟩
        unfold openK
        first
          | (exfalso; omega)
          | (rw [if_pos (by omega)]; done)
          | (rw [if_neg (by omega), if_pos (by omega)]; cases hb : Nat.testBit (kh K 12) y <;> rw [hb] at h34 <;> first | rfl | exact absurd h34 (by decide) | exact absurd rfl h34)
          | (rw [if_neg (by omega), if_neg (by omega)]; first | (rw [decide_eq_true (by have := of_decide_eq_true h70; omega)]; done) | (rw [decide_eq_false (by have := of_decide_eq_false h70; omega)]; done))
          | omega
      · rw [cmp_eq] at h34
        refine Wp.n (pc' := 38) 1 rfl ?_
        refine Wp.nz1 (x := kl K l 5) (tgt := 77) (len := 3) rfl (by omega) (fun h38 => ?_) (fun h38 => ?_)
        · skip
          refine Wp.n (pc' := 78) 1 rfl ?_
          refine Wp.retZ (len := 1) (c := false) rfl rfl rfl ?_
          refine ⟨?_, rfl⟩
          unfold openK
          first
            | (exfalso; omega)
            | (rw [if_pos (by omega)]; done)
            | (rw [if_neg (by omega), if_pos (by omega)]; cases hb : Nat.testBit (kh K 12) y <;> rw [hb] at h34 <;> first | rfl | exact absurd h34 (by decide) | exact absurd rfl h34)
            | (rw [if_neg (by omega), if_neg (by omega)]; first | (rw [decide_eq_true (by have := of_decide_eq_true h70; omega)]; done) | (rw [decide_eq_false (by have := of_decide_eq_false h70; omega)]; done))
            | omega
        · skip
          refine Wp.n (pc' := 50) 6 rfl ?_
          refine Wp.imulN (x := 7) (y := l) (len := 1) rfl ?_
          refine Wp.n (pc' := 52) 1 rfl ?_
          refine Wp.iaddN (x := 7 * l) (y := 3) (len := 1) rfl ?_
          refine Wp.mialdN (j := (7 * l) + 3) (len := 1) rfl rfl rfl (by omega) ?_
          refine Wp.top (r0_lane hM hl (j := 3) (by decide) (by omega)) ?_
          refine Wp.n (pc' := 62) 5 rfl ?_
          refine Wp.imulN (x := 7) (y := l) (len := 1) rfl ?_
          refine Wp.n (pc' := 64) 1 rfl ?_
          refine Wp.iaddN (x := 7 * l) (y := 4) (len := 1) rfl ?_
          refine Wp.mialdN (j := (7 * l) + 4) (len := 1) rfl rfl rfl (by omega) ?_
          refine Wp.top (r0_lane hM hl (j := 4) (by decide) (by omega)) ?_
          refine Wp.n (pc' := 67) 1 rfl ?_
          refine Wp.ecallS (len := 3) rfl rfl rfl rfl (m_in _ _ _) ?_
          refine Wp.ifb0 (tgt := 77) (len := 3) rfl (fun h70 => ?_) (fun h70 => ?_)
          · rw [il_toInt, il_toInt, il_toInt, nI_toInt (by omega), nI_toInt (by omega), nI_toInt (by omega)] at h70
            refine Wp.n (pc' := 78) 1 rfl ?_
            refine Wp.retZ (len := 1) (c := false) rfl rfl rfl ?_
            refine ⟨?_, rfl⟩
            unfold openK
            first
              | (exfalso; omega)
              | (rw [if_pos (by omega)]; done)
              | (rw [if_neg (by omega), if_pos (by omega)]; cases hb : Nat.testBit (kh K 12) y <;> rw [hb] at h34 <;> first | rfl | exact absurd h34 (by decide) | exact absurd rfl h34)
              | (rw [if_neg (by omega), if_neg (by omega)]; first | (rw [decide_eq_true (by have := of_decide_eq_true h70; omega)]; done) | (rw [decide_eq_false (by have := of_decide_eq_false h70; omega)]; done))
              | omega
          · rw [il_toInt, il_toInt, il_toInt, nI_toInt (by omega), nI_toInt (by omega), nI_toInt (by omega)] at h70
            refine Wp.n (pc' := 78) 2 rfl ?_
            refine Wp.retZ (len := 1) (c := true) rfl rfl rfl ?_
            refine ⟨?_, rfl⟩
            unfold openK
            first
              | (exfalso; omega)
              | (rw [if_pos (by omega)]; done)
              | (rw [if_neg (by omega), if_pos (by omega)]; cases hb : Nat.testBit (kh K 12) y <;> rw [hb] at h34 <;> first | rfl | exact absurd h34 (by decide) | exact absurd rfl h34)
              | (rw [if_neg (by omega), if_neg (by omega)]; first | (rw [decide_eq_true (by have := of_decide_eq_true h70; omega)]; done) | (rw [decide_eq_false (by have := of_decide_eq_false h70; omega)]; done))
              | omega

end BTW
end
section
/-! joined, longOf. -/
def lst (K : KD) : Option Nat → Nat
  | none => 1000000
  | some j => spanJ K j
def jstep (K : KD) (a b y : Nat) (c : Option Nat) (l : Nat) : Option Nat := if l < kh K 3 ∨ (l = 8 ∧ kh K 11 = 1) then joinStep K a b y c l else c
theorem fld_add {α : Type} {f : α → Nat → α} : ∀ (m n i : Nat) (x : α), fld f (m + n) i x = fld f n (i + m) (fld f m i x)
  | 0, n, i, x => by rw [Nat.zero_add, Nat.add_zero]; rfl
  | m + 1, n, i, x => by
    rw [show m + 1 + n = (m + n) + 1 by omega]
    show fld f (m + n) (i + 1) (f x i) = fld f n (i + (m + 1)) (fld f m (i + 1) (f x i))
    rw [fld_add m n (i + 1), show i + 1 + m = i + (m + 1) by omega]
theorem fld_id {α : Type} {f : α → Nat → α} : ∀ (n i : Nat) (x : α), (∀ j, i ≤ j → j < i + n → ∀ y, f y j = y) → fld f n i x = x
  | 0, _, _, _ => rfl
  | n + 1, i, x, h => by
    show fld f n (i + 1) (f x i) = x
    rw [h i (by omega) (by omega), fld_id n (i + 1) x (fun j h1 h2 => h j (by omega) (by omega))]
theorem joinK_m {K : KD} (ok : KOK K) (a b y : Nat) : fld (jstep K a b y) 9 0 (roadK K a b) = joinK K a b y := by
  obtain ⟨b0, b1, b2, b3, b4, b5, b6, b7, b8, b9, b10, b11, b12⟩ := ok_h ok
  have e1 : fld (jstep K a b y) 8 0 (roadK K a b) = fld (joinStep K a b y) (kh K 3) 0 (roadK K a b) := by
    rw [show 8 = kh K 3 + (8 - kh K 3) by omega, fld_add, fld_id (8 - kh K 3)]
    · exact fld_c _ _ _ (fun j _ h2 c => if_pos (Or.inl (by omega)))
    · intro j h1 h2 c
      exact if_neg (by omega)
  rw [show 9 = 8 + 1 by omega, fld_s, e1]
  unfold joinK jstep
  by_cases h : kh K 11 = 1
  · rw [h, if_pos (Or.inr ⟨by omega, rfl⟩)]
    rfl
  · rw [if_neg (by omega)]
    exact (if_neg h).symm
section JOINED
variable {d : Nat} {M : AM} {σ : MS} {K : KD}
theorem lst_b (ok : KOK K) {c : Option Nat} (h : ∀ j, c = some j → JV K j) : lst K c ≤ 1000000 := by
  cases c with
  | none => exact Nat.le_refl _
  | some j =>
    have := spanJ_b ok (h j rfl)
    show spanJ K j ≤ _
    omega
theorem lst_lt (ok : KOK K) {c : Option Nat} {l : Nat} (hl : LV K l) : kl K l 2 < lst K c ↔ shr K c l = true := by
  have t := ok_lane ok hl
  cases c with
  | none => exact ⟨fun _ => rfl, fun _ => by show _ < 1000000; omega⟩
  | some j => exact (decide_eq_true_iff (p := kl K l 2 < spanJ K j)).symm
theorem joinStep_v {a b y : Nat} {c : Option Nat} {l : Nat} (hl : LV K l) (h : ∀ j, c = some j → JV K j) : ∀ j, joinStep K a b y c l = some j → JV K j := by
  intro j hj
  unfold joinStep at hj
  split at hj
  · cases hj
    exact Or.inr ⟨by omega, by rw [show 20 + l - 20 = l by omega]; exact hl⟩
  · exact h j hj
theorem m_joined_l (hM : RepM σ 0 K) (hmr : σ.1 25 = nI (kh K 11)) (ok : KOK K) {a b y : Nat} (ha : a < 7) (hb : b < 7) (hy : y < 31) : ∀ (n l : Nat) (cur : Option Nat) (z : Option Value), l + n = 9 → (∀ j, cur = some j → JV K j) → Wp (d + 2) md_197 35 [some (.ref 287), some (.int (nI a)), some (.int (nI b)), some (.int (nI y)), some (.int (oI cur)), some (.int (nI (lst K cur))), some (.int (nI l)), z] [] (mset M σ) (IsR (some (.int (oI (fld (jstep K a b y) n l cur))) ) (mset M σ)) := by
  intro n
  obtain ⟨b0, b1, b2, b3, b4, b5, b6, b7, b8, b9, b10, b11, b12⟩ := ok_h ok
  induction n with
  | zero =>
    intro l cur z hi hc
    refine Wp.n (pc' := 39) 2 rfl ?_
    refine Wp.nc4 (x := l) (y := 8) (tgt := 153) (len := 3) rfl (by omega) (by omega) (fun h39 => ?_) (fun h39 => ?_)
    · skip
      refine Wp.n (pc' := 155) 1 rfl ?_
      refine Wp.retI (len := 1) rfl rfl ?_
      exact ⟨rfl, rfl⟩
    · omega
  | succ n ih =>
    intro l cur z hi hc
    have hls := lst_b ok hc
    have kn : ∀ z : Option Value, ¬ LV K l → Wp (d + 2) md_197 35 [some (.ref 287), some (.int (nI a)), some (.int (nI b)), some (.int (nI y)), some (.int (oI cur)), some (.int (nI (lst K cur))), some (.int (nI (l + 1))), z] [] (mset M σ) (IsR (some (.int (oI (fld (jstep K a b y) (n + 1) l cur))) ) (mset M σ)) := by
      intro z hC
      have e2 : jstep K a b y cur l = cur := if_neg hC
      show Wp _ _ _ _ _ _ (IsR (some (.int (oI (fld (jstep K a b y) n (l + 1) (jstep K a b y cur l)))) ) (mset M σ))
      rw [e2]
      exact ih (l + 1) cur z (by omega) hc
    have kf : ∀ z : Option Value, LV K l → ¬ (shr K cur l = true ∧ btw (kl K l 0) (kl K l 1) a b = true ∧ openK K l y = true) → Wp (d + 2) md_197 35 [some (.ref 287), some (.int (nI a)), some (.int (nI b)), some (.int (nI y)), some (.int (oI cur)), some (.int (nI (lst K cur))), some (.int (nI (l + 1))), z] [] (mset M σ) (IsR (some (.int (oI (fld (jstep K a b y) (n + 1) l cur))) ) (mset M σ)) := by
      intro z hl hC
      have e2 : jstep K a b y cur l = cur := (if_pos hl).trans (if_neg hC)
      show Wp _ _ _ _ _ _ (IsR (some (.int (oI (fld (jstep K a b y) n (l + 1) (jstep K a b y cur l)))) ) (mset M σ))
      rw [e2]
      exact ih (l + 1) cur z (by omega) hc
    have kt : ∀ z : Option Value, LV K l → (shr K cur l = true ∧ btw (kl K l 0) (kl K l 1) a b = true ∧ openK K l y = true) → Wp (d + 2) md_197 35 [some (.ref 287), some (.int (nI a)), some (.int (nI b)), some (.int (nI y)), some (.int (nI (20 + l))), some (.int (nI (kl K l 2))), some (.int (nI (l + 1))), z] [] (mset M σ) (IsR (some (.int (oI (fld (jstep K a b y) (n + 1) l cur))) ) (mset M σ)) := by
      intro z hl hC
      have e2 : jstep K a b y cur l = some (20 + l) := (if_pos hl).trans (if_pos hC)
      have w := ih (l + 1) (some (20 + l)) z (by omega) (fun j hj => by cases hj; exact Or.inr ⟨by omega, by rw [show 20 + l - 20 = l by omega]; exact hl⟩)
      have e3 : lst K (some (20 + l)) = kl K l 2 := by
        show spanJ K (20 + l) = _
        unfold spanJ
        rw [if_neg (by omega), show 20 + l - 20 = l by omega]
      rw [e3] at w
      show Wp _ _ _ _ _ _ (IsR (some (.int (oI (fld (jstep K a b y) n (l + 1) (jstep K a b y cur l)))) ) (mset M σ))
      rw [e2]
      exact w
    by_cases hl : LV K l
    · have t := ok_lane ok hl
      have hlt := lst_lt (c := cur) ok hl
      have hl' : l < kh K 3 ∨ (l = 8 ∧ kh K 11 = 1) := hl
      refine Wp.n (pc' := 39) 2 rfl ?_
      refine Wp.nc4 (x := l) (y := 8) (tgt := 153) (len := 3) rfl (by omega) (by omega) (fun h39 => ?_) (fun h39 => ?_)
      · omega
      · skip
        refine Wp.n (pc' := 49) 4 rfl ?_
        refine Wp.mialdN (j := 3) (len := 1) rfl rfl rfl (by omega) ?_
        refine Wp.top (r0_has hM (by decide)) ?_
        refine Wp.nc2 (x := l) (y := kh K 3) (tgt := 67) (len := 3) rfl (by omega) (by omega) (fun h50 => ?_) (fun h50 => ?_)
        · skip
          refine Wp.n (pc' := 76) 4 rfl ?_
          refine Wp.nz0 (x := 1) (tgt := 147) (len := 3) rfl (by omega) (fun h76 => ?_) (fun h76 => ?_)
          · omega
          · skip
            refine Wp.n (pc' := 87) 4 rfl ?_
            refine Wp.imulN (x := 7) (y := l) (len := 1) rfl ?_
            refine Wp.n (pc' := 90) 2 rfl ?_
            refine Wp.ecallS (len := 3) rfl rfl rfl rfl (m_between10 (by omega) (r0_lane hM hl (j := 0) (by decide) (by omega)) (r0_lane hM hl (j := 1) (by decide) (by omega)) (by omega) (by omega) (by omega) (by omega)) ?_
            refine Wp.ifb0 (tgt := 147) (len := 3) rfl (fun h93 => ?_) (fun h93 => ?_)
            · skip
              refine Wp.incN (x := l) (len := 3) rfl rfl ?_
              refine Wp.n (pc' := 35) 1 rfl ?_
              first
                | exact kt _ hl ⟨hlt.mp h120, h93, h103⟩
                | exact kf _ hl (fun c => absurd (c.2.1.symm.trans h93) (by decide))
                | exact kf _ hl (fun c => absurd (c.2.2.symm.trans h103) (by decide))
                | exact kf _ hl (fun c => absurd (hlt.mpr c.1) (by omega))
            · skip
              refine Wp.n (pc' := 100) 3 rfl ?_
              refine Wp.ecallV (len := 3) rfl rfl rfl (rfl) rfl (by decide) rfl (m_isOpen hM ok hl hy) ?_
              refine Wp.ifb0 (tgt := 147) (len := 3) rfl (fun h103 => ?_) (fun h103 => ?_)
              · skip
                refine Wp.incN (x := l) (len := 3) rfl rfl ?_
                refine Wp.n (pc' := 35) 1 rfl ?_
                first
                  | exact kt _ hl ⟨hlt.mp h120, h93, h103⟩
                  | exact kf _ hl (fun c => absurd (c.2.1.symm.trans h93) (by decide))
                  | exact kf _ hl (fun c => absurd (c.2.2.symm.trans h103) (by decide))
                  | exact kf _ hl (fun c => absurd (hlt.mpr c.1) (by omega))
              · skip
                refine Wp.n (pc' := 114) 4 rfl ?_
                refine Wp.imulN (x := 7) (y := l) (len := 1) rfl ?_
                refine Wp.n (pc' := 116) 1 rfl ?_
                refine Wp.iaddN (x := 7 * l) (y := 2) (len := 1) rfl ?_
                refine Wp.mialdN (j := (7 * l) + 2) (len := 1) rfl rfl rfl (by omega) ?_
                refine Wp.top (r0_lane hM hl (j := 2) (by decide) (by omega)) ?_
                refine Wp.n (pc' := 120) 1 rfl ?_
                refine Wp.nc2 (x := kl K l 2) (y := lst K cur) (tgt := 126) (len := 3) rfl (by omega) (by omega) (fun h120 => ?_) (fun h120 => ?_)
                · skip
                  refine Wp.n (pc' := 130) 2 rfl ?_
                  refine Wp.iaddN (x := 20) (y := l) (len := 1) rfl ?_
                  refine Wp.n (pc' := 141) 5 rfl ?_
                  refine Wp.imulN (x := 7) (y := l) (len := 1) rfl ?_
                  refine Wp.n (pc' := 143) 1 rfl ?_
                  refine Wp.iaddN (x := 7 * l) (y := 2) (len := 1) rfl ?_
                  refine Wp.mialdN (j := (7 * l) + 2) (len := 1) rfl rfl rfl (by omega) ?_
                  refine Wp.top (r0_lane hM hl (j := 2) (by decide) (by omega)) ?_
                  refine Wp.n (pc' := 147) 1 rfl ?_
                  refine Wp.incN (x := l) (len := 3) rfl rfl ?_
                  refine Wp.n (pc' := 35) 1 rfl ?_
                  first
                    | exact kt _ hl ⟨hlt.mp h120, h93, h103⟩
                    | exact kf _ hl (fun c => absurd (c.2.1.symm.trans h93) (by decide))
                    | exact kf _ hl (fun c => absurd (c.2.2.symm.trans h103) (by decide))
                    | exact kf _ hl (fun c => absurd (hlt.mpr c.1) (by omega))
                · skip
                  refine Wp.n (pc' := 147) 1 rfl ?_
                  refine Wp.incN (x := l) (len := 3) rfl rfl ?_
                  refine Wp.n (pc' := 35) 1 rfl ?_
                  first
                    | exact kt _ hl ⟨hlt.mp h120, h93, h103⟩
                    | exact kf _ hl (fun c => absurd (c.2.1.symm.trans h93) (by decide))
                    | exact kf _ hl (fun c => absurd (c.2.2.symm.trans h103) (by decide))
                    | exact kf _ hl (fun c => absurd (hlt.mpr c.1) (by omega))
        · skip
          refine Wp.n (pc' := 57) 2 rfl ?_
          refine Wp.nc1 (x := l) (y := 8) (tgt := 71) (len := 3) rfl (by omega) (by omega) (fun h57 => ?_) (fun h57 => ?_)
          · exact absurd hl' (by omega)
          · skip
            refine Wp.n (pc' := 64) 2 rfl ?_
            refine Wp.top hmr ?_
            refine Wp.nz0 (x := kh K 11) (tgt := 71) (len := 3) rfl (by omega) (fun h64 => ?_) (fun h64 => ?_)
            · exact absurd hl' (by omega)
            · skip
              refine Wp.n (pc' := 76) 4 rfl ?_
              refine Wp.nz0 (x := 1) (tgt := 147) (len := 3) rfl (by omega) (fun h76 => ?_) (fun h76 => ?_)
              · omega
              · skip
                refine Wp.n (pc' := 87) 4 rfl ?_
                refine Wp.imulN (x := 7) (y := l) (len := 1) rfl ?_
                refine Wp.n (pc' := 90) 2 rfl ?_
                refine Wp.ecallS (len := 3) rfl rfl rfl rfl (m_between10 (by omega) (r0_lane hM hl (j := 0) (by decide) (by omega)) (r0_lane hM hl (j := 1) (by decide) (by omega)) (by omega) (by omega) (by omega) (by omega)) ?_
                refine Wp.ifb0 (tgt := 147) (len := 3) rfl (fun h93 => ?_) (fun h93 => ?_)
                · skip
                  refine Wp.incN (x := l) (len := 3) rfl rfl ?_
                  refine Wp.n (pc' := 35) 1 rfl ?_
                  first
                    | exact kt _ hl ⟨hlt.mp h120, h93, h103⟩
                    | exact kf _ hl (fun c => absurd (c.2.1.symm.trans h93) (by decide))
                    | exact kf _ hl (fun c => absurd (c.2.2.symm.trans h103) (by decide))
                    | exact kf _ hl (fun c => absurd (hlt.mpr c.1) (by omega))
                · skip
                  refine Wp.n (pc' := 100) 3 rfl ?_
                  refine Wp.ecallV (len := 3) rfl rfl rfl (rfl) rfl (by decide) rfl (m_isOpen hM ok hl hy) ?_
                  refine Wp.ifb0 (tgt := 147) (len := 3) rfl (fun h103 => ?_) (fun h103 => ?_)
                  · skip
                    refine Wp.incN (x := l) (len := 3) rfl rfl ?_
                    refine Wp.n (pc' := 35) 1 rfl ?_
                    first
                      | exact kt _ hl ⟨hlt.mp h120, h93, h103⟩
                      | exact kf _ hl (fun c => absurd (c.2.1.symm.trans h93) (by decide))
                      | exact kf _ hl (fun c => absurd (c.2.2.symm.trans h103) (by decide))
                      | exact kf _ hl (fun c => absurd (hlt.mpr c.1) (by omega))
                  · skip
                    refine Wp.n (pc' := 114) 4 rfl ?_
                    refine Wp.imulN (x := 7) (y := l) (len := 1) rfl ?_
                    refine Wp.n (pc' := 116) 1 rfl ?_
                    refine Wp.iaddN (x := 7 * l) (y := 2) (len := 1) rfl ?_
                    refine Wp.mialdN (j := (7 * l) + 2) (len := 1) rfl rfl rfl (by omega) ?_
                    refine Wp.top (r0_lane hM hl (j := 2) (by decide) (by omega)) ?_
                    refine Wp.n (pc' := 120) 1 rfl ?_
                    refine Wp.nc2 (x := kl K l 2) (y := lst K cur) (tgt := 126) (len := 3) rfl (by omega) (by omega) (fun h120 => ?_) (fun h120 => ?_)
                    · skip
                      refine Wp.n (pc' := 130) 2 rfl ?_
                      refine Wp.iaddN (x := 20) (y := l) (len := 1) rfl ?_
                      refine Wp.n (pc' := 141) 5 rfl ?_
                      refine Wp.imulN (x := 7) (y := l) (len := 1) rfl ?_
                      refine Wp.n (pc' := 143) 1 rfl ?_
                      refine Wp.iaddN (x := 7 * l) (y := 2) (len := 1) rfl ?_
                      refine Wp.mialdN (j := (7 * l) + 2) (len := 1) rfl rfl rfl (by omega) ?_
                      refine Wp.top (r0_lane hM hl (j := 2) (by decide) (by omega)) ?_
                      refine Wp.n (pc' := 147) 1 rfl ?_
                      refine Wp.incN (x := l) (len := 3) rfl rfl ?_
                      refine Wp.n (pc' := 35) 1 rfl ?_
                      first
                        | exact kt _ hl ⟨hlt.mp h120, h93, h103⟩
                        | exact kf _ hl (fun c => absurd (c.2.1.symm.trans h93) (by decide))
                        | exact kf _ hl (fun c => absurd (c.2.2.symm.trans h103) (by decide))
                        | exact kf _ hl (fun c => absurd (hlt.mpr c.1) (by omega))
                    · skip
                      refine Wp.n (pc' := 147) 1 rfl ?_
                      refine Wp.incN (x := l) (len := 3) rfl rfl ?_
                      refine Wp.n (pc' := 35) 1 rfl ?_
                      first
                        | exact kt _ hl ⟨hlt.mp h120, h93, h103⟩
                        | exact kf _ hl (fun c => absurd (c.2.1.symm.trans h93) (by decide))
                        | exact kf _ hl (fun c => absurd (c.2.2.symm.trans h103) (by decide))
                        | exact kf _ hl (fun c => absurd (hlt.mpr c.1) (by omega))
    · have hl' : ¬ (l < kh K 3 ∨ (l = 8 ∧ kh K 11 = 1)) := hl
      refine Wp.n (pc' := 39) 2 rfl ?_
      refine Wp.nc4 (x := l) (y := 8) (tgt := 153) (len := 3) rfl (by omega) (by omega) (fun h39 => ?_) (fun h39 => ?_)
      · omega
      · skip
        refine Wp.n (pc' := 49) 4 rfl ?_
        refine Wp.mialdN (j := 3) (len := 1) rfl rfl rfl (by omega) ?_
        refine Wp.top (r0_has hM (by decide)) ?_
        refine Wp.nc2 (x := l) (y := kh K 3) (tgt := 67) (len := 3) rfl (by omega) (by omega) (fun h50 => ?_) (fun h50 => ?_)
        · omega
        · skip
          refine Wp.n (pc' := 57) 2 rfl ?_
          refine Wp.nc1 (x := l) (y := 8) (tgt := 71) (len := 3) rfl (by omega) (by omega) (fun h57 => ?_) (fun h57 => ?_)
          · skip
            refine Wp.n (pc' := 76) 3 rfl ?_
            refine Wp.nz0 (x := 0) (tgt := 147) (len := 3) rfl (by omega) (fun h76 => ?_) (fun h76 => ?_)
            · skip
              refine Wp.incN (x := l) (len := 3) rfl rfl ?_
              refine Wp.n (pc' := 35) 1 rfl ?_
              exact kn _ hl
            · omega
          · skip
            refine Wp.n (pc' := 64) 2 rfl ?_
            refine Wp.top hmr ?_
            refine Wp.nz0 (x := kh K 11) (tgt := 71) (len := 3) rfl (by omega) (fun h64 => ?_) (fun h64 => ?_)
            · skip
              refine Wp.n (pc' := 76) 3 rfl ?_
              refine Wp.nz0 (x := 0) (tgt := 147) (len := 3) rfl (by omega) (fun h76 => ?_) (fun h76 => ?_)
              · skip
                refine Wp.incN (x := l) (len := 3) rfl rfl ?_
                refine Wp.n (pc' := 35) 1 rfl ?_
                exact kn _ hl
              · omega
            · exact absurd (Or.inr ⟨h57, by omega⟩) hl'

theorem m_joined (hM : RepM σ 0 K) (hmr : σ.1 25 = nI (kh K 11)) (ok : KOK K) {a b y : Nat} (ha : a < 7) (hb : b < 7) (hy : y < 31) : Ev (d + 2) md_197 0 [some (.ref 287), some (.int (nI a)), some (.int (nI b)), some (.int (nI y)), none, none, none, none] [] (mset M σ) (some (.int (oI (joinK K a b y))), mset M σ) := by
  refine Wp.toEv ?_
  obtain ⟨b0, b1, b2, b3, b4, b5, b6, b7, b8, b9, b10, b11, b12⟩ := ok_h ok
  refine Wp.n (pc' := 3) 3 rfl ?_
  refine Wp.ecallV (len := 3) rfl rfl rfl rfl rfl (by decide) rfl (m_roadOf hM ok ha hb) ?_
  rw [← joinK_m ok]
  have w := m_joined_l (d := d) (M := M) hM hmr ok ha hb hy 9 0 (roadK K a b) none (by omega) (fun j hj => Or.inl (roadK_v hj).1)
  cases hrd : roadK K a b with
  | none =>
    rw [hrd] at w
    refine Wp.n (pc' := 11) 3 rfl ?_
    refine Wp.ic1 (tgt := 19) (len := 3) rfl (fun h11 => ?_) (fun h11 => ?_)
    · exact absurd rfl h11
    · skip
      refine Wp.n (pc' := 35) 5 rfl ?_
      exact w
  | some j =>
    rw [hrd] at w
    have hj := (roadK_v hrd).1
    have e3 : lst K (some j) = kr K j 2 := by
      show spanJ K j = _
      unfold spanJ
      rw [if_pos (by omega)]
    rw [e3] at w
    refine Wp.n (pc' := 11) 3 rfl ?_
    refine Wp.ic1 (tgt := 19) (len := 3) rfl (fun h11 => ?_) (fun h11 => ?_)
    · skip
      refine Wp.n (pc' := 26) 4 rfl ?_
      refine Wp.imulN (x := 3) (y := j) (len := 1) rfl ?_
      refine Wp.n (pc' := 28) 1 rfl ?_
      refine Wp.iaddN (x := 3 * j) (y := 2) (len := 1) rfl ?_
      refine Wp.mialdN (j := (3 * j) + 2) (len := 1) rfl rfl rfl (by omega) ?_
      refine Wp.top (r0_road hM hj (j := 2) (by decide) (by omega)) ?_
      refine Wp.n (pc' := 35) 3 rfl ?_
      exact w
    · exact absurd h11 (oI_ne (by omega))

theorem m_longOf (hM : RepM σ 0 K) (ok : KOK K) {j : Nat} (hj : JV K j) : Ev d md_208 0 [some (.ref 287), some (.int (nI j))] [] (mset M σ) (some (.int (nI (spanJ K j))), mset M σ) := by
  refine Wp.toEv ?_
  obtain ⟨b0, b1, b2, b3, b4, b5, b6, b7, b8, b9, b10, b11, b12⟩ := ok_h ok
  have hj8 : j < 12 ∨ (20 ≤ j ∧ j - 20 ≤ 8) := by unfold JV LV at hj; omega
  have hr : j < 20 → j < kh K 2 := by unfold JV at hj; omega
  have hl : 20 ≤ j → LV K (j - 20) := fun h => by
    rcases hj with q | q
    · omega
    · exact q.2
  unfold spanJ
  refine Wp.n (pc' := 3) 2 rfl ?_
  refine Wp.nc3 (x := j) (y := 20) (tgt := 19) (len := 3) rfl (by omega) (by omega) (fun h3 => ?_) (fun h3 => ?_)
  · skip
    refine Wp.n (pc' := 28) 5 rfl ?_
    refine Wp.isubN (x := j) (y := 20) (len := 1) rfl (by omega) ?_
    refine Wp.imulN (x := 7) (y := j - 20) (len := 1) rfl ?_
    refine Wp.n (pc' := 31) 1 rfl ?_
    refine Wp.iaddN (x := 7 * (j - 20)) (y := 2) (len := 1) rfl ?_
    refine Wp.mialdN (j := (7 * (j - 20)) + 2) (len := 1) rfl rfl rfl (by omega) ?_
    refine Wp.top (r0_lane hM (hl h3) (j := 2) (by decide) (by omega)) ?_
    refine Wp.retI (len := 1) rfl rfl ?_
    first | (rw [if_pos (by omega)]; exact ⟨rfl, rfl⟩) | (rw [if_neg (by omega)]; exact ⟨rfl, rfl⟩)
  · skip
    refine Wp.n (pc' := 12) 4 rfl ?_
    refine Wp.imulN (x := 3) (y := j) (len := 1) rfl ?_
    refine Wp.n (pc' := 14) 1 rfl ?_
    refine Wp.iaddN (x := 3 * j) (y := 2) (len := 1) rfl ?_
    refine Wp.mialdN (j := (3 * j) + 2) (len := 1) rfl rfl rfl (by omega) ?_
    refine Wp.top (r0_road hM (hr h3) (j := 2) (by decide) (by omega)) ?_
    refine Wp.n (pc' := 33) 1 rfl ?_
    refine Wp.retI (len := 1) rfl rfl ?_
    first | (rw [if_pos (by omega)]; exact ⟨rfl, rfl⟩) | (rw [if_neg (by omega)]; exact ⟨rfl, rfl⟩)

end JOINED
end
section
/-! LENGTHS BY ROAD: Floyd's rounds and Bellman's give the same. -/
def D0 (K : KD) (a b : Nat) : Nat := if a = b then 0 else match roadK K a b with
  | none => 1000000
  | some i => kr K i 2
def ph (k : Nat) (D : Nat → Nat → Nat) : Nat → Nat → Nat := fun a b => min (D a b) (D a k + D k b)
def distK (K : KD) : Nat → Nat → Nat := fld (fun D k => ph k D) (kh K 0) 0 (D0 K)
def Eg (K : KD) (a b w : Nat) : Prop := ∃ i, i < kh K 2 ∧ btw (kr K i 0) (kr K i 1) a b = true ∧ kr K i 2 = w
def Wlk (K : KD) : Nat → Nat → Nat → Nat → Prop
  | 0, a, b, l => a = b ∧ l = 0
  | n + 1, a, b, l => ∃ c w l', Eg K a c w ∧ Wlk K n c b l' ∧ l = w + l'
theorem btw_iff {x y a b : Nat} : btw x y a b = true ↔ (x = a ∧ y = b) ∨ (x = b ∧ y = a) := by
  unfold btw
  simp
theorem btw_sym {x y a b : Nat} (h : btw x y a b = true) : btw x y b a = true := by
  rw [btw_iff] at *
  omega
theorem fnd_none {p : Nat → Bool} : ∀ {n i : Nat}, fnd p n i = none → ∀ j, i ≤ j → j < i + n → p j = false
  | 0, i, _, j, h1, h2 => by omega
  | n + 1, i, h, j, h1, h2 => by
    unfold fnd at h
    by_cases hp : p i = true
    · rw [if_pos hp] at h; cases h
    · rw [if_neg hp] at h
      by_cases hj : j = i
      · subst hj; simpa using hp
      · exact fnd_none h j (by omega) (by omega)
section DST
variable {K : KD}
theorem Eg_sym {a b w : Nat} (h : Eg K a b w) : Eg K b a w := by
  obtain ⟨i, h1, h2, h3⟩ := h
  exact ⟨i, h1, btw_sym h2, h3⟩
theorem Eg_b (ok : KOK K) {a b w : Nat} (h : Eg K a b w) : a < kh K 0 ∧ b < kh K 0 ∧ a ≠ b ∧ 1 ≤ w ∧ w ≤ 129 := by
  obtain ⟨i, h1, h2, h3⟩ := h
  have := ok_road ok h1
  rw [btw_iff] at h2
  omega
theorem roadK_uni (ok : KOK K) {a b i : Nat} (hi : i < kh K 2) (hb : btw (kr K i 0) (kr K i 1) a b = true) : roadK K a b = some i := by
  cases h : roadK K a b with
  | none =>
    have := fnd_none h i (by omega) (by omega)
    rw [hb] at this
    cases this
  | some j =>
    obtain ⟨h1, h2⟩ := roadK_v h
    have : j = i := ok_uni ok h1 hi (by rw [btw_iff] at *; omega)
    rw [this]
theorem D0_edge (ok : KOK K) {a b w : Nat} (h : Eg K a b w) : D0 K a b ≤ w := by
  have hb := Eg_b ok h
  obtain ⟨i, h1, h2, h3⟩ := h
  unfold D0
  rw [if_neg (by omega), roadK_uni ok h1 h2]
  exact Nat.le_of_eq h3
theorem D0_walk {a b : Nat} (h : D0 K a b < 1000000) : ∃ n, Wlk K n a b (D0 K a b) := by
  unfold D0 at *
  by_cases e : a = b
  · rw [if_pos e]
    exact ⟨0, e, rfl⟩
  · rw [if_neg e] at h ⊢
    cases hr : roadK K a b with
    | none => rw [hr] at h; exact absurd (show (1000000 : Nat) < 1000000 from h) (by decide)
    | some i =>
      obtain ⟨h1, h2⟩ := roadK_v hr
      exact ⟨1, b, kr K i 2, 0, ⟨i, h1, h2, rfl⟩, ⟨rfl, rfl⟩, rfl⟩
theorem D0_le (ok : KOK K) (a b : Nat) : D0 K a b ≤ 1000000 := by
  unfold D0
  by_cases e : a = b
  · rw [if_pos e]; omega
  · rw [if_neg e]
    cases hr : roadK K a b with
    | none => exact Nat.le_refl _
    | some i =>
      have := ok_road ok (roadK_v hr).1
      show kr K i 2 ≤ _
      omega
theorem Wlk_app : ∀ {n m a b c l l' : Nat}, Wlk K n a b l → Wlk K m b c l' → Wlk K (n + m) a c (l + l')
  | 0, m, a, b, c, l, l', h, h' => by
    obtain ⟨rfl, rfl⟩ := h
    rw [Nat.zero_add, Nat.zero_add]
    exact h'
  | n + 1, m, a, b, c, l, l', h, h' => by
    obtain ⟨e, w, q, h1, h2, rfl⟩ := h
    rw [show n + 1 + m = (n + m) + 1 by omega]
    exact ⟨e, w, q + l', h1, Wlk_app h2 h', by omega⟩
def GD (K : KD) (D : Nat → Nat → Nat) (k : Nat) : Prop := (∀ a, D a a = 0) ∧ (∀ a b w, Eg K a b w → D a b ≤ w) ∧ (∀ a b, D a b < 1000000 → ∃ n, Wlk K n a b (D a b)) ∧ (∀ a b, D a b ≤ 1000000) ∧ (∀ c, c < k → ∀ a b, D a b ≤ D a c + D c b)
theorem GD_0 (ok : KOK K) : GD K (D0 K) 0 := ⟨fun a => if_pos rfl, fun a b w h => D0_edge ok h, fun a b h => D0_walk h, D0_le ok, fun c h => absurd h (Nat.not_lt_zero c)⟩
theorem GD_s {D : Nat → Nat → Nat} {k : Nat} (h : GD K D k) : GD K (ph k D) (k + 1) := by
  obtain ⟨h1, h2, h3, h4, h5⟩ := h
  refine ⟨fun a => ?_, fun a b w e => ?_, fun a b e => ?_, fun a b => ?_, fun c hc a b => ?_⟩
  · show min (D a a) _ = 0
    rw [h1]; omega
  · have := h2 a b w e
    show min (D a b) _ ≤ w
    omega
  · show ∃ n, Wlk K n a b (min (D a b) (D a k + D k b))
    have e' : min (D a b) (D a k + D k b) < 1000000 := e
    by_cases q : D a b ≤ D a k + D k b
    · rw [Nat.min_eq_left q] at e' ⊢
      exact h3 a b e'
    · rw [Nat.min_eq_right (by omega)] at e' ⊢
      obtain ⟨n, p1⟩ := h3 a k (by omega)
      obtain ⟨m, p2⟩ := h3 k b (by omega)
      exact ⟨n + m, Wlk_app p1 p2⟩
  · have := h4 a b
    show min (D a b) _ ≤ _
    omega
  · show min (D a b) (D a k + D k b) ≤ min (D a c) (D a k + D k c) + min (D c b) (D c k + D k b)
    have hk := h1 k
    by_cases e : c = k
    · subst e
      rw [hk]
      omega
    · have hc' : c < k := by omega
      have t1 := h5 c hc' a b
      have t2 := h5 c hc' k b
      have t3 := h5 c hc' a k
      omega
theorem GD_all (ok : KOK K) : ∀ n, GD K (fld (fun D k => ph k D) n 0 (D0 K)) n
  | 0 => GD_0 ok
  | n + 1 => by
    rw [fld_s, Nat.zero_add]
    exact GD_s (GD_all ok n)
theorem dist_g (ok : KOK K) : GD K (distK K) (kh K 0) := GD_all ok _
theorem dist_le (ok : KOK K) (a b : Nat) : distK K a b ≤ 1000000 := (dist_g ok).2.2.2.1 a b
theorem dist_tri (ok : KOK K) {a c w : Nat} (e : Eg K a c w) (b : Nat) : distK K a b ≤ w + distK K c b := by
  have g := dist_g ok
  have h1 := g.2.1 a c w e
  have h2 := g.2.2.2.2 c (Eg_b ok e).2.1 a b
  omega
theorem dist_wlk (ok : KOK K) : ∀ (n : Nat) {a b l : Nat}, Wlk K n a b l → distK K a b ≤ l
  | 0, a, b, l, h => by
    obtain ⟨rfl, rfl⟩ := h
    rw [(dist_g ok).1]; omega
  | n + 1, a, b, l, h => by
    obtain ⟨c, w, l', h1, h2, rfl⟩ := h
    have := dist_tri ok h1 b
    have := dist_wlk ok n h2
    omega
/-- a step of a least way -/
theorem dist_step (ok : KOK K) {a b : Nat} (h : distK K a b < 1000000) (hab : a ≠ b) : ∃ c w, Eg K a c w ∧ distK K a b = w + distK K c b := by
  obtain ⟨n, hn⟩ := (dist_g ok).2.2.1 a b h
  match n, hn with
  | 0, hn => exact absurd hn.1 hab
  | n + 1, hn =>
    obtain ⟨c, w, l', h1, h2, h3⟩ := hn
    have := dist_tri ok h1 b
    have := dist_wlk ok n h2
    exact ⟨c, w, h1, by omega⟩
-- Bellman
def rlx (K : KD) (g : Nat → Nat) (i : Nat) : Nat → Nat := va_up (va_up g (kr K i 0) (min (g (kr K i 0)) (g (kr K i 1) + kr K i 2))) (kr K i 1) (min (va_up g (kr K i 0) (min (g (kr K i 0)) (g (kr K i 1) + kr K i 2)) (kr K i 1)) (va_up g (kr K i 0) (min (g (kr K i 0)) (g (kr K i 1) + kr K i 2)) (kr K i 0) + kr K i 2))
def bfR (K : KD) (g : Nat → Nat) : Nat → Nat := fld (rlx K) (kh K 2) 0 g
def bfI (t : Nat) : Nat → Nat := fun p => if p = t then 0 else 1000000
def bf (K : KD) (t n : Nat) : Nat → Nat := fld (fun g _ => bfR K g) n 0 (bfI t)
theorem rlx_eq (ok : KOK K) {i : Nat} (hi : i < kh K 2) (g : Nat → Nat) (p : Nat) : rlx K g i p = if p = kr K i 1 then min (g (kr K i 1)) (min (g (kr K i 0)) (g (kr K i 1) + kr K i 2) + kr K i 2) else if p = kr K i 0 then min (g (kr K i 0)) (g (kr K i 1) + kr K i 2) else g p := by
  have hr := ok_road ok hi
  unfold rlx
  by_cases h1 : p = kr K i 1
  · rw [if_pos h1, h1, va_up_self, va_up_self, va_up_ne _ _ (by omega)]
  · rw [if_neg h1, va_up_ne _ _ h1]
    by_cases h2 : p = kr K i 0
    · rw [if_pos h2, h2, va_up_self]
    · rw [if_neg h2, va_up_ne _ _ h2]
theorem rlx_mono (ok : KOK K) {i : Nat} (hi : i < kh K 2) (g : Nat → Nat) (p : Nat) : rlx K g i p ≤ g p := by
  rw [rlx_eq ok hi]
  by_cases h1 : p = kr K i 1
  · rw [if_pos h1, h1]; omega
  · rw [if_neg h1]
    by_cases h2 : p = kr K i 0
    · rw [if_pos h2, h2]; omega
    · rw [if_neg h2]; exact Nat.le_refl _
def GB (K : KD) (t : Nat) (g : Nat → Nat) : Prop := g t = 0 ∧ (∀ p, g p ≤ 1000000) ∧ (∀ p, g p < 1000000 → ∃ n, Wlk K n p t (g p))
theorem Wlk_cons {n a c b w l : Nat} (h : Eg K a c w) (h2 : Wlk K n c b l) : Wlk K (n + 1) a b (l + w) := ⟨c, w, l, h, h2, by omega⟩
theorem GB_s (ok : KOK K) {t i : Nat} {g : Nat → Nat} (hi : i < kh K 2) (h : GB K t g) : GB K t (rlx K g i) := by
  obtain ⟨h1, h2, h3⟩ := h
  have hm := rlx_mono ok hi g
  have hr := ok_road ok hi
  have e01 : Eg K (kr K i 0) (kr K i 1) (kr K i 2) := ⟨i, hi, by rw [btw_iff]; omega, rfl⟩
  have s0 : min (g (kr K i 0)) (g (kr K i 1) + kr K i 2) < 1000000 → ∃ n, Wlk K n (kr K i 0) t (min (g (kr K i 0)) (g (kr K i 1) + kr K i 2)) := by
    intro q
    by_cases c : g (kr K i 0) ≤ g (kr K i 1) + kr K i 2
    · rw [Nat.min_eq_left c] at q ⊢
      exact h3 _ q
    · rw [Nat.min_eq_right (by omega)] at q ⊢
      obtain ⟨n, hn⟩ := h3 (kr K i 1) (by omega)
      exact ⟨n + 1, Wlk_cons e01 hn⟩
  refine ⟨by have := hm t; omega, fun p => Nat.le_trans (hm p) (h2 p), fun p q => ?_⟩
  rw [rlx_eq ok hi] at q ⊢
  by_cases c1 : p = kr K i 1
  · rw [if_pos c1] at q ⊢
    rw [c1]
    by_cases c : g (kr K i 1) ≤ min (g (kr K i 0)) (g (kr K i 1) + kr K i 2) + kr K i 2
    · rw [Nat.min_eq_left c] at q ⊢
      exact h3 _ q
    · rw [Nat.min_eq_right (by omega)] at q ⊢
      obtain ⟨n, hn⟩ := s0 (by omega)
      exact ⟨n + 1, Wlk_cons (Eg_sym e01) hn⟩
  · rw [if_neg c1] at q ⊢
    by_cases c2 : p = kr K i 0
    · rw [if_pos c2] at q ⊢
      rw [c2]
      exact s0 q
    · rw [if_neg c2] at q ⊢
      exact h3 p q
/-- a round: all that is kept, what falls, and each road is passed -/
theorem round_g (ok : KOK K) {t : Nat} : ∀ (n i : Nat) (g : Nat → Nat), i + n = kh K 2 → GB K t g → GB K t (fld (rlx K) n i g) ∧ (∀ p, fld (rlx K) n i g p ≤ g p) ∧ (∀ j, i ≤ j → j < kh K 2 → fld (rlx K) n i g (kr K j 0) ≤ g (kr K j 1) + kr K j 2 ∧ fld (rlx K) n i g (kr K j 1) ≤ g (kr K j 0) + kr K j 2)
  | 0, i, g, h, hg => ⟨hg, fun p => Nat.le_refl _, fun j h1 h2 => by omega⟩
  | n + 1, i, g, h, hg => by
    have hi : i < kh K 2 := by omega
    obtain ⟨r1, r2, r3⟩ := round_g ok n (i + 1) (rlx K g i) (by omega) (GB_s ok hi hg)
    have hm := rlx_mono ok hi g
    have hr := ok_road ok hi
    refine ⟨r1, fun p => Nat.le_trans (r2 p) (hm p), fun j h1 h2 => ?_⟩
    show fld (rlx K) n (i + 1) (rlx K g i) (kr K j 0) ≤ _ ∧ fld (rlx K) n (i + 1) (rlx K g i) (kr K j 1) ≤ _
    by_cases e : j = i
    · subst e
      have q0 := r2 (kr K j 0)
      have q1 := r2 (kr K j 1)
      rw [rlx_eq ok hi, if_neg (by omega), if_pos rfl] at q0
      rw [rlx_eq ok hi, if_pos rfl] at q1
      omega
    · obtain ⟨s1, s2⟩ := r3 j (by omega) h2
      have m0 := hm (kr K j 0)
      have m1 := hm (kr K j 1)
      omega
theorem bfR_g (ok : KOK K) {t : Nat} {g : Nat → Nat} (hg : GB K t g) : GB K t (bfR K g) ∧ (∀ p, bfR K g p ≤ g p) ∧ (∀ a b w, Eg K a b w → bfR K g a ≤ g b + w) := by
  obtain ⟨r1, r2, r3⟩ := round_g ok (kh K 2) 0 g (by omega) hg
  refine ⟨r1, r2, fun a b w e => ?_⟩
  obtain ⟨i, hi, hb, rfl⟩ := e
  obtain ⟨s1, s2⟩ := r3 i (by omega) hi
  rw [btw_iff] at hb
  rcases hb with ⟨rfl, rfl⟩ | ⟨rfl, rfl⟩
  · exact s1
  · exact s2
def cn (P : Nat → Bool) : Nat → Nat
  | 0 => 0
  | n + 1 => cn P n + (P n).toNat
theorem cn_le {P Q : Nat → Bool} : ∀ n, (∀ q, q < n → P q = true → Q q = true) → cn P n ≤ cn Q n
  | 0, _ => Nat.le_refl _
  | n + 1, h => by
    have h1 := cn_le n (fun q hq => h q (by omega))
    have h2 := h n (by omega)
    unfold cn
    cases hp : P n with
    | false => rw [show false.toNat = 0 from rfl]; omega
    | true => rw [h2 hp]; omega
theorem cn_lt {P Q : Nat → Bool} : ∀ n, (∀ q, q < n → P q = true → Q q = true) → (∃ q, q < n ∧ P q = false ∧ Q q = true) → cn P n < cn Q n
  | 0, _, h => by obtain ⟨q, h1, _⟩ := h; omega
  | n + 1, h, e => by
    obtain ⟨q, h1, h2, h3⟩ := e
    have a1 := cn_le n (P := P) (Q := Q) (fun q hq => h q (by omega))
    unfold cn
    by_cases c : q = n
    · subst c
      rw [h2, h3, show false.toNat = 0 from rfl, show true.toNat = 1 from rfl]
      omega
    · have a2 := cn_lt n (P := P) (Q := Q) (fun q hq => h q (by omega)) ⟨q, by omega, h2, h3⟩
      have a3 := h n (by omega)
      cases hp : P n with
      | false => rw [show false.toNat = 0 from rfl]; omega
      | true => rw [a3 hp]; omega
theorem cn_all : ∀ n, cn (fun _ => true) n = n
  | 0 => rfl
  | n + 1 => by
    unfold cn
    rw [cn_all n]
    rfl
def rnk (K : KD) (t p : Nat) : Nat := cn (fun q => decide (distK K q t < distK K p t)) (kh K 0)
theorem rnk_lt {t p : Nat} (hp : p < kh K 0) : rnk K t p < kh K 0 := by
  have := cn_lt (P := fun q => decide (distK K q t < distK K p t)) (Q := fun _ => true) (kh K 0) (fun _ _ _ => rfl) ⟨p, hp, decide_eq_false (by omega), rfl⟩
  rw [cn_all] at this
  exact this
theorem rnk_s {t p c : Nat} (hc : c < kh K 0) (h : distK K c t < distK K p t) : rnk K t c < rnk K t p := by
  refine cn_lt (kh K 0) (fun q _ hq => ?_) ⟨c, hc, decide_eq_false (by omega), decide_eq_true h⟩
  have := of_decide_eq_true hq
  exact decide_eq_true (by omega)
theorem bf_g (ok : KOK K) {t : Nat} : ∀ n, GB K t (bf K t n) ∧ ∀ p, p < kh K 0 → distK K p t < 1000000 → rnk K t p ≤ n → bf K t n p ≤ distK K p t
  | 0 => by
    refine ⟨⟨if_pos rfl, fun p => ?_, fun p q => ?_⟩, fun p hp hd hr => ?_⟩
    · show (if p = t then 0 else 1000000) ≤ _
      by_cases e : p = t
      · rw [if_pos e]; omega
      · rw [if_neg e]; exact Nat.le_refl _
    · have q' : (if p = t then 0 else 1000000) < 1000000 := q
      show ∃ n, Wlk K n p t (if p = t then 0 else 1000000)
      by_cases e : p = t
      · rw [if_pos e]; exact ⟨0, e, rfl⟩
      · rw [if_neg e] at q'; omega
    · by_cases e : p = t
      · show (if p = t then 0 else 1000000) ≤ _
        rw [if_pos e]; omega
      · obtain ⟨c, w, h1, h2⟩ := dist_step ok hd e
        have hb := Eg_b ok h1
        have := rnk_s (t := t) (p := p) hb.2.1 (by omega)
        omega
  | n + 1 => by
    obtain ⟨g1, g2⟩ := bf_g ok (t := t) n
    have e : bf K t (n + 1) = bfR K (bf K t n) := fld_s n 0 _
    rw [e]
    obtain ⟨r1, r2, r3⟩ := bfR_g ok g1
    refine ⟨r1, fun p hp hd hr => ?_⟩
    by_cases e : p = t
    · rw [e, r1.1]; omega
    · obtain ⟨c, w, h1, h2⟩ := dist_step ok hd e
      have hb := Eg_b ok h1
      have h3 := rnk_s (t := t) (p := p) hb.2.1 (by omega)
      have h4 := g2 c hb.2.1 (by omega) (by omega)
      have h5 := r3 p c w h1
      omega
theorem bf_dist (ok : KOK K) {t p : Nat} (hp : p < kh K 0) : bf K t (kh K 0) p = distK K p t := by
  obtain ⟨g1, g2⟩ := bf_g ok (t := t) (kh K 0)
  have h1 := g1.2.1 p
  have h2 := dist_le ok p t
  have h3 := rnk_lt (t := t) hp
  have h4 : bf K t (kh K 0) p < 1000000 → distK K p t ≤ bf K t (kh K 0) p := fun q => by
    obtain ⟨n, hn⟩ := g1.2.2 p q
    exact dist_wlk ok n hn
  have h5 := g2 p hp
  omega
end DST
end
section
/-! reckonRoads. -/
theorem n_min {x y : Nat} (hx : x < 2 ^ 31) (hy : y < 2 ^ 31) : (if nI y < nI x then nI y else nI x) = nI (min x y) := by
  by_cases h : y < x
  · rw [if_pos ((nI_ltI hy hx).mpr h), Nat.min_eq_right (by omega)]
  · rw [if_neg (fun q => h ((nI_ltI hy hx).mp q)), Nat.min_eq_left (by omega)]
theorem n_max {x y : Nat} (hx : x < 2 ^ 31) (hy : y < 2 ^ 31) : (if nI x < nI y then nI y else nI x) = nI (max x y) := by
  by_cases h : x < y
  · rw [if_pos ((nI_ltI hx hy).mpr h), Nat.max_eq_right (by omega)]
  · rw [if_neg (fun q => h ((nI_ltI hx hy).mp q)), Nat.max_eq_left (by omega)]
def DC (f : Nat → Int32) (K : KD) (D : Nat → Nat → Nat) : Prop := ∀ x y, x < kh K 0 → y < kh K 0 → f (7 * x + y) = nI (D x y)
def I1 (f : Nat → Int32) (K : KD) (a b : Nat) : Prop := ∀ x y, y < kh K 0 → (x < a ∨ (x = a ∧ y < b)) → f (7 * x + y) = nI (D0 K x y)
theorem I1_s {f : Nat → Int32} {K : KD} {a b : Nat} {v : Int32} (h0 : kh K 0 ≤ 7) (hb : b < kh K 0) (h : I1 f K a b) (hv : v = nI (D0 K a b)) : I1 (upd f (7 * a + b) v) K a (b + 1) := by
  intro x y hy hx
  by_cases e : x = a ∧ y = b
  · obtain ⟨rfl, rfl⟩ := e
    rw [pk_us, hv]
  · rw [pk_un (by omega)]
    exact h x y hy (by omega)
def I2 (f : Nat → Int32) (K : KD) (D : Nat → Nat → Nat) (k a b : Nat) : Prop := ∀ x y, x < kh K 0 → y < kh K 0 → f (7 * x + y) = nI (if x < a ∨ (x = a ∧ y < b) then ph k D x y else D x y)
theorem I2_s {f : Nat → Int32} {K : KD} {D : Nat → Nat → Nat} {k a b : Nat} {v : Int32} (h0 : kh K 0 ≤ 7) (hb : b < kh K 0) (h : I2 f K D k a b) (hv : v = nI (ph k D a b)) : I2 (upd f (7 * a + b) v) K D k a (b + 1) := by
  intro x y hx hy
  by_cases e : x = a ∧ y = b
  · obtain ⟨rfl, rfl⟩ := e
    rw [pk_us, if_pos (by omega), hv]
  · rw [pk_un (by omega), h x y hx hy]
    by_cases q : x < a ∨ (x = a ∧ y < b)
    · rw [if_pos q, if_pos (by omega)]
    · rw [if_neg q, if_neg (by omega)]
theorem I2_g {f : Nat → Int32} {K : KD} {D : Nat → Nat → Nat} {k a b x y : Nat} (hk : D k k = 0) (hx : x < kh K 0) (hy : y < kh K 0) (h : I2 f K D k a b) (e : x = k ∨ y = k) : f (7 * x + y) = nI (D x y) := by
  rw [h x y hx hy]
  have : ph k D x y = D x y := by
    show min (D x y) (D x k + D k y) = D x y
    rcases e with rfl | rfl <;> rw [hk] <;> omega
  by_cases q : x < a ∨ (x = a ∧ y < b)
  · rw [if_pos q, this]
  · rw [if_neg q]
section RR
variable {d : Nat} {M : AM} {r : Nat} {ρ : RC} {K : KD} {Q : Option Value → AM → Prop}
theorem rep_d {f : Nat → Int32} (h : RepC ρ K) : RepC (dset ρ f) K := h

theorem k_rr_b (hK : RepC ρ K) (ok : KOK K) (h32 : 32 ≤ r) {a : Nat} (ha : a < kh K 0) : ∀ (n b : Nat) (f : Nat → Int32) (z3 z4 : Option Value), b + n = kh K 0 → I1 f K a b → (∀ f' z3' z4', I1 f' K a (kh K 0) → Wp (d + 1) md_31 69 [some (.ref r), some (.int (nI a)), some (.int (nI (kh K 0))), z3', z4'] [] (rset M r (dset ρ f')) Q) → Wp (d + 1) md_31 12 [some (.ref r), some (.int (nI a)), some (.int (nI b)), z3, z4] [] (rset M r (dset ρ f)) Q := by
  intro n
  obtain ⟨b0, b1, b2, b3, b4, b5, b6, b7, b8, b9, b10, b11, b12⟩ := ok_h ok
  induction n with
  | zero =>
    intro b f z3 z4 hb hI k
    refine Wp.n (pc' := 14) 2 rfl ?_
    refine Wp.get (len := 3) rfl (rs_obj) rfl ?_
    refine Wp.top (rc_pl hK) ?_
    refine Wp.nc3 (x := b) (y := kh K 0) (tgt := 69) (len := 3) rfl (by omega) (by omega) (fun h17 => ?_) (fun h17 => ?_)
    · skip
      have e : b = kh K 0 := by omega
      rw [e] at hI ⊢
      exact k f z3 z4 hI
    · omega
  | succ n ih =>
    intro b f z3 z4 hb hI k
    have hD : D0 K a b = if a = b then 0 else match roadK K a b with
      | none => 1000000
      | some i => kr K i 2 := rfl
    refine Wp.n (pc' := 14) 2 rfl ?_
    refine Wp.get (len := 3) rfl (rs_obj) rfl ?_
    refine Wp.top (rc_pl hK) ?_
    refine Wp.nc3 (x := b) (y := kh K 0) (tgt := 69) (len := 3) rfl (by omega) (by omega) (fun h17 => ?_) (fun h17 => ?_)
    · omega
    · skip
      refine Wp.n (pc' := 23) 3 rfl ?_
      refine Wp.ecallV (len := 3) rfl rfl rfl (rs_obj) rfl h32 rfl (k_roadOf rset_ra (rep_d hK) ok (by omega) (by omega)) ?_
      rcases hrd : roadK K a b with _ | i
      · rw [hrd] at hD
        refine Wp.n (pc' := 28) 2 rfl ?_
        refine Wp.s (pc' := 31) rfl ?_
        refine Wp.n (pc' := 43) 4 rfl ?_
        refine Wp.get (len := 3) rfl (rs_obj) rfl ?_
        refine Wp.n (pc' := 48) 2 rfl ?_
        refine Wp.ecallS (len := 3) rfl rfl rfl rfl (c_pairOf _ _) ?_
        refine Wp.n (pc' := 53) 2 rfl ?_
        refine Wp.nc1 (x := a) (y := b) (tgt := 60) (len := 3) rfl (by omega) (by omega) (fun h53 => ?_) (fun h53 => ?_)
        · skip
          refine Wp.n (pc' := 62) 1 rfl ?_
          refine Wp.iastN (j := 7 * a + b) (len := 1) rfl rs_dist (by omega) (by decide) ?_
          rw [ru_dist]
          refine Wp.incN (x := b) (len := 3) rfl rfl ?_
          refine Wp.n (pc' := 12) 1 rfl ?_
          refine ih (b + 1) _ _ _ (by omega) (I1_s b0 (by omega) hI ?_) k
          rw [hD]
          first | rw [if_pos (by omega)] | rw [if_neg (by omega)]
          try rfl
        · skip
          refine Wp.n (pc' := 62) 2 rfl ?_
          refine Wp.iastN (j := 7 * a + b) (len := 1) rfl rs_dist (by omega) (by decide) ?_
          rw [ru_dist]
          refine Wp.incN (x := b) (len := 3) rfl rfl ?_
          refine Wp.n (pc' := 12) 1 rfl ?_
          refine ih (b + 1) _ _ _ (by omega) (I1_s b0 (by omega) hI ?_) k
          rw [hD]
          first | rw [if_pos (by omega)] | rw [if_neg (by omega)]
          try rfl
      · rw [hrd] at hD
        have hi := (roadK_v hrd).1
        refine Wp.n (pc' := 28) 2 rfl ?_
        refine Wp.s (pc' := 36) rfl ?_
        refine Wp.n (pc' := 37) 1 rfl ?_
        refine Wp.get (len := 3) rfl (rs_road (by omega)) rfl ?_
        refine Wp.top (rc_road hK hi).2.2.1 ?_
        refine Wp.n (pc' := 43) 2 rfl ?_
        refine Wp.get (len := 3) rfl (rs_obj) rfl ?_
        refine Wp.n (pc' := 48) 2 rfl ?_
        refine Wp.ecallS (len := 3) rfl rfl rfl rfl (c_pairOf _ _) ?_
        refine Wp.n (pc' := 53) 2 rfl ?_
        refine Wp.nc1 (x := a) (y := b) (tgt := 60) (len := 3) rfl (by omega) (by omega) (fun h53 => ?_) (fun h53 => ?_)
        · skip
          refine Wp.n (pc' := 62) 1 rfl ?_
          refine Wp.iastN (j := 7 * a + b) (len := 1) rfl rs_dist (by omega) (by decide) ?_
          rw [ru_dist]
          refine Wp.incN (x := b) (len := 3) rfl rfl ?_
          refine Wp.n (pc' := 12) 1 rfl ?_
          refine ih (b + 1) _ _ _ (by omega) (I1_s b0 (by omega) hI ?_) k
          rw [hD]
          first | rw [if_pos (by omega)] | rw [if_neg (by omega)]
          try rfl
        · skip
          refine Wp.n (pc' := 62) 2 rfl ?_
          refine Wp.iastN (j := 7 * a + b) (len := 1) rfl rs_dist (by omega) (by decide) ?_
          rw [ru_dist]
          refine Wp.incN (x := b) (len := 3) rfl rfl ?_
          refine Wp.n (pc' := 12) 1 rfl ?_
          refine ih (b + 1) _ _ _ (by omega) (I1_s b0 (by omega) hI ?_) k
          rw [hD]
          first | rw [if_pos (by omega)] | rw [if_neg (by omega)]
          try rfl

theorem k_rr_a (hK : RepC ρ K) (ok : KOK K) (h32 : 32 ≤ r) : ∀ (n a : Nat) (f : Nat → Int32) (z2 z3 z4 : Option Value), a + n = kh K 0 → I1 f K a 0 → (∀ f' z2' z3' z4', DC f' K (D0 K) → Wp (d + 1) md_31 75 [some (.ref r), some (.int (nI (kh K 0))), z2', z3', z4'] [] (rset M r (dset ρ f')) Q) → Wp (d + 1) md_31 2 [some (.ref r), some (.int (nI a)), z2, z3, z4] [] (rset M r (dset ρ f)) Q := by
  intro n
  obtain ⟨b0, b1, b2, b3, b4, b5, b6, b7, b8, b9, b10, b11, b12⟩ := ok_h ok
  induction n with
  | zero =>
    intro a f z2 z3 z4 ha hI k
    refine Wp.n (pc' := 4) 2 rfl ?_
    refine Wp.get (len := 3) rfl (rs_obj) rfl ?_
    refine Wp.top (rc_pl hK) ?_
    refine Wp.nc3 (x := a) (y := kh K 0) (tgt := 75) (len := 3) rfl (by omega) (by omega) (fun h7 => ?_) (fun h7 => ?_)
    · skip
      have e : a = kh K 0 := by omega
      rw [e] at hI ⊢
      exact k f z2 z3 z4 (fun x y hx hy => hI x y hy (by omega))
    · omega
  | succ n ih =>
    intro a f z2 z3 z4 ha hI k
    refine Wp.n (pc' := 4) 2 rfl ?_
    refine Wp.get (len := 3) rfl (rs_obj) rfl ?_
    refine Wp.top (rc_pl hK) ?_
    refine Wp.nc3 (x := a) (y := kh K 0) (tgt := 75) (len := 3) rfl (by omega) (by omega) (fun h7 => ?_) (fun h7 => ?_)
    · omega
    · skip
      refine Wp.n (pc' := 12) 2 rfl ?_
      refine k_rr_b hK ok h32 (by omega) (kh K 0) 0 f _ _ (by omega) hI (fun f' z3' z4' hI' => ?_)
      refine Wp.incN (x := a) (len := 3) rfl rfl ?_
      refine Wp.n (pc' := 2) 1 rfl ?_
      exact ih (a + 1) f' _ _ _ (by omega) (fun x y hy hx => hI' x y hy (by omega)) k
      

theorem k_rr_c (hK : RepC ρ K) (ok : KOK K) (h32 : 32 ≤ r) {D : Nat → Nat → Nat} (hD : ∀ a b, D a b ≤ 1000000) {k a : Nat} (hk0 : D k k = 0) (hk : k < kh K 0) (ha : a < kh K 0) : ∀ (n b : Nat) (f : Nat → Int32) (z4 : Option Value), b + n = kh K 0 → I2 f K D k a b → (∀ f' z4', I2 f' K D k a (kh K 0) → Wp (d + 8) md_31 159 [some (.ref r), some (.int (nI k)), some (.int (nI a)), some (.int (nI (kh K 0))), z4'] [] (rset M r (dset ρ f')) Q) → Wp (d + 8) md_31 97 [some (.ref r), some (.int (nI k)), some (.int (nI a)), some (.int (nI b)), z4] [] (rset M r (dset ρ f)) Q := by
  intro n
  obtain ⟨b0, b1, b2, b3, b4, b5, b6, b7, b8, b9, b10, b11, b12⟩ := ok_h ok
  induction n with
  | zero =>
    intro b f z4 hb hI kk
    refine Wp.n (pc' := 99) 2 rfl ?_
    refine Wp.get (len := 3) rfl (rs_obj) rfl ?_
    refine Wp.top (rc_pl hK) ?_
    refine Wp.nc3 (x := b) (y := kh K 0) (tgt := 159) (len := 3) rfl (by omega) (by omega) (fun h102 => ?_) (fun h102 => ?_)
    · skip
      have e : b = kh K 0 := by omega
      rw [e] at hI ⊢
      exact kk f z4 hI
    · omega
  | succ n ih =>
    intro b f z4 hb hI kk
    have e1 : f (7 * a + k) = nI (D a k) := I2_g hk0 ha hk hI (Or.inr rfl)
    have e2 : f (7 * k + b) = nI (D k b) := I2_g hk0 hk (by omega) hI (Or.inl rfl)
    have e3 : f (7 * a + b) = nI (D a b) := by rw [hI a b ha (by omega), if_neg (by omega)]
    have d1 := hD a k
    have d2 := hD k b
    have d3 := hD a b
    refine Wp.n (pc' := 99) 2 rfl ?_
    refine Wp.get (len := 3) rfl (rs_obj) rfl ?_
    refine Wp.top (rc_pl hK) ?_
    refine Wp.nc3 (x := b) (y := kh K 0) (tgt := 159) (len := 3) rfl (by omega) (by omega) (fun h102 => ?_) (fun h102 => ?_)
    · omega
    · skip
      refine Wp.n (pc' := 106) 1 rfl ?_
      refine Wp.get (len := 3) rfl (rs_obj) rfl ?_
      refine Wp.n (pc' := 111) 2 rfl ?_
      refine Wp.ecallS (len := 3) rfl rfl rfl rfl (c_pairOf _ _) ?_
      refine Wp.ialdN (j := 7 * a + k) (len := 1) rfl (rs_dist) rfl (by omega) (by decide) ?_
      refine Wp.top e1 ?_
      refine Wp.n (pc' := 116) 1 rfl ?_
      refine Wp.get (len := 3) rfl (rs_obj) rfl ?_
      refine Wp.n (pc' := 121) 2 rfl ?_
      refine Wp.ecallS (len := 3) rfl rfl rfl rfl (c_pairOf _ _) ?_
      refine Wp.ialdN (j := 7 * k + b) (len := 1) rfl (rs_dist) rfl (by omega) (by decide) ?_
      refine Wp.top e2 ?_
      refine Wp.iaddN (x := D a k) (y := D k b) (len := 1) rfl ?_
      refine Wp.n (pc' := 129) 2 rfl ?_
      refine Wp.get (len := 3) rfl (rs_obj) rfl ?_
      refine Wp.n (pc' := 134) 2 rfl ?_
      refine Wp.ecallS (len := 3) rfl rfl rfl rfl (c_pairOf _ _) ?_
      refine Wp.n (pc' := 138) 1 rfl ?_
      refine Wp.get (len := 3) rfl (rs_obj) rfl ?_
      refine Wp.n (pc' := 143) 2 rfl ?_
      refine Wp.ecallS (len := 3) rfl rfl rfl rfl (c_pairOf _ _) ?_
      refine Wp.ialdN (j := 7 * a + b) (len := 1) rfl (rs_dist) rfl (by omega) (by decide) ?_
      refine Wp.top e3 ?_
      refine Wp.n (pc' := 149) 1 rfl ?_
      refine Wp.bi (len := 3) rfl (by decide) rfl (by omega) ?_
      refine Wp.top (n_min (by omega) (by omega)) ?_
      refine Wp.iastN (j := 7 * a + b) (len := 1) rfl rs_dist (by omega) (by decide) ?_
      rw [ru_dist]
      refine Wp.incN (x := b) (len := 3) rfl rfl ?_
      refine Wp.n (pc' := 97) 1 rfl ?_
      exact ih (b + 1) _ _ (by omega) (I2_s b0 (by omega) hI rfl) kk

theorem k_rr_d (hK : RepC ρ K) (ok : KOK K) (h32 : 32 ≤ r) {D : Nat → Nat → Nat} (hD : ∀ a b, D a b ≤ 1000000) {k : Nat} (hk0 : D k k = 0) (hk : k < kh K 0) : ∀ (n a : Nat) (f : Nat → Int32) (z3 z4 : Option Value), a + n = kh K 0 → I2 f K D k a 0 → (∀ f' z3' z4', DC f' K (ph k D) → Wp (d + 8) md_31 165 [some (.ref r), some (.int (nI k)), some (.int (nI (kh K 0))), z3', z4'] [] (rset M r (dset ρ f')) Q) → Wp (d + 8) md_31 87 [some (.ref r), some (.int (nI k)), some (.int (nI a)), z3, z4] [] (rset M r (dset ρ f)) Q := by
  intro n
  obtain ⟨b0, b1, b2, b3, b4, b5, b6, b7, b8, b9, b10, b11, b12⟩ := ok_h ok
  induction n with
  | zero =>
    intro a f z3 z4 ha hI kk
    refine Wp.n (pc' := 89) 2 rfl ?_
    refine Wp.get (len := 3) rfl (rs_obj) rfl ?_
    refine Wp.top (rc_pl hK) ?_
    refine Wp.nc3 (x := a) (y := kh K 0) (tgt := 165) (len := 3) rfl (by omega) (by omega) (fun h92 => ?_) (fun h92 => ?_)
    · skip
      have e : a = kh K 0 := by omega
      rw [e] at hI ⊢
      exact kk f z3 z4 (fun x y hx hy => by rw [hI x y hx hy, if_pos (by omega)])
    · omega
  | succ n ih =>
    intro a f z3 z4 ha hI kk
    refine Wp.n (pc' := 89) 2 rfl ?_
    refine Wp.get (len := 3) rfl (rs_obj) rfl ?_
    refine Wp.top (rc_pl hK) ?_
    refine Wp.nc3 (x := a) (y := kh K 0) (tgt := 165) (len := 3) rfl (by omega) (by omega) (fun h92 => ?_) (fun h92 => ?_)
    · omega
    · skip
      refine Wp.n (pc' := 97) 2 rfl ?_
      refine k_rr_c hK ok h32 hD hk0 hk (by omega) (kh K 0) 0 f _ (by omega) hI (fun f' z4' hI' => ?_)
      refine Wp.incN (x := a) (len := 3) rfl rfl ?_
      refine Wp.n (pc' := 87) 1 rfl ?_
      refine ih (a + 1) f' _ _ (by omega) (fun x y hx hy => ?_) kk
      rw [hI' x y hx hy]
      by_cases q : x < a ∨ (x = a ∧ y < kh K 0)
      · rw [if_pos q, if_pos (by omega)]
      · rw [if_neg q, if_neg (by omega)]
      

theorem k_rr_e (hK : RepC ρ K) (ok : KOK K) (h32 : 32 ≤ r) : ∀ (n k : Nat) (f : Nat → Int32) (z2 z3 z4 : Option Value), k + n = kh K 0 → DC f K (fld (fun D k => ph k D) k 0 (D0 K)) → (∀ f' z2' z3' z4', DC f' K (distK K) → Wp (d + 8) md_31 171 [some (.ref r), some (.int (nI (kh K 0))), z2', z3', z4'] [] (rset M r (dset ρ f')) Q) → Wp (d + 8) md_31 77 [some (.ref r), some (.int (nI k)), z2, z3, z4] [] (rset M r (dset ρ f)) Q := by
  intro n
  obtain ⟨b0, b1, b2, b3, b4, b5, b6, b7, b8, b9, b10, b11, b12⟩ := ok_h ok
  induction n with
  | zero =>
    intro k f z2 z3 z4 hk hI kk
    refine Wp.n (pc' := 79) 2 rfl ?_
    refine Wp.get (len := 3) rfl (rs_obj) rfl ?_
    refine Wp.top (rc_pl hK) ?_
    refine Wp.nc3 (x := k) (y := kh K 0) (tgt := 171) (len := 3) rfl (by omega) (by omega) (fun h82 => ?_) (fun h82 => ?_)
    · skip
      have e : k = kh K 0 := by omega
      rw [e] at hI ⊢
      exact kk f z2 z3 z4 hI
    · omega
  | succ n ih =>
    intro k f z2 z3 z4 hk hI kk
    have g := GD_all ok k
    refine Wp.n (pc' := 79) 2 rfl ?_
    refine Wp.get (len := 3) rfl (rs_obj) rfl ?_
    refine Wp.top (rc_pl hK) ?_
    refine Wp.nc3 (x := k) (y := kh K 0) (tgt := 171) (len := 3) rfl (by omega) (by omega) (fun h82 => ?_) (fun h82 => ?_)
    · omega
    · skip
      refine Wp.n (pc' := 87) 2 rfl ?_
      refine k_rr_d hK ok h32 g.2.2.2.1 (g.1 k) (by omega) (kh K 0) 0 f _ _ (by omega) (fun x y hx hy => by rw [hI x y hx hy, if_neg (by omega)]) (fun f' z3' z4' hI' => ?_)
      refine Wp.incN (x := k) (len := 3) rfl rfl ?_
      refine Wp.n (pc' := 77) 1 rfl ?_
      refine ih (k + 1) f' _ _ _ (by omega) ?_ kk
      rw [fld_s, Nat.zero_add]
      exact hI'
      

theorem k_reckonRoads (hK : RepC ρ K) (ok : KOK K) (h32 : 32 ≤ r) (hR : RA M r ρ) : Wp (d + 8) md_31 0 [some (.ref r), none, none, none, none] [] M (fun v M' => v = none ∧ ∃ f, M' = rset M r (dset ρ f) ∧ DC f K (distK K)) := by
  obtain ⟨b0, b1, b2, b3, b4, b5, b6, b7, b8, b9, b10, b11, b12⟩ := ok_h ok
  refine Wp.n (pc' := 2) 2 rfl ?_
  have e : M = rset M r (dset ρ (rds ρ)) := (show rset M r ρ = M from hR).symm
  have w := k_rr_a (d := d + 7) (M := M) (Q := fun v M' => v = none ∧ ∃ f, M' = rset M r (dset ρ f) ∧ DC f K (distK K)) hK ok h32 (kh K 0) 0 (rds ρ) none none none (by omega) (fun x y hy hx => by omega) (fun f z2 z3 z4 h0 => by
    refine Wp.n (pc' := 77) 2 rfl ?_
    exact k_rr_e hK ok h32 (kh K 0) 0 f _ _ _ (by omega) h0 (fun f' z2' z3' z4' hI => Wp.retV (len := 1) rfl rfl ⟨rfl, f', rfl, hI⟩))
  rw [← e] at w
  exact w
end RR
end
section
/-! laysFar, byRoad. -/
theorem aset_get {σ : MS} {k : Nat} {f : Nat → Int32} : (aset σ k f).2.2.1 k = f := va_up_self _ _ _
theorem aset_aset {σ : MS} {k : Nat} {f g : Nat → Int32} : aset (aset σ k f) k g = aset σ k g := by
  unfold aset
  have : va_up (va_up σ.2.2.1 k f) k g = va_up σ.2.2.1 k g := by
    funext j
    by_cases h : j = k
    · rw [h, va_up_self, va_up_self]
    · rw [va_up_ne _ _ h, va_up_ne _ _ h, va_up_ne _ _ h]
  rw [this]
theorem aset_same {σ : MS} {k : Nat} : aset σ k (σ.2.2.1 k) = σ := by
  unfold aset
  have : va_up σ.2.2.1 k (σ.2.2.1 k) = σ.2.2.1 := by
    funext j
    by_cases h : j = k
    · rw [h, va_up_self]
    · rw [va_up_ne _ _ h]
  rw [this]
def FR (h : Nat → Int32) (g : Nat → Nat) : Prop := ∀ p, p < 7 → h p = nI (g p)
theorem FR_up {h : Nat → Int32} {g : Nat → Nat} {a v : Nat} {x : Int32} (hh : FR h g) (hx : x = nI v) : FR (upd h a x) (va_up g a v) := by
  intro p hp
  by_cases e : p = a
  · rw [e, pk_us, va_up_self, hx]
  · rw [pk_un e, va_up_ne _ _ e, hh p hp]
def dI (n : Nat) : Int32 := if n < 1000000 then nI n else -1
section FAR
variable {d : Nat} {M : AM} {σ : MS} {K : KD} {Q : Option Value → AM → Prop}

theorem m_lf_i {t : Nat} (ht : t < 7) : ∀ (n p : Nat) (h : Nat → Int32), p + n = 7 → (∀ q, q < p → h q = nI (bfI t q)) → (∀ h', FR h' (bfI t) → Wp d md_189 31 [some (.ref 287), some (.int (nI t)), some (.int (nI 7)), none, none, none] [] (mset M (aset σ 13 h')) Q) → Wp d md_189 2 [some (.ref 287), some (.int (nI t)), some (.int (nI p)), none, none, none] [] (mset M (aset σ 13 h)) Q := by
  intro n
  induction n with
  | zero =>
    intro p h hp hh k
    refine Wp.n (pc' := 5) 2 rfl ?_
    refine Wp.nc3 (x := p) (y := 7) (tgt := 31) (len := 3) rfl (by omega) (by omega) (fun h5 => ?_) (fun h5 => ?_)
    · skip
      have e : p = 7 := by omega
      subst e
      exact k h hh
    · omega
  | succ n ih =>
    intro p h hp hh k
    refine Wp.n (pc' := 5) 2 rfl ?_
    refine Wp.nc3 (x := p) (y := 7) (tgt := 31) (len := 3) rfl (by omega) (by omega) (fun h5 => ?_) (fun h5 => ?_)
    · omega
    · skip
      refine Wp.n (pc' := 15) 5 rfl ?_
      refine Wp.nc1 (x := p) (y := t) (tgt := 22) (len := 3) rfl (by omega) (by omega) (fun h15 => ?_) (fun h15 => ?_)
      · skip
        refine Wp.n (pc' := 24) 1 rfl ?_
        refine Wp.miastN (j := p) (len := 1) rfl rfl rfl (by omega) ?_
        rw [aset_get, aset_aset]
        refine Wp.incN (x := p) (len := 3) rfl rfl ?_
        refine Wp.n (pc' := 2) 1 rfl ?_
        refine ih (p + 1) _ (by omega) (fun q hq => ?_) k
        by_cases e : q = p
        · rw [e, pk_us]
          unfold bfI
          first | (rw [if_pos (by omega)]; rfl) | (rw [if_neg (by omega)]; rfl)
        · rw [pk_un e]
          exact hh q (by omega)
      · skip
        refine Wp.n (pc' := 24) 2 rfl ?_
        refine Wp.miastN (j := p) (len := 1) rfl rfl rfl (by omega) ?_
        rw [aset_get, aset_aset]
        refine Wp.incN (x := p) (len := 3) rfl rfl ?_
        refine Wp.n (pc' := 2) 1 rfl ?_
        refine ih (p + 1) _ (by omega) (fun q hq => ?_) k
        by_cases e : q = p
        · rw [e, pk_us]
          unfold bfI
          first | (rw [if_pos (by omega)]; rfl) | (rw [if_neg (by omega)]; rfl)
        · rw [pk_un e]
          exact hh q (by omega)

theorem m_lf_2 (hM : RepM σ 0 K) (ok : KOK K) {t r i : Nat} (hi : i < kh K 2) {h : Nat → Int32} {g : Nat → Nat} (hh : FR h g) (hg : ∀ p, g p ≤ 1000000) (k : ∀ h', FR h' (va_up g (kr K i 1) (min (g (kr K i 1)) (g (kr K i 0) + kr K i 2))) → Wp d md_189 203 [some (.ref 287), some (.int (nI t)), some (.int (nI r)), some (.int (nI i)), some (.int (nI (kr K i 0))), some (.int (nI (kr K i 1)))] [] (mset M (aset σ 13 h')) Q) : Wp d md_189 140 [some (.ref 287), some (.int (nI t)), some (.int (nI r)), some (.int (nI i)), some (.int (nI (kr K i 0))), some (.int (nI (kr K i 1)))] [] (mset M (aset σ 13 h)) Q := by
  obtain ⟨b0, b1, b2, b3, b4, b5, b6, b7, b8, b9, b10, b11, b12⟩ := ok_h ok
  have hr := ok_road ok hi
  have g0 := hg (kr K i 0)
  have g1 := hg (kr K i 1)
  have e2 := r0_road hM hi (j := 2) (q := 3 * i + 2) (by decide) (by omega)
  have f0 := hh (kr K i 0) (by omega)
  have f1 := hh (kr K i 1) (by omega)
  refine Wp.n (pc' := 152) 6 rfl ?_
  refine Wp.mialdN (j := kr K i 0) (len := 1) rfl rfl rfl (by omega) ?_
  refine Wp.top f0 ?_
  refine Wp.n (pc' := 159) 4 rfl ?_
  refine Wp.imulN (x := 3) (y := i) (len := 1) rfl ?_
  refine Wp.n (pc' := 161) 1 rfl ?_
  refine Wp.iaddN (x := 3 * i) (y := 2) (len := 1) rfl ?_
  refine Wp.mialdN (j := (3 * i) + 2) (len := 1) rfl rfl rfl (by omega) ?_
  refine Wp.top e2 ?_
  refine Wp.iaddN (x := g (kr K i 0)) (y := kr K i 2) (len := 1) rfl ?_
  refine Wp.n (pc' := 170) 3 rfl ?_
  refine Wp.mialdN (j := kr K i 1) (len := 1) rfl rfl rfl (by omega) ?_
  refine Wp.top f1 ?_
  refine Wp.nc3 (x := (g (kr K i 0)) + (kr K i 2)) (y := g (kr K i 1)) (tgt := 195) (len := 3) rfl (by omega) (by omega) (fun h171 => ?_) (fun h171 => ?_)
  · skip
    refine Wp.n (pc' := 201) 3 rfl ?_
    refine Wp.mialdN (j := kr K i 1) (len := 1) rfl rfl rfl (by omega) ?_
    refine Wp.top f1 ?_
    refine Wp.miastN (j := kr K i 1) (len := 1) rfl rfl rfl (by omega) ?_
    rw [aset_get, aset_aset]
    refine k _ (FR_up hh ?_)
    first | rw [Nat.min_eq_left (by omega)] | rw [Nat.min_eq_right (by omega)]
  · skip
    refine Wp.n (pc' := 180) 3 rfl ?_
    refine Wp.mialdN (j := kr K i 0) (len := 1) rfl rfl rfl (by omega) ?_
    refine Wp.top f0 ?_
    refine Wp.n (pc' := 187) 4 rfl ?_
    refine Wp.imulN (x := 3) (y := i) (len := 1) rfl ?_
    refine Wp.n (pc' := 189) 1 rfl ?_
    refine Wp.iaddN (x := 3 * i) (y := 2) (len := 1) rfl ?_
    refine Wp.mialdN (j := (3 * i) + 2) (len := 1) rfl rfl rfl (by omega) ?_
    refine Wp.top e2 ?_
    refine Wp.iaddN (x := g (kr K i 0)) (y := kr K i 2) (len := 1) rfl ?_
    refine Wp.n (pc' := 202) 1 rfl ?_
    refine Wp.miastN (j := kr K i 1) (len := 1) rfl rfl rfl (by omega) ?_
    rw [aset_get, aset_aset]
    refine k _ (FR_up hh ?_)
    first | rw [Nat.min_eq_left (by omega)] | rw [Nat.min_eq_right (by omega)]

theorem m_lf_k (hM : RepM σ 0 K) (ok : KOK K) {t r : Nat} : ∀ (n i : Nat) (h : Nat → Int32) (g : Nat → Nat) (z4 z5 : Option Value), i + n = kh K 2 → FR h g → (∀ p, g p ≤ 1000000) → (∀ h' z4' z5', FR h' (fld (rlx K) n i g) → Wp d md_189 209 [some (.ref 287), some (.int (nI t)), some (.int (nI r)), some (.int (nI (kh K 2))), z4', z5'] [] (mset M (aset σ 13 h')) Q) → Wp d md_189 45 [some (.ref 287), some (.int (nI t)), some (.int (nI r)), some (.int (nI i)), z4, z5] [] (mset M (aset σ 13 h)) Q := by
  intro n
  obtain ⟨b0, b1, b2, b3, b4, b5, b6, b7, b8, b9, b10, b11, b12⟩ := ok_h ok
  induction n with
  | zero =>
    intro i h g z4 z5 hi hh hg k
    refine Wp.n (pc' := 51) 4 rfl ?_
    refine Wp.mialdN (j := 2) (len := 1) rfl rfl rfl (by omega) ?_
    refine Wp.top (r0_has hM (by decide)) ?_
    refine Wp.nc3 (x := i) (y := kh K 2) (tgt := 209) (len := 3) rfl (by omega) (by omega) (fun h52 => ?_) (fun h52 => ?_)
    · skip
      have e : i = kh K 2 := by omega
      rw [e]
      exact k h z4 z5 hh
    · omega
  | succ n ih =>
    intro i h g z4 z5 hi hh hg k
    have hr := ok_road ok (i := i) (by omega)
    have g0 := hg (kr K i 0)
    have g1 := hg (kr K i 1)
    have q0 := r0_road hM (i := i) (by omega) (j := 0) (q := 3 * i) (by decide) (by omega)
    have q1 := r0_road hM (i := i) (by omega) (j := 1) (q := 3 * i + 1) (by decide) (by omega)
    have e2 := r0_road hM (i := i) (by omega) (j := 2) (q := 3 * i + 2) (by decide) (by omega)
    have f0 := hh (kr K i 0) (by omega)
    have f1 := hh (kr K i 1) (by omega)
    have hm := rlx_mono ok (i := i) (by omega) g
    refine Wp.n (pc' := 51) 4 rfl ?_
    refine Wp.mialdN (j := 2) (len := 1) rfl rfl rfl (by omega) ?_
    refine Wp.top (r0_has hM (by decide)) ?_
    refine Wp.nc3 (x := i) (y := kh K 2) (tgt := 209) (len := 3) rfl (by omega) (by omega) (fun h52 => ?_) (fun h52 => ?_)
    · omega
    · skip
      refine Wp.n (pc' := 61) 4 rfl ?_
      refine Wp.imulN (x := 3) (y := i) (len := 1) rfl ?_
      refine Wp.mialdN (j := 3 * i) (len := 1) rfl rfl rfl (by omega) ?_
      refine Wp.top q0 ?_
      refine Wp.n (pc' := 71) 5 rfl ?_
      refine Wp.imulN (x := 3) (y := i) (len := 1) rfl ?_
      refine Wp.n (pc' := 73) 1 rfl ?_
      refine Wp.iaddN (x := 3 * i) (y := 1) (len := 1) rfl ?_
      refine Wp.mialdN (j := (3 * i) + 1) (len := 1) rfl rfl rfl (by omega) ?_
      refine Wp.top q1 ?_
      refine Wp.n (pc' := 89) 7 rfl ?_
      refine Wp.mialdN (j := kr K i 1) (len := 1) rfl rfl rfl (by omega) ?_
      refine Wp.top f1 ?_
      refine Wp.n (pc' := 96) 4 rfl ?_
      refine Wp.imulN (x := 3) (y := i) (len := 1) rfl ?_
      refine Wp.n (pc' := 98) 1 rfl ?_
      refine Wp.iaddN (x := 3 * i) (y := 2) (len := 1) rfl ?_
      refine Wp.mialdN (j := (3 * i) + 2) (len := 1) rfl rfl rfl (by omega) ?_
      refine Wp.top e2 ?_
      refine Wp.iaddN (x := g (kr K i 1)) (y := kr K i 2) (len := 1) rfl ?_
      refine Wp.n (pc' := 107) 3 rfl ?_
      refine Wp.mialdN (j := kr K i 0) (len := 1) rfl rfl rfl (by omega) ?_
      refine Wp.top f0 ?_
      refine Wp.nc3 (x := (g (kr K i 1)) + (kr K i 2)) (y := g (kr K i 0)) (tgt := 132) (len := 3) rfl (by omega) (by omega) (fun h108 => ?_) (fun h108 => ?_)
      · skip
        refine Wp.n (pc' := 138) 3 rfl ?_
        refine Wp.mialdN (j := kr K i 0) (len := 1) rfl rfl rfl (by omega) ?_
        refine Wp.top f0 ?_
        refine Wp.miastN (j := kr K i 0) (len := 1) rfl rfl rfl (by omega) ?_
        rw [aset_get, aset_aset]
        have hu : FR _ (va_up g (kr K i 0) (min (g (kr K i 0)) (g (kr K i 1) + kr K i 2))) := FR_up hh (by first | rw [Nat.min_eq_left (by omega)] | rw [Nat.min_eq_right (by omega)])
        refine m_lf_2 hM ok (by omega) hu (fun p => ?_) (fun h' hh' => ?_)
        · by_cases e : p = kr K i 0
          · rw [e, va_up_self]; omega
          · rw [va_up_ne _ _ e]; exact hg p
        · skip
          refine Wp.incN (x := i) (len := 3) rfl rfl ?_
          refine Wp.n (pc' := 45) 1 rfl ?_
          exact ih (i + 1) h' (rlx K g i) _ _ (by omega) hh' (fun p => Nat.le_trans (hm p) (hg p)) k
        
      · skip
        refine Wp.n (pc' := 117) 3 rfl ?_
        refine Wp.mialdN (j := kr K i 1) (len := 1) rfl rfl rfl (by omega) ?_
        refine Wp.top f1 ?_
        refine Wp.n (pc' := 124) 4 rfl ?_
        refine Wp.imulN (x := 3) (y := i) (len := 1) rfl ?_
        refine Wp.n (pc' := 126) 1 rfl ?_
        refine Wp.iaddN (x := 3 * i) (y := 2) (len := 1) rfl ?_
        refine Wp.mialdN (j := (3 * i) + 2) (len := 1) rfl rfl rfl (by omega) ?_
        refine Wp.top e2 ?_
        refine Wp.iaddN (x := g (kr K i 1)) (y := kr K i 2) (len := 1) rfl ?_
        refine Wp.n (pc' := 139) 1 rfl ?_
        refine Wp.miastN (j := kr K i 0) (len := 1) rfl rfl rfl (by omega) ?_
        rw [aset_get, aset_aset]
        have hu : FR _ (va_up g (kr K i 0) (min (g (kr K i 0)) (g (kr K i 1) + kr K i 2))) := FR_up hh (by first | rw [Nat.min_eq_left (by omega)] | rw [Nat.min_eq_right (by omega)])
        refine m_lf_2 hM ok (by omega) hu (fun p => ?_) (fun h' hh' => ?_)
        · by_cases e : p = kr K i 0
          · rw [e, va_up_self]; omega
          · rw [va_up_ne _ _ e]; exact hg p
        · skip
          refine Wp.incN (x := i) (len := 3) rfl rfl ?_
          refine Wp.n (pc' := 45) 1 rfl ?_
          exact ih (i + 1) h' (rlx K g i) _ _ (by omega) hh' (fun p => Nat.le_trans (hm p) (hg p)) k
        

theorem bf_le (ok : KOK K) {t : Nat} (n : Nat) : ∀ p, bf K t n p ≤ 1000000 := (bf_g ok n).1.2.1
theorem m_lf_n (hM : RepM σ 0 K) (ok : KOK K) {t : Nat} : ∀ (n r : Nat) (h : Nat → Int32) (z3 z4 z5 : Option Value), r + n = kh K 0 → FR h (bf K t r) → (∀ h' z3' z4' z5', FR h' (bf K t (kh K 0)) → Wp d md_189 215 [some (.ref 287), some (.int (nI t)), some (.int (nI (kh K 0))), z3', z4', z5'] [] (mset M (aset σ 13 h')) Q) → Wp d md_189 33 [some (.ref 287), some (.int (nI t)), some (.int (nI r)), z3, z4, z5] [] (mset M (aset σ 13 h)) Q := by
  intro n
  obtain ⟨b0, b1, b2, b3, b4, b5, b6, b7, b8, b9, b10, b11, b12⟩ := ok_h ok
  induction n with
  | zero =>
    intro r h z3 z4 z5 hr hh k
    refine Wp.n (pc' := 39) 4 rfl ?_
    refine Wp.mialdN (j := 0) (len := 1) rfl rfl rfl (by omega) ?_
    refine Wp.top (r0_has hM (by decide)) ?_
    refine Wp.nc3 (x := r) (y := kh K 0) (tgt := 215) (len := 3) rfl (by omega) (by omega) (fun h40 => ?_) (fun h40 => ?_)
    · skip
      have e : r = kh K 0 := by omega
      rw [e] at hh ⊢
      exact k h z3 z4 z5 hh
    · omega
  | succ n ih =>
    intro r h z3 z4 z5 hr hh k
    refine Wp.n (pc' := 39) 4 rfl ?_
    refine Wp.mialdN (j := 0) (len := 1) rfl rfl rfl (by omega) ?_
    refine Wp.top (r0_has hM (by decide)) ?_
    refine Wp.nc3 (x := r) (y := kh K 0) (tgt := 215) (len := 3) rfl (by omega) (by omega) (fun h40 => ?_) (fun h40 => ?_)
    · omega
    · skip
      refine Wp.n (pc' := 45) 2 rfl ?_
      refine m_lf_k hM ok (kh K 2) 0 h (bf K t r) _ _ (by omega) hh (bf_le ok r) (fun h' z4' z5' hh' => ?_)
      refine Wp.incN (x := r) (len := 3) rfl rfl ?_
      refine Wp.n (pc' := 33) 1 rfl ?_
      refine ih (r + 1) h' _ _ _ (by omega) ?_ k
      rw [show bf K t (r + 1) = bfR K (bf K t r) from fld_s r 0 _]
      exact hh'
      

def FarOf (h : Nat → Int32) (K : KD) (t : Nat) : Prop := ∀ p, p < kh K 0 → h p = nI (distK K p t)
theorem m_laysFar (hM : RepM σ 0 K) (ok : KOK K) {t : Nat} (ht : t < 7) : Wp d md_189 0 [some (.ref 287), some (.int (nI t)), none, none, none, none] [] (mset M σ) (fun v M' => v = none ∧ ∃ h, M' = mset M (aset σ 13 h) ∧ FarOf h K t) := by
  obtain ⟨b0, b1, b2, b3, b4, b5, b6, b7, b8, b9, b10, b11, b12⟩ := ok_h ok
  have e : mset M σ = mset M (aset σ 13 (σ.2.2.1 13)) := by rw [aset_same]
  rw [e]
  refine Wp.n (pc' := 2) 2 rfl ?_
  refine m_lf_i ht 7 0 _ (by omega) (fun q hq => by omega) (fun h0 hh0 => ?_)
  refine Wp.n (pc' := 33) 2 rfl ?_
  refine m_lf_n hM ok (kh K 0) 0 h0 _ _ _ (by omega) hh0 (fun h' z3 z4 z5 hh' => ?_)
  refine Wp.retV (len := 1) rfl rfl ⟨rfl, h', rfl, fun p hp => ?_⟩
  rw [hh' p (by omega), bf_dist ok hp]
theorem m_byRoad (hM : RepM σ 0 K) (ok : KOK K) {a t : Nat} (ha : a < kh K 0) (ht : t < 7) : Wp (d + 1) md_188 0 [some (.ref 287), some (.int (nI a)), some (.int (nI t))] [] (mset M σ) (fun v M' => v = some (.int (dI (distK K a t))) ∧ ∃ h, M' = mset M (aset σ 13 h) ∧ FarOf h K t) := by
  obtain ⟨b0, b1, b2, b3, b4, b5, b6, b7, b8, b9, b10, b11, b12⟩ := ok_h ok
  have hd := dist_le ok a t
  unfold dI
  refine Wp.n (pc' := 2) 2 rfl ?_
  refine Wp.callV (len := 3) rfl rfl rfl (rfl) rfl (by decide) rfl (m_laysFar hM ok ht) ?_
  rintro _ _ ⟨rfl, h, rfl, hh⟩
  refine Wp.n (pc' := 10) 3 rfl ?_
  refine Wp.mialdN (j := a) (len := 1) rfl rfl rfl (by omega) ?_
  refine Wp.top (hh a ha) ?_
  refine Wp.n (pc' := 13) 1 rfl ?_
  refine Wp.nc2 (x := distK K a t) (y := 1000000) (tgt := 20) (len := 3) rfl (by omega) (by omega) (fun h13 => ?_) (fun h13 => ?_)
  · skip
    refine Wp.n (pc' := 25) 3 rfl ?_
    refine Wp.mialdN (j := a) (len := 1) rfl rfl rfl (by omega) ?_
    refine Wp.top (hh a ha) ?_
    refine Wp.retI (len := 1) rfl rfl ?_
    first | (rw [if_pos (by omega)]; exact ⟨rfl, h, rfl, hh⟩) | (rw [if_neg (by omega)]; exact ⟨rfl, h, rfl, hh⟩)
  · skip
    refine Wp.n (pc' := 26) 2 rfl ?_
    refine Wp.retI (len := 1) rfl rfl ?_
    first | (rw [if_pos (by omega)]; exact ⟨rfl, h, rfl, hh⟩) | (rw [if_neg (by omega)]; exact ⟨rfl, h, rfl, hh⟩)

theorem k_byRoad {r : Nat} {ρ : RC} (hR : RA M r ρ) (hD : DC (rds ρ) K (distK K)) (ok : KOK K) {a b : Nat} (ha : a < kh K 0) (hb : b < kh K 0) : Ev (d + 1) md_34 0 [some (.ref r), some (.int (nI a)), some (.int (nI b)), none] [] M (some (.int (dI (distK K a b))), M) := by
  obtain ⟨b0, b1, b2, b3, b4, b5, b6, b7, b8, b9, b10, b11, b12⟩ := ok_h ok
  have w := ra_ev hR (c_byRoad (d := d) (M := M) (r := r) (ρ := ρ) a b (by omega) (by omega))
  have hd := dist_le ok a b
  rw [hD a b ha hb, nI_toInt (by omega)] at w
  unfold dI
  by_cases c : distK K a b < 1000000
  · rw [if_pos c]
    rw [if_pos (by omega)] at w
    exact w
  · rw [if_neg c]
    rw [if_neg (by omega)] at w
    exact w
end FAR
end
section
/-! THE WAY BY ROAD. -/
def nxtP (K : KD) (t p q : Nat) : Bool := match roadK K p q with
  | none => false
  | some j => decide (kr K j 2 + distK K q t = distK K p t)
def nxt (K : KD) (t p : Nat) : Option Nat := fnd (nxtP K t p) (kh K 0) 0
def wayK (K : KD) (f t : Nat) : Nat → Option Nat
  | 0 => some f
  | i + 1 => (wayK K f t i).bind (nxt K t)
def wayA (K : KD) (f t : Nat) (x : Int32) : Int32 := if x < 0 ∨ ¬ distK K f t < 1000000 then -1 else oI (wayK K f t x.toNatClampNeg)
theorem fnd_some {p : Nat → Bool} : ∀ {n i j : Nat}, i ≤ j → j < i + n → p j = true → ∃ k, fnd p n i = some k
  | 0, i, j, h1, h2, _ => by omega
  | n + 1, i, j, h1, h2, hp => by
    unfold fnd
    by_cases e : p i = true
    · rw [if_pos e]; exact ⟨i, rfl⟩
    · rw [if_neg e]
      have : j ≠ i := fun q => e (q ▸ hp)
      exact fnd_some (by omega) (by omega) hp
section WAY
variable {d : Nat} {M : AM} {r : Nat} {ρ : RC} {σ : MS} {K : KD} {Q : Option Value → AM → Prop}
theorem nxt_v (ok : KOK K) {t p q : Nat} (h : nxt K t p = some q) : q < kh K 0 ∧ distK K q t < distK K p t := by
  obtain ⟨h1, h2, h3⟩ := fnd_lt h
  refine ⟨by omega, ?_⟩
  unfold nxtP at h3
  cases hr : roadK K p q with
  | none => rw [hr] at h3; cases h3
  | some j =>
    rw [hr] at h3
    have h4 : kr K j 2 + distK K q t = distK K p t := of_decide_eq_true h3
    have := ok_road ok (roadK_v hr).1
    omega
theorem nxt_t (ok : KOK K) {t : Nat} : nxt K t t = none := by
  cases h : nxt K t t with
  | none => rfl
  | some q =>
    have := (nxt_v ok h).2
    rw [(dist_g ok).1 t] at this
    omega
theorem nxt_s (ok : KOK K) {t p : Nat} (h : distK K p t < 1000000) (hp : p ≠ t) : ∃ q, nxt K t p = some q := by
  obtain ⟨c, w, h1, h2⟩ := dist_step ok h hp
  have hb := Eg_b ok h1
  refine fnd_some (j := c) (by omega) (by omega) ?_
  obtain ⟨i, hi, h3, rfl⟩ := h1
  unfold nxtP
  rw [roadK_uni ok hi h3]
  exact decide_eq_true h2.symm
theorem wayK_v (ok : KOK K) {f t : Nat} (hf : f < kh K 0) : ∀ {i p : Nat}, wayK K f t i = some p → p < kh K 0 ∧ distK K p t ≤ distK K f t ∧ rnk K t p + i ≤ rnk K t f
  | 0, p, h => by cases h; exact ⟨hf, by omega, by omega⟩
  | i + 1, p, h => by
    unfold wayK at h
    cases hw : wayK K f t i with
    | none => rw [hw] at h; cases h
    | some q =>
      rw [hw] at h
      obtain ⟨a1, a2, a3⟩ := wayK_v ok hf hw
      obtain ⟨c1, c2⟩ := nxt_v ok (show nxt K t q = some p from h)
      have := rnk_s (t := t) (p := q) c1 c2
      exact ⟨c1, by omega, by omega⟩
theorem wayK_7 (ok : KOK K) {f t : Nat} (hf : f < kh K 0) {i : Nat} (hi : 7 ≤ i) : wayK K f t i = none := by
  cases h : wayK K f t i with
  | none => rfl
  | some p =>
    have h1 := (wayK_v ok hf h).2.2
    have h2 := rnk_lt (t := t) hf
    have h3 := (ok_h ok).1
    omega
theorem wayK_n {f t i : Nat} (h : wayK K f t i = none) : ∀ n, wayK K f t (i + n) = none
  | 0 => h
  | n + 1 => by
    show (wayK K f t (i + n)).bind (nxt K t) = none
    rw [wayK_n h n]
    rfl

theorem k_next_l (hR : RA M r ρ) (hK : RepC ρ K) (hD : DC (rds ρ) K (distK K)) (ok : KOK K) (h32 : 32 ≤ r) {p t : Nat} (hp : p < kh K 0) (ht : t < kh K 0) (hpt : distK K p t < 1000000) : ∀ (n q : Nat) (z : Option Value), q + n = kh K 0 → Wp (d + 2) md_36 2 [some (.ref r), some (.int (nI p)), some (.int (nI t)), some (.int (nI q)), z] [] M (IsR (some (.int (oI (fnd (nxtP K t p) n q)))) M) := by
  intro n
  obtain ⟨b0, b1, b2, b3, b4, b5, b6, b7, b8, b9, b10, b11, b12⟩ := ok_h ok
  have e2 : dI (distK K p t) = nI (distK K p t) := if_pos hpt
  induction n with
  | zero =>
    intro q z hq
    refine Wp.n (pc' := 4) 2 rfl ?_
    refine Wp.get (len := 3) rfl (ra_obj hR) rfl ?_
    refine Wp.top (rc_pl hK) ?_
    refine Wp.nc3 (x := q) (y := kh K 0) (tgt := 62) (len := 3) rfl (by omega) (by omega) (fun h7 => ?_) (fun h7 => ?_)
    · skip
      refine Wp.n (pc' := 63) 1 rfl ?_
      refine Wp.retI (len := 1) rfl rfl ?_
      exact ⟨rfl, rfl⟩
    · omega
  | succ n ih =>
    intro q z hq
    have hw := fun z => ih (q + 1) z (by omega)
    by_cases c : distK K q t < 1000000
    · have e1 : dI (distK K q t) = nI (distK K q t) := if_pos c
      refine Wp.n (pc' := 4) 2 rfl ?_
      refine Wp.get (len := 3) rfl (ra_obj hR) rfl ?_
      refine Wp.top (rc_pl hK) ?_
      refine Wp.nc3 (x := q) (y := kh K 0) (tgt := 62) (len := 3) rfl (by omega) (by omega) (fun h7 => ?_) (fun h7 => ?_)
      · omega
      · skip
        refine Wp.n (pc' := 13) 3 rfl ?_
        refine Wp.ecallV (len := 3) rfl rfl rfl (ra_obj hR) rfl h32 rfl (k_roadOf hR hK ok (by omega) (by omega)) ?_
        rcases hrd : roadK K p q with _ | j
        · have hx : nxtP K t p q = false := by
            unfold nxtP
            rw [hrd]
          refine Wp.n (pc' := 20) 2 rfl ?_
          refine Wp.s (pc' := 56) rfl ?_
          refine Wp.incN (x := q) (len := 3) rfl rfl ?_
          refine Wp.n (pc' := 2) 1 rfl ?_
          unfold fnd
          rw [if_neg (by rw [hx]; first | decide | (rw [decide_eq_false (by omega)]; decide))]
          exact hw _
        · have hj := (roadK_v hrd).1
          have ho := ok_road ok hj
          have hx : nxtP K t p q = decide (kr K j 2 + distK K q t = distK K p t) := by
            unfold nxtP
            rw [hrd]
          refine Wp.n (pc' := 20) 2 rfl ?_
          refine Wp.s (pc' := 23) rfl ?_
          refine Wp.n (pc' := 26) 3 rfl ?_
          refine Wp.ecallV (len := 3) rfl rfl rfl (ra_obj hR) rfl h32 rfl (k_byRoad hR hD ok (by omega) (by omega)) ?_
          refine Wp.top e1 ?_
          refine Wp.n (pc' := 30) 1 rfl ?_
          refine Wp.ic0 (tgt := 56) (len := 3) rfl (fun h30 => ?_) (fun h30 => ?_)
          · exact absurd h30 (oI_ne (by omega))
          · skip
            refine Wp.n (pc' := 35) 1 rfl ?_
            refine Wp.get (len := 3) rfl (ra_road hR (by omega)) rfl ?_
            refine Wp.top (rc_road hK hj).2.2.1 ?_
            refine Wp.n (pc' := 41) 3 rfl ?_
            refine Wp.ecallV (len := 3) rfl rfl rfl (ra_obj hR) rfl h32 rfl (k_byRoad hR hD ok (by omega) (by omega)) ?_
            refine Wp.top e1 ?_
            refine Wp.iaddN (x := kr K j 2) (y := distK K q t) (len := 1) rfl ?_
            refine Wp.n (pc' := 48) 3 rfl ?_
            refine Wp.ecallV (len := 3) rfl rfl rfl (ra_obj hR) rfl h32 rfl (k_byRoad hR hD ok (by omega) (by omega)) ?_
            refine Wp.top e2 ?_
            refine Wp.nc1 (x := (kr K j 2) + (distK K q t)) (y := distK K p t) (tgt := 56) (len := 3) rfl (by omega) (by omega) (fun h51 => ?_) (fun h51 => ?_)
            · skip
              refine Wp.incN (x := q) (len := 3) rfl rfl ?_
              refine Wp.n (pc' := 2) 1 rfl ?_
              unfold fnd
              rw [if_neg (by rw [hx]; first | decide | (rw [decide_eq_false (by omega)]; decide))]
              exact hw _
            · skip
              refine Wp.n (pc' := 55) 1 rfl ?_
              refine Wp.retI (len := 1) rfl rfl ?_
              refine ⟨?_, rfl⟩
              unfold fnd
              rw [if_pos (by rw [hx]; exact decide_eq_true (by omega))]
              rfl
    · have e1 : dI (distK K q t) = -1 := if_neg c
      refine Wp.n (pc' := 4) 2 rfl ?_
      refine Wp.get (len := 3) rfl (ra_obj hR) rfl ?_
      refine Wp.top (rc_pl hK) ?_
      refine Wp.nc3 (x := q) (y := kh K 0) (tgt := 62) (len := 3) rfl (by omega) (by omega) (fun h7 => ?_) (fun h7 => ?_)
      · omega
      · skip
        refine Wp.n (pc' := 13) 3 rfl ?_
        refine Wp.ecallV (len := 3) rfl rfl rfl (ra_obj hR) rfl h32 rfl (k_roadOf hR hK ok (by omega) (by omega)) ?_
        rcases hrd : roadK K p q with _ | j
        · have hx : nxtP K t p q = false := by
            unfold nxtP
            rw [hrd]
          refine Wp.n (pc' := 20) 2 rfl ?_
          refine Wp.s (pc' := 56) rfl ?_
          refine Wp.incN (x := q) (len := 3) rfl rfl ?_
          refine Wp.n (pc' := 2) 1 rfl ?_
          unfold fnd
          rw [if_neg (by rw [hx]; first | decide | (rw [decide_eq_false (by omega)]; decide))]
          exact hw _
        · have hj := (roadK_v hrd).1
          have ho := ok_road ok hj
          have hx : nxtP K t p q = decide (kr K j 2 + distK K q t = distK K p t) := by
            unfold nxtP
            rw [hrd]
          refine Wp.n (pc' := 20) 2 rfl ?_
          refine Wp.s (pc' := 23) rfl ?_
          refine Wp.n (pc' := 26) 3 rfl ?_
          refine Wp.ecallV (len := 3) rfl rfl rfl (ra_obj hR) rfl h32 rfl (k_byRoad hR hD ok (by omega) (by omega)) ?_
          refine Wp.top e1 ?_
          refine Wp.n (pc' := 30) 1 rfl ?_
          refine Wp.ic0 (tgt := 56) (len := 3) rfl (fun h30 => ?_) (fun h30 => ?_)
          · skip
            refine Wp.incN (x := q) (len := 3) rfl rfl ?_
            refine Wp.n (pc' := 2) 1 rfl ?_
            unfold fnd
            rw [if_neg (by rw [hx]; first | decide | (rw [decide_eq_false (by omega)]; decide))]
            exact hw _
          · exact absurd rfl h30

theorem k_next (hR : RA M r ρ) (hK : RepC ρ K) (hD : DC (rds ρ) K (distK K)) (ok : KOK K) (h32 : 32 ≤ r) {p t : Nat} (hp : p < kh K 0) (ht : t < kh K 0) (hpt : distK K p t < 1000000) : Ev (d + 2) md_36 0 [some (.ref r), some (.int (nI p)), some (.int (nI t)), none, none] [] M (some (.int (oI (nxt K t p))), M) := by
  refine Wp.toEv ?_
  refine Wp.n (pc' := 2) 2 rfl ?_
  exact k_next_l hR hK hD ok h32 hp ht hpt (kh K 0) 0 none (by omega)
theorem k_pbr_l (hR : RA M r ρ) (hK : RepC ρ K) (hD : DC (rds ρ) K (distK K)) (ok : KOK K) (h32 : 32 ≤ r) {f t i : Nat} (hf : f < kh K 0) (ht : t < kh K 0) (hft : distK K f t < 1000000) (hi : i < 7) : ∀ (n g : Nat), g + n = i → Wp (d + 3) md_35 28 [some (.ref r), some (.int (nI f)), some (.int (nI t)), some (.int (nI i)), some (.int (oI (wayK K f t g))), some (.int (nI g))] [] M (IsR (some (.int (oI (wayK K f t i)))) M) := by
  intro n
  obtain ⟨b0, b1, b2, b3, b4, b5, b6, b7, b8, b9, b10, b11, b12⟩ := ok_h ok
  induction n with
  | zero =>
    intro g hg
    refine Wp.n (pc' := 31) 2 rfl ?_
    refine Wp.nc3 (x := g) (y := i) (tgt := 59) (len := 3) rfl (by omega) (by omega) (fun h31 => ?_) (fun h31 => ?_)
    · skip
      refine Wp.n (pc' := 61) 1 rfl ?_
      refine Wp.retI (len := 1) rfl rfl ?_
      rw [show g = i by omega]
      exact ⟨rfl, rfl⟩
    · omega
  | succ n ih =>
    intro g hg
    have w := ih (g + 1) (by omega)
    rw [show wayK K f t (g + 1) = (wayK K f t g).bind (nxt K t) from rfl] at w
    refine Wp.n (pc' := 31) 2 rfl ?_
    refine Wp.nc3 (x := g) (y := i) (tgt := 59) (len := 3) rfl (by omega) (by omega) (fun h31 => ?_) (fun h31 => ?_)
    · omega
    · skip
      rcases hc : wayK K f t g with _ | p
      · rw [hc] at w
        refine Wp.n (pc' := 37) 2 rfl ?_
        refine Wp.ic1 (tgt := 44) (len := 3) rfl (fun h37 => ?_) (fun h37 => ?_)
        · exact absurd rfl h37
        · skip
          refine Wp.n (pc' := 53) 3 rfl ?_
          refine Wp.incN (x := g) (len := 3) rfl rfl ?_
          refine Wp.n (pc' := 28) 1 rfl ?_
          exact w
      · rw [hc] at w
        obtain ⟨p1, p2, _⟩ := wayK_v ok hf hc
        refine Wp.n (pc' := 37) 2 rfl ?_
        refine Wp.ic1 (tgt := 44) (len := 3) rfl (fun h37 => ?_) (fun h37 => ?_)
        · skip
          refine Wp.n (pc' := 48) 3 rfl ?_
          refine Wp.ecallV (len := 3) rfl rfl rfl (ra_obj hR) rfl h32 rfl (k_next hR hK hD ok h32 p1 ht (by omega)) ?_
          refine Wp.n (pc' := 53) 1 rfl ?_
          refine Wp.incN (x := g) (len := 3) rfl rfl ?_
          refine Wp.n (pc' := 28) 1 rfl ?_
          exact w
        · exact absurd h37 (oI_ne (by omega))

theorem k_placeByRoad (hR : RA M r ρ) (hK : RepC ρ K) (hD : DC (rds ρ) K (distK K)) (ok : KOK K) (h32 : 32 ≤ r) {f t : Nat} (hf : f < kh K 0) (ht : t < kh K 0) (x : Int32) : Ev (d + 3) md_35 0 [some (.ref r), some (.int (nI f)), some (.int (nI t)), some (.int x), none, none] [] M (some (.int (wayA K f t x)), M) := by
  refine Wp.toEv ?_
  obtain ⟨b0, b1, b2, b3, b4, b5, b6, b7, b8, b9, b10, b11, b12⟩ := ok_h ok
  unfold wayA
  by_cases h0 : x < 0
  · rw [if_pos (Or.inl h0)]
    refine Wp.n (pc' := 1) 1 rfl ?_
    refine Wp.if2 (tgt := 20) (len := 3) rfl (fun h1 => ?_) (fun h1 => ?_)
    · skip
      refine Wp.n (pc' := 21) 1 rfl ?_
      refine Wp.retI (len := 1) rfl rfl ?_
      exact ⟨rfl, rfl⟩
    · exact absurd h0 h1
  · obtain ⟨i, hi, rfl⟩ := nI_of h0
    rw [nI_clamp hi]
    by_cases c : distK K f t < 1000000
    · rw [if_neg (by intro q; rcases q with q | q; exact h0 q; exact q c)]
      have e1 : dI (distK K f t) = nI (distK K f t) := if_pos c
      refine Wp.n (pc' := 1) 1 rfl ?_
      refine Wp.nz2 (x := i) (tgt := 20) (len := 3) rfl (by omega) ?_
      refine Wp.n (pc' := 7) 2 rfl ?_
      refine Wp.nc3 (x := i) (y := 7) (tgt := 20) (len := 3) rfl (by omega) (by omega) (fun h7 => ?_) (fun h7 => ?_)
      · skip
        refine Wp.n (pc' := 21) 1 rfl ?_
        refine Wp.retI (len := 1) rfl rfl ?_
        rw [wayK_7 ok hf h7]
        exact ⟨rfl, rfl⟩
      · skip
        refine Wp.n (pc' := 13) 3 rfl ?_
        refine Wp.ecallV (len := 3) rfl rfl rfl (ra_obj hR) rfl h32 rfl (k_byRoad hR hD ok (by omega) (by omega)) ?_
        refine Wp.top e1 ?_
        refine Wp.n (pc' := 17) 1 rfl ?_
        refine Wp.ic1 (tgt := 22) (len := 3) rfl (fun h17 => ?_) (fun h17 => ?_)
        · skip
          refine Wp.n (pc' := 28) 4 rfl ?_
          exact k_pbr_l hR hK hD ok h32 hf ht c (by omega) i 0 (by omega)
        · exact absurd h17 (oI_ne (by omega))
    · rw [if_pos (Or.inr c)]
      have e1 : dI (distK K f t) = -1 := if_neg c
      refine Wp.n (pc' := 1) 1 rfl ?_
      refine Wp.nz2 (x := i) (tgt := 20) (len := 3) rfl (by omega) ?_
      refine Wp.n (pc' := 7) 2 rfl ?_
      refine Wp.nc3 (x := i) (y := 7) (tgt := 20) (len := 3) rfl (by omega) (by omega) (fun h7 => ?_) (fun h7 => ?_)
      · skip
        refine Wp.n (pc' := 21) 1 rfl ?_
        refine Wp.retI (len := 1) rfl rfl ?_
        exact ⟨rfl, rfl⟩
      · skip
        refine Wp.n (pc' := 13) 3 rfl ?_
        refine Wp.ecallV (len := 3) rfl rfl rfl (ra_obj hR) rfl h32 rfl (k_byRoad hR hD ok (by omega) (by omega)) ?_
        refine Wp.top e1 ?_
        refine Wp.n (pc' := 17) 1 rfl ?_
        refine Wp.ic1 (tgt := 22) (len := 3) rfl (fun h17 => ?_) (fun h17 => ?_)
        · exact absurd rfl h17
        · skip
          refine Wp.n (pc' := 21) 1 rfl ?_
          refine Wp.retI (len := 1) rfl rfl ?_
          exact ⟨rfl, rfl⟩

end WAY
end
section
/-! THE REFERENCE'S QUESTIONS: what may change, bounds, the way by road. -/
/-- only fields of F and rows of A may differ -/
def Fr (F A : List Nat) (σ σ' : MS) : Prop := (∀ j, List.elem j F = false → σ'.1 j = σ.1 j) ∧ (∀ k, List.elem k A = false → σ'.2.2.1 k = σ.2.2.1 k) ∧ σ'.2.1 = σ.2.1 ∧ σ'.2.2.2 = σ.2.2.2
theorem upd_ne {f : Nat → Int32} {k j : Nat} {x : Int32} (h : j ≠ k) : upd f k x j = f j := pk_un h
section FR
variable {F A : List Nat} {σ σ' σ'' : MS}
theorem Fr.rfl' : Fr F A σ σ := ⟨fun _ _ => rfl, fun _ _ => rfl, rfl, rfl⟩
theorem Fr.trans (h : Fr F A σ σ') (h' : Fr F A σ' σ'') : Fr F A σ σ'' := ⟨fun j hj => (h'.1 j hj).trans (h.1 j hj), fun k hk => (h'.2.1 k hk).trans (h.2.1 k hk), h'.2.2.1.trans h.2.2.1, h'.2.2.2.trans h.2.2.2⟩
theorem Fr.fset {j : Nat} {x : Int32} (h : Fr F A σ σ') (hj : List.elem j F = true) : Fr F A σ (fset σ' j x) := ⟨fun i hi => (upd_ne (fun e => by rw [e, hj] at hi; cases hi)).trans (h.1 i hi), h.2.1, h.2.2.1, h.2.2.2⟩
theorem Fr.aset {k : Nat} {f : Nat → Int32} (h : Fr F A σ σ') (hk : List.elem k A = true) : Fr F A σ (aset σ' k f) := ⟨h.1, fun i hi => (va_up_ne _ _ (fun e => by rw [e, hk] at hi; cases hi)).trans (h.2.1 i hi), h.2.2.1, h.2.2.2⟩
theorem Fr.mono {F' A' : List Nat} (h : Fr F A σ σ') (hF : F.all (fun j => List.elem j F') = true) (hA : A.all (fun j => List.elem j A') = true) : Fr F' A' σ σ' := by
  refine ⟨fun j hj => h.1 j ?_, fun k hk => h.2.1 k ?_, h.2.2.1, h.2.2.2⟩
  · cases e : List.elem j F with
    | false => rfl
    | true =>
      have := List.all_eq_true.mp hF j (List.elem_iff.mp e)
      rw [hj] at this
      cases this
  · cases e : List.elem k A with
    | false => rfl
    | true =>
      have := List.all_eq_true.mp hA k (List.elem_iff.mp e)
      rw [hk] at this
      cases this
end FR
/-- scratch -/
abbrev SF : List Nat := [27, 28, 29, 30, 32, 33, 34, 35, 36, 37, 38, 39, 40, 41, 42]
abbrev SA : List Nat := [13, 14, 15, 16, 17]
def Scr (σ σ' : MS) : Prop := Fr SF SA σ σ'
def MK (σ : MS) (K : KD) : Prop := RepM σ 0 K ∧ KOK K ∧ σ.1 25 = nI (kh K 11) ∧ σ.1 0 = 0
theorem RepM_fr {σ σ' : MS} {s : Nat} {K : KD} (h : RepM σ s K) (e5 : σ'.2.2.1 5 = σ.2.2.1 5) (e6 : σ'.2.2.1 6 = σ.2.2.1 6) (e7 : σ'.2.2.1 7 = σ.2.2.1 7) (e9 : σ'.2.2.1 9 = σ.2.2.1 9) (e10 : σ'.2.2.1 10 = σ.2.2.1 10) (e11 : σ'.2.2.1 11 = σ.2.2.1 11) (e8 : σ'.2.2.2 8 = σ.2.2.2 8) : RepM σ' s K := by
  unfold RepM at *
  rw [e5, e6, e7, e8, e9, e10, e11]
  exact h
theorem RepM_scr {σ σ' : MS} {s : Nat} {K : KD} (h : RepM σ s K) (e : Scr σ σ') : RepM σ' s K := RepM_fr h (e.2.1 5 rfl) (e.2.1 6 rfl) (e.2.1 7 rfl) (e.2.1 9 rfl) (e.2.1 10 rfl) (e.2.1 11 rfl) (by rw [e.2.2.2])
theorem MK_scr {σ σ' : MS} {K : KD} (h : MK σ K) (e : Scr σ σ') : MK σ' K := ⟨RepM_scr h.1 e, h.2.1, (e.1 25 rfl).trans h.2.2.1, (e.1 0 rfl).trans h.2.2.2⟩
/-- a number below n -/
def isN (n : Nat) (x : Int32) : Bool := decide (0 ≤ x.toInt ∧ x.toInt < (n : Int))
theorem isN_of {n : Nat} {x : Int32} (h : isN n x = true) : ∃ a : Nat, a < n ∧ x = nI a := by
  have h1 := of_decide_eq_true h
  obtain ⟨a, ha, rfl⟩ := nI_of (x := x) (by rw [i_lt]; intro q; have : x.toInt < 0 := q; omega)
  refine ⟨a, ?_, rfl⟩
  rw [nI_toInt ha] at h1
  omega
theorem isN_nI {n a : Nat} (ha : a < 2 ^ 31) : isN n (nI a) = decide (a < n) := by
  unfold isN
  rw [nI_toInt ha]
  by_cases h : a < n
  · rw [decide_eq_true h, decide_eq_true (by omega)]
  · rw [decide_eq_false h, decide_eq_false (by omega)]
theorem isN_le {n : Nat} {x y : Int32} (hn : n < 2 ^ 30) (hy : y = nI n) : decide (0 ≤ x.toInt ∧ x.toInt ≤ (y - 1).toInt) = isN n x := by
  unfold isN
  rw [hy, show (nI n - 1).toInt = (n : Int) - 1 from pk_sub_toInt (a := n) (b := 1) hn (by decide)]
  by_cases h : 0 ≤ x.toInt ∧ x.toInt < (n : Int)
  · rw [decide_eq_true h, decide_eq_true (by omega)]
  · rw [decide_eq_false h, decide_eq_false (by omega)]
section RQ
variable {d : Nat} {M : AM} {σ : MS} {K : KD} {Q : Option Value → AM → Prop}
theorem m_isPlaceK (hM : RepM σ 0 K) (ok : KOK K) (x : Int32) : Ev (d + 1) md_187 0 [some (.ref 287), some (.int x)] [] (mset M σ) (some (.int (bI (isN (kh K 0) x))), mset M σ) := by
  obtain ⟨b0, b1, b2, b3, b4, b5, b6, b7, b8, b9, b10, b11, b12⟩ := ok_h ok
  rw [← isN_le (n := kh K 0) (by omega) (r0_has hM (j := 0) (by decide))]
  exact m_isPlace σ x
theorem m_isDayK (hM : RepM σ 0 K) (ok : KOK K) (x : Int32) : Ev (d + 1) md_193 0 [some (.ref 287), some (.int x)] [] (mset M σ) (some (.int (bI (isN (kh K 1) x))), mset M σ) := by
  obtain ⟨b0, b1, b2, b3, b4, b5, b6, b7, b8, b9, b10, b11, b12⟩ := ok_h ok
  rw [← isN_le (n := kh K 1) (by omega) (r0_has hM (j := 1) (by decide))]
  exact m_isDay σ x
theorem m_isWalkK (hM : RepM σ 0 K) (ok : KOK K) (x : Int32) : Ev (d + 1) md_199 0 [some (.ref 287), some (.int x)] [] (mset M σ) (some (.int (bI (isN (kh K 4) x))), mset M σ) := by
  obtain ⟨b0, b1, b2, b3, b4, b5, b6, b7, b8, b9, b10, b11, b12⟩ := ok_h ok
  rw [← isN_le (n := kh K 4) (by omega) (r0_has hM (j := 4) (by decide))]
  exact m_isWalk σ x
def areT (K : KD) (x y : Int32) : Bool := isN (kh K 0) x && isN (kh K 0) y && !(decide (x = y))
theorem m_areTwo (hM : RepM σ 0 K) (ok : KOK K) (x y : Int32) : Ev (d + 2) md_196 0 [some (.ref 287), some (.int x), some (.int y)] [] (mset M σ) (some (.int (bI (areT K x y))), mset M σ) := by
  refine Wp.toEv ?_
  unfold areT
  refine Wp.n (pc' := 2) 2 rfl ?_
  refine Wp.ecallV (len := 3) rfl rfl rfl (rfl) rfl (by decide) rfl (m_isPlaceK hM ok _) ?_
  refine Wp.ifb0 (tgt := 25) (len := 3) rfl (fun h5 => ?_) (fun h5 => ?_)
  · skip
    refine Wp.n (pc' := 26) 1 rfl ?_
    refine Wp.retZ (len := 1) (c := false) rfl rfl rfl ?_
    exact ⟨by simp_all, rfl⟩
  · skip
    refine Wp.n (pc' := 10) 2 rfl ?_
    refine Wp.ecallV (len := 3) rfl rfl rfl (rfl) rfl (by decide) rfl (m_isPlaceK hM ok _) ?_
    refine Wp.ifb0 (tgt := 25) (len := 3) rfl (fun h13 => ?_) (fun h13 => ?_)
    · skip
      refine Wp.n (pc' := 26) 1 rfl ?_
      refine Wp.retZ (len := 1) (c := false) rfl rfl rfl ?_
      exact ⟨by simp_all, rfl⟩
    · skip
      refine Wp.n (pc' := 18) 2 rfl ?_
      refine Wp.ic0 (tgt := 25) (len := 3) rfl (fun h18 => ?_) (fun h18 => ?_)
      · skip
        refine Wp.n (pc' := 26) 1 rfl ?_
        refine Wp.retZ (len := 1) (c := false) rfl rfl rfl ?_
        exact ⟨by simp_all, rfl⟩
      · skip
        refine Wp.n (pc' := 26) 2 rfl ?_
        refine Wp.retZ (len := 1) (c := true) rfl rfl rfl ?_
        exact ⟨by simp_all, rfl⟩

def isT (K : KD) (x y z : Int32) : Bool := areT K x y && isN (kh K 1) z
theorem m_isTrip (hM : RepM σ 0 K) (ok : KOK K) (x y z : Int32) : Ev (d + 3) md_226 0 [some (.ref 287), some (.int x), some (.int y), some (.int z)] [] (mset M σ) (some (.int (bI (isT K x y z))), mset M σ) := by
  refine Wp.toEv ?_
  unfold isT
  refine Wp.n (pc' := 3) 3 rfl ?_
  refine Wp.ecallV (len := 3) rfl rfl rfl (rfl) rfl (by decide) rfl (m_areTwo hM ok _ _) ?_
  refine Wp.ifb0 (tgt := 21) (len := 3) rfl (fun h6 => ?_) (fun h6 => ?_)
  · skip
    refine Wp.n (pc' := 22) 1 rfl ?_
    refine Wp.retZ (len := 1) (c := false) rfl rfl rfl ?_
    exact ⟨by simp_all, rfl⟩
  · skip
    refine Wp.n (pc' := 11) 2 rfl ?_
    refine Wp.ecallV (len := 3) rfl rfl rfl (rfl) rfl (by decide) rfl (m_isDayK hM ok _) ?_
    refine Wp.ifb0 (tgt := 21) (len := 3) rfl (fun h14 => ?_) (fun h14 => ?_)
    · skip
      refine Wp.n (pc' := 22) 1 rfl ?_
      refine Wp.retZ (len := 1) (c := false) rfl rfl rfl ?_
      exact ⟨by simp_all, rfl⟩
    · skip
      refine Wp.n (pc' := 22) 2 rfl ?_
      refine Wp.retZ (len := 1) (c := true) rfl rfl rfl ?_
      exact ⟨by simp_all, rfl⟩

theorem m_isKingdom (hM : RepM σ 0 K) (ok : KOK K) : Ev d md_205 0 [some (.ref 287)] [] (mset M σ) (some (.int (bI (decide (0 < kh K 0)))), mset M σ) := by
  refine Wp.toEv ?_
  obtain ⟨b0, b1, b2, b3, b4, b5, b6, b7, b8, b9, b10, b11, b12⟩ := ok_h ok
  have hl := ok_ln ok
  refine Wp.n (pc' := 5) 3 rfl ?_
  refine Wp.mialdN (j := 0) (len := 1) rfl rfl rfl (by omega) ?_
  refine Wp.top (rm_ln hM) ?_
  refine Wp.nz5 (x := kh K 5) (tgt := 13) (len := 3) rfl (by omega) (fun h6 => ?_) (fun h6 => ?_)
  · skip
    refine Wp.n (pc' := 14) 1 rfl ?_
    refine Wp.retZ (len := 1) (c := false) rfl rfl rfl ?_
    exact ⟨by first | rw [decide_eq_true (by omega)] | rw [decide_eq_false (by omega)], rfl⟩
  · skip
    refine Wp.n (pc' := 14) 2 rfl ?_
    refine Wp.retZ (len := 1) (c := true) rfl rfl rfl ?_
    exact ⟨by first | rw [decide_eq_true (by omega)] | rw [decide_eq_false (by omega)], rfl⟩

theorem m_many0 (hM : RepM σ 0 K) (ok : KOK K) {w : Nat} (hw : w < kh K 4) : Ev (d + 1) md_203 0 [some (.ref 287), some (.int (nI w))] [] (mset M σ) (some (.int (nI (kw K w 3))), mset M σ) := by
  refine Wp.toEv ?_
  obtain ⟨b0, b1, b2, b3, b4, b5, b6, b7, b8, b9, b10, b11, b12⟩ := ok_h ok
  refine Wp.n (pc' := 3) 3 rfl ?_
  refine Wp.ecallV (len := 3) rfl rfl rfl (rfl) rfl (by decide) rfl (m_of σ w 3 (by omega)) ?_
  refine Wp.top (r0_walk hM hw (j := 3) (by decide) (by omega)) ?_
  refine Wp.retI (len := 1) rfl rfl ?_
  exact ⟨rfl, rfl⟩

theorem m_from (hM : RepM σ 0 K) (ok : KOK K) {w : Nat} (hw : w < kh K 4) : Ev (d + 1) md_201 0 [some (.ref 287), some (.int (nI w))] [] (mset M σ) (some (.int (nI (kw K w 4))), mset M σ) := by
  refine Wp.toEv ?_
  obtain ⟨b0, b1, b2, b3, b4, b5, b6, b7, b8, b9, b10, b11, b12⟩ := ok_h ok
  have t := ok_walk ok hw
  refine Wp.n (pc' := 3) 3 rfl ?_
  refine Wp.ecallV (len := 3) rfl rfl rfl (rfl) rfl (by decide) rfl (m_of σ w 4 (by omega)) ?_
  refine Wp.top (r0_stop hM hw (j := 0) (by omega) (by omega)) ?_
  refine Wp.retI (len := 1) rfl rfl ?_
  exact ⟨rfl, rfl⟩

theorem m_to (hM : RepM σ 0 K) (ok : KOK K) {w : Nat} (hw : w < kh K 4) : Ev (d + 2) md_202 0 [some (.ref 287), some (.int (nI w))] [] (mset M σ) (some (.int (nI (kw K w (3 + kw K w 3)))), mset M σ) := by
  refine Wp.toEv ?_
  obtain ⟨b0, b1, b2, b3, b4, b5, b6, b7, b8, b9, b10, b11, b12⟩ := ok_h ok
  have t := ok_walk ok hw
  have e := r0_stop hM hw (j := kw K w 3 - 1) (q := 11 * w + (3 + kw K w 3)) (by omega) (by omega)
  rw [show 4 + (kw K w 3 - 1) = 3 + kw K w 3 by omega] at e
  refine Wp.n (pc' := 5) 5 rfl ?_
  refine Wp.ecallV (len := 3) rfl rfl rfl (rfl) rfl (by decide) rfl (m_many0 hM ok hw) ?_
  refine Wp.iaddN (x := 3) (y := kw K w 3) (len := 1) rfl ?_
  refine Wp.ecallV (len := 3) rfl rfl rfl (rfl) rfl (by decide) rfl (m_of σ w (3 + kw K w 3) (by omega)) ?_
  refine Wp.top e ?_
  refine Wp.retI (len := 1) rfl rfl ?_
  exact ⟨rfl, rfl⟩


theorem m_way_o (hM : RepM σ 0 K) (ok : KOK K) {h : Nat → Int32} {f t p i k q : Nat} (hq : q < 7) (kk : ∀ z, Wp (d + 2) md_190 140 [some (.ref 287), some (.int (nI f)), some (.int (nI t)), some (.int (nI i)), some (.int (nI p)), some (.int (nI k)), some (.int (nI q)), z] [] (mset M (aset σ 13 h)) Q) : Wp (d + 2) md_190 66 [some (.ref 287), some (.int (nI f)), some (.int (nI t)), some (.int (nI i)), some (.int (nI p)), some (.int (nI k)), some (.int (nI q)), some (.int (nI (q + 1)))] [] (mset M (aset σ 13 h)) Q := by
  obtain ⟨b0, b1, b2, b3, b4, b5, b6, b7, b8, b9, b10, b11, b12⟩ := ok_h ok
  refine Wp.n (pc' := 73) 4 rfl ?_
  refine Wp.mialdN (j := 0) (len := 1) rfl rfl rfl (by omega) ?_
  refine Wp.top (r0_has hM (by decide)) ?_
  refine Wp.nc3 (x := q + 1) (y := kh K 0) (tgt := 140) (len := 3) rfl (by omega) (by omega) (fun h74 => ?_) (fun h74 => ?_)
  · skip
    exact kk _
  · skip
    refine Wp.n (pc' := 80) 2 rfl ?_
    refine Wp.ic1 (tgt := 140) (len := 3) rfl (fun h80 => ?_) (fun h80 => ?_)
    · skip
      exact kk _
    · exact absurd h80 (oI_ne (by omega))
theorem m_way_q (hM : RepM σ 0 K) (ok : KOK K) {h : Nat → Int32} {f t p i k : Nat} (hh : FarOf h K t) (hp : p < kh K 0) (hpt : distK K p t < 1000000) : ∀ (n q : Nat), q + n = kh K 0 → (∀ z, Wp (d + 2) md_190 140 [some (.ref 287), some (.int (nI f)), some (.int (nI t)), some (.int (nI i)), some (.int (nI p)), some (.int (nI k)), some (.int (oI (fnd (nxtP K t p) n q))), z] [] (mset M (aset σ 13 h)) Q) → Wp (d + 2) md_190 66 [some (.ref 287), some (.int (nI f)), some (.int (nI t)), some (.int (nI i)), some (.int (nI p)), some (.int (nI k)), some (.int (-1)), some (.int (nI q))] [] (mset M (aset σ 13 h)) Q := by
  intro n
  obtain ⟨b0, b1, b2, b3, b4, b5, b6, b7, b8, b9, b10, b11, b12⟩ := ok_h ok
  have dp := hh p hp
  induction n with
  | zero =>
    intro q hq kk
    refine Wp.n (pc' := 73) 4 rfl ?_
    refine Wp.mialdN (j := 0) (len := 1) rfl rfl rfl (by omega) ?_
    refine Wp.top (r0_has hM (by decide)) ?_
    refine Wp.nc3 (x := q) (y := kh K 0) (tgt := 140) (len := 3) rfl (by omega) (by omega) (fun h74 => ?_) (fun h74 => ?_)
    · skip
      exact kk _
    · omega
  | succ n ih =>
    intro q hq kk
    have dq := hh q (by omega)
    have dl := dist_le ok q t
    unfold fnd at kk
    refine Wp.n (pc' := 73) 4 rfl ?_
    refine Wp.mialdN (j := 0) (len := 1) rfl rfl rfl (by omega) ?_
    refine Wp.top (r0_has hM (by decide)) ?_
    refine Wp.nc3 (x := q) (y := kh K 0) (tgt := 140) (len := 3) rfl (by omega) (by omega) (fun h74 => ?_) (fun h74 => ?_)
    · omega
    · skip
      refine Wp.n (pc' := 80) 2 rfl ?_
      refine Wp.ic1 (tgt := 140) (len := 3) rfl (fun h80 => ?_) (fun h80 => ?_)
      · exact absurd rfl h80
      · skip
        refine Wp.n (pc' := 88) 3 rfl ?_
        refine Wp.ecallV (len := 3) rfl rfl rfl (rfl) rfl (by decide) rfl (m_roadOf (show RepM (aset σ 13 h) 0 K from hM) ok (by omega) (by omega)) ?_
        rcases hrd : roadK K p q with _ | j
        · have hx : nxtP K t p q = false := by
            unfold nxtP
            rw [hrd]
          rw [if_neg (by rw [hx]; decide)] at kk
          refine Wp.n (pc' := 92) 1 rfl ?_
          refine Wp.ic0 (tgt := 134) (len := 3) rfl (fun h92 => ?_) (fun h92 => ?_)
          · skip
            refine Wp.incN (x := q) (len := 3) rfl rfl ?_
            refine Wp.n (pc' := 66) 1 rfl ?_
            first
              | exact ih (q + 1) (by omega) kk
              | (rw [if_neg (by rw [hx, decide_eq_false (by omega)]; decide)] at kk; exact ih (q + 1) (by omega) kk)
              | (rw [if_pos (by rw [hx]; exact decide_eq_true (by omega))] at kk
                 exact m_way_o hM ok (by omega) kk)
          · exact absurd rfl h92
        · have hj := (roadK_v hrd).1
          have ho := ok_road ok hj
          have hx : nxtP K t p q = decide (kr K j 2 + distK K q t = distK K p t) := by
            unfold nxtP
            rw [hrd]
          refine Wp.n (pc' := 92) 1 rfl ?_
          refine Wp.ic0 (tgt := 134) (len := 3) rfl (fun h92 => ?_) (fun h92 => ?_)
          · exact absurd h92 (oI_ne (by omega))
          · skip
            refine Wp.n (pc' := 101) 3 rfl ?_
            refine Wp.mialdN (j := q) (len := 1) rfl rfl rfl (by omega) ?_
            refine Wp.top dq ?_
            refine Wp.n (pc' := 112) 6 rfl ?_
            refine Wp.ecallV (len := 3) rfl rfl rfl (rfl) rfl (by decide) rfl (m_roadOf (show RepM (aset σ 13 h) 0 K from hM) ok (by omega) (by omega)) ?_
            refine Wp.top (congrArg oI hrd) ?_
            refine Wp.imulN (x := 3) (y := j) (len := 1) rfl ?_
            refine Wp.n (pc' := 117) 1 rfl ?_
            refine Wp.iaddN (x := 3 * j) (y := 2) (len := 1) rfl ?_
            refine Wp.mialdN (j := (3 * j) + 2) (len := 1) rfl rfl rfl (by omega) ?_
            refine Wp.top (r0_road hM hj (j := 2) (by decide) (by omega)) ?_
            refine Wp.iaddN (x := distK K q t) (y := kr K j 2) (len := 1) rfl ?_
            refine Wp.n (pc' := 126) 3 rfl ?_
            refine Wp.mialdN (j := p) (len := 1) rfl rfl rfl (by omega) ?_
            refine Wp.top dp ?_
            refine Wp.nc1 (x := (distK K q t) + (kr K j 2)) (y := distK K p t) (tgt := 134) (len := 3) rfl (by omega) (by omega) (fun h127 => ?_) (fun h127 => ?_)
            · skip
              refine Wp.incN (x := q) (len := 3) rfl rfl ?_
              refine Wp.n (pc' := 66) 1 rfl ?_
              first
                | exact ih (q + 1) (by omega) kk
                | (rw [if_neg (by rw [hx, decide_eq_false (by omega)]; decide)] at kk; exact ih (q + 1) (by omega) kk)
                | (rw [if_pos (by rw [hx]; exact decide_eq_true (by omega))] at kk
                   exact m_way_o hM ok (by omega) kk)
            · skip
              refine Wp.n (pc' := 134) 2 rfl ?_
              refine Wp.incN (x := q) (len := 3) rfl rfl ?_
              refine Wp.n (pc' := 66) 1 rfl ?_
              first
                | exact ih (q + 1) (by omega) kk
                | (rw [if_neg (by rw [hx, decide_eq_false (by omega)]; decide)] at kk; exact ih (q + 1) (by omega) kk)
                | (rw [if_pos (by rw [hx]; exact decide_eq_true (by omega))] at kk
                   exact m_way_o hM ok (by omega) kk)


theorem m_way_l (hM : RepM σ 0 K) (ok : KOK K) {h : Nat → Int32} {f t i : Nat} (hh : FarOf h K t) (hf : f < kh K 0) (ht : t < kh K 0) (hft : distK K f t < 1000000) (hi : i < 2 ^ 31) : ∀ (n k p : Nat) (z6 z7 : Option Value), k + n = i → wayK K f t k = some p → Wp (d + 2) md_190 46 [some (.ref 287), some (.int (nI f)), some (.int (nI t)), some (.int (nI i)), some (.int (nI p)), some (.int (nI k)), z6, z7] [] (mset M (aset σ 13 h)) (IsR (some (.int (oI (wayK K f t i)))) (mset M (aset σ 13 h))) := by
  intro n
  obtain ⟨b0, b1, b2, b3, b4, b5, b6, b7, b8, b9, b10, b11, b12⟩ := ok_h ok
  induction n with
  | zero =>
    intro k p z6 z7 hk hw
    rw [show i = k by omega, hw]
    refine Wp.n (pc' := 49) 2 rfl ?_
    refine Wp.nc3 (x := k) (y := k) (tgt := 150) (len := 3) rfl (by omega) (by omega) (fun h49 => ?_) (fun h49 => ?_)
    · skip
      refine Wp.n (pc' := 152) 1 rfl ?_
      refine Wp.retI (len := 1) rfl rfl ?_
      exact ⟨rfl, rfl⟩
    · omega
  | succ n ih =>
    intro k p z6 z7 hk hw
    obtain ⟨p1, p2, _⟩ := wayK_v ok hf hw
    refine Wp.n (pc' := 49) 2 rfl ?_
    refine Wp.nc3 (x := k) (y := i) (tgt := 150) (len := 3) rfl (by omega) (by omega) (fun h49 => ?_) (fun h49 => ?_)
    · omega
    · skip
      refine Wp.n (pc' := 55) 2 rfl ?_
      refine Wp.nc1 (x := p) (y := t) (tgt := 60) (len := 3) rfl (by omega) (by omega) (fun h55 => ?_) (fun h55 => ?_)
      · skip
        refine Wp.n (pc' := 66) 4 rfl ?_
        obtain ⟨q, hq⟩ := nxt_s ok (t := t) (p := p) (by omega) h55
        refine m_way_q hM ok hh p1 (by omega) (kh K 0) 0 (by omega) (fun z => ?_)
        rw [show fnd (nxtP K t p) (kh K 0) 0 = some q from hq]
        refine Wp.n (pc' := 144) 2 rfl ?_
        refine Wp.incN (x := k) (len := 3) rfl rfl ?_
        refine Wp.n (pc' := 46) 1 rfl ?_
        exact ih (k + 1) q _ _ (by omega) (by show (wayK K f t k).bind (nxt K t) = some q; rw [hw]; exact hq)
        
      · skip
        refine Wp.n (pc' := 59) 1 rfl ?_
        refine Wp.retI (len := 1) rfl rfl ?_
        refine ⟨?_, rfl⟩
        have e : wayK K f t (k + 1) = none := by
          show (wayK K f t k).bind (nxt K t) = none
          rw [hw, h55]
          exact nxt_t ok
        have e2 := wayK_n e n
        rw [show k + 1 + n = i by omega] at e2
        rw [e2]
        rfl

theorem m_way (hM : RepM σ 0 K) (ok : KOK K) (hσ0 : σ.1 0 = 0) (x y i : Int32) : Wp (d + 3) md_190 0 [some (.ref 287), some (.int x), some (.int y), some (.int i), none, none, none, none] [] (mset M σ) (fun v M' => v = some (.int (if (isN (kh K 0) x && isN (kh K 0) y) = true then wayA K x.toNatClampNeg y.toNatClampNeg i else -2)) ∧ ∃ h, M' = mset M (aset σ 13 h)) := by
  obtain ⟨b0, b1, b2, b3, b4, b5, b6, b7, b8, b9, b10, b11, b12⟩ := ok_h ok
  have e0 : mset M σ = mset M (aset σ 13 (σ.2.2.1 13)) := by rw [aset_same]
  refine Wp.n (pc' := 2) 2 rfl ?_
  refine Wp.mput0 (len := 3) rfl hσ0 ?_
  refine Wp.n (pc' := 7) 2 rfl ?_
  refine Wp.ecallV (len := 3) rfl rfl rfl (rfl) rfl (by decide) rfl (m_isPlaceK hM ok _) ?_
  refine Wp.ifb0 (tgt := 21) (len := 3) rfl (fun h10 => ?_) (fun h10 => ?_)
  · skip
    refine Wp.n (pc' := 23) 1 rfl ?_
    refine Wp.retI (len := 1) rfl rfl ?_
    refine ⟨?_, σ.2.2.1 13, e0⟩
    first | (rw [h10]; rfl) | (rw [h10, h18]; rfl)
  · skip
    refine Wp.n (pc' := 15) 2 rfl ?_
    refine Wp.ecallV (len := 3) rfl rfl rfl (rfl) rfl (by decide) rfl (m_isPlaceK hM ok _) ?_
    refine Wp.ifb1 (tgt := 24) (len := 3) rfl (fun h18 => ?_) (fun h18 => ?_)
    · skip
      rw [h10, h18]
      obtain ⟨a, ha, rfl⟩ := isN_of h10
      obtain ⟨b, hb, rfl⟩ := isN_of h18
      rw [nI_clamp (by omega), nI_clamp (by omega)]
      have hd := dist_le ok a b
      refine Wp.n (pc' := 27) 3 rfl ?_
      refine Wp.callV (len := 3) rfl rfl rfl (rfl) rfl (by decide) rfl (m_byRoad hM ok ha (by omega)) ?_
      rintro _ _ ⟨rfl, h, rfl, hh⟩
      refine Wp.n (pc' := 31) 1 rfl ?_
      refine Wp.ic0 (tgt := 38) (len := 3) rfl (fun h31 => ?_) (fun h31 => ?_)
      · skip
        refine Wp.n (pc' := 39) 1 rfl ?_
        refine Wp.retI (len := 1) rfl rfl ?_
        refine ⟨?_, h, rfl⟩
        unfold wayA
        first
          | (rw [if_pos (show (true && true) = true from rfl), if_pos (Or.inl (by rw [i_lt]; rw [i_le] at h35; exact Int.not_le.mp h35))]; done)
          | (rw [if_pos (show (true && true) = true from rfl), if_pos (Or.inr (fun c => by rw [show dI (distK K a b) = nI (distK K a b) from if_pos c] at h31; exact oI_ne (by omega) h31))]; done)
      · skip
        refine Wp.n (pc' := 35) 1 rfl ?_
        refine Wp.if3 (tgt := 40) (len := 3) rfl (fun h35 => ?_) (fun h35 => ?_)
        · skip
          have hc : distK K a b < 1000000 := Decidable.byContradiction (fun c => h31 (if_neg c))
          obtain ⟨k, hk, rfl⟩ := nI_of (show ¬ i < 0 from fun q => by rw [i_lt] at q; rw [i_le] at h35; exact absurd (show (i.toInt < 0) from q) (by have : (0 : Int) ≤ i.toInt := h35; omega))
          refine Wp.n (pc' := 46) 4 rfl ?_
          refine Wp.mono (m_way_l hM ok hh ha hb hc hk k 0 a none none (by omega) rfl) (fun v M' q => ?_)
          obtain ⟨rfl, rfl⟩ := q
          refine ⟨?_, h, rfl⟩
          unfold wayA
          rw [if_pos (show (true && true) = true from rfl), if_neg (by intro q; rcases q with q | q; exact nI_pos hk q; exact q hc), nI_clamp hk]
        · skip
          refine Wp.n (pc' := 39) 1 rfl ?_
          refine Wp.retI (len := 1) rfl rfl ?_
          refine ⟨?_, h, rfl⟩
          unfold wayA
          first
            | (rw [if_pos (show (true && true) = true from rfl), if_pos (Or.inl (by rw [i_lt]; rw [i_le] at h35; exact Int.not_le.mp h35))]; done)
            | (rw [if_pos (show (true && true) = true from rfl), if_pos (Or.inr (fun c => by rw [show dI (distK K a b) = nI (distK K a b) from if_pos c] at h31; exact oI_ne (by omega) h31))]; done)
    · skip
      refine Wp.n (pc' := 23) 1 rfl ?_
      refine Wp.retI (len := 1) rfl rfl ?_
      refine ⟨?_, σ.2.2.1 13, e0⟩
      first | (rw [h10]; rfl) | (rw [h10, h18]; rfl)

end RQ
end
