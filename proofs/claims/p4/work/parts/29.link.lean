/-! WHAT JOINS, in the class. -/
/-- the lane at a place of the class -/
def lgl (K : KD) (i : Nat) : Nat := if i < kh K 3 then i else 8
def jad (K : KD) (r j : Nat) : Nat := if j < 20 then r + 3 + j else r + 16 + phL K (j - 20)
def LV (K : KD) (l : Nat) : Prop := l < kh K 3 ∨ (l = 8 ∧ kh K 11 = 1)
def JV (K : KD) (j : Nat) : Prop := j < kh K 2 ∨ (20 ≤ j ∧ LV K (j - 20))
theorem fld_s {α : Type} {f : α → Nat → α} : ∀ (n i : Nat) (x : α), fld f (n + 1) i x = f (fld f n i x) (i + n)
  | 0, i, x => rfl
  | n + 1, i, x => by
    show fld f (n + 1) (i + 1) (f x i) = f (fld f n (i + 1) (f x i)) (i + (n + 1))
    rw [fld_s n (i + 1) (f x i), show i + 1 + n = i + (n + 1) by omega]
theorem fld_c {α : Type} {f g : α → Nat → α} : ∀ (n i : Nat) (x : α), (∀ j, i ≤ j → j < i + n → ∀ y, f y j = g y j) → fld f n i x = fld g n i x
  | 0, i, x, _ => rfl
  | n + 1, i, x, h => by
    show fld f n (i + 1) (f x i) = fld g n (i + 1) (g x i)
    rw [h i (by omega) (by omega), fld_c n (i + 1) (g x i) (fun j h1 h2 => h j (by omega) (by omega))]
theorem joinK_c {K : KD} (ok : KOK K) (a b y : Nat) : fld (fun c i => joinStep K a b y c (lgl K i)) (kh K 3 + kh K 11) 0 (roadK K a b) = joinK K a b y := by
  have b11 : kh K 11 ≤ 1 := (ok_h ok).2.2.2.2.2.2.2.2.2.2.2.1
  have e : fld (fun c i => joinStep K a b y c (lgl K i)) (kh K 3) 0 (roadK K a b) = fld (joinStep K a b y) (kh K 3) 0 (roadK K a b) := fld_c _ _ _ (fun j _ h2 c => by
    show joinStep K a b y c (lgl K j) = _
    unfold lgl
    rw [if_pos (by omega)])
  unfold joinK
  by_cases h : kh K 11 = 1
  · rw [h, fld_s, e]
    show joinStep K a b y _ (lgl K (0 + kh K 3)) = _
    unfold lgl
    rw [if_neg (by omega)]
    rfl
  · rw [show kh K 11 = 0 by omega, Nat.add_zero, e]
    rfl
section LINK
variable {d : Nat} {M : AM} {r : Nat} {ρ : RC} {K : KD}
theorem lgl_v (ok : KOK K) {i : Nat} (hi : i < kh K 3 + kh K 11) : LV K (lgl K i) ∧ phL K (lgl K i) = i := by
  obtain ⟨b0, b1, b2, b3, b4, b5, b6, b7, b8, b9, b10, b11, b12⟩ := ok_h ok
  unfold lgl LV phL
  by_cases h : i < kh K 3
  · rw [if_pos h]
    exact ⟨Or.inl h, if_neg (by omega)⟩
  · rw [if_neg h]
    exact ⟨Or.inr ⟨rfl, by omega⟩, by rw [if_pos rfl]; omega⟩
theorem LV_ph (ok : KOK K) {l : Nat} (hl : LV K l) : phL K l ≤ 8 ∧ phL K l < kh K 3 + kh K 11 := by
  obtain ⟨b0, b1, b2, b3, b4, b5, b6, b7, b8, b9, b10, b11, b12⟩ := ok_h ok
  unfold phL
  by_cases h : l = 8
  · rw [if_pos h]
    unfold LV at hl
    omega
  · rw [if_neg h]
    unfold LV at hl
    omega
theorem j_obj (hR : RA M r ρ) (hK : RepC ρ K) (ok : KOK K) {j : Nat} (hj : JV K j) : ∃ n f, M (jad K r j) = .inr (1, kfs n f) ∧ f 3 = nI (spanJ K j) ∧ (j < 20 → n = j ∧ f 1 = 0 ∧ f 6 = 0) ∧ (20 ≤ j → n = phL K (j - 20) ∧ f 1 = nI (kl K (j - 20) 5 + 1) ∧ f 6 = nI (kl K (j - 20) 6)) := by
  obtain ⟨b0, b1, b2, b3, b4, b5, b6, b7, b8, b9, b10, b11, b12⟩ := ok_h ok
  unfold jad spanJ
  rcases hj with h | ⟨h, h2⟩
  · have q := rc_road hK h
    rw [if_pos (by omega), if_pos (by omega)]
    exact ⟨j, rlk ρ j, ra_road hR (by omega), q.2.2.1, fun _ => ⟨rfl, q.1, q.2.2.2⟩, fun _ => by omega⟩
  · have q := rc_lane hK h2
    have p := LV_ph ok h2
    rw [if_neg (by omega), if_neg (by omega)]
    exact ⟨phL K (j - 20), rlk ρ (12 + phL K (j - 20)), ra_lane hR (by omega), q.2.2.1, fun _ => by omega, fun _ => ⟨rfl, q.1, q.2.2.2.2.2⟩⟩
theorem k_isOpen (hR : RA M r ρ) (hK : RepC ρ K) (ok : KOK K) {l y : Nat} (hl : LV K l) (hy : y < 31) : Ev d md_39 0 [some (.ref r), some (.ref (r + 16 + phL K l)), some (.int (nI y))] [] M (some (.int (bI (openK K l y))), M) := by
  refine Wp.toEv ?_
  obtain ⟨b0, b1, b2, b3, b4, b5, b6, b7, b8, b9, b10, b11, b12⟩ := ok_h ok
  have q := rc_lane hK hl
  have p := LV_ph ok hl
  have t := ok_lane ok hl
  have hM := ra_lane hR (i := phL K l) (by omega)
  refine Wp.n (pc' := 1) 1 rfl ?_
  refine Wp.get (len := 3) rfl (hM) rfl ?_
  refine Wp.top q.1 ?_
  obtain hs | hs | hs : kl K l 5 = 0 ∨ kl K l 5 = 1 ∨ kl K l 5 = 2 := by omega
  · rw [hs]
    refine Wp.sw (len := 28) (t := 32) rfl rfl ?_
    refine Wp.n (pc' := 34) 2 rfl ?_
    refine Wp.get (len := 3) rfl (hM) rfl ?_
    refine Wp.top q.2.2.2.1 ?_
    refine Wp.nc2 (x := y) (y := kl K l 3) (tgt := 52) (len := 3) rfl (by omega) (by omega) (fun h37 => ?_) (fun h37 => ?_)
    · skip
      refine Wp.n (pc' := 53) 1 rfl ?_
      refine Wp.retZ (len := 1) (c := false) rfl rfl rfl ?_
      refine ⟨?_, rfl⟩
      unfold openK
      rw [if_neg (by omega), if_neg (by omega)]
      first | rw [decide_eq_true (by omega)] | rw [decide_eq_false (by omega)]
    · skip
      refine Wp.n (pc' := 42) 2 rfl ?_
      refine Wp.get (len := 3) rfl (hM) rfl ?_
      refine Wp.top q.2.2.2.2.1 ?_
      refine Wp.nc4 (x := y) (y := kl K l 4) (tgt := 52) (len := 3) rfl (by omega) (by omega) (fun h45 => ?_) (fun h45 => ?_)
      · skip
        refine Wp.n (pc' := 53) 1 rfl ?_
        refine Wp.retZ (len := 1) (c := false) rfl rfl rfl ?_
        refine ⟨?_, rfl⟩
        unfold openK
        rw [if_neg (by omega), if_neg (by omega)]
        first | rw [decide_eq_true (by omega)] | rw [decide_eq_false (by omega)]
      · skip
        refine Wp.n (pc' := 53) 2 rfl ?_
        refine Wp.retZ (len := 1) (c := true) rfl rfl rfl ?_
        refine ⟨?_, rfl⟩
        unfold openK
        rw [if_neg (by omega), if_neg (by omega)]
        first | rw [decide_eq_true (by omega)] | rw [decide_eq_false (by omega)]
  · rw [hs]
    refine Wp.sw (len := 28) (t := 54) rfl rfl ?_
    refine Wp.n (pc' := 55) 1 rfl ?_
    refine Wp.get (len := 3) rfl (ra_obj hR) rfl ?_
    refine Wp.top (rc_fl hK) ?_
    refine Wp.n (pc' := 62) 4 rfl ?_
    refine Wp.if1 (tgt := 69) (len := 3) rfl (fun h62 => ?_) (fun h62 => ?_)
    · rw [n_bit (by omega) hy] at h62
      refine Wp.n (pc' := 70) 1 rfl ?_
      refine Wp.retZ (len := 1) (c := false) rfl rfl rfl ?_
      refine ⟨?_, rfl⟩
      unfold openK
      rw [if_neg (by omega), if_pos hs]
      simp_all
    · rw [n_bit (by omega) hy] at h62
      refine Wp.n (pc' := 70) 2 rfl ?_
      refine Wp.retZ (len := 1) (c := true) rfl rfl rfl ?_
      refine ⟨?_, rfl⟩
      unfold openK
      rw [if_neg (by omega), if_pos hs]
      simp_all
  · rw [hs]
    refine Wp.sw (len := 28) (t := 71) rfl rfl ?_
    refine Wp.n (pc' := 72) 1 rfl ?_
    refine Wp.retZ (len := 1) (c := true) rfl rfl rfl ?_
    refine ⟨?_, rfl⟩
    unfold openK
    rw [if_pos hs]


theorem spanJ_b (ok : KOK K) {j : Nat} (hj : JV K j) : 1 ≤ spanJ K j ∧ spanJ K j ≤ 129 := by
  obtain ⟨b0, b1, b2, b3, b4, b5, b6, b7, b8, b9, b10, b11, b12⟩ := ok_h ok
  unfold spanJ
  rcases hj with h | ⟨h, h2⟩
  · rw [if_pos (by omega)]
    have := ok_road ok h
    omega
  · rw [if_neg (by omega)]
    have := ok_lane ok h2
    omega
theorem k_linkOf_l (hR : RA M r ρ) (hK : RepC ρ K) (ok : KOK K) (h32 : 32 ≤ r) {a b y : Nat} (ha : a < 7) (hb : b < 7) (hy : y < 31) : ∀ (n i : Nat) (cur : Option Nat) (z : Option Value), i + n = kh K 3 + kh K 11 → (∀ j, cur = some j → JV K j) → Wp (d + 1) md_40 20 [some (.ref r), some (.int (nI a)), some (.int (nI b)), some (.int (nI y)), some (va_rf (cur.map (jad K r))), some (.int (bitsE a b)), some (.int (nI i)), z] [] M (IsR (some (va_rf ((fld (fun c i => joinStep K a b y c (lgl K i)) n i cur).map (jad K r)))) M) := by
  intro n
  obtain ⟨b0, b1, b2, b3, b4, b5, b6, b7, b8, b9, b10, b11, b12⟩ := ok_h ok
  induction n with
  | zero =>
    intro i cur z hi hc
    refine Wp.n (pc' := 23) 2 rfl ?_
    refine Wp.get (len := 3) rfl (ra_obj hR) rfl ?_
    refine Wp.top (rc_la hK) ?_
    refine Wp.nc3 (x := i) (y := kh K 3 + kh K 11) (tgt := 109) (len := 3) rfl (by omega) (by omega) (fun h26 => ?_) (fun h26 => ?_)
    · skip
      rcases cur with _ | j
      · skip
        refine Wp.n (pc' := 111) 1 rfl ?_
        refine Wp.retN (len := 1) rfl rfl ?_
        exact ⟨rfl, rfl⟩
      · skip
        refine Wp.n (pc' := 111) 1 rfl ?_
        refine Wp.retR (len := 1) rfl rfl ?_
        exact ⟨rfl, rfl⟩
    · omega
  | succ n ih =>
    intro i cur z hi hc
    obtain ⟨hl, hph⟩ := lgl_v ok (i := i) (by omega)
    have q := rc_lane hK hl
    rw [hph] at q
    have t := ok_lane ok hl
    have e := bitsE_eq (a := kl K (lgl K i) 0) (b := kl K (lgl K i) 1) (c := a) (d := b) (by omega) (by omega) ha hb t.2.2.1
    have kt : ∀ z : Option Value, (shr K cur (lgl K i) = true ∧ btw (kl K (lgl K i) 0) (kl K (lgl K i) 1) a b = true ∧ openK K (lgl K i) y = true) → Wp (d + 1) md_40 20 [some (.ref r), some (.int (nI a)), some (.int (nI b)), some (.int (nI y)), some (.ref (r + 16 + i)), some (.int (bitsE a b)), some (.int (nI (i + 1))), z] [] M (IsR (some (va_rf ((fld (fun c i => joinStep K a b y c (lgl K i)) (n + 1) i cur).map (jad K r)))) M) := by
      intro z hC
      have w := ih (i + 1) (some (20 + lgl K i)) z (by omega) (fun j hj => by cases hj; exact Or.inr ⟨by omega, by rw [show 20 + lgl K i - 20 = lgl K i by omega]; exact hl⟩)
      have e1 : (some (20 + lgl K i)).map (jad K r) = some (r + 16 + i) := by
        show some (jad K r (20 + lgl K i)) = _
        unfold jad
        rw [if_neg (by omega), show 20 + lgl K i - 20 = lgl K i by omega, hph]
      rw [e1] at w
      have e2 : joinStep K a b y cur (lgl K i) = some (20 + lgl K i) := if_pos hC
      show Wp _ _ _ _ _ _ (IsR (some (va_rf ((fld _ n (i + 1) (joinStep K a b y cur (lgl K i))).map (jad K r)))) M)
      rw [e2]
      exact w
    have kf : ∀ z : Option Value, ¬ (shr K cur (lgl K i) = true ∧ btw (kl K (lgl K i) 0) (kl K (lgl K i) 1) a b = true ∧ openK K (lgl K i) y = true) → Wp (d + 1) md_40 20 [some (.ref r), some (.int (nI a)), some (.int (nI b)), some (.int (nI y)), some (va_rf (cur.map (jad K r))), some (.int (bitsE a b)), some (.int (nI (i + 1))), z] [] M (IsR (some (va_rf ((fld (fun c i => joinStep K a b y c (lgl K i)) (n + 1) i cur).map (jad K r)))) M) := by
      intro z hC
      have e2 : joinStep K a b y cur (lgl K i) = cur := if_neg hC
      show Wp _ _ _ _ _ _ (IsR (some (va_rf ((fld _ n (i + 1) (joinStep K a b y cur (lgl K i))).map (jad K r)))) M)
      rw [e2]
      exact ih (i + 1) cur z (by omega) hc
    refine Wp.n (pc' := 23) 2 rfl ?_
    refine Wp.get (len := 3) rfl (ra_obj hR) rfl ?_
    refine Wp.top (rc_la hK) ?_
    refine Wp.nc3 (x := i) (y := kh K 3 + kh K 11) (tgt := 109) (len := 3) rfl (by omega) (by omega) (fun h26 => ?_) (fun h26 => ?_)
    · omega
    · skip
      rcases cur with _ | j
      · skip
        refine Wp.n (pc' := 31) 1 rfl ?_
        refine Wp.s (pc' := 52) rfl ?_
        refine Wp.n (pc' := 61) 4 rfl ?_
        refine Wp.nz0 (x := 1) (tgt := 103) (len := 3) rfl (by omega) (fun h61 => ?_) (fun h61 => ?_)
        · omega
        · skip
          refine Wp.n (pc' := 65) 1 rfl ?_
          refine Wp.get (len := 3) rfl (ra_obj hR) rfl ?_
          refine Wp.n (pc' := 70) 1 rfl ?_
          refine Wp.aaldN (j := i) (len := 1) rfl (ra_lanes hR) rfl (by omega) (by decide) (if_pos (by omega)) ?_
          refine Wp.get (len := 3) rfl (ra_lane hR (by omega)) rfl ?_
          refine Wp.top q.2.1 ?_
          refine Wp.n (pc' := 76) 1 rfl ?_
          refine Wp.ic1 (tgt := 103) (len := 3) rfl (fun h76 => ?_) (fun h76 => ?_)
          · skip
            refine Wp.incN (x := i) (len := 3) rfl rfl ?_
            refine Wp.n (pc' := 20) 1 rfl ?_
            first
              | exact kf _ (fun c => h76 (e.mpr c.2.1))
              | exact kf _ (fun c => by have := of_decide_eq_true c.1; omega)
              | exact kf _ (fun c => absurd (c.2.2.symm.trans h91) (by decide))
              | exact kt _ ⟨rfl, e.mp h76, h91⟩
              | exact kt _ ⟨decide_eq_true (by omega), e.mp h76, h91⟩
          · skip
            refine Wp.n (pc' := 81) 2 rfl ?_
            refine Wp.get (len := 3) rfl (ra_obj hR) rfl ?_
            refine Wp.n (pc' := 86) 1 rfl ?_
            refine Wp.aaldN (j := i) (len := 1) rfl (ra_lanes hR) rfl (by omega) (by decide) (if_pos (by omega)) ?_
            refine Wp.n (pc' := 88) 1 rfl ?_
            refine Wp.ecallV (len := 3) rfl rfl rfl (ra_obj hR) rfl h32 rfl ((hph ▸ k_isOpen hR hK ok hl (by omega))) ?_
            refine Wp.ifb0 (tgt := 103) (len := 3) rfl (fun h91 => ?_) (fun h91 => ?_)
            · skip
              refine Wp.incN (x := i) (len := 3) rfl rfl ?_
              refine Wp.n (pc' := 20) 1 rfl ?_
              first
                | exact kf _ (fun c => h76 (e.mpr c.2.1))
                | exact kf _ (fun c => by have := of_decide_eq_true c.1; omega)
                | exact kf _ (fun c => absurd (c.2.2.symm.trans h91) (by decide))
                | exact kt _ ⟨rfl, e.mp h76, h91⟩
                | exact kt _ ⟨decide_eq_true (by omega), e.mp h76, h91⟩
            · skip
              refine Wp.n (pc' := 95) 1 rfl ?_
              refine Wp.get (len := 3) rfl (ra_obj hR) rfl ?_
              refine Wp.n (pc' := 100) 1 rfl ?_
              refine Wp.aaldN (j := i) (len := 1) rfl (ra_lanes hR) rfl (by omega) (by decide) (if_pos (by omega)) ?_
              refine Wp.n (pc' := 103) 1 rfl ?_
              refine Wp.incN (x := i) (len := 3) rfl rfl ?_
              refine Wp.n (pc' := 20) 1 rfl ?_
              first
                | exact kf _ (fun c => h76 (e.mpr c.2.1))
                | exact kf _ (fun c => by have := of_decide_eq_true c.1; omega)
                | exact kf _ (fun c => absurd (c.2.2.symm.trans h91) (by decide))
                | exact kt _ ⟨rfl, e.mp h76, h91⟩
                | exact kt _ ⟨decide_eq_true (by omega), e.mp h76, h91⟩
      · obtain ⟨n0, f, hM, hf, _⟩ := j_obj hR hK ok (hc j rfl)
        have hsp := spanJ_b ok (hc j rfl)
        refine Wp.n (pc' := 31) 1 rfl ?_
        refine Wp.s (pc' := 34) rfl ?_
        refine Wp.n (pc' := 35) 1 rfl ?_
        refine Wp.get (len := 3) rfl (ra_obj hR) rfl ?_
        refine Wp.n (pc' := 40) 1 rfl ?_
        refine Wp.aaldN (j := i) (len := 1) rfl (ra_lanes hR) rfl (by omega) (by decide) (if_pos (by omega)) ?_
        refine Wp.get (len := 3) rfl (ra_lane hR (by omega)) rfl ?_
        refine Wp.top q.2.2.1 ?_
        refine Wp.n (pc' := 46) 1 rfl ?_
        refine Wp.get (len := 3) rfl (hM) rfl ?_
        refine Wp.top hf ?_
        refine Wp.nc3 (x := kl K (lgl K i) 2) (y := spanJ K j) (tgt := 56) (len := 3) rfl (by omega) (by omega) (fun h49 => ?_) (fun h49 => ?_)
        · skip
          refine Wp.n (pc' := 61) 3 rfl ?_
          refine Wp.nz0 (x := 0) (tgt := 103) (len := 3) rfl (by omega) (fun h61 => ?_) (fun h61 => ?_)
          · skip
            refine Wp.incN (x := i) (len := 3) rfl rfl ?_
            refine Wp.n (pc' := 20) 1 rfl ?_
            first
              | exact kf _ (fun c => h76 (e.mpr c.2.1))
              | exact kf _ (fun c => by have := of_decide_eq_true c.1; omega)
              | exact kf _ (fun c => absurd (c.2.2.symm.trans h91) (by decide))
              | exact kt _ ⟨rfl, e.mp h76, h91⟩
              | exact kt _ ⟨decide_eq_true (by omega), e.mp h76, h91⟩
          · omega
        · skip
          refine Wp.n (pc' := 61) 4 rfl ?_
          refine Wp.nz0 (x := 1) (tgt := 103) (len := 3) rfl (by omega) (fun h61 => ?_) (fun h61 => ?_)
          · omega
          · skip
            refine Wp.n (pc' := 65) 1 rfl ?_
            refine Wp.get (len := 3) rfl (ra_obj hR) rfl ?_
            refine Wp.n (pc' := 70) 1 rfl ?_
            refine Wp.aaldN (j := i) (len := 1) rfl (ra_lanes hR) rfl (by omega) (by decide) (if_pos (by omega)) ?_
            refine Wp.get (len := 3) rfl (ra_lane hR (by omega)) rfl ?_
            refine Wp.top q.2.1 ?_
            refine Wp.n (pc' := 76) 1 rfl ?_
            refine Wp.ic1 (tgt := 103) (len := 3) rfl (fun h76 => ?_) (fun h76 => ?_)
            · skip
              refine Wp.incN (x := i) (len := 3) rfl rfl ?_
              refine Wp.n (pc' := 20) 1 rfl ?_
              first
                | exact kf _ (fun c => h76 (e.mpr c.2.1))
                | exact kf _ (fun c => by have := of_decide_eq_true c.1; omega)
                | exact kf _ (fun c => absurd (c.2.2.symm.trans h91) (by decide))
                | exact kt _ ⟨rfl, e.mp h76, h91⟩
                | exact kt _ ⟨decide_eq_true (by omega), e.mp h76, h91⟩
            · skip
              refine Wp.n (pc' := 81) 2 rfl ?_
              refine Wp.get (len := 3) rfl (ra_obj hR) rfl ?_
              refine Wp.n (pc' := 86) 1 rfl ?_
              refine Wp.aaldN (j := i) (len := 1) rfl (ra_lanes hR) rfl (by omega) (by decide) (if_pos (by omega)) ?_
              refine Wp.n (pc' := 88) 1 rfl ?_
              refine Wp.ecallV (len := 3) rfl rfl rfl (ra_obj hR) rfl h32 rfl ((hph ▸ k_isOpen hR hK ok hl (by omega))) ?_
              refine Wp.ifb0 (tgt := 103) (len := 3) rfl (fun h91 => ?_) (fun h91 => ?_)
              · skip
                refine Wp.incN (x := i) (len := 3) rfl rfl ?_
                refine Wp.n (pc' := 20) 1 rfl ?_
                first
                  | exact kf _ (fun c => h76 (e.mpr c.2.1))
                  | exact kf _ (fun c => by have := of_decide_eq_true c.1; omega)
                  | exact kf _ (fun c => absurd (c.2.2.symm.trans h91) (by decide))
                  | exact kt _ ⟨rfl, e.mp h76, h91⟩
                  | exact kt _ ⟨decide_eq_true (by omega), e.mp h76, h91⟩
              · skip
                refine Wp.n (pc' := 95) 1 rfl ?_
                refine Wp.get (len := 3) rfl (ra_obj hR) rfl ?_
                refine Wp.n (pc' := 100) 1 rfl ?_
                refine Wp.aaldN (j := i) (len := 1) rfl (ra_lanes hR) rfl (by omega) (by decide) (if_pos (by omega)) ?_
                refine Wp.n (pc' := 103) 1 rfl ?_
                refine Wp.incN (x := i) (len := 3) rfl rfl ?_
                refine Wp.n (pc' := 20) 1 rfl ?_
                first
                  | exact kf _ (fun c => h76 (e.mpr c.2.1))
                  | exact kf _ (fun c => by have := of_decide_eq_true c.1; omega)
                  | exact kf _ (fun c => absurd (c.2.2.symm.trans h91) (by decide))
                  | exact kt _ ⟨rfl, e.mp h76, h91⟩
                  | exact kt _ ⟨decide_eq_true (by omega), e.mp h76, h91⟩

theorem roadK_v {a b j : Nat} (h : roadK K a b = some j) : j < kh K 2 ∧ btw (kr K j 0) (kr K j 1) a b = true := by
  obtain ⟨_, h2, h3⟩ := fnd_lt h
  exact ⟨by omega, h3⟩
theorem k_linkOf (hR : RA M r ρ) (hK : RepC ρ K) (ok : KOK K) (h32 : 32 ≤ r) {a b y : Nat} (ha : a < 7) (hb : b < 7) (hy : y < 31) : Ev (d + 1) md_40 0 [some (.ref r), some (.int (nI a)), some (.int (nI b)), some (.int (nI y)), none, none, none, none] [] M (some (va_rf ((joinK K a b y).map (jad K r))), M) := by
  refine Wp.toEv ?_
  obtain ⟨b0, b1, b2, b3, b4, b5, b6, b7, b8, b9, b10, b11, b12⟩ := ok_h ok
  refine Wp.n (pc' := 3) 3 rfl ?_
  refine Wp.ecallV (len := 3) rfl rfl rfl (ra_obj hR) rfl h32 rfl (k_roadOf hR hK ok ha hb) ?_
  rw [← joinK_c ok]
  have w := k_linkOf_l (d := d) hR hK ok h32 ha hb hy (kh K 3 + kh K 11) 0 (roadK K a b) none (by omega) (fun j hj => Or.inl (roadK_v hj).1)
  have e : (roadK K a b).map (fun i => r + 3 + i) = (roadK K a b).map (jad K r) := by
    cases h : roadK K a b with
    | none => rfl
    | some j =>
      have := (roadK_v h).1
      show some (r + 3 + j) = some (jad K r j)
      unfold jad
      rw [if_pos (by omega)]
  rw [e]
  refine Wp.n (pc' := 20) 11 ?_ w
  cases roadK K a b <;> rfl
end LINK
