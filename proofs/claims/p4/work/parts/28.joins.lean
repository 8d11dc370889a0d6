/-! ROADS, LANES, AND WHAT JOINS: class and reference. -/
def IsR (w : Option Value) (M1 : AM) : Option Value → AM → Prop := fun v M' => v = w ∧ M' = M1
theorem Wp.toEv {d : Nat} {X : MD} {pc : Nat} {l : AL} {st : List Value} {M M1 : AM} {w : Option Value} (h : Wp d X pc l st M (IsR w M1)) : Ev d X pc l st M (w, M1) := by
  obtain ⟨v, M', h1, rfl, rfl⟩ := h
  exact h1
section REP
variable {ρ : RC} {K : KD} {σ : MS} {s : Nat}
theorem rc_pl (h : RepC ρ K) : rhd ρ 0 = nI (kh K 0) := h.1
theorem rc_dy (h : RepC ρ K) : rhd ρ 1 = nI (kh K 1) := h.2.1
theorem rc_ln (h : RepC ρ K) : rhd ρ 2 = nI (kh K 5) := h.2.2.1
theorem rc_fl (h : RepC ρ K) : rhd ρ 3 = nI (kh K 12) := h.2.2.2.1
theorem rc_rd (h : RepC ρ K) : rhd ρ 6 = nI (kh K 2) := h.2.2.2.2.1
theorem rc_la (h : RepC ρ K) : rhd ρ 8 = nI (kh K 3 + kh K 11) := h.2.2.2.2.2.1
theorem rc_wk (h : RepC ρ K) : rhd ρ 10 = nI (kh K 4) := h.2.2.2.2.2.2.1
theorem rc_law (h : RepC ρ K) (h0 : 0 < kh K 0) {j : Nat} (hj : j < 5) : rlw ρ j = nI (kh K (6 + j)) := h.2.2.2.2.2.2.2.1 h0 j hj
theorem rc_road (h : RepC ρ K) {i : Nat} (hi : i < kh K 2) : rlk ρ i 1 = 0 ∧ rlk ρ i 2 = bitsE (kr K i 0) (kr K i 1) ∧ rlk ρ i 3 = nI (kr K i 2) ∧ rlk ρ i 6 = 0 := h.2.2.2.2.2.2.2.2.1 i hi
theorem rc_lane (h : RepC ρ K) {l : Nat} (hl : l < kh K 3 ∨ (l = 8 ∧ kh K 11 = 1)) : rlk ρ (12 + phL K l) 1 = nI (kl K l 5 + 1) ∧ rlk ρ (12 + phL K l) 2 = bitsE (kl K l 0) (kl K l 1) ∧ rlk ρ (12 + phL K l) 3 = nI (kl K l 2) ∧ rlk ρ (12 + phL K l) 4 = nI (kl K l 3) ∧ rlk ρ (12 + phL K l) 5 = nI (kl K l 4) ∧ rlk ρ (12 + phL K l) 6 = nI (kl K l 6) := h.2.2.2.2.2.2.2.2.2.1 l hl
theorem rc_walk (h : RepC ρ K) {i : Nat} (hi : i < kh K 4) : rwk ρ i 0 = nI (kw K i 0) ∧ rwk ρ i 1 = nI (kw K i 1) ∧ rwk ρ i 2 = nI (kw K i 2) ∧ rwk ρ i 3 = nI (kw K i 3 - 1) ∧ ∀ j, j < kw K i 3 → rst ρ i j = nI (kw K i (4 + j)) := h.2.2.2.2.2.2.2.2.2.2 i hi
theorem rm_has (h : RepM σ s K) {j : Nat} (hj : j < 5) : σ.2.2.1 6 (5 * s + j) = nI (kh K j) := h.1 j hj
theorem rm_law (h : RepM σ s K) (h0 : 0 < kh K 0) {j : Nat} (hj : j < 5) : σ.2.2.1 7 (5 * s + j) = nI (kh K (6 + j)) := h.2.1 h0 j hj
theorem rm_ln (h : RepM σ s K) : σ.2.2.1 5 s = nI (kh K 5) := h.2.2.1
theorem rm_fl (h : RepM σ s K) : σ.2.2.2 8 s = lN (kh K 12) := h.2.2.2.1
theorem rm_road (h : RepM σ s K) {i j : Nat} (hi : i < kh K 2) (hj : j < 3) : σ.2.2.1 9 (36 * s + 3 * i + j) = nI (kr K i j) := h.2.2.2.2.1 i hi j hj
theorem rm_lane (h : RepM σ s K) {i j : Nat} (hi : i < kh K 3 ∨ (i = 8 ∧ kh K 11 = 1)) (hj : j < 7) : σ.2.2.1 10 (63 * s + 7 * i + j) = nI (kl K i j) := h.2.2.2.2.2.1 i hi j hj
theorem rm_walk (h : RepM σ s K) {i : Nat} (hi : i < kh K 4) : (∀ j, j < 4 → σ.2.2.1 11 (110 * s + 11 * i + j) = nI (kw K i j)) ∧ ∀ j, j < kw K i 3 → σ.2.2.1 11 (110 * s + 11 * i + 4 + j) = nI (kw K i (4 + j)) := h.2.2.2.2.2.2 i hi
-- slot 0
theorem r0_has (h : RepM σ 0 K) {j : Nat} (hj : j < 5) : σ.2.2.1 6 j = nI (kh K j) := by have := rm_has h hj; rwa [show 5 * 0 + j = j by omega] at this
theorem r0_law (h : RepM σ 0 K) (h0 : 0 < kh K 0) {j : Nat} (hj : j < 5) : σ.2.2.1 7 j = nI (kh K (6 + j)) := by have := rm_law h h0 hj; rwa [show 5 * 0 + j = j by omega] at this
theorem r0_road (h : RepM σ 0 K) {i j q : Nat} (hi : i < kh K 2) (hj : j < 3) (hq : q = 3 * i + j) : σ.2.2.1 9 q = nI (kr K i j) := by have := rm_road h hi hj; rwa [show 36 * 0 + 3 * i + j = q by omega] at this
theorem r0_lane (h : RepM σ 0 K) {i j q : Nat} (hi : i < kh K 3 ∨ (i = 8 ∧ kh K 11 = 1)) (hj : j < 7) (hq : q = 7 * i + j) : σ.2.2.1 10 q = nI (kl K i j) := by have := rm_lane h hi hj; rwa [show 63 * 0 + 7 * i + j = q by omega] at this
theorem r0_walk (h : RepM σ 0 K) {i j q : Nat} (hi : i < kh K 4) (hj : j < 4) (hq : q = 11 * i + j) : σ.2.2.1 11 q = nI (kw K i j) := by have := (rm_walk h hi).1 j hj; rwa [show 110 * 0 + 11 * i + j = q by omega] at this
theorem r0_stop (h : RepM σ 0 K) {i j q : Nat} (hi : i < kh K 4) (hj : j < kw K i 3) (hq : q = 11 * i + 4 + j) : σ.2.2.1 11 q = nI (kw K i (4 + j)) := by have := (rm_walk h hi).2 j hj; rwa [show 110 * 0 + 11 * i + 4 + j = q by omega] at this
theorem ok_h (h : KOK K) : kh K 0 ≤ 7 ∧ kh K 1 ≤ 30 ∧ kh K 2 ≤ 12 ∧ kh K 3 ≤ 8 ∧ kh K 4 ≤ 10 ∧ kh K 5 ≤ 2000 ∧ kh K 6 ≤ 99 ∧ kh K 7 ≤ 99 ∧ kh K 8 ≤ 99 ∧ kh K 9 ≤ 1 ∧ kh K 10 ≤ 1 ∧ kh K 11 ≤ 1 ∧ kh K 12 < 2 ^ 30 := ⟨h.1, h.2.1, h.2.2.1, h.2.2.2.1, h.2.2.2.2.1, h.2.2.2.2.2.1, h.2.2.2.2.2.2.1, h.2.2.2.2.2.2.2.1, h.2.2.2.2.2.2.2.2.1, h.2.2.2.2.2.2.2.2.2.1, h.2.2.2.2.2.2.2.2.2.2.1, h.2.2.2.2.2.2.2.2.2.2.2.1, h.2.2.2.2.2.2.2.2.2.2.2.2.1⟩
theorem ok_ln (h : KOK K) : 0 < kh K 5 ↔ 0 < kh K 0 := h.2.2.2.2.2.2.2.2.2.2.2.2.2.1
theorem ok_road (h : KOK K) {i : Nat} (hi : i < kh K 2) : kr K i 0 < kh K 0 ∧ kr K i 1 < kh K 0 ∧ kr K i 0 ≠ kr K i 1 ∧ 1 ≤ kr K i 2 ∧ kr K i 2 ≤ 129 := h.2.2.2.2.2.2.2.2.2.2.2.2.2.2.1 i hi
theorem ok_lane (h : KOK K) {i : Nat} (hi : i < kh K 3 ∨ (i = 8 ∧ kh K 11 = 1)) : kl K i 0 < kh K 0 ∧ kl K i 1 < kh K 0 ∧ kl K i 0 ≠ kl K i 1 ∧ 1 ≤ kl K i 2 ∧ kl K i 2 ≤ 99 ∧ kl K i 3 ≤ 30 ∧ kl K i 4 ≤ 30 ∧ kl K i 5 ≤ 2 ∧ kl K i 6 ≤ 100 := h.2.2.2.2.2.2.2.2.2.2.2.2.2.2.2.1 i hi
theorem ok_walk (h : KOK K) {i : Nat} (hi : i < kh K 4) : kw K i 0 ≤ 4 ∧ 1 ≤ kw K i 1 ∧ kw K i 1 ≤ 9 ∧ kw K i 2 < kh K 1 ∧ 2 ≤ kw K i 3 ∧ kw K i 3 ≤ 7 ∧ (∀ j, j < kw K i 3 → kw K i (4 + j) < kh K 0) ∧ (∀ j, j + 1 < kw K i 3 → kw K i (4 + j) ≠ kw K i (4 + j + 1)) := h.2.2.2.2.2.2.2.2.2.2.2.2.2.2.2.2.1 i hi
theorem ok_uni (h : KOK K) {i j : Nat} (hi : i < kh K 2) (hj : j < kh K 2) (hb : btw (kr K i 0) (kr K i 1) (kr K j 0) (kr K j 1) = true) : i = j := h.2.2.2.2.2.2.2.2.2.2.2.2.2.2.2.2.2 i j hi hj hb
end REP

section JOIN
variable {d : Nat} {M : AM} {r : Nat} {ρ : RC} {K : KD} {σ : MS}
theorem k_roadOf_l (hR : RA M r ρ) (hK : RepC ρ K) (ok : KOK K) {a b : Nat} (ha : a < 7) (hb : b < 7) : ∀ (n i : Nat), i + n = kh K 2 → Wp d md_29 11 [some (.ref r), some (.int (nI a)), some (.int (nI b)), some (.int (bitsE a b)), some (.int (nI i))] [] M (IsR (some (va_rf ((fnd (fun i => btw (kr K i 0) (kr K i 1) a b) n i).map (fun i => r + 3 + i)))) M) := by
  intro n
  obtain ⟨b0, b1, b2, b3, b4, b5, b6, b7, b8, b9, b10, b11, b12⟩ := ok_h ok
  induction n with
  | zero =>
    intro i hi
    refine Wp.n (pc' := 14) 2 rfl ?_
    refine Wp.get (len := 3) rfl (ra_obj hR) rfl ?_
    refine Wp.top (rc_rd hK) ?_
    refine Wp.nc3 (x := i) (y := kh K 2) (tgt := 48) (len := 3) rfl (by omega) (by omega) (fun h17 => ?_) (fun h17 => ?_)
    · skip
      refine Wp.n (pc' := 49) 1 rfl ?_
      refine Wp.retN (len := 1) rfl rfl ?_
      exact ⟨rfl, rfl⟩
    · omega
  | succ n ih =>
    intro i hi
    have hl := rc_road hK (i := i) (by omega)
    have hk := ok_road ok (i := i) (by omega)
    have e := bitsE_eq (a := kr K i 0) (b := kr K i 1) (c := a) (d := b) (by omega) (by omega) ha hb hk.2.2.1
    refine Wp.n (pc' := 14) 2 rfl ?_
    refine Wp.get (len := 3) rfl (ra_obj hR) rfl ?_
    refine Wp.top (rc_rd hK) ?_
    refine Wp.nc3 (x := i) (y := kh K 2) (tgt := 48) (len := 3) rfl (by omega) (by omega) (fun h17 => ?_) (fun h17 => ?_)
    · omega
    · skip
      refine Wp.n (pc' := 21) 1 rfl ?_
      refine Wp.get (len := 3) rfl (ra_obj hR) rfl ?_
      refine Wp.n (pc' := 26) 1 rfl ?_
      refine Wp.aaldN (j := i) (len := 1) rfl (ra_roads hR) rfl (by omega) (by decide) (if_pos (by omega)) ?_
      refine Wp.get (len := 3) rfl (ra_road hR (by omega)) rfl ?_
      refine Wp.top hl.2.1 ?_
      refine Wp.n (pc' := 31) 1 rfl ?_
      refine Wp.ic1 (tgt := 42) (len := 3) rfl (fun h31 => ?_) (fun h31 => ?_)
      · skip
        refine Wp.incN (x := i) (len := 3) rfl rfl ?_
        refine Wp.n (pc' := 11) 1 rfl ?_
        have := ih (i + 1) (by omega)
        unfold fnd
        rw [if_neg (fun q => h31 (e.mpr q))]
        exact this
      · skip
        refine Wp.n (pc' := 35) 1 rfl ?_
        refine Wp.get (len := 3) rfl (ra_obj hR) rfl ?_
        refine Wp.n (pc' := 40) 1 rfl ?_
        refine Wp.aaldN (j := i) (len := 1) rfl (ra_roads hR) rfl (by omega) (by decide) (if_pos (by omega)) ?_
        refine Wp.retR (len := 1) rfl rfl ?_
        refine ⟨?_, rfl⟩
        unfold fnd
        rw [if_pos (e.mp h31)]
        rfl

theorem k_roadOf (hR : RA M r ρ) (hK : RepC ρ K) (ok : KOK K) {a b : Nat} (ha : a < 7) (hb : b < 7) : Ev d md_29 0 [some (.ref r), some (.int (nI a)), some (.int (nI b)), none, none] [] M (some (va_rf ((roadK K a b).map (fun i => r + 3 + i))), M) := by
  refine Wp.toEv ?_
  refine Wp.n (pc' := 11) 10 rfl ?_
  exact k_roadOf_l hR hK ok ha hb (kh K 2) 0 (by omega)
end JOIN
