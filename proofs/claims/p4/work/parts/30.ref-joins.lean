/-! WHAT JOINS, in the reference. -/
def oI : Option Nat → Int32
  | none => -1
  | some n => nI n
theorem oI_ne {n : Nat} (h : n < 2 ^ 31) : ¬ nI n = -1 := by
  intro q
  have := nI_pos h
  rw [q] at this
  exact this (by decide)
section BTW
variable {d : Nat} {M : AM} {σ : MS} {K : KD}

theorem m_between9 {q x y a b : Nat} (hq : q + 1 < 180) (h0 : σ.2.2.1 9 q = nI x) (h1 : σ.2.2.1 9 (q + 1) = nI y) (hx : x < 2 ^ 31) (hy : y < 2 ^ 31) (ha : a < 2 ^ 31) (hb : b < 2 ^ 31) : Ev d md_177 0 [some (.ref 297), some (.int (nI q)), some (.int (nI a)), some (.int (nI b))] [] (mset M σ) (some (.int (bI (btw x y a b))), mset M σ) := by
  refine Wp.toEv ?_
  refine Wp.n (pc' := 2) 2 rfl ?_
  refine Wp.mialdN (j := q) (len := 1) rfl rfl rfl (by omega) ?_
  refine Wp.top h0 ?_
  refine Wp.n (pc' := 4) 1 rfl ?_
  refine Wp.nc1 (x := x) (y := a) (tgt := 16) (len := 3) rfl (by assumption) (by assumption) (fun h4 => ?_) (fun h4 => ?_)
  · skip
    refine Wp.n (pc' := 18) 2 rfl ?_
    refine Wp.mialdN (j := q) (len := 1) rfl rfl rfl (by omega) ?_
    refine Wp.top h0 ?_
    refine Wp.n (pc' := 20) 1 rfl ?_
    refine Wp.nc1 (x := x) (y := b) (tgt := 36) (len := 3) rfl (by assumption) (by assumption) (fun h20 => ?_) (fun h20 => ?_)
    · skip
      refine Wp.n (pc' := 37) 1 rfl ?_
      refine Wp.retZ (len := 1) (c := false) rfl rfl rfl ?_
      refine ⟨?_, rfl⟩
      unfold btw
      simp_all [bI]
    · skip
      refine Wp.n (pc' := 26) 3 rfl ?_
      refine Wp.iaddN (x := q) (y := 1) (len := 1) rfl ?_
      refine Wp.mialdN (j := q + 1) (len := 1) rfl rfl rfl (by omega) ?_
      refine Wp.top h1 ?_
      refine Wp.n (pc' := 29) 1 rfl ?_
      refine Wp.nc1 (x := y) (y := a) (tgt := 36) (len := 3) rfl (by assumption) (by assumption) (fun h29 => ?_) (fun h29 => ?_)
      · skip
        refine Wp.n (pc' := 37) 1 rfl ?_
        refine Wp.retZ (len := 1) (c := false) rfl rfl rfl ?_
        refine ⟨?_, rfl⟩
        unfold btw
        simp_all [bI]
      · skip
        refine Wp.n (pc' := 37) 2 rfl ?_
        refine Wp.retZ (len := 1) (c := true) rfl rfl rfl ?_
        refine ⟨?_, rfl⟩
        unfold btw
        simp_all [bI]
  · skip
    refine Wp.n (pc' := 10) 3 rfl ?_
    refine Wp.iaddN (x := q) (y := 1) (len := 1) rfl ?_
    refine Wp.mialdN (j := q + 1) (len := 1) rfl rfl rfl (by omega) ?_
    refine Wp.top h1 ?_
    refine Wp.n (pc' := 13) 1 rfl ?_
    refine Wp.nc0 (x := y) (y := b) (tgt := 32) (len := 3) rfl (by assumption) (by assumption) (fun h13 => ?_) (fun h13 => ?_)
    · skip
      refine Wp.n (pc' := 37) 2 rfl ?_
      refine Wp.retZ (len := 1) (c := true) rfl rfl rfl ?_
      refine ⟨?_, rfl⟩
      unfold btw
      simp_all [bI]
    · skip
      refine Wp.n (pc' := 18) 2 rfl ?_
      refine Wp.mialdN (j := q) (len := 1) rfl rfl rfl (by omega) ?_
      refine Wp.top h0 ?_
      refine Wp.n (pc' := 20) 1 rfl ?_
      refine Wp.nc1 (x := x) (y := b) (tgt := 36) (len := 3) rfl (by assumption) (by assumption) (fun h20 => ?_) (fun h20 => ?_)
      · skip
        refine Wp.n (pc' := 37) 1 rfl ?_
        refine Wp.retZ (len := 1) (c := false) rfl rfl rfl ?_
        refine ⟨?_, rfl⟩
        unfold btw
        simp_all [bI]
      · skip
        refine Wp.n (pc' := 26) 3 rfl ?_
        refine Wp.iaddN (x := q) (y := 1) (len := 1) rfl ?_
        refine Wp.mialdN (j := q + 1) (len := 1) rfl rfl rfl (by omega) ?_
        refine Wp.top h1 ?_
        refine Wp.n (pc' := 29) 1 rfl ?_
        refine Wp.nc1 (x := y) (y := a) (tgt := 36) (len := 3) rfl (by assumption) (by assumption) (fun h29 => ?_) (fun h29 => ?_)
        · skip
          refine Wp.n (pc' := 37) 1 rfl ?_
          refine Wp.retZ (len := 1) (c := false) rfl rfl rfl ?_
          refine ⟨?_, rfl⟩
          unfold btw
          simp_all [bI]
        · skip
          refine Wp.n (pc' := 37) 2 rfl ?_
          refine Wp.retZ (len := 1) (c := true) rfl rfl rfl ?_
          refine ⟨?_, rfl⟩
          unfold btw
          simp_all [bI]


theorem m_between10 {q x y a b : Nat} (hq : q + 1 < 315) (h0 : σ.2.2.1 10 q = nI x) (h1 : σ.2.2.1 10 (q + 1) = nI y) (hx : x < 2 ^ 31) (hy : y < 2 ^ 31) (ha : a < 2 ^ 31) (hb : b < 2 ^ 31) : Ev d md_177 0 [some (.ref 298), some (.int (nI q)), some (.int (nI a)), some (.int (nI b))] [] (mset M σ) (some (.int (bI (btw x y a b))), mset M σ) := by
  refine Wp.toEv ?_
  refine Wp.n (pc' := 2) 2 rfl ?_
  refine Wp.mialdN (j := q) (len := 1) rfl rfl rfl (by omega) ?_
  refine Wp.top h0 ?_
  refine Wp.n (pc' := 4) 1 rfl ?_
  refine Wp.nc1 (x := x) (y := a) (tgt := 16) (len := 3) rfl (by assumption) (by assumption) (fun h4 => ?_) (fun h4 => ?_)
  · skip
    refine Wp.n (pc' := 18) 2 rfl ?_
    refine Wp.mialdN (j := q) (len := 1) rfl rfl rfl (by omega) ?_
    refine Wp.top h0 ?_
    refine Wp.n (pc' := 20) 1 rfl ?_
    refine Wp.nc1 (x := x) (y := b) (tgt := 36) (len := 3) rfl (by assumption) (by assumption) (fun h20 => ?_) (fun h20 => ?_)
    · skip
      refine Wp.n (pc' := 37) 1 rfl ?_
      refine Wp.retZ (len := 1) (c := false) rfl rfl rfl ?_
      refine ⟨?_, rfl⟩
      unfold btw
      simp_all [bI]
    · skip
      refine Wp.n (pc' := 26) 3 rfl ?_
      refine Wp.iaddN (x := q) (y := 1) (len := 1) rfl ?_
      refine Wp.mialdN (j := q + 1) (len := 1) rfl rfl rfl (by omega) ?_
      refine Wp.top h1 ?_
      refine Wp.n (pc' := 29) 1 rfl ?_
      refine Wp.nc1 (x := y) (y := a) (tgt := 36) (len := 3) rfl (by assumption) (by assumption) (fun h29 => ?_) (fun h29 => ?_)
      · skip
        refine Wp.n (pc' := 37) 1 rfl ?_
        refine Wp.retZ (len := 1) (c := false) rfl rfl rfl ?_
        refine ⟨?_, rfl⟩
        unfold btw
        simp_all [bI]
      · skip
        refine Wp.n (pc' := 37) 2 rfl ?_
        refine Wp.retZ (len := 1) (c := true) rfl rfl rfl ?_
        refine ⟨?_, rfl⟩
        unfold btw
        simp_all [bI]
  · skip
    refine Wp.n (pc' := 10) 3 rfl ?_
    refine Wp.iaddN (x := q) (y := 1) (len := 1) rfl ?_
    refine Wp.mialdN (j := q + 1) (len := 1) rfl rfl rfl (by omega) ?_
    refine Wp.top h1 ?_
    refine Wp.n (pc' := 13) 1 rfl ?_
    refine Wp.nc0 (x := y) (y := b) (tgt := 32) (len := 3) rfl (by assumption) (by assumption) (fun h13 => ?_) (fun h13 => ?_)
    · skip
      refine Wp.n (pc' := 37) 2 rfl ?_
      refine Wp.retZ (len := 1) (c := true) rfl rfl rfl ?_
      refine ⟨?_, rfl⟩
      unfold btw
      simp_all [bI]
    · skip
      refine Wp.n (pc' := 18) 2 rfl ?_
      refine Wp.mialdN (j := q) (len := 1) rfl rfl rfl (by omega) ?_
      refine Wp.top h0 ?_
      refine Wp.n (pc' := 20) 1 rfl ?_
      refine Wp.nc1 (x := x) (y := b) (tgt := 36) (len := 3) rfl (by assumption) (by assumption) (fun h20 => ?_) (fun h20 => ?_)
      · skip
        refine Wp.n (pc' := 37) 1 rfl ?_
        refine Wp.retZ (len := 1) (c := false) rfl rfl rfl ?_
        refine ⟨?_, rfl⟩
        unfold btw
        simp_all [bI]
      · skip
        refine Wp.n (pc' := 26) 3 rfl ?_
        refine Wp.iaddN (x := q) (y := 1) (len := 1) rfl ?_
        refine Wp.mialdN (j := q + 1) (len := 1) rfl rfl rfl (by omega) ?_
        refine Wp.top h1 ?_
        refine Wp.n (pc' := 29) 1 rfl ?_
        refine Wp.nc1 (x := y) (y := a) (tgt := 36) (len := 3) rfl (by assumption) (by assumption) (fun h29 => ?_) (fun h29 => ?_)
        · skip
          refine Wp.n (pc' := 37) 1 rfl ?_
          refine Wp.retZ (len := 1) (c := false) rfl rfl rfl ?_
          refine ⟨?_, rfl⟩
          unfold btw
          simp_all [bI]
        · skip
          refine Wp.n (pc' := 37) 2 rfl ?_
          refine Wp.retZ (len := 1) (c := true) rfl rfl rfl ?_
          refine ⟨?_, rfl⟩
          unfold btw
          simp_all [bI]


/-- the reference, with what is thought of -/
def RM (σ : MS) (K : KD) : Prop := RepM σ 0 K ∧ σ.1 25 = nI (kh K 11)
theorem m_roadOf_l (hM : RepM σ 0 K) (ok : KOK K) {a b : Nat} (ha : a < 7) (hb : b < 7) : ∀ (n i : Nat), i + n = kh K 2 → Wp (d + 1) md_191 2 [some (.ref 287), some (.int (nI a)), some (.int (nI b)), some (.int (nI i))] [] (mset M σ) (IsR (some (.int (oI (fnd (fun i => btw (kr K i 0) (kr K i 1) a b) n i)))) (mset M σ)) := by
  intro n
  obtain ⟨b0, b1, b2, b3, b4, b5, b6, b7, b8, b9, b10, b11, b12⟩ := ok_h ok
  induction n with
  | zero =>
    intro i hi
    refine Wp.n (pc' := 8) 4 rfl ?_
    refine Wp.mialdN (j := 2) (len := 1) rfl rfl rfl (by omega) ?_
    refine Wp.top (r0_has hM (by decide)) ?_
    refine Wp.nc3 (x := i) (y := kh K 2) (tgt := 35) (len := 3) rfl (by omega) (by omega) (fun h9 => ?_) (fun h9 => ?_)
    · skip
      refine Wp.n (pc' := 36) 1 rfl ?_
      refine Wp.retI (len := 1) rfl rfl ?_
      exact ⟨rfl, rfl⟩
    · omega
  | succ n ih =>
    intro i hi
    have hk := ok_road ok (i := i) (by omega)
    have hw := ih (i + 1) (by omega)
    unfold fnd
    refine Wp.n (pc' := 8) 4 rfl ?_
    refine Wp.mialdN (j := 2) (len := 1) rfl rfl rfl (by omega) ?_
    refine Wp.top (r0_has hM (by decide)) ?_
    refine Wp.nc3 (x := i) (y := kh K 2) (tgt := 35) (len := 3) rfl (by omega) (by omega) (fun h9 => ?_) (fun h9 => ?_)
    · omega
    · skip
      refine Wp.n (pc' := 18) 4 rfl ?_
      refine Wp.imulN (x := 3) (y := i) (len := 1) rfl ?_
      refine Wp.n (pc' := 21) 2 rfl ?_
      refine Wp.ecallS (len := 3) rfl rfl rfl rfl (m_between9 (by omega) (r0_road hM (j := 0) (i := i) (by omega) (by decide) (by omega)) (r0_road hM (j := 1) (i := i) (by omega) (by decide) (by omega)) (by omega) (by omega) (by omega) (by omega)) ?_
      refine Wp.ifb0 (tgt := 29) (len := 3) rfl (fun h24 => ?_) (fun h24 => ?_)
      · skip
        refine Wp.incN (x := i) (len := 3) rfl rfl ?_
        refine Wp.n (pc' := 2) 1 rfl ?_
        rw [if_neg (by rw [h24]; decide)]
        exact hw
      · skip
        refine Wp.n (pc' := 28) 1 rfl ?_
        refine Wp.retI (len := 1) rfl rfl ?_
        rw [if_pos h24]
        exact ⟨rfl, rfl⟩

theorem m_roadOf (hM : RepM σ 0 K) (ok : KOK K) {a b : Nat} (ha : a < 7) (hb : b < 7) : Ev (d + 1) md_191 0 [some (.ref 287), some (.int (nI a)), some (.int (nI b)), none] [] (mset M σ) (some (.int (oI (roadK K a b))), mset M σ) := by
  refine Wp.toEv ?_
  refine Wp.n (pc' := 2) 2 rfl ?_
  exact m_roadOf_l hM ok ha hb (kh K 2) 0 (by omega)
theorem m_isOpen (hM : RepM σ 0 K) (ok : KOK K) {l y : Nat} (hl : LV K l) (hy : y < 31) : Ev (d + 1) md_194 0 [some (.ref 287), some (.int (nI l)), some (.int (nI y)), none] [] (mset M σ) (some (.int (bI (openK K l y))), mset M σ) := by
  refine Wp.toEv ?_
  obtain ⟨b0, b1, b2, b3, b4, b5, b6, b7, b8, b9, b10, b11, b12⟩ := ok_h ok
  have t := ok_lane ok hl
  have hl8 : l ≤ 8 := by unfold LV at hl; omega
  refine Wp.n (pc' := 7) 4 rfl ?_
  refine Wp.imulN (x := 7) (y := l) (len := 1) rfl ?_
  refine Wp.n (pc' := 9) 1 rfl ?_
  refine Wp.iaddN (x := 7 * l) (y := 5) (len := 1) rfl ?_
  refine Wp.mialdN (j := (7 * l) + 5) (len := 1) rfl rfl rfl (by omega) ?_
  refine Wp.top (r0_lane hM hl (j := 5) (by decide) (by omega)) ?_
  refine Wp.n (pc' := 14) 3 rfl ?_
  refine Wp.nc0 (x := kl K l 5) (y := 2) (tgt := 73) (len := 3) rfl (by omega) (by omega) (fun h14 => ?_) (fun h14 => ?_)
  · skip
    refine Wp.n (pc' := 78) 2 rfl ?_
    refine Wp.retZ (len := 1) (c := true) rfl rfl rfl ?_
    refine ⟨?_, rfl⟩
    unfold openK
    first
      | (exfalso; omega)
      | (rw [if_pos (by omega)]; done)
      | (rw [if_neg (by omega), if_pos (by omega)]; cases hb : Nat.testBit (kh K 12) y <;> rw [hb] at h34 <;> first | rfl | exact absurd h34 (by decide) | exact absurd rfl h34)
      | (rw [if_neg (by omega), if_neg (by omega)]; first | (rw [decide_eq_true (by have := of_decide_eq_true h70; omega)]; done) | (rw [decide_eq_false (by have := of_decide_eq_false h70; omega)]; done))
      | omega
  · skip
    refine Wp.n (pc' := 19) 2 rfl ?_
    refine Wp.nc1 (x := kl K l 5) (y := 1) (tgt := 37) (len := 3) rfl (by omega) (by omega) (fun h19 => ?_) (fun h19 => ?_)
    · skip
      refine Wp.n (pc' := 38) 1 rfl ?_
      refine Wp.nz1 (x := kl K l 5) (tgt := 77) (len := 3) rfl (by omega) (fun h38 => ?_) (fun h38 => ?_)
      · skip
        refine Wp.n (pc' := 78) 1 rfl ?_
        refine Wp.retZ (len := 1) (c := false) rfl rfl rfl ?_
        refine ⟨?_, rfl⟩
        unfold openK
        first
          | (exfalso; omega)
          | (rw [if_pos (by omega)]; done)
          | (rw [if_neg (by omega), if_pos (by omega)]; cases hb : Nat.testBit (kh K 12) y <;> rw [hb] at h34 <;> first | rfl | exact absurd h34 (by decide) | exact absurd rfl h34)
          | (rw [if_neg (by omega), if_neg (by omega)]; first | (rw [decide_eq_true (by have := of_decide_eq_true h70; omega)]; done) | (rw [decide_eq_false (by have := of_decide_eq_false h70; omega)]; done))
          | omega
      · skip
        refine Wp.n (pc' := 50) 6 rfl ?_
        refine Wp.imulN (x := 7) (y := l) (len := 1) rfl ?_
        refine Wp.n (pc' := 52) 1 rfl ?_
        refine Wp.iaddN (x := 7 * l) (y := 3) (len := 1) rfl ?_
        refine Wp.mialdN (j := (7 * l) + 3) (len := 1) rfl rfl rfl (by omega) ?_
        refine Wp.top (r0_lane hM hl (j := 3) (by decide) (by omega)) ?_
        refine Wp.n (pc' := 62) 5 rfl ?_
        refine Wp.imulN (x := 7) (y := l) (len := 1) rfl ?_
        refine Wp.n (pc' := 64) 1 rfl ?_
        refine Wp.iaddN (x := 7 * l) (y := 4) (len := 1) rfl ?_
        refine Wp.mialdN (j := (7 * l) + 4) (len := 1) rfl rfl rfl (by omega) ?_
        refine Wp.top (r0_lane hM hl (j := 4) (by decide) (by omega)) ?_
        refine Wp.n (pc' := 67) 1 rfl ?_
        refine Wp.ecallS (len := 3) rfl rfl rfl rfl (m_in _ _ _) ?_
        refine Wp.ifb0 (tgt := 77) (len := 3) rfl (fun h70 => ?_) (fun h70 => ?_)
        · rw [il_toInt, il_toInt, il_toInt, nI_toInt (by omega), nI_toInt (by omega), nI_toInt (by omega)] at h70
          refine Wp.n (pc' := 78) 1 rfl ?_
          refine Wp.retZ (len := 1) (c := false) rfl rfl rfl ?_
          refine ⟨?_, rfl⟩
          unfold openK
          first
            | (exfalso; omega)
            | (rw [if_pos (by omega)]; done)
            | (rw [if_neg (by omega), if_pos (by omega)]; cases hb : Nat.testBit (kh K 12) y <;> rw [hb] at h34 <;> first | rfl | exact absurd h34 (by decide) | exact absurd rfl h34)
            | (rw [if_neg (by omega), if_neg (by omega)]; first | (rw [decide_eq_true (by have := of_decide_eq_true h70; omega)]; done) | (rw [decide_eq_false (by have := of_decide_eq_false h70; omega)]; done))
            | omega
        · rw [il_toInt, il_toInt, il_toInt, nI_toInt (by omega), nI_toInt (by omega), nI_toInt (by omega)] at h70
          refine Wp.n (pc' := 78) 2 rfl ?_
          refine Wp.retZ (len := 1) (c := true) rfl rfl rfl ?_
          refine ⟨?_, rfl⟩
          unfold openK
          first
            | (exfalso; omega)
            | (rw [if_pos (by omega)]; done)
            | (rw [if_neg (by omega), if_pos (by omega)]; cases hb : Nat.testBit (kh K 12) y <;> rw [hb] at h34 <;> first | rfl | exact absurd h34 (by decide) | exact absurd rfl h34)
            | (rw [if_neg (by omega), if_neg (by omega)]; first | (rw [decide_eq_true (by have := of_decide_eq_true h70; omega)]; done) | (rw [decide_eq_false (by have := of_decide_eq_false h70; omega)]; done))
            | omega
    · skip
      refine Wp.n (pc' := 27) 3 rfl ?_
      refine Wp.mlaldN (j := 0) (len := 1) rfl rfl rfl (by omega) ?_
      refine Wp.topL (rm_fl hM) ?_
      refine Wp.n (pc' := 33) 5 rfl ?_
      rw [l_bit (by omega) hy]
      refine Wp.n (pc' := 34) 1 rfl ?_
      refine Wp.if0 (tgt := 73) (len := 3) rfl (fun h34 => ?_) (fun h34 => ?_)
      · rw [cmp_eq] at h34
        refine Wp.n (pc' := 78) 2 rfl ?_
        refine Wp.retZ (len := 1) (c := true) rfl rfl rfl ?_
        refine ⟨?_, rfl⟩
        unfold openK
        first
          | (exfalso; omega)
          | (rw [if_pos (by omega)]; done)
          | (rw [if_neg (by omega), if_pos (by omega)]; cases hb : Nat.testBit (kh K 12) y <;> rw [hb] at h34 <;> first | rfl | exact absurd h34 (by decide) | exact absurd rfl h34)
          | (rw [if_neg (by omega), if_neg (by omega)]; first | (rw [decide_eq_true (by have := of_decide_eq_true h70; omega)]; done) | (rw [decide_eq_false (by have := of_decide_eq_false h70; omega)]; done))
          | omega
      · rw [cmp_eq] at h34
        refine Wp.n (pc' := 38) 1 rfl ?_
        refine Wp.nz1 (x := kl K l 5) (tgt := 77) (len := 3) rfl (by omega) (fun h38 => ?_) (fun h38 => ?_)
        · skip
          refine Wp.n (pc' := 78) 1 rfl ?_
          refine Wp.retZ (len := 1) (c := false) rfl rfl rfl ?_
          refine ⟨?_, rfl⟩
          unfold openK
          first
            | (exfalso; omega)
            | (rw [if_pos (by omega)]; done)
            | (rw [if_neg (by omega), if_pos (by omega)]; cases hb : Nat.testBit (kh K 12) y <;> rw [hb] at h34 <;> first | rfl | exact absurd h34 (by decide) | exact absurd rfl h34)
            | (rw [if_neg (by omega), if_neg (by omega)]; first | (rw [decide_eq_true (by have := of_decide_eq_true h70; omega)]; done) | (rw [decide_eq_false (by have := of_decide_eq_false h70; omega)]; done))
            | omega
        · skip
          refine Wp.n (pc' := 50) 6 rfl ?_
          refine Wp.imulN (x := 7) (y := l) (len := 1) rfl ?_
          refine Wp.n (pc' := 52) 1 rfl ?_
          refine Wp.iaddN (x := 7 * l) (y := 3) (len := 1) rfl ?_
          refine Wp.mialdN (j := (7 * l) + 3) (len := 1) rfl rfl rfl (by omega) ?_
          refine Wp.top (r0_lane hM hl (j := 3) (by decide) (by omega)) ?_
          refine Wp.n (pc' := 62) 5 rfl ?_
          refine Wp.imulN (x := 7) (y := l) (len := 1) rfl ?_
          refine Wp.n (pc' := 64) 1 rfl ?_
          refine Wp.iaddN (x := 7 * l) (y := 4) (len := 1) rfl ?_
          refine Wp.mialdN (j := (7 * l) + 4) (len := 1) rfl rfl rfl (by omega) ?_
          refine Wp.top (r0_lane hM hl (j := 4) (by decide) (by omega)) ?_
          refine Wp.n (pc' := 67) 1 rfl ?_
          refine Wp.ecallS (len := 3) rfl rfl rfl rfl (m_in _ _ _) ?_
          refine Wp.ifb0 (tgt := 77) (len := 3) rfl (fun h70 => ?_) (fun h70 => ?_)
          · rw [il_toInt, il_toInt, il_toInt, nI_toInt (by omega), nI_toInt (by omega), nI_toInt (by omega)] at h70
            refine Wp.n (pc' := 78) 1 rfl ?_
            refine Wp.retZ (len := 1) (c := false) rfl rfl rfl ?_
            refine ⟨?_, rfl⟩
            unfold openK
            first
              | (exfalso; omega)
              | (rw [if_pos (by omega)]; done)
              | (rw [if_neg (by omega), if_pos (by omega)]; cases hb : Nat.testBit (kh K 12) y <;> rw [hb] at h34 <;> first | rfl | exact absurd h34 (by decide) | exact absurd rfl h34)
              | (rw [if_neg (by omega), if_neg (by omega)]; first | (rw [decide_eq_true (by have := of_decide_eq_true h70; omega)]; done) | (rw [decide_eq_false (by have := of_decide_eq_false h70; omega)]; done))
              | omega
          · rw [il_toInt, il_toInt, il_toInt, nI_toInt (by omega), nI_toInt (by omega), nI_toInt (by omega)] at h70
            refine Wp.n (pc' := 78) 2 rfl ?_
            refine Wp.retZ (len := 1) (c := true) rfl rfl rfl ?_
            refine ⟨?_, rfl⟩
            unfold openK
            first
              | (exfalso; omega)
              | (rw [if_pos (by omega)]; done)
              | (rw [if_neg (by omega), if_pos (by omega)]; cases hb : Nat.testBit (kh K 12) y <;> rw [hb] at h34 <;> first | rfl | exact absurd h34 (by decide) | exact absurd rfl h34)
              | (rw [if_neg (by omega), if_neg (by omega)]; first | (rw [decide_eq_true (by have := of_decide_eq_true h70; omega)]; done) | (rw [decide_eq_false (by have := of_decide_eq_false h70; omega)]; done))
              | omega

end BTW
