/-! READING, the reference: words, numbers, faults. -/
abbrev St : Type := (Nat × Nat) ⊕ Nat
def gd : St → Bool
  | .inl _ => false
  | .inr _ => true
def adS (T : TP) : St → St
  | .inl x => .inl x
  | .inr s => .inr (nx T s)
def isS (T : TP) (h : Nat) : St → Bool
  | .inl _ => false
  | .inr s => isW T s h
def flS (k : Nat) : St → St
  | .inl x => .inl x
  | .inr s => .inl (k, s)
def wdS (T : TP) (h : Nat) : St → St
  | .inl x => .inl x
  | .inr s => if isW T s h = true then .inr (nx T s) else .inl (1, s)
def nmS (T : TP) (lo hi : Nat) : St → St
  | .inl x => .inl x
  | .inr s => if tk T s = 2 then (if lo ≤ vl T s ∧ vl T s ≤ hi then .inr (nx T s) else .inl (2, s)) else .inl (1, s)
def nmV (T : TP) : St → Nat
  | .inl _ => 0
  | .inr s => vl T s
def otS (T : TP) (P : Nat) (ok : Nat → Bool) : St → St
  | .inl x => .inl x
  | .inr s => if tk T s = 2 then (if vl T s < P ∧ ok (vl T s) = true then .inr (nx T s) else .inl (2, s)) else .inl (1, s)
theorem rn_all {p : Nat → Bool} : ∀ (m i q : Nat), i ≤ q → q < rn p m i → p q = true
  | 0, i, q, h1, h2 => by have : q < i := h2; omega
  | m + 1, i, q, h1, h2 => by
    unfold rn at h2
    by_cases c : p i = true
    · rw [if_pos c] at h2
      by_cases e : q = i
      · rw [e]; exact c
      · exact rn_all m (i + 1) q (by omega) h2
    · rw [if_neg c] at h2
      omega
theorem tn_all {T : TP} {p : Int32 → Bool} {s q : Nat} (h1 : s ≤ q) (h2 : q < tn T p s) : p (T.2 q) = true := rn_all (p := fun i => p (T.2 i)) _ _ _ h1 h2
theorem hsN_lt {T : TP} {s : Nat} : ∀ m, (∀ q, s ≤ q → q < s + m → isLt (T.2 q) = true) → hsN T s m < 27 ^ m
  | 0, _ => by show 0 < 1; decide
  | m + 1, h => by
    have h1 := hsN_lt m (fun q a b => h q a (by omega))
    obtain ⟨c, hc, c1, c2⟩ := lt_of (h (s + m) (by omega) (by omega))
    show 27 * hsN T s m + ((T.2 (s + m)).toNatClampNeg - 96) < 27 ^ (m + 1)
    rw [hc, nI_clamp (by omega), Nat.pow_succ]
    omega
theorem tk_le {T : TP} {s : Nat} : tk T s ≤ 4 := by
  unfold tk
  split
  · omega
  · split
    · omega
    · split
      · omega
      · split <;> omega
theorem tk_1 {T : TP} {s : Nat} (h : tk T s = 1) : en T s = tn T isLt s ∧ s < T.1 := by
  unfold tk at h
  by_cases c : T.1 ≤ s
  · rw [if_pos c] at h; cases h
  · rw [if_neg c] at h
    by_cases c2 : isLt (T.2 s) = true
    · unfold en
      rw [if_neg c, if_pos c2]
      exact ⟨rfl, by omega⟩
    · rw [if_neg c2] at h
      split at h
      · cases h
      · split at h <;> cases h
theorem wl_is {T : TP} {s h : Nat} (h1 : tk T s = 1) (hh : h < 2 ^ 62) : wl T s = lN h ↔ en T s - s ≤ 12 ∧ hsN T s (en T s - s) = h := by
  have e := (tk_1 h1).1
  have le := en_le (Nat.le_of_lt (tk_1 h1).2)
  unfold wl
  rw [if_pos h1]
  unfold wv
  have hb := hsN_lt (T := T) (s := s) (en T s - s) (fun q a b => tn_all a (by rw [← e]; omega))
  by_cases c : en T s - s ≤ 12
  · rw [if_pos c]
    have h2 : 27 ^ (en T s - s) ≤ 27 ^ 12 := Nat.pow_le_pow_right (by decide) c
    rw [l_inj (by omega) (by omega)]
    exact ⟨fun q => ⟨c, q⟩, fun q => q.2⟩
  · rw [if_neg c]
    constructor
    · intro q
      have e1 := congrArg Int64.toInt q
      rw [l_toInt (by omega)] at e1
      have e2 : (-1 : Int64).toInt = -1 := rfl
      omega
    · intro q
      exact absurd q.1 c
/-- the reading's fields may differ -/
def FrB (σ σ' : MS) : Prop := (∀ j, List.elem j [7, 8, 9, 10, 12, 13] = false → σ'.1 j = σ.1 j) ∧ σ'.2.2 = σ.2.2
theorem FrB.r {σ : MS} : FrB σ σ := ⟨fun _ _ => rfl, rfl⟩
theorem FrB.t {σ σ' σ'' : MS} (h : FrB σ σ') (h' : FrB σ' σ'') : FrB σ σ'' := ⟨fun j hj => (h'.1 j hj).trans (h.1 j hj), h'.2.trans h.2⟩
theorem FrB.f {σ : MS} {j : Nat} {x : Int32} (hj : List.elem j [7, 8, 9, 10, 12, 13] = true) : FrB σ (fset σ j x) := ⟨fun i hi => pk_un (fun e => by rw [e, hj] at hi; cases hi), rfl⟩
theorem FrN.b {σ σ' : MS} (h : FrN σ σ') : FrB σ σ' := ⟨fun j hj => h.1 j (elem_sub (F' := [7, 8, 9, 10, 12, 13]) rfl hj), h.2⟩
theorem FrB.T {σ σ' : MS} {T : TP} (h : FrB σ σ') (hT : TM σ T) : TM σ' T := ⟨(h.1 6 rfl).trans hT.1, hT.2.1, fun i hi => by rw [h.2]; exact hT.2.2 i hi⟩
def LM (σ : MS) (T : TP) : St → Prop
  | .inl x => σ.1 12 = nI x.1 ∧ 1 ≤ x.1 ∧ x.1 ≤ 3 ∧ σ.1 13 = nI x.2 ∧ x.2 ≤ 2000
  | .inr s => σ.1 12 = nI 0 ∧ LN σ T s
/-- read on -/
def RdB (M : AM) (σ : MS) (T : TP) (st : St) : AM → Prop := fun M' => ∃ σ', M' = mset M σ' ∧ FrB σ σ' ∧ LM σ' T st
section RD
variable {d : Nat} {M : AM} {σ σ' : MS} {T : TP} {st : St} {Q : Option Value → AM → Prop}
theorem LN_n (hT : TM σ T) {s : Nat} (h12 : σ.1 12 = nI 0) (hL : LN σ T s) : Wp (d + 1) md_163 0 [some (.ref 287), none] [] (mset M σ) (fun v M' => v = none ∧ RdB M σ T (.inr (nx T s)) M') := by
  refine Wp.mono (m_next hT (en_le hL.2.2.2.2.2).2 hL.1) ?_
  rintro v M' ⟨rfl, τ, rfl, f, h⟩
  exact ⟨rfl, τ, rfl, f.b, (f.1 12 rfl).trans h12, h⟩
theorem m_isGood (hL : LM σ T st) : Ev d md_165 0 [some (.ref 287)] [] (mset M σ) (some (.int (bI (gd st))), mset M σ) := by
  refine Wp.toEv ?_
  rcases st with x | s
  · have x3 := hL.2.2.1
    have x1 := hL.2.1
    refine Wp.n (pc' := 4) 2 rfl ?_
    refine Wp.top hL.1 ?_
    refine Wp.nz1 (x := x.1) (tgt := 11) (len := 3) rfl (by omega) (fun h4 => ?_) (fun h4 => ?_)
    · skip
      refine Wp.n (pc' := 12) 1 rfl ?_
      refine Wp.retZ (len := 1) (c := false) rfl rfl rfl ?_
      exact ⟨rfl, rfl⟩
    · omega
  · skip
    refine Wp.n (pc' := 4) 2 rfl ?_
    refine Wp.top hL.1 ?_
    refine Wp.nz1 (x := 0) (tgt := 11) (len := 3) rfl (by omega) (fun h4 => ?_) (fun h4 => ?_)
    · omega
    · skip
      refine Wp.n (pc' := 12) 2 rfl ?_
      refine Wp.retZ (len := 1) (c := true) rfl rfl rfl ?_
      exact ⟨rfl, rfl⟩
theorem m_fails (hT : TM σ T) (hL : LM σ T st) {k : Nat} (hk : 1 ≤ k ∧ k ≤ 3) : Wp d md_170 0 [some (.ref 287), some (.int (nI k))] [] (mset M σ) (fun v M' => v = none ∧ RdB M σ T (flS k st) M') := by
  have t20 := hT.2.1
  rcases st with x | s
  · have x3 := hL.2.2.1
    have x1 := hL.2.1
    refine Wp.n (pc' := 4) 2 rfl ?_
    refine Wp.top hL.1 ?_
    refine Wp.nz0 (x := x.1) (tgt := 8) (len := 3) rfl (by omega) (fun h4 => ?_) (fun h4 => ?_)
    · omega
    · skip
      refine Wp.retV (len := 1) rfl rfl ?_
      exact ⟨rfl, σ, rfl, FrB.r, hL⟩
  · obtain ⟨h12, hN⟩ := hL
    have sl := hN.2.2.2.2.2
    refine Wp.n (pc' := 4) 2 rfl ?_
    refine Wp.top h12 ?_
    refine Wp.nz0 (x := 0) (tgt := 8) (len := 3) rfl (by omega) (fun h4 => ?_) (fun h4 => ?_)
    · skip
      refine Wp.n (pc' := 10) 2 rfl ?_
      refine Wp.mput (len := 3) rfl rfl ?_
      refine Wp.n (pc' := 18) 3 rfl ?_
      refine Wp.top hN.2.2.1 ?_
      refine Wp.mput (len := 3) rfl rfl ?_
      refine Wp.retV (len := 1) rfl rfl ?_
      exact ⟨rfl, _, rfl, (FrB.f rfl).t (FrB.f rfl), rfl, hk.1, hk.2, rfl, by show s ≤ 2000; omega⟩
    · omega
theorem m_is (hL : LM σ T st) {h : Nat} (hh : h < 2 ^ 62) : Ev d md_169 0 [some (.ref 287), some (.long (lN h)), none] [] (mset M σ) (some (.int (bI (isS T h st))), mset M σ) := by
  refine Wp.toEv ?_
  rcases st with x | s
  · have x3 := hL.2.2.1
    have x1 := hL.2.1
    refine Wp.n (pc' := 4) 2 rfl ?_
    refine Wp.top hL.1 ?_
    refine Wp.nz1 (x := x.1) (tgt := 28) (len := 3) rfl (by omega) (fun h4 => ?_) (fun h4 => ?_)
    · skip
      refine Wp.n (pc' := 29) 1 rfl ?_
      refine Wp.retZ (len := 1) (c := false) rfl rfl rfl ?_
      exact ⟨rfl, rfl⟩
    · omega
  · obtain ⟨h12, hN⟩ := hL
    have t4 := tk_le (T := T) (s := s)
    refine Wp.n (pc' := 4) 2 rfl ?_
    refine Wp.top h12 ?_
    refine Wp.nz1 (x := 0) (tgt := 28) (len := 3) rfl (by omega) (fun h4 => ?_) (fun h4 => ?_)
    · omega
    · skip
      refine Wp.n (pc' := 11) 2 rfl ?_
      refine Wp.top hN.2.1 ?_
      refine Wp.n (pc' := 12) 1 rfl ?_
      refine Wp.nc1 (x := tk T s) (y := 1) (tgt := 28) (len := 3) rfl (by omega) (by omega) (fun h12 => ?_) (fun h12 => ?_)
      · skip
        refine Wp.n (pc' := 29) 1 rfl ?_
        refine Wp.retZ (len := 1) (c := false) rfl rfl rfl ?_
        first
          | exact ⟨by rw [show isS T h (.inr s) = true from decide_eq_true ⟨h12_, (wl_is h12_ hh).mp ((cmp_eq _ _).mp h21)⟩], rfl⟩
          | exact ⟨by rw [show isS T h (.inr s) = false from decide_eq_false (fun q => h21 ((cmp_eq _ _).mpr ((wl_is q.1 hh).mpr q.2)))], rfl⟩
          | exact ⟨by rw [show isS T h (.inr s) = false from decide_eq_false (fun q => absurd q.1 (by omega))], rfl⟩
      · have h12_ : tk T s = 1 := by omega
        refine Wp.n (pc' := 19) 2 rfl ?_
        refine Wp.topL hN.2.2.2.2.1 ?_
        refine Wp.n (pc' := 21) 2 rfl ?_
        refine Wp.if1 (tgt := 28) (len := 3) rfl (fun h21 => ?_) (fun h21 => ?_)
        · skip
          refine Wp.n (pc' := 29) 1 rfl ?_
          refine Wp.retZ (len := 1) (c := false) rfl rfl rfl ?_
          first
            | exact ⟨by rw [show isS T h (.inr s) = true from decide_eq_true ⟨h12_, (wl_is h12_ hh).mp ((cmp_eq _ _).mp h21)⟩], rfl⟩
            | exact ⟨by rw [show isS T h (.inr s) = false from decide_eq_false (fun q => h21 ((cmp_eq _ _).mpr ((wl_is q.1 hh).mpr q.2)))], rfl⟩
            | exact ⟨by rw [show isS T h (.inr s) = false from decide_eq_false (fun q => absurd q.1 (by omega))], rfl⟩
        · skip
          refine Wp.n (pc' := 29) 2 rfl ?_
          refine Wp.retZ (len := 1) (c := true) rfl rfl rfl ?_
          first
            | exact ⟨by rw [show isS T h (.inr s) = true from decide_eq_true ⟨h12_, (wl_is h12_ hh).mp ((cmp_eq _ _).mp h21)⟩], rfl⟩
            | exact ⟨by rw [show isS T h (.inr s) = false from decide_eq_false (fun q => h21 ((cmp_eq _ _).mpr ((wl_is q.1 hh).mpr q.2)))], rfl⟩
            | exact ⟨by rw [show isS T h (.inr s) = false from decide_eq_false (fun q => absurd q.1 (by omega))], rfl⟩
theorem m_takes (hT : TM σ T) (hL : LM σ T st) {h : Nat} (hh : h < 2 ^ 62) : Wp (d + 2) md_168 0 [some (.ref 287), some (.long (lN h)), none] [] (mset M σ) (fun v M' => v = some (.int (bI (isS T h st))) ∧ RdB M σ T (if isS T h st = true then adS T st else st) M') := by
  refine Wp.n (pc' := 2) 2 rfl ?_
  refine Wp.ecallV (len := 3) rfl rfl rfl (rfl) rfl (by decide) rfl (m_is hL hh) ?_
  refine Wp.ifb1 (tgt := 10) (len := 3) rfl (fun h5 => ?_) (fun h5 => ?_)
  · skip
    rcases st with x | s
    · cases h5
    obtain ⟨h12, hN⟩ := hL
    refine Wp.n (pc' := 11) 1 rfl ?_
    refine Wp.callV (len := 3) rfl rfl rfl (rfl) rfl (by decide) rfl (LN_n hT h12 hN) ?_
    rintro _ _ ⟨rfl, τ, rfl, f, hτ⟩
    refine Wp.n (pc' := 15) 1 rfl ?_
    refine Wp.retZ (len := 1) (c := true) rfl rfl rfl ?_
    first
      | exact ⟨by rw [h5], τ, rfl, f, by rw [if_pos h5]; exact hτ⟩
      | exact ⟨by rw [h5], σ, rfl, FrB.r, by rw [if_neg (by rw [h5]; decide)]; exact hL⟩
  · skip
    refine Wp.n (pc' := 9) 1 rfl ?_
    refine Wp.retZ (len := 1) (c := false) rfl rfl rfl ?_
    first
      | exact ⟨by rw [h5], τ, rfl, f, by rw [if_pos h5]; exact hτ⟩
      | exact ⟨by rw [h5], σ, rfl, FrB.r, by rw [if_neg (by rw [h5]; decide)]; exact hL⟩
theorem m_asks (hT : TM σ T) (hL : LM σ T st) {h : Nat} (hh : h < 2 ^ 62) : Wp (d + 3) md_167 0 [some (.ref 287), some (.long (lN h)), none] [] (mset M σ) (fun v M' => v = none ∧ RdB M σ T (wdS T h st) M') := by
  refine Wp.n (pc' := 2) 2 rfl ?_
  refine Wp.callV (len := 3) rfl rfl rfl (rfl) rfl (by decide) rfl (m_takes hT hL hh) ?_
  rintro _ _ ⟨rfl, τ, rfl, f, hτ⟩
  refine Wp.ifb1 (tgt := 13) (len := 3) rfl (fun h5 => ?_) (fun h5 => ?_)
  · rw [if_pos h5] at hτ
    have e : adS T st = wdS T h st := by
      rcases st with x | s
      · rfl
      · exact (if_pos h5).symm
    rw [e] at hτ
    refine Wp.retV (len := 1) rfl rfl ?_
    first
      | exact ⟨rfl, τ2, rfl, f.t f2, e ▸ hτ2⟩
      | exact ⟨rfl, τ, rfl, f, hτ⟩
  · rw [if_neg (by rw [h5]; decide)] at hτ
    have e : flS 1 st = wdS T h st := by
      rcases st with x | s
      · rfl
      · exact (if_neg (fun q : isW T s h = true => by rw [show isW T s h = false from h5] at q; cases q)).symm
    refine Wp.n (pc' := 10) 2 rfl ?_
    refine Wp.callV (len := 3) rfl rfl rfl (rfl) rfl (by decide) rfl (m_fails (f.T hT) hτ (k := 1) (by decide)) ?_
    rintro _ _ ⟨rfl, τ2, rfl, f2, hτ2⟩
    refine Wp.retV (len := 1) rfl rfl ?_
    first
      | exact ⟨rfl, τ2, rfl, f.t f2, e ▸ hτ2⟩
      | exact ⟨rfl, τ, rfl, f, hτ⟩
theorem m_number (hT : TM σ T) (hL : LM σ T st) {l32 h32 : Int32} {lo hi : Nat} (hg : gd st = true → l32 = nI lo ∧ h32 = nI hi ∧ hi ≤ 1000 ∧ lo ≤ 1000) : Wp (d + 2) md_172 0 [some (.ref 287), some (.int l32), some (.int h32), none] [] (mset M σ) (fun v M' => ∃ x, v = some (.int x) ∧ (gd (nmS T lo hi st) = true → x = nI (nmV T st)) ∧ RdB M σ T (nmS T lo hi st) M') := by
  rcases st with x | s
  · have x3 := hL.2.2.1
    have x1 := hL.2.1
    refine Wp.n (pc' := 4) 2 rfl ?_
    refine Wp.top hL.1 ?_
    refine Wp.nz0 (x := x.1) (tgt := 9) (len := 3) rfl (by omega) (fun h4 => ?_) (fun h4 => ?_)
    · omega
    · skip
      refine Wp.n (pc' := 8) 1 rfl ?_
      refine Wp.retI (len := 1) rfl rfl ?_
      exact ⟨_, rfl, fun q => (by cases q), σ, rfl, FrB.r, hL⟩
  · obtain ⟨rfl, rfl, hi1, lo1⟩ := hg rfl
    obtain ⟨h12, hN⟩ := id hL
    obtain ⟨r, h10, r1, r2⟩ := hN.2.2.2.1
    have t4 := tk_le (T := T) (s := s)
    refine Wp.n (pc' := 4) 2 rfl ?_
    refine Wp.top h12 ?_
    refine Wp.nz0 (x := 0) (tgt := 9) (len := 3) rfl (by omega) (fun h4 => ?_) (fun h4 => ?_)
    · skip
      refine Wp.n (pc' := 13) 2 rfl ?_
      refine Wp.top hN.2.1 ?_
      refine Wp.n (pc' := 14) 1 rfl ?_
      refine Wp.nc0 (x := tk T s) (y := 2) (tgt := 24) (len := 3) rfl (by omega) (by omega) (fun h14 => ?_) (fun h14 => ?_)
      · skip
        refine Wp.n (pc' := 28) 2 rfl ?_
        refine Wp.top h10 ?_
        refine Wp.i2lM (x := r) (len := 1) rfl (by omega) ?_
        refine Wp.n (pc' := 30) 1 rfl ?_
        refine Wp.i2lM (x := lo) (len := 1) rfl (by omega) ?_
        refine Wp.n (pc' := 32) 1 rfl ?_
        refine Wp.i2lM (x := hi) (len := 1) rfl (by omega) ?_
        refine Wp.ecallS (len := 3) rfl rfl rfl rfl (m_in _ _ _) ?_
        refine Wp.ifb1 (tgt := 46) (len := 3) rfl (fun h36 => ?_) (fun h36 => ?_)
        · have q := of_decide_eq_true h36
          rw [l_toInt (by omega), l_toInt (by omega), l_toInt (by omega)] at q
          have e : nmS T lo hi (.inr s) = .inr (nx T s) := (if_pos (by omega)).trans (if_pos (by omega))
          have ev : r = vl T s := by omega
          refine Wp.n (pc' := 50) 2 rfl ?_
          refine Wp.top h10 ?_
          refine Wp.n (pc' := 52) 2 rfl ?_
          refine Wp.callV (len := 3) rfl rfl rfl (rfl) rfl (by decide) rfl (LN_n hT h12 hN) ?_
          rintro _ _ ⟨rfl, τ, rfl, f, hτ⟩
          refine Wp.n (pc' := 56) 1 rfl ?_
          refine Wp.retI (len := 1) rfl rfl ?_
          rw [e]
          first
            | exact ⟨_, rfl, fun _ => congrArg nI ev, τ, rfl, f, hτ⟩
            | exact ⟨_, rfl, fun q => (by cases q), τ, rfl, f, hτ⟩
        · have q := of_decide_eq_false h36
          rw [l_toInt (by omega), l_toInt (by omega), l_toInt (by omega)] at q
          have e : nmS T lo hi (.inr s) = .inl (2, s) := (if_pos (by omega)).trans (if_neg (by omega))
          refine Wp.n (pc' := 41) 2 rfl ?_
          refine Wp.callV (len := 3) rfl rfl rfl (rfl) rfl (by decide) rfl (m_fails hT hL (k := 2) (by decide)) ?_
          rintro _ _ ⟨rfl, τ, rfl, f, hτ⟩
          refine Wp.n (pc' := 45) 1 rfl ?_
          refine Wp.retI (len := 1) rfl rfl ?_
          rw [e]
          first
            | exact ⟨_, rfl, fun _ => congrArg nI ev, τ, rfl, f, hτ⟩
            | exact ⟨_, rfl, fun q => (by cases q), τ, rfl, f, hτ⟩
      · have e : nmS T lo hi (.inr s) = .inl (1, s) := if_neg (by omega)
        refine Wp.n (pc' := 19) 2 rfl ?_
        refine Wp.callV (len := 3) rfl rfl rfl (rfl) rfl (by decide) rfl (m_fails hT hL (k := 1) (by decide)) ?_
        rintro _ _ ⟨rfl, τ, rfl, f, hτ⟩
        refine Wp.n (pc' := 23) 1 rfl ?_
        refine Wp.retI (len := 1) rfl rfl ?_
        rw [e]
        first
          | exact ⟨_, rfl, fun _ => congrArg nI ev, τ, rfl, f, hτ⟩
          | exact ⟨_, rfl, fun q => (by cases q), τ, rfl, f, hτ⟩
    · omega
theorem m_numberW (hT : TM σ T) (hL : LM σ T st) {h : Nat} (hh : h < 2 ^ 62) {l32 h32 : Int32} {lo hi : Nat} (hg : gd (wdS T h st) = true → l32 = nI lo ∧ h32 = nI hi ∧ hi ≤ 1000 ∧ lo ≤ 1000) : Wp (d + 4) md_171 0 [some (.ref 287), some (.long (lN h)), none, some (.int l32), some (.int h32)] [] (mset M σ) (fun v M' => ∃ x, v = some (.int x) ∧ (gd (nmS T lo hi (wdS T h st)) = true → x = nI (nmV T (wdS T h st))) ∧ RdB M σ T (nmS T lo hi (wdS T h st)) M') := by
  refine Wp.n (pc' := 2) 2 rfl ?_
  refine Wp.callV (len := 3) rfl rfl rfl (rfl) rfl (by decide) rfl (m_asks hT hL hh) ?_
  rintro _ _ ⟨rfl, τ, rfl, f, hτ⟩
  refine Wp.n (pc' := 9) 3 rfl ?_
  refine Wp.callV (len := 3) rfl rfl rfl (rfl) rfl (by decide) rfl (m_number (f.T hT) hτ hg) ?_
  rintro _ _ ⟨x, rfl, hx, τ2, rfl, f2, hτ2⟩
  refine Wp.retI (len := 1) rfl rfl ?_
  exact ⟨_, rfl, hx, τ2, rfl, f.t f2, hτ2⟩
theorem m_hasRead {k : Nat} (hk : k < 5) : Ev d md_174 0 [some (.ref 287), some (.int (nI k))] [] (mset M σ) (some (.int (σ.2.2.1 6 (20 + k))), mset M σ) := by
  refine Wp.toEv ?_
  refine Wp.n (pc' := 7) 4 rfl ?_
  refine Wp.iaddN (x := 20) (y := k) (len := 1) rfl ?_
  refine Wp.mialdN (j := 20 + k) (len := 1) rfl rfl rfl (by omega) ?_
  refine Wp.retI (len := 1) rfl rfl ?_
  exact ⟨rfl, rfl⟩
theorem m_other_b (hT : TM σ T) {z : Nat × Nat} (hL : LM σ T (.inl z)) {w : Value} (kk : ∀ x τ, FrB σ τ → LM τ T (.inl z) → Q (some (.int x)) (mset M τ)) : Wp (d + 3) md_178 36 [some (.ref 287), some w] [] (mset M σ) Q := by
  refine Wp.n (pc' := 40) 4 rfl ?_
  refine Wp.ecallV (len := 3) rfl rfl rfl (rfl) rfl (by decide) rfl (m_hasRead (k := 0) (by decide)) ?_
  refine Wp.n (pc' := 45) 2 rfl ?_
  refine Wp.callV (len := 3) rfl rfl rfl (rfl) rfl (by decide) rfl (m_number (lo := 0) (hi := 0) hT hL (fun q => by cases q)) ?_
  rintro _ _ ⟨y, rfl, hx, τ2, rfl, f2, hτ2⟩
  refine Wp.retI (len := 1) rfl rfl ?_
  exact kk _ τ2 f2 hτ2
theorem m_other_g (hT : TM σ T) {s P : Nat} (hL : LM σ T (.inr s)) (h20 : σ.2.2.1 6 20 = nI P) (P1 : 1 ≤ P) (P7 : P ≤ 7) {w : Value} (kk : ∀ x τ, FrB σ τ → (gd (nmS T 0 (P - 1) (.inr s)) = true → x = nI (vl T s)) → LM τ T (nmS T 0 (P - 1) (.inr s)) → Q (some (.int x)) (mset M τ)) : Wp (d + 3) md_178 36 [some (.ref 287), some w] [] (mset M σ) Q := by
  refine Wp.n (pc' := 40) 4 rfl ?_
  refine Wp.ecallV (len := 3) rfl rfl rfl (rfl) rfl (by decide) rfl (m_hasRead (k := 0) (by decide)) ?_
  refine Wp.top h20 ?_
  refine Wp.n (pc' := 44) 1 rfl ?_
  refine Wp.isubN (x := P) (y := 1) (len := 1) rfl (by omega) ?_
  refine Wp.callV (len := 3) rfl rfl rfl (rfl) rfl (by decide) rfl (m_number (lo := 0) (hi := P - 1) hT hL (fun q => ⟨rfl, rfl, by omega, by omega⟩)) ?_
  rintro _ _ ⟨y, rfl, hx, τ2, rfl, f2, hτ2⟩
  refine Wp.retI (len := 1) rfl rfl ?_
  exact kk _ τ2 f2 hx hτ2
theorem m_other (hT : TM σ T) (hL : LM σ T st) {is : Bool} {P : Nat} {ok : Nat → Bool} (hg : gd st = true → σ.2.2.1 6 20 = nI P ∧ 1 ≤ P ∧ P ≤ 7 ∧ ∀ r, σ.1 10 = nI r → r < P → is = ok r) : Wp (d + 3) md_178 0 [some (.ref 287), some (.int (bI is))] [] (mset M σ) (fun v M' => ∃ x, v = some (.int x) ∧ (gd (otS T P ok st) = true → x = nI (nmV T st)) ∧ RdB M σ T (otS T P ok st) M') := by
  rcases st with x | s
  · have x3 := hL.2.2.1
    have x1 := hL.2.1
    refine Wp.n (pc' := 4) 2 rfl ?_
    refine Wp.top hL.1 ?_
    refine Wp.nz1 (x := x.1) (tgt := 36) (len := 3) rfl (by omega) (fun h4 => ?_) (fun h4 => ?_)
    · skip
      refine Wp.n (pc' := 40) 4 rfl ?_
      refine Wp.ecallV (len := 3) rfl rfl rfl (rfl) rfl (by decide) rfl (m_hasRead (k := 0) (by decide)) ?_
      refine Wp.n (pc' := 45) 2 rfl ?_
      refine Wp.callV (len := 3) rfl rfl rfl (rfl) rfl (by decide) rfl (m_number (lo := 0) (hi := 0) hT hL (fun q => by cases q)) ?_
      rintro _ _ ⟨y, rfl, hx, τ2, rfl, f2, hτ2⟩
      refine Wp.retI (len := 1) rfl rfl ?_
      exact ⟨_, rfl, hx, τ2, rfl, f2, hτ2⟩
    · omega
  · obtain ⟨h20, P1, P7, hok⟩ := hg rfl
    obtain ⟨h12, hN⟩ := id hL
    obtain ⟨r, h10, r1, r2⟩ := hN.2.2.2.1
    have t4 := tk_le (T := T) (s := s)
    have okr := hok r h10
    refine Wp.n (pc' := 4) 2 rfl ?_
    refine Wp.top h12 ?_
    refine Wp.nz1 (x := 0) (tgt := 36) (len := 3) rfl (by omega) (fun h4 => ?_) (fun h4 => ?_)
    · omega
    · skip
      refine Wp.n (pc' := 11) 2 rfl ?_
      refine Wp.top hN.2.1 ?_
      refine Wp.n (pc' := 12) 1 rfl ?_
      refine Wp.nc1 (x := tk T s) (y := 2) (tgt := 36) (len := 3) rfl (by omega) (by omega) (fun h12 => ?_) (fun h12 => ?_)
      · skip
        first
          | (have e0 : otS T P ok (.inr s) = .inl (2, s) := (if_pos (by omega)).trans (if_neg (fun q => by have e1 := okr (by omega); rw [h28, show r = vl T s by omega, q.2] at e1; cases e1))
             rw [e0]
             have hτ' : LM τ T (.inl (2, s)) := hτ
             refine m_other_b (f.T hT) hτ' (fun x τ2 f2 h2 => ⟨x, rfl, fun q => (by cases q), τ2, rfl, f.t f2, h2⟩))
          | (refine m_other_g hT hL h20 P1 P7 (fun x τ2 f2 hx h2 => ?_)
             have e0 : nmS T 0 (P - 1) (.inr s) = otS T P ok (.inr s) := by
               show (if _ then (if _ then _ else _) else _) = (if _ then (if _ then _ else _) else _)
               by_cases c2 : tk T s = 2
               · rw [if_pos c2, if_pos c2]
                 by_cases cv : vl T s < P
                 · rw [if_pos (by omega), if_pos ⟨cv, by have e1 := okr (by omega); rw [h28] at e1; rw [show vl T s = r by omega]; exact e1.symm⟩]
                 · rw [if_neg (by omega), if_neg (fun q => cv q.1)]
               · rw [if_neg c2, if_neg c2]
             rw [e0] at hx h2
             exact ⟨x, rfl, hx, τ2, rfl, f2, h2⟩)
          | (refine m_other_g hT hL h20 P1 P7 (fun x τ2 f2 hx h2 => ?_)
             have e0 : nmS T 0 (P - 1) (.inr s) = otS T P ok (.inr s) := by
               show (if _ then (if _ then _ else _) else _) = (if _ then (if _ then _ else _) else _)
               by_cases c2 : tk T s = 2
               · rw [if_pos c2, if_pos c2, if_neg (by omega), if_neg (fun q => by omega)]
               · rw [if_neg c2, if_neg c2]
             rw [e0] at hx h2
             exact ⟨x, rfl, hx, τ2, rfl, f2, h2⟩)
      · skip
        refine Wp.n (pc' := 19) 2 rfl ?_
        refine Wp.top h10 ?_
        refine Wp.n (pc' := 21) 2 rfl ?_
        refine Wp.ecallV (len := 3) rfl rfl rfl (rfl) rfl (by decide) rfl (m_hasRead (k := 0) (by decide)) ?_
        refine Wp.top h20 ?_
        refine Wp.nc3 (x := r) (y := P) (tgt := 36) (len := 3) rfl (by omega) (by omega) (fun h24 => ?_) (fun h24 => ?_)
        · skip
          first
            | (have e0 : otS T P ok (.inr s) = .inl (2, s) := (if_pos (by omega)).trans (if_neg (fun q => by have e1 := okr (by omega); rw [h28, show r = vl T s by omega, q.2] at e1; cases e1))
               rw [e0]
               have hτ' : LM τ T (.inl (2, s)) := hτ
               refine m_other_b (f.T hT) hτ' (fun x τ2 f2 h2 => ⟨x, rfl, fun q => (by cases q), τ2, rfl, f.t f2, h2⟩))
            | (refine m_other_g hT hL h20 P1 P7 (fun x τ2 f2 hx h2 => ?_)
               have e0 : nmS T 0 (P - 1) (.inr s) = otS T P ok (.inr s) := by
                 show (if _ then (if _ then _ else _) else _) = (if _ then (if _ then _ else _) else _)
                 by_cases c2 : tk T s = 2
                 · rw [if_pos c2, if_pos c2]
                   by_cases cv : vl T s < P
                   · rw [if_pos (by omega), if_pos ⟨cv, by have e1 := okr (by omega); rw [h28] at e1; rw [show vl T s = r by omega]; exact e1.symm⟩]
                   · rw [if_neg (by omega), if_neg (fun q => cv q.1)]
                 · rw [if_neg c2, if_neg c2]
               rw [e0] at hx h2
               exact ⟨x, rfl, hx, τ2, rfl, f2, h2⟩)
            | (refine m_other_g hT hL h20 P1 P7 (fun x τ2 f2 hx h2 => ?_)
               have e0 : nmS T 0 (P - 1) (.inr s) = otS T P ok (.inr s) := by
                 show (if _ then (if _ then _ else _) else _) = (if _ then (if _ then _ else _) else _)
                 by_cases c2 : tk T s = 2
                 · rw [if_pos c2, if_pos c2, if_neg (by omega), if_neg (fun q => by omega)]
                 · rw [if_neg c2, if_neg c2]
               rw [e0] at hx h2
               exact ⟨x, rfl, hx, τ2, rfl, f2, h2⟩)
        · skip
          refine Wp.n (pc' := 28) 1 rfl ?_
          refine Wp.ifb1 (tgt := 36) (len := 3) rfl (fun h28 => ?_) (fun h28 => ?_)
          · skip
            first
              | (have e0 : otS T P ok (.inr s) = .inl (2, s) := (if_pos (by omega)).trans (if_neg (fun q => by have e1 := okr (by omega); rw [h28, show r = vl T s by omega, q.2] at e1; cases e1))
                 rw [e0]
                 have hτ' : LM τ T (.inl (2, s)) := hτ
                 refine m_other_b (f.T hT) hτ' (fun x τ2 f2 h2 => ⟨x, rfl, fun q => (by cases q), τ2, rfl, f.t f2, h2⟩))
              | (refine m_other_g hT hL h20 P1 P7 (fun x τ2 f2 hx h2 => ?_)
                 have e0 : nmS T 0 (P - 1) (.inr s) = otS T P ok (.inr s) := by
                   show (if _ then (if _ then _ else _) else _) = (if _ then (if _ then _ else _) else _)
                   by_cases c2 : tk T s = 2
                   · rw [if_pos c2, if_pos c2]
                     by_cases cv : vl T s < P
                     · rw [if_pos (by omega), if_pos ⟨cv, by have e1 := okr (by omega); rw [h28] at e1; rw [show vl T s = r by omega]; exact e1.symm⟩]
                     · rw [if_neg (by omega), if_neg (fun q => cv q.1)]
                   · rw [if_neg c2, if_neg c2]
                 rw [e0] at hx h2
                 exact ⟨x, rfl, hx, τ2, rfl, f2, h2⟩)
              | (refine m_other_g hT hL h20 P1 P7 (fun x τ2 f2 hx h2 => ?_)
                 have e0 : nmS T 0 (P - 1) (.inr s) = otS T P ok (.inr s) := by
                   show (if _ then (if _ then _ else _) else _) = (if _ then (if _ then _ else _) else _)
                   by_cases c2 : tk T s = 2
                   · rw [if_pos c2, if_pos c2, if_neg (by omega), if_neg (fun q => by omega)]
                   · rw [if_neg c2, if_neg c2]
                 rw [e0] at hx h2
                 exact ⟨x, rfl, hx, τ2, rfl, f2, h2⟩)
          · skip
            refine Wp.n (pc' := 33) 2 rfl ?_
            refine Wp.callV (len := 3) rfl rfl rfl (rfl) rfl (by decide) rfl (m_fails hT hL (k := 2) (by decide)) ?_
            rintro _ _ ⟨rfl, τ, rfl, f, hτ⟩
            first
              | (have e0 : otS T P ok (.inr s) = .inl (2, s) := (if_pos (by omega)).trans (if_neg (fun q => by have e1 := okr (by omega); rw [h28, show r = vl T s by omega, q.2] at e1; cases e1))
                 rw [e0]
                 have hτ' : LM τ T (.inl (2, s)) := hτ
                 refine m_other_b (f.T hT) hτ' (fun x τ2 f2 h2 => ⟨x, rfl, fun q => (by cases q), τ2, rfl, f.t f2, h2⟩))
              | (refine m_other_g hT hL h20 P1 P7 (fun x τ2 f2 hx h2 => ?_)
                 have e0 : nmS T 0 (P - 1) (.inr s) = otS T P ok (.inr s) := by
                   show (if _ then (if _ then _ else _) else _) = (if _ then (if _ then _ else _) else _)
                   by_cases c2 : tk T s = 2
                   · rw [if_pos c2, if_pos c2]
                     by_cases cv : vl T s < P
                     · rw [if_pos (by omega), if_pos ⟨cv, by have e1 := okr (by omega); rw [h28] at e1; rw [show vl T s = r by omega]; exact e1.symm⟩]
                     · rw [if_neg (by omega), if_neg (fun q => cv q.1)]
                   · rw [if_neg c2, if_neg c2]
                 rw [e0] at hx h2
                 exact ⟨x, rfl, hx, τ2, rfl, f2, h2⟩)
              | (refine m_other_g hT hL h20 P1 P7 (fun x τ2 f2 hx h2 => ?_)
                 have e0 : nmS T 0 (P - 1) (.inr s) = otS T P ok (.inr s) := by
                   show (if _ then (if _ then _ else _) else _) = (if _ then (if _ then _ else _) else _)
                   by_cases c2 : tk T s = 2
                   · rw [if_pos c2, if_pos c2, if_neg (by omega), if_neg (fun q => by omega)]
                   · rw [if_neg c2, if_neg c2]
                 rw [e0] at hx h2
                 exact ⟨x, rfl, hx, τ2, rfl, f2, h2⟩)
end RD
