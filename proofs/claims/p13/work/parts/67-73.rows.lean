section
/-! TOKENS: what a token is; the reference's way to the next one. -/
def isBl (x : Int32) : Bool := decide (x = 32 ∨ x = 10)
def isLt (x : Int32) : Bool := decide (97 ≤ x.toInt ∧ x.toInt ≤ 122)
def isDg (x : Int32) : Bool := decide (48 ≤ x.toInt ∧ x.toInt ≤ 57)
def rn (p : Nat → Bool) : Nat → Nat → Nat
  | 0, i => i
  | m + 1, i => if p i = true then rn p m (i + 1) else i
def tn (T : TP) (p : Int32 → Bool) (s : Nat) : Nat := rn (fun i => p (T.2 i)) (T.1 - s) s
/-- the kind of the token that begins at s -/
def tk (T : TP) (s : Nat) : Nat := if T.1 ≤ s then 0 else if isLt (T.2 s) = true then 1 else if isDg (T.2 s) = true then 2 else if T.2 s = 59 then 3 else 4
/-- its end -/
def en (T : TP) (s : Nat) : Nat := if T.1 ≤ s then s else if isLt (T.2 s) = true then tn T isLt s else if isDg (T.2 s) = true then tn T isDg s else s + 1
def bl (T : TP) (s : Nat) : Nat := tn T isBl s
def nx (T : TP) (s : Nat) : Nat := bl T (en T s)
def hsN (T : TP) (s : Nat) : Nat → Nat
  | 0 => 0
  | m + 1 => 27 * hsN T s m + ((T.2 (s + m)).toNatClampNeg - 96)
def vdN (T : TP) (s : Nat) : Nat → Nat
  | 0 => 0
  | m + 1 => 10 * vdN T s m + ((T.2 (s + m)).toNatClampNeg - 48)
def vl (T : TP) (s : Nat) : Nat := if tk T s = 2 then vdN T s (en T s - s) else 0
def wv (T : TP) (s m : Nat) : Int64 := if m ≤ 12 then lN (hsN T s m) else -1
def wl (T : TP) (s : Nat) : Int64 := if tk T s = 1 then wv T s (en T s - s) else 0
def isW (T : TP) (s h : Nat) : Bool := decide (tk T s = 1 ∧ en T s - s ≤ 12 ∧ hsN T s (en T s - s) = h)
def VR (r v : Nat) : Prop := r ≤ 1000009 ∧ (r = v ∨ (100000 < r ∧ 100000 < v))
theorem rn_le {p : Nat → Bool} : ∀ (m i : Nat), i ≤ rn p m i ∧ rn p m i ≤ i + m
  | 0, i => ⟨Nat.le_refl _, Nat.le_refl _⟩
  | m + 1, i => by
    unfold rn
    have h := rn_le (p := p) m (i + 1)
    by_cases c : p i = true
    · rw [if_pos c]; omega
    · rw [if_neg c]; omega
section TN
variable {T : TP} {p : Int32 → Bool} {s : Nat}
theorem tn_go (h : s < T.1) (hp : p (T.2 s) = true) : tn T p s = tn T p (s + 1) := by
  unfold tn
  rw [show T.1 - s = (T.1 - (s + 1)) + 1 by omega]
  show (if p (T.2 s) = true then _ else _) = _
  rw [if_pos hp]
theorem tn_no (h : ¬ (s < T.1 ∧ p (T.2 s) = true)) : tn T p s = s := by
  unfold tn
  by_cases c : s < T.1
  · rw [show T.1 - s = (T.1 - (s + 1)) + 1 by omega]
    show (if p (T.2 s) = true then _ else _) = _
    rw [if_neg (fun q => h ⟨c, q⟩)]
  · rw [show T.1 - s = 0 by omega]
    rfl
theorem tn_le (h : s ≤ T.1) : s ≤ tn T p s ∧ tn T p s ≤ T.1 := by
  have := rn_le (p := fun i => p (T.2 i)) (T.1 - s) s
  unfold tn
  omega
theorem en_le (h : s ≤ T.1) : s ≤ en T s ∧ en T s ≤ T.1 := by
  have h1 := tn_le (p := isLt) h
  have h2 := tn_le (p := isDg) h
  unfold en
  split
  · omega
  · split
    · exact h1
    · split
      · exact h2
      · omega
theorem en_lt (h : s < T.1) : s < en T s := by
  unfold en
  rw [if_neg (by omega)]
  split
  · rename_i c
    have h1 := tn_le (T := T) (p := isLt) (s := s + 1) h
    rw [tn_go h c]; omega
  · split
    · rename_i c
      have h1 := tn_le (T := T) (p := isDg) (s := s + 1) h
      rw [tn_go h c]; omega
    · omega
theorem nx_le (h : s ≤ T.1) : nx T s ≤ T.1 ∧ en T s ≤ nx T s := by
  have h1 := en_le h
  have h2 := tn_le (T := T) (p := isBl) h1.2
  unfold nx bl
  omega
theorem tk_0 : tk T s = 0 ↔ T.1 ≤ s := by
  unfold tk
  constructor
  · intro h
    by_cases c : T.1 ≤ s
    · exact c
    · rw [if_neg c] at h
      split at h
      · cases h
      · split at h
        · cases h
        · split at h <;> cases h
  · intro h
    rw [if_pos h]
theorem lt_of {x : Int32} (h : isLt x = true) : ∃ c, x = nI c ∧ 97 ≤ c ∧ c ≤ 122 := by
  have h1 := of_decide_eq_true h
  obtain ⟨c, hc, rfl⟩ := nI_of (x := x) (by rw [i_lt]; intro q; have : x.toInt < 0 := q; omega)
  rw [nI_toInt hc] at h1
  exact ⟨c, rfl, by omega, by omega⟩
theorem dg_of {x : Int32} (h : isDg x = true) : ∃ c, x = nI c ∧ 48 ≤ c ∧ c ≤ 57 := by
  have h1 := of_decide_eq_true h
  obtain ⟨c, hc, rfl⟩ := nI_of (x := x) (by rw [i_lt]; intro q; have : x.toInt < 0 := q; omega)
  rw [nI_toInt hc] at h1
  exact ⟨c, rfl, by omega, by omega⟩
end TN
def iby (T : TP) (k : Nat) (lo hi : Int32) : Bool := decide (k < T.1 ∧ lo.toInt ≤ (T.2 k).toInt ∧ (T.2 k).toInt ≤ hi.toInt)
theorem iby_lt {T : TP} {k : Nat} : iby T k 97 122 = true ↔ k < T.1 ∧ isLt (T.2 k) = true := by
  unfold iby isLt
  rw [decide_eq_true_iff, decide_eq_true_iff]
  exact Iff.rfl
theorem iby_dg {T : TP} {k : Nat} : iby T k 48 57 = true ↔ k < T.1 ∧ isDg (T.2 k) = true := by
  unfold iby isDg
  rw [decide_eq_true_iff, decide_eq_true_iff]
  exact Iff.rfl
theorem eq_toInt {x y : Int32} : x = y ↔ x.toInt = y.toInt := ⟨fun h => by rw [h], fun h => Int32.toInt_inj.mp h⟩
theorem iby_bl {T : TP} {k : Nat} : (iby T k 32 32 = true ∨ iby T k 10 10 = true) ↔ k < T.1 ∧ isBl (T.2 k) = true := by
  unfold iby isBl
  rw [decide_eq_true_iff, decide_eq_true_iff, decide_eq_true_iff, eq_toInt, eq_toInt]
  have e1 : (32 : Int32).toInt = 32 := rfl
  have e2 : (10 : Int32).toInt = 10 := rfl
  rw [e1, e2]
  omega
/-- only the token differs -/
def FrN (σ σ' : MS) : Prop := (∀ j, List.elem j [7, 8, 9, 10] = false → σ'.1 j = σ.1 j) ∧ σ'.2.2 = σ.2.2
theorem FrN.r {σ : MS} : FrN σ σ := ⟨fun _ _ => rfl, rfl⟩
theorem FrN.t {σ σ' σ'' : MS} (h : FrN σ σ') (h' : FrN σ' σ'') : FrN σ σ'' := ⟨fun j hj => (h'.1 j hj).trans (h.1 j hj), h'.2.trans h.2⟩
theorem FrN.f {σ : MS} {j : Nat} {x : Int32} (hj : List.elem j [7, 8, 9, 10] = true) : FrN σ (fset σ j x) := ⟨fun i hi => pk_un (fun e => by rw [e, hj] at hi; cases hi), rfl⟩
theorem FrN.j {σ : MS} {x : Int64} : FrN σ (jset σ x) := ⟨fun _ _ => rfl, rfl⟩
theorem FrN.T {σ σ' : MS} {T : TP} (h : FrN σ σ') (hT : TM σ T) : TM σ' T := ⟨(h.1 6 rfl).trans hT.1, hT.2.1, fun i hi => by rw [h.2]; exact hT.2.2 i hi⟩
/-- the token that begins at s is the present one -/
def LN (σ : MS) (T : TP) (s : Nat) : Prop := σ.1 7 = nI (en T s) ∧ σ.1 8 = nI (tk T s) ∧ σ.1 9 = nI s ∧ (∃ r, σ.1 10 = nI r ∧ VR r (vl T s)) ∧ σ.2.1 = wl T s ∧ s ≤ T.1
section NEXT
variable {d : Nat} {M : AM} {σ σ' : MS} {T : TP} {Q : Option Value → AM → Prop}
theorem m_isByte (hT : TM σ T) {k : Nat} (hk : k ≤ T.1) (lo hi : Int32) : Ev d md_164 0 [some (.ref 287), some (.int (nI k)), some (.int lo), some (.int hi)] [] (mset M σ) (some (.int (bI (iby T k lo hi))), mset M σ) := by
  refine Wp.toEv ?_
  have t20 := hT.2.1
  refine Wp.n (pc' := 5) 3 rfl ?_
  refine Wp.top hT.1 ?_
  refine Wp.nc3 (x := k) (y := T.1) (tgt := 32) (len := 3) rfl (by omega) (by omega) (fun h5 => ?_) (fun h5 => ?_)
  · skip
    refine Wp.n (pc' := 33) 1 rfl ?_
    refine Wp.retZ (len := 1) (c := false) rfl rfl rfl ?_
    first
      | exact ⟨by rw [show iby T k lo hi = true from decide_eq_true ⟨by omega, by rw [i_lt] at h15; omega, by rw [i_lt] at h25; omega⟩], rfl⟩
      | exact ⟨by rw [show iby T k lo hi = false from decide_eq_false (fun q => by rw [i_lt] at h25; omega)], rfl⟩
      | exact ⟨by rw [show iby T k lo hi = false from decide_eq_false (fun q => by rw [i_lt] at h15; omega)], rfl⟩
      | exact ⟨by rw [show iby T k lo hi = false from decide_eq_false (fun q => by omega)], rfl⟩
  · skip
    refine Wp.n (pc' := 13) 3 rfl ?_
    refine Wp.baldN (j := k) (len := 1) rfl rfl rfl (by omega) (by decide) ?_
    refine Wp.top (hT.2.2 k (by omega)) ?_
    refine Wp.n (pc' := 15) 1 rfl ?_
    refine Wp.ic2 (tgt := 32) (len := 3) rfl (fun h15 => ?_) (fun h15 => ?_)
    · skip
      refine Wp.n (pc' := 33) 1 rfl ?_
      refine Wp.retZ (len := 1) (c := false) rfl rfl rfl ?_
      first
        | exact ⟨by rw [show iby T k lo hi = true from decide_eq_true ⟨by omega, by rw [i_lt] at h15; omega, by rw [i_lt] at h25; omega⟩], rfl⟩
        | exact ⟨by rw [show iby T k lo hi = false from decide_eq_false (fun q => by rw [i_lt] at h25; omega)], rfl⟩
        | exact ⟨by rw [show iby T k lo hi = false from decide_eq_false (fun q => by rw [i_lt] at h15; omega)], rfl⟩
        | exact ⟨by rw [show iby T k lo hi = false from decide_eq_false (fun q => by omega)], rfl⟩
    · skip
      refine Wp.n (pc' := 23) 3 rfl ?_
      refine Wp.baldN (j := k) (len := 1) rfl rfl rfl (by omega) (by decide) ?_
      refine Wp.top (hT.2.2 k (by omega)) ?_
      refine Wp.n (pc' := 25) 1 rfl ?_
      refine Wp.ic4 (tgt := 32) (len := 3) rfl (fun h25 => ?_) (fun h25 => ?_)
      · skip
        refine Wp.n (pc' := 33) 1 rfl ?_
        refine Wp.retZ (len := 1) (c := false) rfl rfl rfl ?_
        first
          | exact ⟨by rw [show iby T k lo hi = true from decide_eq_true ⟨by omega, by rw [i_lt] at h15; omega, by rw [i_lt] at h25; omega⟩], rfl⟩
          | exact ⟨by rw [show iby T k lo hi = false from decide_eq_false (fun q => by rw [i_lt] at h25; omega)], rfl⟩
          | exact ⟨by rw [show iby T k lo hi = false from decide_eq_false (fun q => by rw [i_lt] at h15; omega)], rfl⟩
          | exact ⟨by rw [show iby T k lo hi = false from decide_eq_false (fun q => by omega)], rfl⟩
      · skip
        refine Wp.n (pc' := 33) 2 rfl ?_
        refine Wp.retZ (len := 1) (c := true) rfl rfl rfl ?_
        first
          | exact ⟨by rw [show iby T k lo hi = true from decide_eq_true ⟨by omega, by rw [i_lt] at h15; omega, by rw [i_lt] at h25; omega⟩], rfl⟩
          | exact ⟨by rw [show iby T k lo hi = false from decide_eq_false (fun q => by rw [i_lt] at h25; omega)], rfl⟩
          | exact ⟨by rw [show iby T k lo hi = false from decide_eq_false (fun q => by rw [i_lt] at h15; omega)], rfl⟩
          | exact ⟨by rw [show iby T k lo hi = false from decide_eq_false (fun q => by omega)], rfl⟩
theorem m_next_1 : ∀ (n p : Nat) {σ : MS}, TM σ T → p + n = T.1 → σ.1 7 = nI p → (∀ σ', FrN σ σ' → σ'.1 7 = nI (bl T p) → Wp (d + 1) md_163 43 [some (.ref 287), none] [] (mset M σ') Q) → Wp (d + 1) md_163 0 [some (.ref 287), none] [] (mset M σ) Q
  | 0, p, σ, hT, hn, h7, kk => by
    have t20 := hT.2.1
    have e : bl T p = p := tn_no (fun q => by omega)
    refine Wp.n (pc' := 5) 3 rfl ?_
    refine Wp.top h7 ?_
    refine Wp.n (pc' := 9) 2 rfl ?_
    refine Wp.ecallV (len := 3) rfl rfl rfl (rfl) rfl (by decide) rfl (m_isByte hT (k := p) (by omega) _ _) ?_
    refine Wp.ifb1 (tgt := 30) (len := 3) rfl (fun h12 => ?_) (fun h12 => ?_)
    · exact absurd (iby_bl.mp (Or.inl h12)).1 (by omega)
    · skip
      refine Wp.n (pc' := 20) 3 rfl ?_
      refine Wp.top h7 ?_
      refine Wp.n (pc' := 24) 2 rfl ?_
      refine Wp.ecallV (len := 3) rfl rfl rfl (rfl) rfl (by decide) rfl (m_isByte hT (k := p) (by omega) _ _) ?_
      refine Wp.ifb0 (tgt := 43) (len := 3) rfl (fun h27 => ?_) (fun h27 => ?_)
      · skip
        exact kk σ FrN.r (by rw [e]; exact h7)
      · exact absurd (iby_bl.mp (Or.inr h27)).1 (by omega)
  | n + 1, p, σ, hT, hn, h7, kk => by
    have t20 := hT.2.1
    refine Wp.n (pc' := 5) 3 rfl ?_
    refine Wp.top h7 ?_
    refine Wp.n (pc' := 9) 2 rfl ?_
    refine Wp.ecallV (len := 3) rfl rfl rfl (rfl) rfl (by decide) rfl (m_isByte hT (k := p) (by omega) _ _) ?_
    refine Wp.ifb1 (tgt := 30) (len := 3) rfl (fun h12 => ?_) (fun h12 => ?_)
    · skip
      refine Wp.n (pc' := 35) 3 rfl ?_
      refine Wp.top h7 ?_
      refine Wp.n (pc' := 36) 1 rfl ?_
      refine Wp.iaddN (x := p) (y := 1) (len := 1) rfl ?_
      refine Wp.mput (len := 3) rfl rfl ?_
      refine Wp.n (pc' := 0) 1 rfl ?_
      have hb : isBl (T.2 p) = true := (iby_bl.mp (by first | exact Or.inl h12 | exact Or.inr h27)).2
      have w := m_next_1 n (p + 1) (σ := fset σ 7 (nI (p + 1))) (FrN.T (FrN.f rfl) hT) (by omega) rfl (fun σ' f h => kk σ' ((FrN.f rfl).t f) (by rw [show bl T p = bl T (p + 1) from tn_go (by omega) hb]; exact h))
      exact w
    · skip
      refine Wp.n (pc' := 20) 3 rfl ?_
      refine Wp.top h7 ?_
      refine Wp.n (pc' := 24) 2 rfl ?_
      refine Wp.ecallV (len := 3) rfl rfl rfl (rfl) rfl (by decide) rfl (m_isByte hT (k := p) (by omega) _ _) ?_
      refine Wp.ifb0 (tgt := 43) (len := 3) rfl (fun h27 => ?_) (fun h27 => ?_)
      · skip
        have hb : bl T p = p := tn_no (fun q => by
          rcases iby_bl.mpr q with c | c
          · rw [h12] at c; cases c
          · rw [h27] at c; cases c)
        exact kk σ FrN.r (by rw [hb]; exact h7)
      · skip
        refine Wp.n (pc' := 35) 3 rfl ?_
        refine Wp.top h7 ?_
        refine Wp.n (pc' := 36) 1 rfl ?_
        refine Wp.iaddN (x := p) (y := 1) (len := 1) rfl ?_
        refine Wp.mput (len := 3) rfl rfl ?_
        refine Wp.n (pc' := 0) 1 rfl ?_
        have hb : isBl (T.2 p) = true := (iby_bl.mp (by first | exact Or.inl h12 | exact Or.inr h27)).2
        have w := m_next_1 n (p + 1) (σ := fset σ 7 (nI (p + 1))) (FrN.T (FrN.f rfl) hT) (by omega) rfl (fun σ' f h => kk σ' ((FrN.f rfl).t f) (by rw [show bl T p = bl T (p + 1) from tn_go (by omega) hb]; exact h))
        exact w
/-- letters -/
theorem m_next_2 {s : Nat} (kk : ∀ σ' n', FrN σ σ' → σ'.1 7 = nI (tn T isLt s) → σ'.1 8 = σ.1 8 → σ'.1 9 = σ.1 9 → σ'.1 10 = σ.1 10 → σ'.2.1 = wv T s (tn T isLt s - s) → Wp (d + 1) md_163 307 [some (.ref 287), some (.int n')] [] (mset M σ') Q) : ∀ (n m : Nat) {σ1 : MS}, TM σ1 T → s + m + n = T.1 → σ1.1 7 = nI (s + m) → FrN σ σ1 → σ1.1 8 = σ.1 8 → σ1.1 9 = σ.1 9 → σ1.1 10 = σ.1 10 → σ1.2.1 = wv T s m → tn T isLt s = tn T isLt (s + m) → Wp (d + 1) md_163 102 [some (.ref 287), some (.int (nI m))] [] (mset M σ1) Q
  | 0, m, σ1, hT, hn, h7, f, e8, e9, e10, hw, et => by
    have t20 := hT.2.1
    have e0 : tn T isLt (s + m) = s + m := tn_no (fun q => by omega)
    refine Wp.n (pc' := 107) 3 rfl ?_
    refine Wp.top h7 ?_
    refine Wp.n (pc' := 111) 2 rfl ?_
    refine Wp.ecallV (len := 3) rfl rfl rfl (rfl) rfl (by decide) rfl (m_isByte hT (k := s + m) (by omega) _ _) ?_
    refine Wp.ifb0 (tgt := 185) (len := 3) rfl (fun h114 => ?_) (fun h114 => ?_)
    · skip
      refine Wp.n (pc' := 307) 1 rfl ?_
      refine kk σ1 _ f (by rw [et, e0]; exact h7) e8 e9 e10 ?_
      rw [et, e0, show s + m - s = m by omega]
      exact hw
    · exact absurd (iby_lt.mp h114).1 (by omega)
  | n + 1, m, σ1, hT, hn, h7, f, e8, e9, e10, hw, et => by
    have t20 := hT.2.1
    refine Wp.n (pc' := 107) 3 rfl ?_
    refine Wp.top h7 ?_
    refine Wp.n (pc' := 111) 2 rfl ?_
    refine Wp.ecallV (len := 3) rfl rfl rfl (rfl) rfl (by decide) rfl (m_isByte hT (k := s + m) (by omega) _ _) ?_
    refine Wp.ifb0 (tgt := 185) (len := 3) rfl (fun h114 => ?_) (fun h114 => ?_)
    · skip
      refine Wp.n (pc' := 307) 1 rfl ?_
      refine kk σ1 _ f (by rw [et, tn_no (fun q => by rw [iby_lt.mpr q] at h114; cases h114)]; exact h7) e8 e9 e10 ?_
      rw [et, tn_no (fun q => by rw [iby_lt.mpr q] at h114; cases h114), show s + m - s = m by omega]
      exact hw
    · skip
      have hl := (iby_lt.mp h114).2
      obtain ⟨c, hc, c1, c2⟩ := lt_of hl
      refine Wp.n (pc' := 121) 3 rfl ?_
      refine Wp.nc5 (x := m) (y := 11) (tgt := 130) (len := 3) rfl (by omega) (by omega) (fun h121 => ?_) (fun h121 => ?_)
      · skip
        refine Wp.n (pc' := 137) 3 rfl ?_
        refine Wp.topL (hw.trans (if_pos (by omega))) ?_
        refine Wp.lmulM (x := 27) (y := hsN T s m) (len := 1) rfl ?_
        refine Wp.n (pc' := 146) 4 rfl ?_
        refine Wp.top h7 ?_
        refine Wp.baldN (j := s + m) (len := 1) rfl rfl rfl (by omega) (by decide) ?_
        refine Wp.top ((hT.2.2 (s + m) (by omega)).trans hc) ?_
        refine Wp.i2lM (x := c) (len := 1) rfl (by omega) ?_
        refine Wp.laddM (x := 27 * (hsN T s m)) (y := c) (len := 1) rfl ?_
        refine Wp.n (pc' := 152) 1 rfl ?_
        refine Wp.lsubM (x := (27 * (hsN T s m)) + c) (y := 96) (len := 1) rfl (by omega) ?_
        refine Wp.mputJ (len := 3) rfl ?_
        refine Wp.n (pc' := 159) 2 rfl ?_
        refine Wp.nc5 (x := m) (y := 11) (tgt := 169) (len := 3) rfl (by omega) (by omega) (fun h159 => ?_) (fun h159 => ?_)
        · skip
          refine Wp.n (pc' := 174) 3 rfl ?_
          refine Wp.top h7 ?_
          refine Wp.n (pc' := 175) 1 rfl ?_
          refine Wp.iaddN (x := s + m) (y := 1) (len := 1) rfl ?_
          refine Wp.mput (len := 3) rfl rfl ?_
          refine Wp.incN (x := m) (len := 3) rfl rfl ?_
          refine Wp.n (pc' := 102) 1 rfl ?_
          have hw1 : wv T s (m + 1) = if m ≤ 11 then lN (27 * hsN T s m + c - 96) else -1 := by
            unfold wv
            by_cases q : m ≤ 11
            · rw [if_pos q, if_pos (by omega)]
              show lN (27 * hsN T s m + ((T.2 (s + m)).toNatClampNeg - 96)) = _
              rw [hc, nI_clamp (by omega)]
              exact congrArg lN (by omega)
            · rw [if_neg q, if_neg (by omega)]
          first
            | omega
            | exact m_next_2 kk n (m + 1) (FrN.T (FrN.t FrN.j (FrN.f rfl)) hT) (by omega) rfl (f.t (FrN.t FrN.j (FrN.f rfl))) e8 e9 e10 (by rw [hw1, if_pos (by omega)]; rfl) (by rw [et]; exact tn_go (by omega) hl)
            | exact m_next_2 kk n (m + 1) (FrN.T (FrN.t FrN.j (FrN.t FrN.j (FrN.f rfl))) hT) (by omega) rfl (f.t (FrN.t FrN.j (FrN.t FrN.j (FrN.f rfl)))) e8 e9 e10 (by rw [hw1, if_neg (by omega)]; rfl) (by rw [et]; exact tn_go (by omega) hl)
        · skip
          refine Wp.n (pc' := 166) 2 rfl ?_
          refine Wp.mputJ (len := 3) rfl ?_
          refine Wp.n (pc' := 174) 3 rfl ?_
          refine Wp.top h7 ?_
          refine Wp.n (pc' := 175) 1 rfl ?_
          refine Wp.iaddN (x := s + m) (y := 1) (len := 1) rfl ?_
          refine Wp.mput (len := 3) rfl rfl ?_
          refine Wp.incN (x := m) (len := 3) rfl rfl ?_
          refine Wp.n (pc' := 102) 1 rfl ?_
          have hw1 : wv T s (m + 1) = if m ≤ 11 then lN (27 * hsN T s m + c - 96) else -1 := by
            unfold wv
            by_cases q : m ≤ 11
            · rw [if_pos q, if_pos (by omega)]
              show lN (27 * hsN T s m + ((T.2 (s + m)).toNatClampNeg - 96)) = _
              rw [hc, nI_clamp (by omega)]
              exact congrArg lN (by omega)
            · rw [if_neg q, if_neg (by omega)]
          first
            | omega
            | exact m_next_2 kk n (m + 1) (FrN.T (FrN.t FrN.j (FrN.f rfl)) hT) (by omega) rfl (f.t (FrN.t FrN.j (FrN.f rfl))) e8 e9 e10 (by rw [hw1, if_pos (by omega)]; rfl) (by rw [et]; exact tn_go (by omega) hl)
            | exact m_next_2 kk n (m + 1) (FrN.T (FrN.t FrN.j (FrN.t FrN.j (FrN.f rfl))) hT) (by omega) rfl (f.t (FrN.t FrN.j (FrN.t FrN.j (FrN.f rfl)))) e8 e9 e10 (by rw [hw1, if_neg (by omega)]; rfl) (by rw [et]; exact tn_go (by omega) hl)
      · skip
        refine Wp.n (pc' := 153) 2 rfl ?_
        refine Wp.mputJ (len := 3) rfl ?_
        refine Wp.n (pc' := 159) 2 rfl ?_
        refine Wp.nc5 (x := m) (y := 11) (tgt := 169) (len := 3) rfl (by omega) (by omega) (fun h159 => ?_) (fun h159 => ?_)
        · skip
          refine Wp.n (pc' := 174) 3 rfl ?_
          refine Wp.top h7 ?_
          refine Wp.n (pc' := 175) 1 rfl ?_
          refine Wp.iaddN (x := s + m) (y := 1) (len := 1) rfl ?_
          refine Wp.mput (len := 3) rfl rfl ?_
          refine Wp.incN (x := m) (len := 3) rfl rfl ?_
          refine Wp.n (pc' := 102) 1 rfl ?_
          have hw1 : wv T s (m + 1) = if m ≤ 11 then lN (27 * hsN T s m + c - 96) else -1 := by
            unfold wv
            by_cases q : m ≤ 11
            · rw [if_pos q, if_pos (by omega)]
              show lN (27 * hsN T s m + ((T.2 (s + m)).toNatClampNeg - 96)) = _
              rw [hc, nI_clamp (by omega)]
              exact congrArg lN (by omega)
            · rw [if_neg q, if_neg (by omega)]
          first
            | omega
            | exact m_next_2 kk n (m + 1) (FrN.T (FrN.t FrN.j (FrN.f rfl)) hT) (by omega) rfl (f.t (FrN.t FrN.j (FrN.f rfl))) e8 e9 e10 (by rw [hw1, if_pos (by omega)]; rfl) (by rw [et]; exact tn_go (by omega) hl)
            | exact m_next_2 kk n (m + 1) (FrN.T (FrN.t FrN.j (FrN.t FrN.j (FrN.f rfl))) hT) (by omega) rfl (f.t (FrN.t FrN.j (FrN.t FrN.j (FrN.f rfl)))) e8 e9 e10 (by rw [hw1, if_neg (by omega)]; rfl) (by rw [et]; exact tn_go (by omega) hl)
        · skip
          refine Wp.n (pc' := 166) 2 rfl ?_
          refine Wp.mputJ (len := 3) rfl ?_
          refine Wp.n (pc' := 174) 3 rfl ?_
          refine Wp.top h7 ?_
          refine Wp.n (pc' := 175) 1 rfl ?_
          refine Wp.iaddN (x := s + m) (y := 1) (len := 1) rfl ?_
          refine Wp.mput (len := 3) rfl rfl ?_
          refine Wp.incN (x := m) (len := 3) rfl rfl ?_
          refine Wp.n (pc' := 102) 1 rfl ?_
          have hw1 : wv T s (m + 1) = if m ≤ 11 then lN (27 * hsN T s m + c - 96) else -1 := by
            unfold wv
            by_cases q : m ≤ 11
            · rw [if_pos q, if_pos (by omega)]
              show lN (27 * hsN T s m + ((T.2 (s + m)).toNatClampNeg - 96)) = _
              rw [hc, nI_clamp (by omega)]
              exact congrArg lN (by omega)
            · rw [if_neg q, if_neg (by omega)]
          first
            | omega
            | exact m_next_2 kk n (m + 1) (FrN.T (FrN.t FrN.j (FrN.f rfl)) hT) (by omega) rfl (f.t (FrN.t FrN.j (FrN.f rfl))) e8 e9 e10 (by rw [hw1, if_pos (by omega)]; rfl) (by rw [et]; exact tn_go (by omega) hl)
            | exact m_next_2 kk n (m + 1) (FrN.T (FrN.t FrN.j (FrN.t FrN.j (FrN.f rfl))) hT) (by omega) rfl (f.t (FrN.t FrN.j (FrN.t FrN.j (FrN.f rfl)))) e8 e9 e10 (by rw [hw1, if_neg (by omega)]; rfl) (by rw [et]; exact tn_go (by omega) hl)
/-- digits -/
theorem m_next_3 {s : Nat} (kk : ∀ σ', FrN σ σ' → σ'.1 7 = nI (tn T isDg s) → σ'.1 8 = σ.1 8 → σ'.1 9 = σ.1 9 → σ'.2.1 = σ.2.1 → (∃ r, σ'.1 10 = nI r ∧ VR r (vdN T s (tn T isDg s - s))) → Wp (d + 1) md_163 307 [some (.ref 287), none] [] (mset M σ') Q) : ∀ (n m : Nat) {σ1 : MS}, TM σ1 T → s + m + n = T.1 → σ1.1 7 = nI (s + m) → FrN σ σ1 → σ1.1 8 = σ.1 8 → σ1.1 9 = σ.1 9 → σ1.2.1 = σ.2.1 → (∃ r, σ1.1 10 = nI r ∧ VR r (vdN T s m)) → tn T isDg s = tn T isDg (s + m) → Wp (d + 1) md_163 208 [some (.ref 287), none] [] (mset M σ1) Q
  | 0, m, σ1, hT, hn, h7, f, e8, e9, e11, hv, et => by
    have t20 := hT.2.1
    have e0 : tn T isDg (s + m) = s + m := tn_no (fun q => by omega)
    refine Wp.n (pc' := 213) 3 rfl ?_
    refine Wp.top h7 ?_
    refine Wp.n (pc' := 217) 2 rfl ?_
    refine Wp.ecallV (len := 3) rfl rfl rfl (rfl) rfl (by decide) rfl (m_isByte hT (k := s + m) (by omega) _ _) ?_
    refine Wp.ifb0 (tgt := 307) (len := 3) rfl (fun h220 => ?_) (fun h220 => ?_)
    · skip
      refine kk σ1 f (by rw [et, e0]; exact h7) e8 e9 e11 ?_
      rw [et, e0, show s + m - s = m by omega]
      exact hv
    · exact absurd (iby_dg.mp h220).1 (by omega)
  | n + 1, m, σ1, hT, hn, h7, f, e8, e9, e11, hv, et => by
    have t20 := hT.2.1
    obtain ⟨r, h10, r1, r2⟩ := id hv
    refine Wp.n (pc' := 213) 3 rfl ?_
    refine Wp.top h7 ?_
    refine Wp.n (pc' := 217) 2 rfl ?_
    refine Wp.ecallV (len := 3) rfl rfl rfl (rfl) rfl (by decide) rfl (m_isByte hT (k := s + m) (by omega) _ _) ?_
    refine Wp.ifb0 (tgt := 307) (len := 3) rfl (fun h220 => ?_) (fun h220 => ?_)
    · skip
      refine kk σ1 f (by rw [et, tn_no (fun q => by rw [iby_dg.mpr q] at h220; cases h220)]; exact h7) e8 e9 e11 ?_
      rw [et, tn_no (fun q => by rw [iby_dg.mpr q] at h220; cases h220), show s + m - s = m by omega]
      exact hv
    · skip
      have hl := (iby_dg.mp h220).2
      obtain ⟨c, hc, c1, c2⟩ := dg_of hl
      have hvd : vdN T s (m + 1) = 10 * vdN T s m + (c - 48) := by
        show 10 * vdN T s m + ((T.2 (s + m)).toNatClampNeg - 48) = _
        rw [hc, nI_clamp (by omega)]
      refine Wp.n (pc' := 228) 3 rfl ?_
      refine Wp.top h10 ?_
      refine Wp.n (pc' := 230) 1 rfl ?_
      refine Wp.nc5 (x := r) (y := 100000) (tgt := 238) (len := 3) rfl (by omega) (by omega) (fun h230 => ?_) (fun h230 => ?_)
      · skip
        refine Wp.n (pc' := 244) 3 rfl ?_
        refine Wp.top h10 ?_
        refine Wp.imulN (x := 10) (y := r) (len := 1) rfl ?_
        refine Wp.n (pc' := 253) 4 rfl ?_
        refine Wp.top h7 ?_
        refine Wp.baldN (j := s + m) (len := 1) rfl rfl rfl (by omega) (by decide) ?_
        refine Wp.top ((hT.2.2 (s + m) (by omega)).trans hc) ?_
        refine Wp.iaddN (x := 10 * r) (y := c) (len := 1) rfl ?_
        refine Wp.n (pc' := 257) 1 rfl ?_
        refine Wp.isubN (x := (10 * r) + c) (y := 48) (len := 1) rfl (by omega) ?_
        refine Wp.mput (len := 3) rfl rfl ?_
        refine Wp.n (pc' := 266) 3 rfl ?_
        refine Wp.top h7 ?_
        refine Wp.n (pc' := 267) 1 rfl ?_
        refine Wp.iaddN (x := s + m) (y := 1) (len := 1) rfl ?_
        refine Wp.mput (len := 3) rfl rfl ?_
        refine Wp.n (pc' := 208) 1 rfl ?_
        first
          | exact m_next_3 kk n (m + 1) (FrN.T (FrN.t (FrN.f rfl) (FrN.f rfl)) hT) (by omega) rfl (f.t (FrN.t (FrN.f rfl) (FrN.f rfl))) e8 e9 e11 ⟨1000000, rfl, by decide, Or.inr ⟨by decide, by omega⟩⟩ (by rw [et]; exact tn_go (by omega) hl)
          | exact m_next_3 kk n (m + 1) (FrN.T (FrN.t (FrN.f rfl) (FrN.f rfl)) hT) (by omega) rfl (f.t (FrN.t (FrN.f rfl) (FrN.f rfl))) e8 e9 e11 ⟨10 * r + c - 48, rfl, by omega, by omega⟩ (by rw [et]; exact tn_go (by omega) hl)
      · skip
        refine Wp.n (pc' := 258) 2 rfl ?_
        refine Wp.mput (len := 3) rfl rfl ?_
        refine Wp.n (pc' := 266) 3 rfl ?_
        refine Wp.top h7 ?_
        refine Wp.n (pc' := 267) 1 rfl ?_
        refine Wp.iaddN (x := s + m) (y := 1) (len := 1) rfl ?_
        refine Wp.mput (len := 3) rfl rfl ?_
        refine Wp.n (pc' := 208) 1 rfl ?_
        first
          | exact m_next_3 kk n (m + 1) (FrN.T (FrN.t (FrN.f rfl) (FrN.f rfl)) hT) (by omega) rfl (f.t (FrN.t (FrN.f rfl) (FrN.f rfl))) e8 e9 e11 ⟨1000000, rfl, by decide, Or.inr ⟨by decide, by omega⟩⟩ (by rw [et]; exact tn_go (by omega) hl)
          | exact m_next_3 kk n (m + 1) (FrN.T (FrN.t (FrN.f rfl) (FrN.f rfl)) hT) (by omega) rfl (f.t (FrN.t (FrN.f rfl) (FrN.f rfl))) e8 e9 e11 ⟨10 * r + c - 48, rfl, by omega, by omega⟩ (by rw [et]; exact tn_go (by omega) hl)
theorem m_next (hT : TM σ T) {p : Nat} (hp : p ≤ T.1) (h7 : σ.1 7 = nI p) : Wp (d + 1) md_163 0 [some (.ref 287), none] [] (mset M σ) (fun v M' => v = none ∧ ∃ σ', M' = mset M σ' ∧ FrN σ σ' ∧ LN σ' T (bl T p)) := by
  have t20 := hT.2.1
  refine m_next_1 (T.1 - p) p hT (by omega) h7 (fun σ1 f1 e7 => ?_)
  have hs := tn_le (T := T) (p := isBl) hp
  change p ≤ bl T p ∧ bl T p ≤ T.1 at hs
  have hT1 := f1.T hT
  generalize bl T p = s at e7 hs ⊢
  refine Wp.n (pc' := 48) 3 rfl ?_
  refine Wp.top e7 ?_
  refine Wp.mput (len := 3) rfl rfl ?_
  refine Wp.n (pc' := 53) 2 rfl ?_
  refine Wp.mput (len := 3) rfl rfl ?_
  refine Wp.n (pc' := 58) 2 rfl ?_
  refine Wp.mputJ (len := 3) rfl ?_
  refine Wp.n (pc' := 65) 2 rfl ?_
  refine Wp.top e7 ?_
  refine Wp.n (pc' := 69) 2 rfl ?_
  refine Wp.top hT1.1 ?_
  refine Wp.nc1 (x := s) (y := T.1) (tgt := 80) (len := 3) rfl (by omega) (by omega) (fun h69 => ?_) (fun h69 => ?_)
  · skip
    refine Wp.n (pc' := 85) 3 rfl ?_
    refine Wp.top e7 ?_
    refine Wp.n (pc' := 89) 2 rfl ?_
    refine Wp.ecallV (len := 3) rfl rfl rfl (rfl) rfl (by decide) rfl (m_isByte (FrN.T (FrN.t (FrN.f rfl) (FrN.t (FrN.f rfl) FrN.j)) hT1) (k := s) (by omega) _ _) ?_
    refine Wp.ifb0 (tgt := 188) (len := 3) rfl (fun h92 => ?_) (fun h92 => ?_)
    · have nl : ¬ isLt (T.2 s) = true := fun q => by rw [iby_lt.mpr ⟨by omega, q⟩] at h92; cases h92
      refine Wp.n (pc' := 193) 3 rfl ?_
      refine Wp.top e7 ?_
      refine Wp.n (pc' := 197) 2 rfl ?_
      refine Wp.ecallV (len := 3) rfl rfl rfl (rfl) rfl (by decide) rfl (m_isByte (FrN.T (FrN.t (FrN.f rfl) (FrN.t (FrN.f rfl) FrN.j)) hT1) (k := s) (by omega) _ _) ?_
      refine Wp.ifb0 (tgt := 274) (len := 3) rfl (fun h200 => ?_) (fun h200 => ?_)
      · have ng : ¬ isDg (T.2 s) = true := fun q => by rw [iby_dg.mpr ⟨by omega, q⟩] at h200; cases h200
        refine Wp.n (pc' := 283) 5 rfl ?_
        refine Wp.top e7 ?_
        refine Wp.baldN (j := s) (len := 1) rfl rfl rfl (by omega) (by decide) ?_
        refine Wp.top (hT1.2.2 s (by omega)) ?_
        refine Wp.n (pc' := 286) 1 rfl ?_
        refine Wp.ic1 (tgt := 293) (len := 3) rfl (fun h286 => ?_) (fun h286 => ?_)
        · skip
          refine Wp.n (pc' := 294) 1 rfl ?_
          refine Wp.mput (len := 3) rfl rfl ?_
          refine Wp.n (pc' := 302) 3 rfl ?_
          refine Wp.top e7 ?_
          refine Wp.n (pc' := 303) 1 rfl ?_
          refine Wp.iaddN (x := s) (y := 1) (len := 1) rfl ?_
          refine Wp.mput (len := 3) rfl rfl ?_
          refine Wp.retV (len := 1) rfl rfl ?_
          have f9 : ∀ (τ : MS) (a : Int32) (x : Int64) (y z : Int32), FrN τ (fset (jset (fset (fset τ 9 a) 10 y) x) 8 z) := fun τ a x y z => FrN.t (FrN.f rfl) (FrN.t (FrN.f rfl) (FrN.t FrN.j (FrN.f rfl)))
          first
            | (have t1 : tk T s = 0 := tk_0.mpr (by omega)
               have t2 : en T s = s := if_pos (by omega)
               exact ⟨rfl, _, rfl, f1.t (f9 _ _ _ _ _), by rw [t2]; exact e7, by rw [t1]; rfl, rfl, ⟨0, rfl, by decide, Or.inl (by unfold vl; rw [t1]; rfl)⟩, by unfold wl; rw [t1]; rfl, hs.2⟩)
            | (have t1 : tk T s = 3 := by unfold tk; rw [if_neg (by omega), if_neg nl, if_neg ng, if_pos h286]
               have t2 : en T s = s + 1 := by unfold en; rw [if_neg (by omega), if_neg nl, if_neg ng]
               exact ⟨rfl, _, rfl, f1.t ((f9 _ _ _ _ _).t (FrN.f rfl)), by rw [t2]; rfl, by rw [t1]; rfl, rfl, ⟨0, rfl, by decide, Or.inl (by unfold vl; rw [t1]; rfl)⟩, by unfold wl; rw [t1]; rfl, hs.2⟩)
            | (have t1 : tk T s = 4 := by unfold tk; rw [if_neg (by omega), if_neg nl, if_neg ng, if_neg h286]
               have t2 : en T s = s + 1 := by unfold en; rw [if_neg (by omega), if_neg nl, if_neg ng]
               exact ⟨rfl, _, rfl, f1.t ((f9 _ _ _ _ _).t (FrN.f rfl)), by rw [t2]; rfl, by rw [t1]; rfl, rfl, ⟨0, rfl, by decide, Or.inl (by unfold vl; rw [t1]; rfl)⟩, by unfold wl; rw [t1]; rfl, hs.2⟩)
        · skip
          refine Wp.n (pc' := 294) 2 rfl ?_
          refine Wp.mput (len := 3) rfl rfl ?_
          refine Wp.n (pc' := 302) 3 rfl ?_
          refine Wp.top e7 ?_
          refine Wp.n (pc' := 303) 1 rfl ?_
          refine Wp.iaddN (x := s) (y := 1) (len := 1) rfl ?_
          refine Wp.mput (len := 3) rfl rfl ?_
          refine Wp.retV (len := 1) rfl rfl ?_
          have f9 : ∀ (τ : MS) (a : Int32) (x : Int64) (y z : Int32), FrN τ (fset (jset (fset (fset τ 9 a) 10 y) x) 8 z) := fun τ a x y z => FrN.t (FrN.f rfl) (FrN.t (FrN.f rfl) (FrN.t FrN.j (FrN.f rfl)))
          first
            | (have t1 : tk T s = 0 := tk_0.mpr (by omega)
               have t2 : en T s = s := if_pos (by omega)
               exact ⟨rfl, _, rfl, f1.t (f9 _ _ _ _ _), by rw [t2]; exact e7, by rw [t1]; rfl, rfl, ⟨0, rfl, by decide, Or.inl (by unfold vl; rw [t1]; rfl)⟩, by unfold wl; rw [t1]; rfl, hs.2⟩)
            | (have t1 : tk T s = 3 := by unfold tk; rw [if_neg (by omega), if_neg nl, if_neg ng, if_pos h286]
               have t2 : en T s = s + 1 := by unfold en; rw [if_neg (by omega), if_neg nl, if_neg ng]
               exact ⟨rfl, _, rfl, f1.t ((f9 _ _ _ _ _).t (FrN.f rfl)), by rw [t2]; rfl, by rw [t1]; rfl, rfl, ⟨0, rfl, by decide, Or.inl (by unfold vl; rw [t1]; rfl)⟩, by unfold wl; rw [t1]; rfl, hs.2⟩)
            | (have t1 : tk T s = 4 := by unfold tk; rw [if_neg (by omega), if_neg nl, if_neg ng, if_neg h286]
               have t2 : en T s = s + 1 := by unfold en; rw [if_neg (by omega), if_neg nl, if_neg ng]
               exact ⟨rfl, _, rfl, f1.t ((f9 _ _ _ _ _).t (FrN.f rfl)), by rw [t2]; rfl, by rw [t1]; rfl, rfl, ⟨0, rfl, by decide, Or.inl (by unfold vl; rw [t1]; rfl)⟩, by unfold wl; rw [t1]; rfl, hs.2⟩)
      · have hg := (iby_dg.mp h200).2
        refine Wp.n (pc' := 205) 2 rfl ?_
        refine Wp.mput (len := 3) rfl rfl ?_
        have t1 : tk T s = 2 := by unfold tk; rw [if_neg (by omega), if_neg nl, if_pos hg]
        have t2 : en T s = tn T isDg s := by unfold en; rw [if_neg (by omega), if_neg nl, if_pos hg]
        refine m_next_3 (s := s) (fun σ' f g7 g8 g9 gw g10 => ?_) (T.1 - s) 0 (FrN.T (FrN.t (FrN.f rfl) (FrN.t (FrN.f rfl) (FrN.t FrN.j (FrN.f rfl)))) hT1) (by omega) e7 FrN.r rfl rfl rfl ⟨0, rfl, by decide, Or.inl rfl⟩ rfl
        refine Wp.retV (len := 1) rfl rfl ?_
        refine ⟨rfl, σ', rfl, (f1.t (FrN.t (FrN.f rfl) (FrN.t (FrN.f rfl) (FrN.t FrN.j (FrN.f rfl))))).t f, ?_, ?_, ?_, ?_, ?_, hs.2⟩
        · rw [t2]; exact g7
        · rw [t1]; exact g8
        · exact g9
        · unfold vl; rw [t1, if_pos rfl, t2]; exact g10
        · unfold wl; rw [t1]; exact gw
    · have hl := (iby_lt.mp h92).2
      refine Wp.n (pc' := 97) 2 rfl ?_
      refine Wp.mput (len := 3) rfl rfl ?_
      refine Wp.n (pc' := 102) 2 rfl ?_
      have t1 : tk T s = 1 := by unfold tk; rw [if_neg (by omega), if_pos hl]
      have t2 : en T s = tn T isLt s := by unfold en; rw [if_neg (by omega), if_pos hl]
      refine m_next_2 (s := s) (fun σ' n' f g7 g8 g9 g10 gw => ?_) (T.1 - s) 0 (FrN.T (FrN.t (FrN.f rfl) (FrN.t (FrN.f rfl) (FrN.t FrN.j (FrN.f rfl)))) hT1) (by omega) e7 FrN.r rfl rfl rfl rfl rfl
      refine Wp.retV (len := 1) rfl rfl ?_
      refine ⟨rfl, σ', rfl, (f1.t (FrN.t (FrN.f rfl) (FrN.t (FrN.f rfl) (FrN.t FrN.j (FrN.f rfl))))).t f, ?_, ?_, ?_, ⟨0, g10, by decide, Or.inl ?_⟩, ?_, hs.2⟩
      · rw [t2]; exact g7
      · rw [t1]; exact g8
      · exact g9
      · unfold vl; rw [t1]; rfl
      · unfold wl; rw [t1, if_pos rfl, t2]; exact gw
  · skip
    refine Wp.n (pc' := 74) 2 rfl ?_
    refine Wp.mput (len := 3) rfl rfl ?_
    refine Wp.n (pc' := 307) 1 rfl ?_
    refine Wp.retV (len := 1) rfl rfl ?_
    have f9 : ∀ (τ : MS) (a : Int32) (x : Int64) (y z : Int32), FrN τ (fset (jset (fset (fset τ 9 a) 10 y) x) 8 z) := fun τ a x y z => FrN.t (FrN.f rfl) (FrN.t (FrN.f rfl) (FrN.t FrN.j (FrN.f rfl)))
    first
      | (have t1 : tk T s = 0 := tk_0.mpr (by omega)
         have t2 : en T s = s := if_pos (by omega)
         exact ⟨rfl, _, rfl, f1.t (f9 _ _ _ _ _), by rw [t2]; exact e7, by rw [t1]; rfl, rfl, ⟨0, rfl, by decide, Or.inl (by unfold vl; rw [t1]; rfl)⟩, by unfold wl; rw [t1]; rfl, hs.2⟩)
      | (have t1 : tk T s = 3 := by unfold tk; rw [if_neg (by omega), if_neg nl, if_neg ng, if_pos h286]
         have t2 : en T s = s + 1 := by unfold en; rw [if_neg (by omega), if_neg nl, if_neg ng]
         exact ⟨rfl, _, rfl, f1.t ((f9 _ _ _ _ _).t (FrN.f rfl)), by rw [t2]; rfl, by rw [t1]; rfl, rfl, ⟨0, rfl, by decide, Or.inl (by unfold vl; rw [t1]; rfl)⟩, by unfold wl; rw [t1]; rfl, hs.2⟩)
      | (have t1 : tk T s = 4 := by unfold tk; rw [if_neg (by omega), if_neg nl, if_neg ng, if_neg h286]
         have t2 : en T s = s + 1 := by unfold en; rw [if_neg (by omega), if_neg nl, if_neg ng]
         exact ⟨rfl, _, rfl, f1.t ((f9 _ _ _ _ _).t (FrN.f rfl)), by rw [t2]; rfl, by rw [t1]; rfl, rfl, ⟨0, rfl, by decide, Or.inl (by unfold vl; rw [t1]; rfl)⟩, by unfold wl; rw [t1]; rfl, hs.2⟩)
end NEXT
end
section
/-! READING, the reference: words, numbers, faults. -/
abbrev St : Type := (Nat × Nat) ⊕ Nat
def gd : St → Bool
  | .inl _ => false
  | .inr _ => true
def adS (T : TP) : St → St
  | .inl x => .inl x
  | .inr s => .inr (nx T s)
def isS (T : TP) (h : Nat) : St → Bool
  | .inl _ => false
  | .inr s => isW T s h
def flS (k : Nat) : St → St
  | .inl x => .inl x
  | .inr s => .inl (k, s)
def wdS (T : TP) (h : Nat) : St → St
  | .inl x => .inl x
  | .inr s => if isW T s h = true then .inr (nx T s) else .inl (1, s)
def nmS (T : TP) (lo hi : Nat) : St → St
  | .inl x => .inl x
  | .inr s => if tk T s = 2 then (if lo ≤ vl T s ∧ vl T s ≤ hi then .inr (nx T s) else .inl (2, s)) else .inl (1, s)
def nmV (T : TP) : St → Nat
  | .inl _ => 0
  | .inr s => vl T s
def otS (T : TP) (P : Nat) (ok : Nat → Bool) : St → St
  | .inl x => .inl x
  | .inr s => if tk T s = 2 then (if vl T s < P ∧ ok (vl T s) = true then .inr (nx T s) else .inl (2, s)) else .inl (1, s)
theorem rn_all {p : Nat → Bool} : ∀ (m i q : Nat), i ≤ q → q < rn p m i → p q = true
  | 0, i, q, h1, h2 => by have : q < i := h2; omega
  | m + 1, i, q, h1, h2 => by
    unfold rn at h2
    by_cases c : p i = true
    · rw [if_pos c] at h2
      by_cases e : q = i
      · rw [e]; exact c
      · exact rn_all m (i + 1) q (by omega) h2
    · rw [if_neg c] at h2
      omega
theorem tn_all {T : TP} {p : Int32 → Bool} {s q : Nat} (h1 : s ≤ q) (h2 : q < tn T p s) : p (T.2 q) = true := rn_all (p := fun i => p (T.2 i)) _ _ _ h1 h2
theorem hsN_lt {T : TP} {s : Nat} : ∀ m, (∀ q, s ≤ q → q < s + m → isLt (T.2 q) = true) → hsN T s m < 27 ^ m
  | 0, _ => by show 0 < 1; decide
  | m + 1, h => by
    have h1 := hsN_lt m (fun q a b => h q a (by omega))
    obtain ⟨c, hc, c1, c2⟩ := lt_of (h (s + m) (by omega) (by omega))
    show 27 * hsN T s m + ((T.2 (s + m)).toNatClampNeg - 96) < 27 ^ (m + 1)
    rw [hc, nI_clamp (by omega), Nat.pow_succ]
    omega
theorem tk_le {T : TP} {s : Nat} : tk T s ≤ 4 := by
  unfold tk
  split
  · omega
  · split
    · omega
    · split
      · omega
      · split <;> omega
theorem tk_1 {T : TP} {s : Nat} (h : tk T s = 1) : en T s = tn T isLt s ∧ s < T.1 := by
  unfold tk at h
  by_cases c : T.1 ≤ s
  · rw [if_pos c] at h; cases h
  · rw [if_neg c] at h
    by_cases c2 : isLt (T.2 s) = true
    · unfold en
      rw [if_neg c, if_pos c2]
      exact ⟨rfl, by omega⟩
    · rw [if_neg c2] at h
      split at h
      · cases h
      · split at h <;> cases h
theorem wl_is {T : TP} {s h : Nat} (h1 : tk T s = 1) (hh : h < 2 ^ 62) : wl T s = lN h ↔ en T s - s ≤ 12 ∧ hsN T s (en T s - s) = h := by
  have e := (tk_1 h1).1
  have le := en_le (Nat.le_of_lt (tk_1 h1).2)
  unfold wl
  rw [if_pos h1]
  unfold wv
  have hb := hsN_lt (T := T) (s := s) (en T s - s) (fun q a b => tn_all a (by rw [← e]; omega))
  by_cases c : en T s - s ≤ 12
  · rw [if_pos c]
    have h2 : 27 ^ (en T s - s) ≤ 27 ^ 12 := Nat.pow_le_pow_right (by decide) c
    rw [l_inj (by omega) (by omega)]
    exact ⟨fun q => ⟨c, q⟩, fun q => q.2⟩
  · rw [if_neg c]
    constructor
    · intro q
      have e1 := congrArg Int64.toInt q
      rw [l_toInt (by omega)] at e1
      have e2 : (-1 : Int64).toInt = -1 := rfl
      omega
    · intro q
      exact absurd q.1 c
/-- the reading's fields may differ -/
def FrB (σ σ' : MS) : Prop := (∀ j, List.elem j [7, 8, 9, 10, 12, 13] = false → σ'.1 j = σ.1 j) ∧ σ'.2.2 = σ.2.2
theorem FrB.r {σ : MS} : FrB σ σ := ⟨fun _ _ => rfl, rfl⟩
theorem FrB.t {σ σ' σ'' : MS} (h : FrB σ σ') (h' : FrB σ' σ'') : FrB σ σ'' := ⟨fun j hj => (h'.1 j hj).trans (h.1 j hj), h'.2.trans h.2⟩
theorem FrB.f {σ : MS} {j : Nat} {x : Int32} (hj : List.elem j [7, 8, 9, 10, 12, 13] = true) : FrB σ (fset σ j x) := ⟨fun i hi => pk_un (fun e => by rw [e, hj] at hi; cases hi), rfl⟩
theorem FrN.b {σ σ' : MS} (h : FrN σ σ') : FrB σ σ' := ⟨fun j hj => h.1 j (elem_sub (F' := [7, 8, 9, 10, 12, 13]) rfl hj), h.2⟩
theorem FrB.T {σ σ' : MS} {T : TP} (h : FrB σ σ') (hT : TM σ T) : TM σ' T := ⟨(h.1 6 rfl).trans hT.1, hT.2.1, fun i hi => by rw [h.2]; exact hT.2.2 i hi⟩
def LM (σ : MS) (T : TP) : St → Prop
  | .inl x => σ.1 12 = nI x.1 ∧ 1 ≤ x.1 ∧ x.1 ≤ 3 ∧ σ.1 13 = nI x.2 ∧ x.2 ≤ 2000
  | .inr s => σ.1 12 = nI 0 ∧ LN σ T s
/-- read on -/
def RdB (M : AM) (σ : MS) (T : TP) (st : St) : AM → Prop := fun M' => ∃ σ', M' = mset M σ' ∧ FrB σ σ' ∧ LM σ' T st
section RD
variable {d : Nat} {M : AM} {σ σ' : MS} {T : TP} {st : St} {Q : Option Value → AM → Prop}
theorem LN_n (hT : TM σ T) {s : Nat} (h12 : σ.1 12 = nI 0) (hL : LN σ T s) : Wp (d + 1) md_163 0 [some (.ref 287), none] [] (mset M σ) (fun v M' => v = none ∧ RdB M σ T (.inr (nx T s)) M') := by
  refine Wp.mono (m_next hT (en_le hL.2.2.2.2.2).2 hL.1) ?_
  rintro v M' ⟨rfl, τ, rfl, f, h⟩
  exact ⟨rfl, τ, rfl, f.b, (f.1 12 rfl).trans h12, h⟩
theorem m_isGood (hL : LM σ T st) : Ev d md_165 0 [some (.ref 287)] [] (mset M σ) (some (.int (bI (gd st))), mset M σ) := by
  refine Wp.toEv ?_
  rcases st with x | s
  · have x3 := hL.2.2.1
    have x1 := hL.2.1
    refine Wp.n (pc' := 4) 2 rfl ?_
    refine Wp.top hL.1 ?_
    refine Wp.nz1 (x := x.1) (tgt := 11) (len := 3) rfl (by omega) (fun h4 => ?_) (fun h4 => ?_)
    · skip
      refine Wp.n (pc' := 12) 1 rfl ?_
      refine Wp.retZ (len := 1) (c := false) rfl rfl rfl ?_
      exact ⟨rfl, rfl⟩
    · omega
  · skip
    refine Wp.n (pc' := 4) 2 rfl ?_
    refine Wp.top hL.1 ?_
    refine Wp.nz1 (x := 0) (tgt := 11) (len := 3) rfl (by omega) (fun h4 => ?_) (fun h4 => ?_)
    · omega
    · skip
      refine Wp.n (pc' := 12) 2 rfl ?_
      refine Wp.retZ (len := 1) (c := true) rfl rfl rfl ?_
      exact ⟨rfl, rfl⟩
theorem m_fails (hT : TM σ T) (hL : LM σ T st) {k : Nat} (hk : 1 ≤ k ∧ k ≤ 3) : Wp d md_170 0 [some (.ref 287), some (.int (nI k))] [] (mset M σ) (fun v M' => v = none ∧ RdB M σ T (flS k st) M') := by
  have t20 := hT.2.1
  rcases st with x | s
  · have x3 := hL.2.2.1
    have x1 := hL.2.1
    refine Wp.n (pc' := 4) 2 rfl ?_
    refine Wp.top hL.1 ?_
    refine Wp.nz0 (x := x.1) (tgt := 8) (len := 3) rfl (by omega) (fun h4 => ?_) (fun h4 => ?_)
    · omega
    · skip
      refine Wp.retV (len := 1) rfl rfl ?_
      exact ⟨rfl, σ, rfl, FrB.r, hL⟩
  · obtain ⟨h12, hN⟩ := hL
    have sl := hN.2.2.2.2.2
    refine Wp.n (pc' := 4) 2 rfl ?_
    refine Wp.top h12 ?_
    refine Wp.nz0 (x := 0) (tgt := 8) (len := 3) rfl (by omega) (fun h4 => ?_) (fun h4 => ?_)
    · skip
      refine Wp.n (pc' := 10) 2 rfl ?_
      refine Wp.mput (len := 3) rfl rfl ?_
      refine Wp.n (pc' := 18) 3 rfl ?_
      refine Wp.top hN.2.2.1 ?_
      refine Wp.mput (len := 3) rfl rfl ?_
      refine Wp.retV (len := 1) rfl rfl ?_
      exact ⟨rfl, _, rfl, (FrB.f rfl).t (FrB.f rfl), rfl, hk.1, hk.2, rfl, by show s ≤ 2000; omega⟩
    · omega
theorem m_is (hL : LM σ T st) {h : Nat} (hh : h < 2 ^ 62) : Ev d md_169 0 [some (.ref 287), some (.long (lN h)), none] [] (mset M σ) (some (.int (bI (isS T h st))), mset M σ) := by
  refine Wp.toEv ?_
  rcases st with x | s
  · have x3 := hL.2.2.1
    have x1 := hL.2.1
    refine Wp.n (pc' := 4) 2 rfl ?_
    refine Wp.top hL.1 ?_
    refine Wp.nz1 (x := x.1) (tgt := 28) (len := 3) rfl (by omega) (fun h4 => ?_) (fun h4 => ?_)
    · skip
      refine Wp.n (pc' := 29) 1 rfl ?_
      refine Wp.retZ (len := 1) (c := false) rfl rfl rfl ?_
      exact ⟨rfl, rfl⟩
    · omega
  · obtain ⟨h12, hN⟩ := hL
    have t4 := tk_le (T := T) (s := s)
    refine Wp.n (pc' := 4) 2 rfl ?_
    refine Wp.top h12 ?_
    refine Wp.nz1 (x := 0) (tgt := 28) (len := 3) rfl (by omega) (fun h4 => ?_) (fun h4 => ?_)
    · omega
    · skip
      refine Wp.n (pc' := 11) 2 rfl ?_
      refine Wp.top hN.2.1 ?_
      refine Wp.n (pc' := 12) 1 rfl ?_
      refine Wp.nc1 (x := tk T s) (y := 1) (tgt := 28) (len := 3) rfl (by omega) (by omega) (fun h12 => ?_) (fun h12 => ?_)
      · skip
        refine Wp.n (pc' := 29) 1 rfl ?_
        refine Wp.retZ (len := 1) (c := false) rfl rfl rfl ?_
        first
          | exact ⟨by rw [show isS T h (.inr s) = true from decide_eq_true ⟨h12_, (wl_is h12_ hh).mp ((cmp_eq _ _).mp h21)⟩], rfl⟩
          | exact ⟨by rw [show isS T h (.inr s) = false from decide_eq_false (fun q => h21 ((cmp_eq _ _).mpr ((wl_is q.1 hh).mpr q.2)))], rfl⟩
          | exact ⟨by rw [show isS T h (.inr s) = false from decide_eq_false (fun q => absurd q.1 (by omega))], rfl⟩
      · have h12_ : tk T s = 1 := by omega
        refine Wp.n (pc' := 19) 2 rfl ?_
        refine Wp.topL hN.2.2.2.2.1 ?_
        refine Wp.n (pc' := 21) 2 rfl ?_
        refine Wp.if1 (tgt := 28) (len := 3) rfl (fun h21 => ?_) (fun h21 => ?_)
        · skip
          refine Wp.n (pc' := 29) 1 rfl ?_
          refine Wp.retZ (len := 1) (c := false) rfl rfl rfl ?_
          first
            | exact ⟨by rw [show isS T h (.inr s) = true from decide_eq_true ⟨h12_, (wl_is h12_ hh).mp ((cmp_eq _ _).mp h21)⟩], rfl⟩
            | exact ⟨by rw [show isS T h (.inr s) = false from decide_eq_false (fun q => h21 ((cmp_eq _ _).mpr ((wl_is q.1 hh).mpr q.2)))], rfl⟩
            | exact ⟨by rw [show isS T h (.inr s) = false from decide_eq_false (fun q => absurd q.1 (by omega))], rfl⟩
        · skip
          refine Wp.n (pc' := 29) 2 rfl ?_
          refine Wp.retZ (len := 1) (c := true) rfl rfl rfl ?_
          first
            | exact ⟨by rw [show isS T h (.inr s) = true from decide_eq_true ⟨h12_, (wl_is h12_ hh).mp ((cmp_eq _ _).mp h21)⟩], rfl⟩
            | exact ⟨by rw [show isS T h (.inr s) = false from decide_eq_false (fun q => h21 ((cmp_eq _ _).mpr ((wl_is q.1 hh).mpr q.2)))], rfl⟩
            | exact ⟨by rw [show isS T h (.inr s) = false from decide_eq_false (fun q => absurd q.1 (by omega))], rfl⟩
theorem m_takes (hT : TM σ T) (hL : LM σ T st) {h : Nat} (hh : h < 2 ^ 62) : Wp (d + 2) md_168 0 [some (.ref 287), some (.long (lN h)), none] [] (mset M σ) (fun v M' => v = some (.int (bI (isS T h st))) ∧ RdB M σ T (if isS T h st = true then adS T st else st) M') := by
  refine Wp.n (pc' := 2) 2 rfl ?_
  refine Wp.ecallV (len := 3) rfl rfl rfl (rfl) rfl (by decide) rfl (m_is hL hh) ?_
  refine Wp.ifb1 (tgt := 10) (len := 3) rfl (fun h5 => ?_) (fun h5 => ?_)
  · skip
    rcases st with x | s
    · cases h5
    obtain ⟨h12, hN⟩ := hL
    refine Wp.n (pc' := 11) 1 rfl ?_
    refine Wp.callV (len := 3) rfl rfl rfl (rfl) rfl (by decide) rfl (LN_n hT h12 hN) ?_
    rintro _ _ ⟨rfl, τ, rfl, f, hτ⟩
    refine Wp.n (pc' := 15) 1 rfl ?_
    refine Wp.retZ (len := 1) (c := true) rfl rfl rfl ?_
    first
      | exact ⟨by rw [h5], τ, rfl, f, by rw [if_pos h5]; exact hτ⟩
      | exact ⟨by rw [h5], σ, rfl, FrB.r, by rw [if_neg (by rw [h5]; decide)]; exact hL⟩
  · skip
    refine Wp.n (pc' := 9) 1 rfl ?_
    refine Wp.retZ (len := 1) (c := false) rfl rfl rfl ?_
    first
      | exact ⟨by rw [h5], τ, rfl, f, by rw [if_pos h5]; exact hτ⟩
      | exact ⟨by rw [h5], σ, rfl, FrB.r, by rw [if_neg (by rw [h5]; decide)]; exact hL⟩
theorem m_asks (hT : TM σ T) (hL : LM σ T st) {h : Nat} (hh : h < 2 ^ 62) : Wp (d + 3) md_167 0 [some (.ref 287), some (.long (lN h)), none] [] (mset M σ) (fun v M' => v = none ∧ RdB M σ T (wdS T h st) M') := by
  refine Wp.n (pc' := 2) 2 rfl ?_
  refine Wp.callV (len := 3) rfl rfl rfl (rfl) rfl (by decide) rfl (m_takes hT hL hh) ?_
  rintro _ _ ⟨rfl, τ, rfl, f, hτ⟩
  refine Wp.ifb1 (tgt := 13) (len := 3) rfl (fun h5 => ?_) (fun h5 => ?_)
  · rw [if_pos h5] at hτ
    have e : adS T st = wdS T h st := by
      rcases st with x | s
      · rfl
      · exact (if_pos h5).symm
    rw [e] at hτ
    refine Wp.retV (len := 1) rfl rfl ?_
    first
      | exact ⟨rfl, τ2, rfl, f.t f2, e ▸ hτ2⟩
      | exact ⟨rfl, τ, rfl, f, hτ⟩
  · rw [if_neg (by rw [h5]; decide)] at hτ
    have e : flS 1 st = wdS T h st := by
      rcases st with x | s
      · rfl
      · exact (if_neg (fun q : isW T s h = true => by rw [show isW T s h = false from h5] at q; cases q)).symm
    refine Wp.n (pc' := 10) 2 rfl ?_
    refine Wp.callV (len := 3) rfl rfl rfl (rfl) rfl (by decide) rfl (m_fails (f.T hT) hτ (k := 1) (by decide)) ?_
    rintro _ _ ⟨rfl, τ2, rfl, f2, hτ2⟩
    refine Wp.retV (len := 1) rfl rfl ?_
    first
      | exact ⟨rfl, τ2, rfl, f.t f2, e ▸ hτ2⟩
      | exact ⟨rfl, τ, rfl, f, hτ⟩
theorem m_number (hT : TM σ T) (hL : LM σ T st) {l32 h32 : Int32} {lo hi : Nat} (hg : gd st = true → l32 = nI lo ∧ h32 = nI hi ∧ hi ≤ 1000 ∧ lo ≤ 1000) : Wp (d + 2) md_172 0 [some (.ref 287), some (.int l32), some (.int h32), none] [] (mset M σ) (fun v M' => ∃ x, v = some (.int x) ∧ (gd (nmS T lo hi st) = true → x = nI (nmV T st)) ∧ RdB M σ T (nmS T lo hi st) M') := by
  rcases st with x | s
  · have x3 := hL.2.2.1
    have x1 := hL.2.1
    refine Wp.n (pc' := 4) 2 rfl ?_
    refine Wp.top hL.1 ?_
    refine Wp.nz0 (x := x.1) (tgt := 9) (len := 3) rfl (by omega) (fun h4 => ?_) (fun h4 => ?_)
    · omega
    · skip
      refine Wp.n (pc' := 8) 1 rfl ?_
      refine Wp.retI (len := 1) rfl rfl ?_
      exact ⟨_, rfl, fun q => (by cases q), σ, rfl, FrB.r, hL⟩
  · obtain ⟨rfl, rfl, hi1, lo1⟩ := hg rfl
    obtain ⟨h12, hN⟩ := id hL
    obtain ⟨r, h10, r1, r2⟩ := hN.2.2.2.1
    have t4 := tk_le (T := T) (s := s)
    refine Wp.n (pc' := 4) 2 rfl ?_
    refine Wp.top h12 ?_
    refine Wp.nz0 (x := 0) (tgt := 9) (len := 3) rfl (by omega) (fun h4 => ?_) (fun h4 => ?_)
    · skip
      refine Wp.n (pc' := 13) 2 rfl ?_
      refine Wp.top hN.2.1 ?_
      refine Wp.n (pc' := 14) 1 rfl ?_
      refine Wp.nc0 (x := tk T s) (y := 2) (tgt := 24) (len := 3) rfl (by omega) (by omega) (fun h14 => ?_) (fun h14 => ?_)
      · skip
        refine Wp.n (pc' := 28) 2 rfl ?_
        refine Wp.top h10 ?_
        refine Wp.i2lM (x := r) (len := 1) rfl (by omega) ?_
        refine Wp.n (pc' := 30) 1 rfl ?_
        refine Wp.i2lM (x := lo) (len := 1) rfl (by omega) ?_
        refine Wp.n (pc' := 32) 1 rfl ?_
        refine Wp.i2lM (x := hi) (len := 1) rfl (by omega) ?_
        refine Wp.ecallS (len := 3) rfl rfl rfl rfl (m_in _ _ _) ?_
        refine Wp.ifb1 (tgt := 46) (len := 3) rfl (fun h36 => ?_) (fun h36 => ?_)
        · have q := of_decide_eq_true h36
          rw [l_toInt (by omega), l_toInt (by omega), l_toInt (by omega)] at q
          have e : nmS T lo hi (.inr s) = .inr (nx T s) := (if_pos (by omega)).trans (if_pos (by omega))
          have ev : r = vl T s := by omega
          refine Wp.n (pc' := 50) 2 rfl ?_
          refine Wp.top h10 ?_
          refine Wp.n (pc' := 52) 2 rfl ?_
          refine Wp.callV (len := 3) rfl rfl rfl (rfl) rfl (by decide) rfl (LN_n hT h12 hN) ?_
          rintro _ _ ⟨rfl, τ, rfl, f, hτ⟩
          refine Wp.n (pc' := 56) 1 rfl ?_
          refine Wp.retI (len := 1) rfl rfl ?_
          rw [e]
          first
            | exact ⟨_, rfl, fun _ => congrArg nI ev, τ, rfl, f, hτ⟩
            | exact ⟨_, rfl, fun q => (by cases q), τ, rfl, f, hτ⟩
        · have q := of_decide_eq_false h36
          rw [l_toInt (by omega), l_toInt (by omega), l_toInt (by omega)] at q
          have e : nmS T lo hi (.inr s) = .inl (2, s) := (if_pos (by omega)).trans (if_neg (by omega))
          refine Wp.n (pc' := 41) 2 rfl ?_
          refine Wp.callV (len := 3) rfl rfl rfl (rfl) rfl (by decide) rfl (m_fails hT hL (k := 2) (by decide)) ?_
          rintro _ _ ⟨rfl, τ, rfl, f, hτ⟩
          refine Wp.n (pc' := 45) 1 rfl ?_
          refine Wp.retI (len := 1) rfl rfl ?_
          rw [e]
          first
            | exact ⟨_, rfl, fun _ => congrArg nI ev, τ, rfl, f, hτ⟩
            | exact ⟨_, rfl, fun q => (by cases q), τ, rfl, f, hτ⟩
      · have e : nmS T lo hi (.inr s) = .inl (1, s) := if_neg (by omega)
        refine Wp.n (pc' := 19) 2 rfl ?_
        refine Wp.callV (len := 3) rfl rfl rfl (rfl) rfl (by decide) rfl (m_fails hT hL (k := 1) (by decide)) ?_
        rintro _ _ ⟨rfl, τ, rfl, f, hτ⟩
        refine Wp.n (pc' := 23) 1 rfl ?_
        refine Wp.retI (len := 1) rfl rfl ?_
        rw [e]
        first
          | exact ⟨_, rfl, fun _ => congrArg nI ev, τ, rfl, f, hτ⟩
          | exact ⟨_, rfl, fun q => (by cases q), τ, rfl, f, hτ⟩
    · omega
theorem m_numberW (hT : TM σ T) (hL : LM σ T st) {h : Nat} (hh : h < 2 ^ 62) {l32 h32 : Int32} {lo hi : Nat} (hg : gd (wdS T h st) = true → l32 = nI lo ∧ h32 = nI hi ∧ hi ≤ 1000 ∧ lo ≤ 1000) : Wp (d + 4) md_171 0 [some (.ref 287), some (.long (lN h)), none, some (.int l32), some (.int h32)] [] (mset M σ) (fun v M' => ∃ x, v = some (.int x) ∧ (gd (nmS T lo hi (wdS T h st)) = true → x = nI (nmV T (wdS T h st))) ∧ RdB M σ T (nmS T lo hi (wdS T h st)) M') := by
  refine Wp.n (pc' := 2) 2 rfl ?_
  refine Wp.callV (len := 3) rfl rfl rfl (rfl) rfl (by decide) rfl (m_asks hT hL hh) ?_
  rintro _ _ ⟨rfl, τ, rfl, f, hτ⟩
  refine Wp.n (pc' := 9) 3 rfl ?_
  refine Wp.callV (len := 3) rfl rfl rfl (rfl) rfl (by decide) rfl (m_number (f.T hT) hτ hg) ?_
  rintro _ _ ⟨x, rfl, hx, τ2, rfl, f2, hτ2⟩
  refine Wp.retI (len := 1) rfl rfl ?_
  exact ⟨_, rfl, hx, τ2, rfl, f.t f2, hτ2⟩
theorem m_hasRead {k : Nat} (hk : k < 5) : Ev d md_174 0 [some (.ref 287), some (.int (nI k))] [] (mset M σ) (some (.int (σ.2.2.1 6 (20 + k))), mset M σ) := by
  refine Wp.toEv ?_
  refine Wp.n (pc' := 7) 4 rfl ?_
  refine Wp.iaddN (x := 20) (y := k) (len := 1) rfl ?_
  refine Wp.mialdN (j := 20 + k) (len := 1) rfl rfl rfl (by omega) ?_
  refine Wp.retI (len := 1) rfl rfl ?_
  exact ⟨rfl, rfl⟩
theorem m_other_b (hT : TM σ T) {z : Nat × Nat} (hL : LM σ T (.inl z)) {w : Value} (kk : ∀ x τ, FrB σ τ → LM τ T (.inl z) → Q (some (.int x)) (mset M τ)) : Wp (d + 3) md_178 36 [some (.ref 287), some w] [] (mset M σ) Q := by
  refine Wp.n (pc' := 40) 4 rfl ?_
  refine Wp.ecallV (len := 3) rfl rfl rfl (rfl) rfl (by decide) rfl (m_hasRead (k := 0) (by decide)) ?_
  refine Wp.n (pc' := 45) 2 rfl ?_
  refine Wp.callV (len := 3) rfl rfl rfl (rfl) rfl (by decide) rfl (m_number (lo := 0) (hi := 0) hT hL (fun q => by cases q)) ?_
  rintro _ _ ⟨y, rfl, hx, τ2, rfl, f2, hτ2⟩
  refine Wp.retI (len := 1) rfl rfl ?_
  exact kk _ τ2 f2 hτ2
theorem m_other_g (hT : TM σ T) {s P : Nat} (hL : LM σ T (.inr s)) (h20 : σ.2.2.1 6 20 = nI P) (P1 : 1 ≤ P) (P7 : P ≤ 7) {w : Value} (kk : ∀ x τ, FrB σ τ → (gd (nmS T 0 (P - 1) (.inr s)) = true → x = nI (vl T s)) → LM τ T (nmS T 0 (P - 1) (.inr s)) → Q (some (.int x)) (mset M τ)) : Wp (d + 3) md_178 36 [some (.ref 287), some w] [] (mset M σ) Q := by
  refine Wp.n (pc' := 40) 4 rfl ?_
  refine Wp.ecallV (len := 3) rfl rfl rfl (rfl) rfl (by decide) rfl (m_hasRead (k := 0) (by decide)) ?_
  refine Wp.top h20 ?_
  refine Wp.n (pc' := 44) 1 rfl ?_
  refine Wp.isubN (x := P) (y := 1) (len := 1) rfl (by omega) ?_
  refine Wp.callV (len := 3) rfl rfl rfl (rfl) rfl (by decide) rfl (m_number (lo := 0) (hi := P - 1) hT hL (fun q => ⟨rfl, rfl, by omega, by omega⟩)) ?_
  rintro _ _ ⟨y, rfl, hx, τ2, rfl, f2, hτ2⟩
  refine Wp.retI (len := 1) rfl rfl ?_
  exact kk _ τ2 f2 hx hτ2
theorem m_other (hT : TM σ T) (hL : LM σ T st) {is : Bool} {P : Nat} {ok : Nat → Bool} (hg : gd st = true → σ.2.2.1 6 20 = nI P ∧ 1 ≤ P ∧ P ≤ 7 ∧ ∀ r, σ.1 10 = nI r → r < P → is = ok r) : Wp (d + 3) md_178 0 [some (.ref 287), some (.int (bI is))] [] (mset M σ) (fun v M' => ∃ x, v = some (.int x) ∧ (gd (otS T P ok st) = true → x = nI (nmV T st)) ∧ RdB M σ T (otS T P ok st) M') := by
  rcases st with x | s
  · have x3 := hL.2.2.1
    have x1 := hL.2.1
    refine Wp.n (pc' := 4) 2 rfl ?_
    refine Wp.top hL.1 ?_
    refine Wp.nz1 (x := x.1) (tgt := 36) (len := 3) rfl (by omega) (fun h4 => ?_) (fun h4 => ?_)
    · skip
      refine Wp.n (pc' := 40) 4 rfl ?_
      refine Wp.ecallV (len := 3) rfl rfl rfl (rfl) rfl (by decide) rfl (m_hasRead (k := 0) (by decide)) ?_
      refine Wp.n (pc' := 45) 2 rfl ?_
      refine Wp.callV (len := 3) rfl rfl rfl (rfl) rfl (by decide) rfl (m_number (lo := 0) (hi := 0) hT hL (fun q => by cases q)) ?_
      rintro _ _ ⟨y, rfl, hx, τ2, rfl, f2, hτ2⟩
      refine Wp.retI (len := 1) rfl rfl ?_
      exact ⟨_, rfl, hx, τ2, rfl, f2, hτ2⟩
    · omega
  · obtain ⟨h20, P1, P7, hok⟩ := hg rfl
    obtain ⟨h12, hN⟩ := id hL
    obtain ⟨r, h10, r1, r2⟩ := hN.2.2.2.1
    have t4 := tk_le (T := T) (s := s)
    have okr := hok r h10
    refine Wp.n (pc' := 4) 2 rfl ?_
    refine Wp.top h12 ?_
    refine Wp.nz1 (x := 0) (tgt := 36) (len := 3) rfl (by omega) (fun h4 => ?_) (fun h4 => ?_)
    · omega
    · skip
      refine Wp.n (pc' := 11) 2 rfl ?_
      refine Wp.top hN.2.1 ?_
      refine Wp.n (pc' := 12) 1 rfl ?_
      refine Wp.nc1 (x := tk T s) (y := 2) (tgt := 36) (len := 3) rfl (by omega) (by omega) (fun h12 => ?_) (fun h12 => ?_)
      · skip
        first
          | (have e0 : otS T P ok (.inr s) = .inl (2, s) := (if_pos (by omega)).trans (if_neg (fun q => by have e1 := okr (by omega); rw [h28, show r = vl T s by omega, q.2] at e1; cases e1))
             rw [e0]
             have hτ' : LM τ T (.inl (2, s)) := hτ
             refine m_other_b (f.T hT) hτ' (fun x τ2 f2 h2 => ⟨x, rfl, fun q => (by cases q), τ2, rfl, f.t f2, h2⟩))
          | (refine m_other_g hT hL h20 P1 P7 (fun x τ2 f2 hx h2 => ?_)
             have e0 : nmS T 0 (P - 1) (.inr s) = otS T P ok (.inr s) := by
               show (if _ then (if _ then _ else _) else _) = (if _ then (if _ then _ else _) else _)
               by_cases c2 : tk T s = 2
               · rw [if_pos c2, if_pos c2]
                 by_cases cv : vl T s < P
                 · rw [if_pos (by omega), if_pos ⟨cv, by have e1 := okr (by omega); rw [h28] at e1; rw [show vl T s = r by omega]; exact e1.symm⟩]
                 · rw [if_neg (by omega), if_neg (fun q => cv q.1)]
               · rw [if_neg c2, if_neg c2]
             rw [e0] at hx h2
             exact ⟨x, rfl, hx, τ2, rfl, f2, h2⟩)
          | (refine m_other_g hT hL h20 P1 P7 (fun x τ2 f2 hx h2 => ?_)
             have e0 : nmS T 0 (P - 1) (.inr s) = otS T P ok (.inr s) := by
               show (if _ then (if _ then _ else _) else _) = (if _ then (if _ then _ else _) else _)
               by_cases c2 : tk T s = 2
               · rw [if_pos c2, if_pos c2, if_neg (by omega), if_neg (fun q => by omega)]
               · rw [if_neg c2, if_neg c2]
             rw [e0] at hx h2
             exact ⟨x, rfl, hx, τ2, rfl, f2, h2⟩)
      · skip
        refine Wp.n (pc' := 19) 2 rfl ?_
        refine Wp.top h10 ?_
        refine Wp.n (pc' := 21) 2 rfl ?_
        refine Wp.ecallV (len := 3) rfl rfl rfl (rfl) rfl (by decide) rfl (m_hasRead (k := 0) (by decide)) ?_
        refine Wp.top h20 ?_
        refine Wp.nc3 (x := r) (y := P) (tgt := 36) (len := 3) rfl (by omega) (by omega) (fun h24 => ?_) (fun h24 => ?_)
        · skip
          first
            | (have e0 : otS T P ok (.inr s) = .inl (2, s) := (if_pos (by omega)).trans (if_neg (fun q => by have e1 := okr (by omega); rw [h28, show r = vl T s by omega, q.2] at e1; cases e1))
               rw [e0]
               have hτ' : LM τ T (.inl (2, s)) := hτ
               refine m_other_b (f.T hT) hτ' (fun x τ2 f2 h2 => ⟨x, rfl, fun q => (by cases q), τ2, rfl, f.t f2, h2⟩))
            | (refine m_other_g hT hL h20 P1 P7 (fun x τ2 f2 hx h2 => ?_)
               have e0 : nmS T 0 (P - 1) (.inr s) = otS T P ok (.inr s) := by
                 show (if _ then (if _ then _ else _) else _) = (if _ then (if _ then _ else _) else _)
                 by_cases c2 : tk T s = 2
                 · rw [if_pos c2, if_pos c2]
                   by_cases cv : vl T s < P
                   · rw [if_pos (by omega), if_pos ⟨cv, by have e1 := okr (by omega); rw [h28] at e1; rw [show vl T s = r by omega]; exact e1.symm⟩]
                   · rw [if_neg (by omega), if_neg (fun q => cv q.1)]
                 · rw [if_neg c2, if_neg c2]
               rw [e0] at hx h2
               exact ⟨x, rfl, hx, τ2, rfl, f2, h2⟩)
            | (refine m_other_g hT hL h20 P1 P7 (fun x τ2 f2 hx h2 => ?_)
               have e0 : nmS T 0 (P - 1) (.inr s) = otS T P ok (.inr s) := by
                 show (if _ then (if _ then _ else _) else _) = (if _ then (if _ then _ else _) else _)
                 by_cases c2 : tk T s = 2
                 · rw [if_pos c2, if_pos c2, if_neg (by omega), if_neg (fun q => by omega)]
                 · rw [if_neg c2, if_neg c2]
               rw [e0] at hx h2
               exact ⟨x, rfl, hx, τ2, rfl, f2, h2⟩)
        · skip
          refine Wp.n (pc' := 28) 1 rfl ?_
          refine Wp.ifb1 (tgt := 36) (len := 3) rfl (fun h28 => ?_) (fun h28 => ?_)
          · skip
            first
              | (have e0 : otS T P ok (.inr s) = .inl (2, s) := (if_pos (by omega)).trans (if_neg (fun q => by have e1 := okr (by omega); rw [h28, show r = vl T s by omega, q.2] at e1; cases e1))
                 rw [e0]
                 have hτ' : LM τ T (.inl (2, s)) := hτ
                 refine m_other_b (f.T hT) hτ' (fun x τ2 f2 h2 => ⟨x, rfl, fun q => (by cases q), τ2, rfl, f.t f2, h2⟩))
              | (refine m_other_g hT hL h20 P1 P7 (fun x τ2 f2 hx h2 => ?_)
                 have e0 : nmS T 0 (P - 1) (.inr s) = otS T P ok (.inr s) := by
                   show (if _ then (if _ then _ else _) else _) = (if _ then (if _ then _ else _) else _)
                   by_cases c2 : tk T s = 2
                   · rw [if_pos c2, if_pos c2]
                     by_cases cv : vl T s < P
                     · rw [if_pos (by omega), if_pos ⟨cv, by have e1 := okr (by omega); rw [h28] at e1; rw [show vl T s = r by omega]; exact e1.symm⟩]
                     · rw [if_neg (by omega), if_neg (fun q => cv q.1)]
                   · rw [if_neg c2, if_neg c2]
                 rw [e0] at hx h2
                 exact ⟨x, rfl, hx, τ2, rfl, f2, h2⟩)
              | (refine m_other_g hT hL h20 P1 P7 (fun x τ2 f2 hx h2 => ?_)
                 have e0 : nmS T 0 (P - 1) (.inr s) = otS T P ok (.inr s) := by
                   show (if _ then (if _ then _ else _) else _) = (if _ then (if _ then _ else _) else _)
                   by_cases c2 : tk T s = 2
                   · rw [if_pos c2, if_pos c2, if_neg (by omega), if_neg (fun q => by omega)]
                   · rw [if_neg c2, if_neg c2]
                 rw [e0] at hx h2
                 exact ⟨x, rfl, hx, τ2, rfl, f2, h2⟩)
          · skip
            refine Wp.n (pc' := 33) 2 rfl ?_
            refine Wp.callV (len := 3) rfl rfl rfl (rfl) rfl (by decide) rfl (m_fails hT hL (k := 2) (by decide)) ?_
            rintro _ _ ⟨rfl, τ, rfl, f, hτ⟩
            first
              | (have e0 : otS T P ok (.inr s) = .inl (2, s) := (if_pos (by omega)).trans (if_neg (fun q => by have e1 := okr (by omega); rw [h28, show r = vl T s by omega, q.2] at e1; cases e1))
                 rw [e0]
                 have hτ' : LM τ T (.inl (2, s)) := hτ
                 refine m_other_b (f.T hT) hτ' (fun x τ2 f2 h2 => ⟨x, rfl, fun q => (by cases q), τ2, rfl, f.t f2, h2⟩))
              | (refine m_other_g hT hL h20 P1 P7 (fun x τ2 f2 hx h2 => ?_)
                 have e0 : nmS T 0 (P - 1) (.inr s) = otS T P ok (.inr s) := by
                   show (if _ then (if _ then _ else _) else _) = (if _ then (if _ then _ else _) else _)
                   by_cases c2 : tk T s = 2
                   · rw [if_pos c2, if_pos c2]
                     by_cases cv : vl T s < P
                     · rw [if_pos (by omega), if_pos ⟨cv, by have e1 := okr (by omega); rw [h28] at e1; rw [show vl T s = r by omega]; exact e1.symm⟩]
                     · rw [if_neg (by omega), if_neg (fun q => cv q.1)]
                   · rw [if_neg c2, if_neg c2]
                 rw [e0] at hx h2
                 exact ⟨x, rfl, hx, τ2, rfl, f2, h2⟩)
              | (refine m_other_g hT hL h20 P1 P7 (fun x τ2 f2 hx h2 => ?_)
                 have e0 : nmS T 0 (P - 1) (.inr s) = otS T P ok (.inr s) := by
                   show (if _ then (if _ then _ else _) else _) = (if _ then (if _ then _ else _) else _)
                   by_cases c2 : tk T s = 2
                   · rw [if_pos c2, if_pos c2, if_neg (by omega), if_neg (fun q => by omega)]
                   · rw [if_neg c2, if_neg c2]
                 rw [e0] at hx h2
                 exact ⟨x, rfl, hx, τ2, rfl, f2, h2⟩)
end RD
end
section
/-! LINES: the first, roads; what they make of a kingdom; the reference. -/
def K0 : KD := (fun i => if i = 9 then 1 else 0, fun _ _ => 0, fun _ _ => 0, fun _ _ => 0)
def pf1 (T : TP) (st : St) : St := wdS T 4398346831 st
def pf2 (T : TP) (st : St) : St := nmS T 2 7 (wdS T 235981828 (pf1 T st))
def pf3 (T : TP) (st : St) : St := nmS T 1 30 (wdS T 80155 (pf2 T st))
def pf4 (T : TP) (st : St) : St := nmS T 0 99 (wdS T 355568 (pf3 T st))
def pf5 (T : TP) (st : St) : St := nmS T 0 99 (wdS T 131360 (pf4 T st))
def pf6 (T : TP) (st : St) : St := nmS T 0 99 (wdS T 400577 (pf5 T st))
def firK (T : TP) (st : St) : KD := (fun i => if i = 0 then nmV T (wdS T 235981828 (pf1 T st)) else if i = 1 then nmV T (wdS T 80155 (pf2 T st)) else if i = 6 then nmV T (wdS T 355568 (pf3 T st)) else if i = 7 then nmV T (wdS T 131360 (pf4 T st)) else if i = 8 then nmV T (wdS T 400577 (pf5 T st)) else if i = 9 then 1 else 0, fun _ _ => 0, fun _ _ => 0, fun _ _ => 0)
def rd1 (T : TP) (K : KD) (st : St) : St := nmS T 0 (kh K 0 - 1) st
def rd2 (T : TP) (K : KD) (st : St) : St := wdS T 555 (rd1 T K st)
def rdo (T : TP) (K : KD) (st : St) (v : Nat) : Bool := decide (v ≠ nmV T st) && !(roadK K (nmV T st) v).isSome
def rd3 (T : TP) (K : KD) (st : St) : St := otS T (kh K 0) (rdo T K st) (rd2 T K st)
def rd4 (T : TP) (K : KD) (st : St) : St := nmS T 1 30 (rd3 T K st)
def addR (K : KD) (a b c : Nat) : KD := (fun i => if i = 2 then kh K 2 + 1 else kh K i, fun i => if i = kh K 2 then (fun j => if j = 0 then a else if j = 1 then b else c) else kr K i, K.2.2)
def rdK (T : TP) (K : KD) (st : St) : KD := addR K (nmV T st) (nmV T (rd2 T K st)) (nmV T (rd3 T K st))
theorem gd_nm {T : TP} {lo hi : Nat} {st : St} (h : gd (nmS T lo hi st) = true) : gd st = true := by
  rcases st with x | s
  · cases h
  · rfl
theorem gd_wd {T : TP} {w : Nat} {st : St} (h : gd (wdS T w st) = true) : gd st = true := by
  rcases st with x | s
  · cases h
  · rfl
theorem gd_ot {T : TP} {P : Nat} {ok : Nat → Bool} {st : St} (h : gd (otS T P ok st) = true) : gd st = true := by
  rcases st with x | s
  · cases h
  · rfl
/-- the reference's draft holds K -/
def BM (σ : MS) (K : KD) : Prop := RepM σ 4 K ∧ (∀ j, j < 5 → σ.2.2.1 7 (20 + j) = nI (kh K (6 + j))) ∧ kh K 11 = 0
/-- only the draft and the reading differ -/
def FrK (σ σ' : MS) : Prop := (∀ j, List.elem j [7, 8, 9, 10, 12, 13] = false → σ'.1 j = σ.1 j) ∧ (∀ k, List.elem k [5, 6, 7, 9, 10, 11] = false → σ'.2.2.1 k = σ.2.2.1 k) ∧ (∀ k, k ≠ 8 → σ'.2.2.2 k = σ.2.2.2 k) ∧ (∀ q, q < 4 → σ'.2.2.2 8 q = σ.2.2.2 8 q ∧ σ'.2.2.1 5 q = σ.2.2.1 5 q) ∧ (∀ q, q < 20 → σ'.2.2.1 6 q = σ.2.2.1 6 q ∧ σ'.2.2.1 7 q = σ.2.2.1 7 q) ∧ (∀ q, q < 144 → σ'.2.2.1 9 q = σ.2.2.1 9 q) ∧ (∀ q, q < 252 → σ'.2.2.1 10 q = σ.2.2.1 10 q) ∧ (∀ q, q < 440 → σ'.2.2.1 11 q = σ.2.2.1 11 q)
theorem FrK.r {σ : MS} : FrK σ σ := ⟨fun _ _ => rfl, fun _ _ => rfl, fun _ _ => rfl, fun _ _ => ⟨rfl, rfl⟩, fun _ _ => ⟨rfl, rfl⟩, fun _ _ => rfl, fun _ _ => rfl, fun _ _ => rfl⟩
theorem FrK.t {σ σ' σ'' : MS} (h : FrK σ σ') (h' : FrK σ' σ'') : FrK σ σ'' := ⟨fun j hj => (h'.1 j hj).trans (h.1 j hj), fun j hj => (h'.2.1 j hj).trans (h.2.1 j hj), fun j hj => (h'.2.2.1 j hj).trans (h.2.2.1 j hj), fun q hq => ⟨(h'.2.2.2.1 q hq).1.trans (h.2.2.2.1 q hq).1, (h'.2.2.2.1 q hq).2.trans (h.2.2.2.1 q hq).2⟩, fun q hq => ⟨(h'.2.2.2.2.1 q hq).1.trans (h.2.2.2.2.1 q hq).1, (h'.2.2.2.2.1 q hq).2.trans (h.2.2.2.2.1 q hq).2⟩, fun q hq => (h'.2.2.2.2.2.1 q hq).trans (h.2.2.2.2.2.1 q hq), fun q hq => (h'.2.2.2.2.2.2.1 q hq).trans (h.2.2.2.2.2.2.1 q hq), fun q hq => (h'.2.2.2.2.2.2.2 q hq).trans (h.2.2.2.2.2.2.2 q hq)⟩
theorem FrB.k {σ σ' : MS} (h : FrB σ σ') : FrK σ σ' := ⟨h.1, fun k _ => by rw [h.2], fun k _ => by rw [h.2], fun q _ => by rw [h.2]; exact ⟨rfl, rfl⟩, fun q _ => by rw [h.2]; exact ⟨rfl, rfl⟩, fun q _ => by rw [h.2], fun q _ => by rw [h.2], fun q _ => by rw [h.2]⟩
theorem FrK.T {σ σ' : MS} {T : TP} (h : FrK σ σ') (hT : TM σ T) : TM σ' T := ⟨(h.1 6 rfl).trans hT.1, hT.2.1, fun i hi => by rw [h.2.1 4 rfl]; exact hT.2.2 i hi⟩
/-- a cell of the draft -/
def dcl (k q : Nat) : Prop := (k = 5 ∧ 4 ≤ q) ∨ ((k = 6 ∨ k = 7) ∧ 20 ≤ q) ∨ (k = 9 ∧ 144 ≤ q) ∨ (k = 10 ∧ 252 ≤ q) ∨ (k = 11 ∧ 440 ≤ q)
theorem FrK.a {σ : MS} {k q : Nat} {x : Int32} (h : dcl k q) : FrK σ (aset σ k (upd (σ.2.2.1 k) q x)) := by
  have e : ∀ i j, (i ≠ k ∨ j ≠ q) → va_up σ.2.2.1 k (upd (σ.2.2.1 k) q x) i j = σ.2.2.1 i j := by
    intro i j hij
    by_cases c : i = k
    · subst c
      rw [va_up_self]
      exact pk_un (by rcases hij with z | z; · exact absurd rfl z
                      · exact z)
    · rw [va_up_ne _ _ c]
  unfold dcl at h
  refine ⟨fun _ _ => rfl, fun i hi => ?_, fun _ _ => rfl, fun j hj => ⟨rfl, e 5 j (by omega)⟩, fun j hj => ⟨e 6 j (by omega), e 7 j (by omega)⟩, fun j hj => e 9 j (by omega), fun j hj => e 10 j (by omega), fun j hj => e 11 j (by omega)⟩
  refine va_up_ne _ _ (fun c => ?_)
  rw [c] at hi
  rcases h with ⟨rfl, _⟩ | ⟨rfl | rfl, _⟩ | ⟨rfl, _⟩ | ⟨rfl, _⟩ | ⟨rfl, _⟩ <;> cases hi
theorem FrK.rep {σ σ' : MS} {s : Nat} {K : KD} (h : FrK σ σ') (hs : s < 4) (ok : KOK K) (hR : RepM σ s K) : RepM σ' s K := by
  obtain ⟨b0, b1, b2, b3, b4, b5, b6, b7, b8, b9, b10, b11, b12⟩ := ok_h ok
  have c8 : ∀ i, i < kh K 4 → kw K i 3 ≤ 7 := fun i hi => (ok.2.2.2.2.2.2.2.2.2.2.2.2.2.2.2.2.1 i hi).2.2.2.2.2.1
  refine ⟨fun j hj => ?_, fun h0 j hj => ?_, ?_, ?_, fun i hi j hj => ?_, fun i hi j hj => ?_, fun i hi => ⟨fun j hj => ?_, fun j hj => ?_⟩⟩
  · rw [(h.2.2.2.2.1 _ (by omega)).1]; exact hR.1 j hj
  · rw [(h.2.2.2.2.1 _ (by omega)).2]; exact hR.2.1 h0 j hj
  · rw [(h.2.2.2.1 _ (by omega)).2]; exact hR.2.2.1
  · rw [(h.2.2.2.1 _ (by omega)).1]; exact hR.2.2.2.1
  · rw [h.2.2.2.2.2.1 _ (by omega)]; exact hR.2.2.2.2.1 i hi j hj
  · rw [h.2.2.2.2.2.2.1 _ (by omega)]; exact hR.2.2.2.2.2.1 i hi j hj
  · rw [h.2.2.2.2.2.2.2 _ (by omega)]; exact (hR.2.2.2.2.2.2 i hi).1 j hj
  · have := c8 i hi
    rw [h.2.2.2.2.2.2.2 _ (by omega)]; exact (hR.2.2.2.2.2.2 i hi).2 j hj
def btI (f : Nat → Int32) (q : Nat) (a b : Int32) : Bool := decide ((f q = a ∧ f (q + 1) = b) ∨ (f q = b ∧ f (q + 1) = a))
/-- a line read, its state and its kingdom -/
def RLn (M : AM) (σ : MS) (T : TP) (st : St) (K : KD) : Option Value → AM → Prop := fun v M' => v = none ∧ ∃ σ', M' = mset M σ' ∧ FrK σ σ' ∧ LM σ' T st ∧ (gd st = true → BM σ' K)
section LNS
variable {d : Nat} {M : AM} {σ σ' : MS} {T : TP} {st : St} {K : KD} {Q : Option Value → AM → Prop}
theorem m_btI {q : Nat} (hq : q + 1 < 180) (a b : Int32) : Ev d md_177 0 [some (.ref 297), some (.int (nI q)), some (.int a), some (.int b)] [] (mset M σ) (some (.int (bI (btI (σ.2.2.1 9) q a b))), mset M σ) := by
  refine Wp.toEv ?_
  refine Wp.n (pc' := 2) 2 rfl ?_
  refine Wp.mialdN (j := q) (len := 1) rfl rfl rfl (by omega) ?_
  refine Wp.n (pc' := 4) 1 rfl ?_
  refine Wp.ic1 (tgt := 16) (len := 3) rfl (fun h4 => ?_) (fun h4 => ?_)
  · skip
    refine Wp.n (pc' := 18) 2 rfl ?_
    refine Wp.mialdN (j := q) (len := 1) rfl rfl rfl (by omega) ?_
    refine Wp.n (pc' := 20) 1 rfl ?_
    refine Wp.ic1 (tgt := 36) (len := 3) rfl (fun h20 => ?_) (fun h20 => ?_)
    · skip
      refine Wp.n (pc' := 37) 1 rfl ?_
      refine Wp.retZ (len := 1) (c := false) rfl rfl rfl ?_
      refine ⟨?_, rfl⟩
      unfold btI
      simp_all [bI]
    · skip
      refine Wp.n (pc' := 26) 3 rfl ?_
      refine Wp.iaddN (x := q) (y := 1) (len := 1) rfl ?_
      refine Wp.mialdN (j := q + 1) (len := 1) rfl rfl rfl (by omega) ?_
      refine Wp.n (pc' := 29) 1 rfl ?_
      refine Wp.ic1 (tgt := 36) (len := 3) rfl (fun h29 => ?_) (fun h29 => ?_)
      · skip
        refine Wp.n (pc' := 37) 1 rfl ?_
        refine Wp.retZ (len := 1) (c := false) rfl rfl rfl ?_
        refine ⟨?_, rfl⟩
        unfold btI
        simp_all [bI]
      · skip
        refine Wp.n (pc' := 37) 2 rfl ?_
        refine Wp.retZ (len := 1) (c := true) rfl rfl rfl ?_
        refine ⟨?_, rfl⟩
        unfold btI
        simp_all [bI]
  · skip
    refine Wp.n (pc' := 10) 3 rfl ?_
    refine Wp.iaddN (x := q) (y := 1) (len := 1) rfl ?_
    refine Wp.mialdN (j := q + 1) (len := 1) rfl rfl rfl (by omega) ?_
    refine Wp.n (pc' := 13) 1 rfl ?_
    refine Wp.ic0 (tgt := 32) (len := 3) rfl (fun h13 => ?_) (fun h13 => ?_)
    · skip
      refine Wp.n (pc' := 37) 2 rfl ?_
      refine Wp.retZ (len := 1) (c := true) rfl rfl rfl ?_
      refine ⟨?_, rfl⟩
      unfold btI
      simp_all [bI]
    · skip
      refine Wp.n (pc' := 18) 2 rfl ?_
      refine Wp.mialdN (j := q) (len := 1) rfl rfl rfl (by omega) ?_
      refine Wp.n (pc' := 20) 1 rfl ?_
      refine Wp.ic1 (tgt := 36) (len := 3) rfl (fun h20 => ?_) (fun h20 => ?_)
      · skip
        refine Wp.n (pc' := 37) 1 rfl ?_
        refine Wp.retZ (len := 1) (c := false) rfl rfl rfl ?_
        refine ⟨?_, rfl⟩
        unfold btI
        simp_all [bI]
      · skip
        refine Wp.n (pc' := 26) 3 rfl ?_
        refine Wp.iaddN (x := q) (y := 1) (len := 1) rfl ?_
        refine Wp.mialdN (j := q + 1) (len := 1) rfl rfl rfl (by omega) ?_
        refine Wp.n (pc' := 29) 1 rfl ?_
        refine Wp.ic1 (tgt := 36) (len := 3) rfl (fun h29 => ?_) (fun h29 => ?_)
        · skip
          refine Wp.n (pc' := 37) 1 rfl ?_
          refine Wp.retZ (len := 1) (c := false) rfl rfl rfl ?_
          refine ⟨?_, rfl⟩
          unfold btI
          simp_all [bI]
        · skip
          refine Wp.n (pc' := 37) 2 rfl ?_
          refine Wp.retZ (len := 1) (c := true) rfl rfl rfl ?_
          refine ⟨?_, rfl⟩
          unfold btI
          simp_all [bI]
theorem m_isRoadTold_l {n0 : Nat} (h22 : σ.2.2.1 6 22 = nI n0) (hn0 : n0 ≤ 12) (a b : Int32) : ∀ (n i : Nat), i + n = n0 → Wp (d + 1) md_176 2 [some (.ref 287), some (.int a), some (.int b), some (.int (nI i))] [] (mset M σ) (IsR (some (.int (bI ((fnd (fun i => btI (σ.2.2.1 9) (144 + 3 * i) a b) n i).isSome)))) (mset M σ))
  | 0, i, hi => by
    refine Wp.n (pc' := 5) 3 rfl ?_
    refine Wp.ecallV (len := 3) rfl rfl rfl (rfl) rfl (by decide) rfl (m_hasRead (k := 2) (by decide)) ?_
    refine Wp.top h22 ?_
    refine Wp.nc3 (x := i) (y := n0) (tgt := 37) (len := 3) rfl (by omega) (by omega) (fun h8 => ?_) (fun h8 => ?_)
    · skip
      refine Wp.n (pc' := 38) 1 rfl ?_
      refine Wp.retZ (len := 1) (c := false) rfl rfl rfl ?_
      exact ⟨rfl, rfl⟩
    · omega
  | n + 1, i, hi => by
    have e : fnd (fun i => btI (σ.2.2.1 9) (144 + 3 * i) a b) (n + 1) i = if btI (σ.2.2.1 9) (144 + 3 * i) a b = true then some i else fnd (fun i => btI (σ.2.2.1 9) (144 + 3 * i) a b) n (i + 1) := rfl
    rw [show 144 + 3 * i = 3 * (48 + i) by omega] at e
    rw [e]
    refine Wp.n (pc' := 5) 3 rfl ?_
    refine Wp.ecallV (len := 3) rfl rfl rfl (rfl) rfl (by decide) rfl (m_hasRead (k := 2) (by decide)) ?_
    refine Wp.top h22 ?_
    refine Wp.nc3 (x := i) (y := n0) (tgt := 37) (len := 3) rfl (by omega) (by omega) (fun h8 => ?_) (fun h8 => ?_)
    · omega
    · skip
      refine Wp.n (pc' := 19) 5 rfl ?_
      refine Wp.iaddN (x := 48) (y := i) (len := 1) rfl ?_
      refine Wp.imulN (x := 3) (y := 48 + i) (len := 1) rfl ?_
      refine Wp.n (pc' := 23) 2 rfl ?_
      refine Wp.ecallS (len := 3) rfl rfl rfl rfl (m_btI (q := 3 * (48 + i)) (by omega) a b) ?_
      refine Wp.ifb0 (tgt := 31) (len := 3) rfl (fun h26 => ?_) (fun h26 => ?_)
      · skip
        refine Wp.incN (x := i) (len := 3) rfl rfl ?_
        refine Wp.n (pc' := 2) 1 rfl ?_
        rw [if_neg (by rw [h26]; decide)]
        exact m_isRoadTold_l h22 hn0 a b n (i + 1) (by omega)
      · skip
        refine Wp.n (pc' := 30) 1 rfl ?_
        refine Wp.retZ (len := 1) (c := true) rfl rfl rfl ?_
        rw [if_pos h26]
        exact ⟨rfl, rfl⟩
theorem m_isRoadTold {n0 : Nat} (h22 : σ.2.2.1 6 22 = nI n0) (hn0 : n0 ≤ 12) (a b : Int32) : Ev (d + 1) md_176 0 [some (.ref 287), some (.int a), some (.int b), none] [] (mset M σ) (some (.int (bI ((fnd (fun i => btI (σ.2.2.1 9) (144 + 3 * i) a b) n0 0).isSome))), mset M σ) := by
  refine Wp.toEv ?_
  refine Wp.n (pc' := 2) 2 rfl ?_
  exact m_isRoadTold_l h22 hn0 a b n0 0 (by omega)
theorem told_eq (hB : BM σ K) (ok : KOK K) {a b : Nat} (ha : a < 7) (hb : b < 7) : (fnd (fun i => btI (σ.2.2.1 9) (144 + 3 * i) (nI a) (nI b)) (kh K 2) 0).isSome = (roadK K a b).isSome := by
  have h := hB.1.2.2.2.2.1
  have b0 := (ok_h ok).1
  have hr := ok.2.2.2.2.2.2.2.2.2.2.2.2.2.2.1
  have e : ∀ j, j < kh K 2 → btI (σ.2.2.1 9) (144 + 3 * j) (nI a) (nI b) = btw (kr K j 0) (kr K j 1) a b := by
    intro j hj
    have e0 := h j hj 0 (by decide)
    have e1 := h j hj 1 (by decide)
    rw [show 36 * 4 + 3 * j + 0 = 144 + 3 * j by omega] at e0
    rw [show 36 * 4 + 3 * j + 1 = 144 + 3 * j + 1 by omega] at e1
    have r := hr j hj
    unfold btI btw
    rw [e0, e1]
    simp only [nI_eq (a := kr K j 0) (b := a) (by omega) (by omega), nI_eq (a := kr K j 0) (b := b) (by omega) (by omega), nI_eq (a := kr K j 1) (b := a) (by omega) (by omega), nI_eq (a := kr K j 1) (b := b) (by omega) (by omega)]
    simp
  rw [Bool.eq_iff_iff, fnd_any, show roadK K a b = fnd (fun i => btw (kr K i 0) (kr K i 1) a b) (kh K 2) 0 from rfl, fnd_any]
  constructor
  · rintro ⟨j, h1, h2, h3⟩
    exact ⟨j, h1, h2, by rw [← e j (by omega)]; exact h3⟩
  · rintro ⟨j, h1, h2, h3⟩
    exact ⟨j, h1, h2, by rw [e j (by omega)]; exact h3⟩
theorem LN_a {s k : Nat} {g : Nat → Int32} (h : LN σ T s) : LN (aset σ k g) T s := h
theorem LM_a {k : Nat} {g : Nat → Int32} (h : LM σ T st) : LM (aset σ k g) T st := by
  rcases st with x | s
  · exact h
  · exact h
theorem nm_le {lo hi : Nat} (h : gd (nmS T lo hi st) = true) : lo ≤ nmV T st ∧ nmV T st ≤ hi := by
  rcases st with x | s
  · cases h
  · by_cases c : tk T s = 2
    · by_cases c2 : lo ≤ vl T s ∧ vl T s ≤ hi
      · exact c2
      · rw [show nmS T lo hi (.inr s) = .inl (2, s) from (if_pos c).trans (if_neg c2)] at h
        cases h
    · rw [show nmS T lo hi (.inr s) = .inl (1, s) from if_neg c] at h
      cases h
theorem ot_ok {P : Nat} {ok : Nat → Bool} (h : gd (otS T P ok st) = true) : nmV T st < P ∧ ok (nmV T st) = true := by
  rcases st with x | s
  · cases h
  · by_cases c : tk T s = 2
    · by_cases c2 : vl T s < P ∧ ok (vl T s) = true
      · exact c2
      · rw [show otS T P ok (.inr s) = .inl (2, s) from (if_pos c).trans (if_neg c2)] at h
        cases h
    · rw [show otS T P ok (.inr s) = .inl (1, s) from if_neg c] at h
      cases h
theorem BM_h (hB : BM σ K) {j : Nat} (hj : j < 5) : σ.2.2.1 6 (20 + j) = nI (kh K j) := hB.1.1 j hj
theorem BM_road (hB : BM σ K) (ok : KOK K) (hr : kh K 2 < 12) {a b c : Nat} (e : ∀ k, k ≠ 6 → k ≠ 9 → σ'.2.2.1 k = σ.2.2.1 k) (el : σ'.2.2.2 = σ.2.2.2) (e6 : σ'.2.2.1 6 = upd (σ.2.2.1 6) 22 (nI (kh K 2 + 1))) (e9 : σ'.2.2.1 9 = upd (upd (upd (σ.2.2.1 9) (3 * (48 + kh K 2) + 1) (nI b)) (3 * (48 + kh K 2)) (nI a)) (3 * (48 + kh K 2) + 2) (nI c)) : BM σ' (addR K a b c) := by
  obtain ⟨⟨h1, h2, h3, h4, h5, h6, h7⟩, hl, h11⟩ := hB
  have ek : ∀ j, j ≠ 2 → kh (addR K a b c) j = kh K j := fun j hj => if_neg hj
  have e2 : kh (addR K a b c) 2 = kh K 2 + 1 := rfl
  refine ⟨⟨fun j hj => ?_, fun h0 j hj => ?_, ?_, ?_, fun i hi j hj => ?_, ?_, ?_⟩, fun j hj => ?_, (ek 11 (by decide)).trans h11⟩
  · rw [e6]
    by_cases q : j = 2
    · subst q; exact pk_us
    · rw [pk_un (by omega), ek j q]; exact h1 j hj
  · rw [e 7 (by decide) (by decide), ek (6 + j) (by omega)]; exact hl j hj
  · rw [e 5 (by decide) (by decide), ek 5 (by decide)]; exact h3
  · rw [el, ek 12 (by decide)]; exact h4
  · rw [e2] at hi
    rw [e9]
    show _ = nI ((if i = kh K 2 then (fun j => if j = 0 then a else if j = 1 then b else c) else kr K i) j)
    by_cases q : i = kh K 2
    · subst q
      rw [if_pos rfl]
      have jj : j = 0 ∨ j = 1 ∨ j = 2 := by omega
      rcases jj with rfl | rfl | rfl
      · rw [pk_un (by omega), show 36 * 4 + 3 * kh K 2 + 0 = 3 * (48 + kh K 2) by omega, pk_us]; rfl
      · rw [pk_un (by omega), pk_un (by omega), show 36 * 4 + 3 * kh K 2 + 1 = 3 * (48 + kh K 2) + 1 by omega, pk_us]; rfl
      · rw [show 36 * 4 + 3 * kh K 2 + 2 = 3 * (48 + kh K 2) + 2 by omega, pk_us]; rfl
    · rw [if_neg q, pk_un (by omega), pk_un (by omega), pk_un (by omega)]
      exact h5 i (by omega) j hj
  · rw [e 10 (by decide) (by decide), ek 3 (by decide), ek 11 (by decide)]; exact h6
  · rw [e 11 (by decide) (by decide), ek 4 (by decide)]; exact h7
  · rw [e 7 (by decide) (by decide), ek (6 + j) (by omega)]; exact hl j hj
theorem m_roadLine_2 (hT : TM σ T) (hB : BM σ K) (ok : KOK K) (hP : 2 ≤ kh K 0) (hr : kh K 2 < 12) {τ : MS} {a : Int32} {is : Bool} (f : FrB σ τ) (hτ : LM τ T (rd2 T K st)) (ha : gd (rd1 T K st) = true → a = nI (nmV T st)) (hi : gd (rd2 T K st) = true → ∀ r, τ.1 10 = nI r → r < kh K 0 → is = rdo T K st r) : Wp (d + 5) md_175 64 [some (.ref 287), some (.int (nI (3 * (48 + kh K 2)))), some (.int a)] [.int (bI is), .ref 287, .int (nI (3 * (48 + kh K 2) + 1)), .ref 297] (mset M τ) (RLn M σ T (rd4 T K st) (rdK T K st)) := by
  have b0 := (ok_h ok).1
  have h20 : τ.2.2.1 6 20 = nI (kh K 0) := by rw [f.2]; exact BM_h (j := 0) hB (by decide)
  refine Wp.callV (len := 3) rfl rfl rfl (rfl) rfl (by decide) rfl (m_other (P := kh K 0) (ok := rdo T K st) (f.T hT) hτ (fun q => ⟨h20, by omega, by omega, hi q⟩)) ?_
  rintro _ _ ⟨b, rfl, hb, τ2, rfl, f2, hτ2⟩
  have e2 := (f.t f2).2
  refine Wp.miastN (j := 3 * (48 + kh K 2) + 1) (len := 1) rfl rfl rfl (by omega) ?_
  refine Wp.n (pc' := 74) 4 rfl ?_
  refine Wp.miastN (j := 3 * (48 + kh K 2)) (len := 1) rfl rfl rfl (by omega) ?_
  refine Wp.n (pc' := 81) 4 rfl ?_
  refine Wp.iaddN (x := 3 * (48 + kh K 2)) (y := 2) (len := 1) rfl ?_
  refine Wp.n (pc' := 86) 3 rfl ?_
  refine Wp.callV (len := 3) rfl rfl rfl (rfl) rfl (by decide) rfl (m_number (lo := 1) (hi := 30) (σ := aset (aset τ2 9 _) 9 _) (st := rd3 T K st) (FrK.T ((f.t f2).k.t ((FrK.a (by unfold dcl; omega)).t (FrK.a (by unfold dcl; omega)))) hT) (LM_a (LM_a hτ2)) (fun q => ⟨rfl, rfl, by omega, by omega⟩)) ?_
  rintro _ _ ⟨c, rfl, hc, τ3, rfl, f3, hτ3⟩
  have e22 : τ3.2.2.1 6 22 = nI (kh K 2) := by
    rw [f3.2]
    show τ2.2.2.1 6 22 = _
    rw [e2]
    exact BM_h (j := 2) hB (by decide)
  refine Wp.miastN (j := (3 * (48 + kh K 2)) + 2) (len := 1) rfl rfl rfl (by omega) ?_
  refine Wp.n (pc' := 97) 4 rfl ?_
  refine Wp.mialdN (j := 22) (len := 1) rfl rfl rfl (by omega) ?_
  refine Wp.top e22 ?_
  refine Wp.n (pc' := 99) 1 rfl ?_
  refine Wp.iaddN (x := kh K 2) (y := 1) (len := 1) rfl ?_
  refine Wp.miastN (j := 22) (len := 1) rfl rfl rfl (by omega) ?_
  refine Wp.retV (len := 1) rfl rfl ?_
  refine ⟨rfl, _, rfl, (f.t f2).k.t (((FrK.a (by unfold dcl; omega)).t (FrK.a (by unfold dcl; omega))).t (f3.k.t ((FrK.a (by unfold dcl; omega)).t (FrK.a (by unfold dcl; omega))))), LM_a (LM_a hτ3), fun g => ?_⟩
  have g3 : gd (rd3 T K st) = true := gd_nm g
  have g2 : gd (rd2 T K st) = true := gd_ot g3
  have g1 : gd (rd1 T K st) = true := gd_wd g2
  obtain rfl := ha g1
  obtain rfl := hb g3
  obtain rfl := hc g
  refine BM_road hB ok hr (fun k k6 k9 => ?_) ?_ ?_ ?_
  · show va_up (va_up τ3.2.2.1 9 _) 6 _ k = _
    rw [va_up_ne _ _ k6, va_up_ne _ _ k9, f3.2]
    show va_up (va_up τ2.2.2.1 9 _) 9 _ k = _
    rw [va_up_ne _ _ k9, va_up_ne _ _ k9, e2]
  · show τ3.2.2.2 = _
    rw [f3.2]
    show τ2.2.2.2 = _
    rw [e2]
  · show upd (τ3.2.2.1 6) 22 _ = _
    rw [f3.2]
    show upd (τ2.2.2.1 6) 22 _ = _
    rw [e2]
  · show upd (τ3.2.2.1 9) _ _ = _
    rw [f3.2]
    show upd (upd (upd (τ2.2.2.1 9) _ _) _ _) _ _ = _
    rw [e2]
theorem m_roadLine (hT : TM σ T) (hL : LM σ T st) (hB : BM σ K) (ok : KOK K) (hP : 2 ≤ kh K 0) (hr : kh K 2 < 12) : Wp (d + 5) md_175 0 [some (.ref 287), none, none] [] (mset M σ) (RLn M σ T (rd4 T K st) (rdK T K st)) := by
  have b0 := (ok_h ok).1
  refine Wp.n (pc' := 5) 4 rfl ?_
  refine Wp.ecallV (len := 3) rfl rfl rfl (rfl) rfl (by decide) rfl (m_hasRead (k := 2) (by decide)) ?_
  refine Wp.top (BM_h hB (by decide)) ?_
  refine Wp.iaddN (x := 48) (y := kh K 2) (len := 1) rfl ?_
  refine Wp.imulN (x := 3) (y := 48 + (kh K 2)) (len := 1) rfl ?_
  refine Wp.n (pc' := 15) 5 rfl ?_
  refine Wp.ecallV (len := 3) rfl rfl rfl (rfl) rfl (by decide) rfl (m_hasRead (k := 0) (by decide)) ?_
  refine Wp.top (BM_h hB (by decide)) ?_
  refine Wp.n (pc' := 19) 1 rfl ?_
  refine Wp.isubN (x := kh K 0) (y := 1) (len := 1) rfl (by omega) ?_
  refine Wp.callV (len := 3) rfl rfl rfl (rfl) rfl (by decide) rfl (m_number (lo := 0) (hi := kh K 0 - 1) hT hL (fun q => ⟨rfl, rfl, by omega, by omega⟩)) ?_
  rintro _ _ ⟨a, rfl, ha, τ1, rfl, f1, hτ1⟩
  refine Wp.n (pc' := 28) 3 rfl ?_
  refine Wp.callV (len := 3) rfl rfl rfl (rfl) rfl (by decide) rfl (m_asks (h := 555) (f1.T hT) hτ1 (by decide)) ?_
  rintro _ _ ⟨rfl, τ, rfl, f2, hτ⟩
  have f := f1.t f2
  have hv : gd (rd2 T K st) = true → a = nI (nmV T st) ∧ nmV T st < 7 := fun g => ⟨ha (gd_wd g), by have := nm_le (gd_wd (T := T) g); omega⟩
  refine Wp.n (pc' := 37) 4 rfl ?_
  refine Wp.iaddN (x := 3 * (48 + (kh K 2))) (y := 1) (len := 1) rfl ?_
  refine Wp.n (pc' := 44) 4 rfl ?_
  refine Wp.ic0 (tgt := 63) (len := 3) rfl (fun h44 => ?_) (fun h44 => ?_)
  · skip
    refine Wp.n (pc' := 64) 1 rfl ?_
    first
      | exact m_roadLine_2 (is := true) hT hB ok hP hr f hτ ha (fun g r q1 q2 => by
          obtain ⟨v1, v2⟩ := hv g
          rw [q1, v1, f.2, told_eq hB ok v2 (by omega)] at h56
          have q3 : r ≠ nmV T st := fun q => h44 (by rw [q1, v1, q])
          unfold rdo
          rw [h56, decide_eq_true q3]
          rfl)
      | exact m_roadLine_2 (is := false) hT hB ok hP hr f hτ ha (fun g r q1 q2 => by
          obtain ⟨v1, v2⟩ := hv g
          rw [q1, v1, f.2, told_eq hB ok v2 (by omega)] at h56
          unfold rdo
          rw [h56]
          exact (Bool.and_false _).symm)
      | exact m_roadLine_2 (is := false) hT hB ok hP hr f hτ ha (fun g r q1 q2 => by
          obtain ⟨v1, v2⟩ := hv g
          rw [q1, v1, nI_eq (by omega) (by omega)] at h44
          unfold rdo
          rw [show decide (r ≠ nmV T st) = false from decide_eq_false (fun q => q h44)]
          rfl)
  · skip
    refine Wp.n (pc' := 53) 4 rfl ?_
    refine Wp.ecallV (len := 3) rfl rfl rfl (rfl) rfl (by decide) rfl (m_isRoadTold (n0 := kh K 2) (by rw [f.2]; exact BM_h (j := 2) hB (by decide)) (by omega) _ _) ?_
    refine Wp.ifb1 (tgt := 63) (len := 3) rfl (fun h56 => ?_) (fun h56 => ?_)
    · skip
      refine Wp.n (pc' := 64) 1 rfl ?_
      first
        | exact m_roadLine_2 (is := true) hT hB ok hP hr f hτ ha (fun g r q1 q2 => by
            obtain ⟨v1, v2⟩ := hv g
            rw [q1, v1, f.2, told_eq hB ok v2 (by omega)] at h56
            have q3 : r ≠ nmV T st := fun q => h44 (by rw [q1, v1, q])
            unfold rdo
            rw [h56, decide_eq_true q3]
            rfl)
        | exact m_roadLine_2 (is := false) hT hB ok hP hr f hτ ha (fun g r q1 q2 => by
            obtain ⟨v1, v2⟩ := hv g
            rw [q1, v1, f.2, told_eq hB ok v2 (by omega)] at h56
            unfold rdo
            rw [h56]
            exact (Bool.and_false _).symm)
        | exact m_roadLine_2 (is := false) hT hB ok hP hr f hτ ha (fun g r q1 q2 => by
            obtain ⟨v1, v2⟩ := hv g
            rw [q1, v1, nI_eq (by omega) (by omega)] at h44
            unfold rdo
            rw [show decide (r ≠ nmV T st) = false from decide_eq_false (fun q => q h44)]
            rfl)
    · skip
      refine Wp.n (pc' := 64) 2 rfl ?_
      first
        | exact m_roadLine_2 (is := true) hT hB ok hP hr f hτ ha (fun g r q1 q2 => by
            obtain ⟨v1, v2⟩ := hv g
            rw [q1, v1, f.2, told_eq hB ok v2 (by omega)] at h56
            have q3 : r ≠ nmV T st := fun q => h44 (by rw [q1, v1, q])
            unfold rdo
            rw [h56, decide_eq_true q3]
            rfl)
        | exact m_roadLine_2 (is := false) hT hB ok hP hr f hτ ha (fun g r q1 q2 => by
            obtain ⟨v1, v2⟩ := hv g
            rw [q1, v1, f.2, told_eq hB ok v2 (by omega)] at h56
            unfold rdo
            rw [h56]
            exact (Bool.and_false _).symm)
        | exact m_roadLine_2 (is := false) hT hB ok hP hr f hτ ha (fun g r q1 q2 => by
            obtain ⟨v1, v2⟩ := hv g
            rw [q1, v1, nI_eq (by omega) (by omega)] at h44
            unfold rdo
            rw [show decide (r ≠ nmV T st) = false from decide_eq_false (fun q => q h44)]
            rfl)
end LNS
end
section
/-! LINES: lanes, fords, boats; the first line; the reference. -/
def lno (T : TP) (st : St) (v : Nat) : Bool := decide (v ≠ nmV T st)
def ln3 (T : TP) (K : KD) (st : St) : St := otS T (kh K 0) (lno T st) (rd2 T K st)
def ln4 (T : TP) (K : KD) (st : St) : St := nmS T 1 30 (ln3 T K st)
def lnf (T : TP) (K : KD) (st : St) : St := wdS T 131638 (ln4 T K st)
def ln5 (T : TP) (K : KD) (st : St) : St := nmS T 0 (kh K 1 - 1) (lnf T K st)
def lnl (T : TP) (K : KD) (st : St) : St := wdS T 555 (ln5 T K st)
def ln6 (T : TP) (K : KD) (so : Nat) (st : St) : St := if so = 0 then nmS T (nmV T (lnf T K st)) (kh K 1 - 1) (lnl T K st) else ln4 T K st
def lnw (T : TP) (K : KD) (so : Nat) (st : St) : Bool := decide (so < 2) && isS T 8935713994 (ln6 T K so st)
def ln7 (T : TP) (K : KD) (so : Nat) (st : St) : St := if lnw T K so st = true then nmS T 0 100 (adS T (ln6 T K so st)) else ln6 T K so st
def addL (K : KD) (g : Nat → Nat) : KD := (fun i => if i = 3 then kh K 3 + 1 else kh K i, kr K, fun i => if i = kh K 3 then g else kl K i, kw K)
def lnR (T : TP) (K : KD) (so : Nat) (st : St) (j : Nat) : Nat := if j = 0 then nmV T st else if j = 1 then nmV T (rd2 T K st) else if j = 2 then nmV T (ln3 T K st) else if j = 3 then (if so = 0 then nmV T (lnf T K st) else 0) else if j = 4 then (if so = 0 then nmV T (lnl T K st) else 0) else if j = 5 then so else (if lnw T K so st = true then nmV T (adS T (ln6 T K so st)) else 0)
def lnK (T : TP) (K : KD) (so : Nat) (st : St) : KD := addL K (lnR T K so st)
/-- a row of the draft is being written -/
def ArF (A k : Nat) (g : Nat → Int32) (σ τ : MS) : Prop := FrK σ τ ∧ (∀ i, i ≠ A → τ.2.2.1 i = σ.2.2.1 i) ∧ τ.2.2.2 = σ.2.2.2 ∧ (∀ q, q < k → τ.2.2.1 A q = σ.2.2.1 A q) ∧ ∀ j, τ.2.2.1 A (k + j) = g j
section ARF
variable {d : Nat} {M : AM} {σ σ' τ τ' : MS} {T : TP} {st : St} {K : KD} {Q : Option Value → AM → Prop} {A k : Nat} {g : Nat → Int32}
theorem ArF.r : ArF A k (fun j => σ.2.2.1 A (k + j)) σ σ := ⟨FrK.r, fun _ _ => rfl, rfl, fun _ _ => rfl, fun _ => rfl⟩
theorem ArF.b (h : ArF A k g σ τ) (f : FrB τ τ') : ArF A k g σ τ' := ⟨h.1.t f.k, fun i hi => by rw [f.2]; exact h.2.1 i hi, by rw [f.2]; exact h.2.2.1, fun q hq => by rw [f.2]; exact h.2.2.2.1 q hq, fun j => by rw [f.2]; exact h.2.2.2.2 j⟩
theorem ArF.tm (h : ArF A k g σ τ) (hT : TM σ T) : TM τ T := h.1.T hT
theorem LM_e (e : τ'.1 = τ.1) (e' : τ'.2.1 = τ.2.1) (h : LM τ T st) : LM τ' T st := by
  rcases st with x | s
  · unfold LM at *
    rw [e]; exact h
  · unfold LM LN at *
    rw [e, e']; exact h
theorem Wp.rst {X : MD} {pc len i j n : Nat} {l : AL} {sk : List Value} {x : Int32} (hc : cdx X pc = some (.inr (.inl .iastore), len)) (hA : ArF A k g σ τ) (hi : i = k + j) (hk : mtl_ A = (0, n)) (hn : (Nat.blt 0 n && Nat.blt n 100000) = true) (hj : i < n) (hd : dcl A i) (kk : ∀ τ', ArF A k (upd g j x) σ τ' → τ'.1 = τ.1 → τ'.2.1 = τ.2.1 → Wp d X (pc + len) l sk (mset M τ') Q) : Wp d X pc l (.int x :: .int (nI i) :: .ref (A + 288) :: sk) (mset M τ) Q := by
  refine Wp.miastN (k := A) (j := i) hc hk hn hj ?_
  refine kk _ ⟨hA.1.t (FrK.a hd), fun q hq => ?_, hA.2.2.1, fun q hq => ?_, fun q => ?_⟩ rfl rfl
  · show va_up τ.2.2.1 A _ q = _
    rw [va_up_ne _ _ hq]; exact hA.2.1 q hq
  · rw [aset_get, pk_un (by omega)]; exact hA.2.2.2.1 q hq
  · rw [aset_get]
    by_cases c : q = j
    · rw [c, hi, pk_us, pk_us]
    · rw [pk_un (by omega), pk_un c]; exact hA.2.2.2.2 q
theorem ArF.h (h : ArF A k g σ τ) (hA : A ≠ 6) (hB : BM σ K) {j : Nat} (hj : j < 5) : τ.2.2.1 6 (20 + j) = nI (kh K j) := by rw [h.2.1 6 (fun e => hA e.symm)]; exact BM_h hB hj
theorem BM_lane (hB : BM σ K) (ok : KOK K) (hr : kh K 3 < 8) {G : Nat → Nat} (hA : ArF 10 (7 * (36 + kh K 3)) g σ τ) (hv : ∀ j, j < 7 → g j = nI (G j)) : BM (aset τ 6 (upd (τ.2.2.1 6) 23 (nI (kh K 3 + 1)))) (addL K G) := by
  obtain ⟨⟨h1, h2, h3, h4, h5, h6, h7⟩, hl, h11⟩ := hB
  have ek : ∀ j, j ≠ 3 → kh (addL K G) j = kh K j := fun j hj => if_neg hj
  have e2 : kh (addL K G) 3 = kh K 3 + 1 := rfl
  have ea : ∀ i, i ≠ 6 → i ≠ 10 → (aset τ 6 (upd (τ.2.2.1 6) 23 (nI (kh K 3 + 1)))).2.2.1 i = σ.2.2.1 i := fun i i6 i10 => (va_up_ne _ _ i6).trans (hA.2.1 i i10)
  have e10 : (aset τ 6 (upd (τ.2.2.1 6) 23 (nI (kh K 3 + 1)))).2.2.1 10 = τ.2.2.1 10 := rfl
  have e11 : kh (addL K G) 11 = 0 := (ek 11 (by decide)).trans h11
  refine ⟨⟨fun j hj => ?_, fun h0 j hj => ?_, ?_, ?_, ?_, fun i hi j hj => ?_, ?_⟩, fun j hj => ?_, e11⟩
  · rw [aset_get]
    by_cases q : j = 3
    · subst q; exact pk_us
    · rw [pk_un (by omega), ek j q, hA.2.1 6 (by decide)]; exact h1 j hj
  · rw [ea 7 (by decide) (by decide), ek (6 + j) (by omega)]; exact hl j hj
  · rw [ea 5 (by decide) (by decide), ek 5 (by decide)]; exact h3
  · show τ.2.2.2 8 4 = _
    rw [hA.2.2.1, ek 12 (by decide)]; exact h4
  · rw [ea 9 (by decide) (by decide), ek 2 (by decide)]; exact h5
  · rw [e2, e11] at hi
    rw [e10]
    show _ = nI ((if i = kh K 3 then G else kl K i) j)
    by_cases q : i = kh K 3
    · subst q
      rw [if_pos rfl, show 63 * 4 + 7 * kh K 3 + j = 7 * (36 + kh K 3) + j by omega, hA.2.2.2.2 j]
      exact hv j hj
    · rw [if_neg q, hA.2.2.2.1 _ (by omega)]
      exact h6 i (Or.inl (by omega)) j hj
  · rw [ea 11 (by decide) (by decide), ek 4 (by decide)]; exact h7
  · rw [ea 7 (by decide) (by decide), ek (6 + j) (by omega)]; exact hl j hj
theorem gd_ad (h : gd (adS T st) = true) : gd st = true := by
  rcases st with x | s
  · cases h
  · rfl
theorem m_laneLine_3 (hT : TM σ T) (hB : BM σ K) (ok : KOK K) (hr : kh K 3 < 8) {so : Nat} (hso : so ≤ 2) {τ0 : MS} (A0 : ArF 10 (7 * (36 + kh K 3)) g σ τ0) (l0 : LM τ0 T (ln6 T K so st)) (hv : gd (ln6 T K so st) = true → ∀ j, j < 5 → g j = nI (lnR T K so st j)) : Wp (d + 5) md_180 157 [some (.ref 287), some (.int (nI so)), some (.int (nI (7 * (36 + kh K 3))))] [] (mset M τ0) (RLn M σ T (ln7 T K so st) (lnK T K so st)) := by
  refine Wp.n (pc' := 163) 4 rfl ?_
  refine Wp.iaddN (x := 7 * (36 + kh K 3)) (y := 5) (len := 1) rfl ?_
  refine Wp.n (pc' := 165) 1 rfl ?_
  refine Wp.rst (A := 10) (i := 7 * (36 + kh K 3) + 5) (j := 5) (len := 1) rfl A0 (by omega) rfl rfl (by omega) (by unfold dcl; omega) (fun τ1 A1 e1 j1 => ?_)
  have l1 := LM_e e1 j1 l0
  refine Wp.n (pc' := 173) 4 rfl ?_
  refine Wp.iaddN (x := 7 * (36 + kh K 3)) (y := 6) (len := 1) rfl ?_
  refine Wp.n (pc' := 176) 2 rfl ?_
  refine Wp.nc3 (x := so) (y := 2) (tgt := 199) (len := 3) rfl (by omega) (by omega) (fun h176 => ?_) (fun h176 => ?_)
  · have hw_ : lnw T K so st = false := by unfold lnw; rw [decide_eq_false (by omega)]; rfl
    have e7 : ln7 T K so st = ln6 T K so st := if_neg (by rw [hw_]; decide)
    refine Wp.n (pc' := 200) 1 rfl ?_
    first
      | refine Wp.rst (A := 10) (i := 7 * (36 + kh K 3) + 6) (j := 6) (len := 1) rfl A3 (by omega) rfl rfl (by omega) (by unfold dcl; omega) (fun τ4 A4 e4 j4 => ?_)
      | refine Wp.rst (A := 10) (i := 7 * (36 + kh K 3) + 6) (j := 6) (len := 1) rfl A2 (by omega) rfl rfl (by omega) (by unfold dcl; omega) (fun τ4 A4 e4 j4 => ?_)
      | refine Wp.rst (A := 10) (i := 7 * (36 + kh K 3) + 6) (j := 6) (len := 1) rfl A1 (by omega) rfl rfl (by omega) (by unfold dcl; omega) (fun τ4 A4 e4 j4 => ?_)
    refine Wp.n (pc' := 208) 4 rfl ?_
    refine Wp.mialdN (j := 23) (len := 1) rfl rfl rfl (by omega) ?_
    refine Wp.top (A4.h (j := 3) (by decide) hB (by decide)) ?_
    refine Wp.n (pc' := 210) 1 rfl ?_
    refine Wp.iaddN (x := kh K 3) (y := 1) (len := 1) rfl ?_
    refine Wp.miastN (j := 23) (len := 1) rfl rfl rfl (by omega) ?_
    refine Wp.retV (len := 1) rfl rfl ?_
    rw [e7]
    refine ⟨rfl, _, rfl, A4.1.t (FrK.a (by unfold dcl; omega)), LM_a (LM_e e4 j4 (by first | exact l3 | exact l2 | exact l1)), fun gg => BM_lane hB ok hr A4 (fun j hj => ?_)⟩
    have g6 : gd (ln6 T K so st) = true := by first | exact gg | exact gd_ad (gd_nm gg)
    by_cases c : j < 5
    · rw [pk_un (by omega), pk_un (by omega)]
      exact hv g6 j c
    · by_cases c5 : j = 5
      · subst c5; rfl
      · obtain rfl : j = 6 := by omega
        show upd (upd g 5 (nI so)) 6 _ 6 = nI (if lnw T K so st = true then _ else _)
        rw [pk_us]
        first
          | (rw [if_pos hw_]; exact hw gg)
          | (rw [if_neg (by rw [hw_]; decide)]; rfl)
  · skip
    refine Wp.n (pc' := 183) 2 rfl ?_
    refine Wp.callV (len := 3) rfl rfl rfl (rfl) rfl (by decide) rfl (m_takes (h := 8935713994) (A1.tm hT) l1 (by decide)) ?_
    rintro _ _ ⟨rfl, τ2, rfl, f2, l2⟩
    have A2 := A1.b f2
    refine Wp.ifb0 (tgt := 199) (len := 3) rfl (fun h186 => ?_) (fun h186 => ?_)
    · rw [if_neg (by rw [h186]; decide)] at l2
      have hw_ : lnw T K so st = false := by unfold lnw; rw [h186]; exact Bool.and_false _
      have e7 : ln7 T K so st = ln6 T K so st := if_neg (by rw [hw_]; decide)
      refine Wp.n (pc' := 200) 1 rfl ?_
      first
        | refine Wp.rst (A := 10) (i := 7 * (36 + kh K 3) + 6) (j := 6) (len := 1) rfl A3 (by omega) rfl rfl (by omega) (by unfold dcl; omega) (fun τ4 A4 e4 j4 => ?_)
        | refine Wp.rst (A := 10) (i := 7 * (36 + kh K 3) + 6) (j := 6) (len := 1) rfl A2 (by omega) rfl rfl (by omega) (by unfold dcl; omega) (fun τ4 A4 e4 j4 => ?_)
        | refine Wp.rst (A := 10) (i := 7 * (36 + kh K 3) + 6) (j := 6) (len := 1) rfl A1 (by omega) rfl rfl (by omega) (by unfold dcl; omega) (fun τ4 A4 e4 j4 => ?_)
      refine Wp.n (pc' := 208) 4 rfl ?_
      refine Wp.mialdN (j := 23) (len := 1) rfl rfl rfl (by omega) ?_
      refine Wp.top (A4.h (j := 3) (by decide) hB (by decide)) ?_
      refine Wp.n (pc' := 210) 1 rfl ?_
      refine Wp.iaddN (x := kh K 3) (y := 1) (len := 1) rfl ?_
      refine Wp.miastN (j := 23) (len := 1) rfl rfl rfl (by omega) ?_
      refine Wp.retV (len := 1) rfl rfl ?_
      rw [e7]
      refine ⟨rfl, _, rfl, A4.1.t (FrK.a (by unfold dcl; omega)), LM_a (LM_e e4 j4 (by first | exact l3 | exact l2 | exact l1)), fun gg => BM_lane hB ok hr A4 (fun j hj => ?_)⟩
      have g6 : gd (ln6 T K so st) = true := by first | exact gg | exact gd_ad (gd_nm gg)
      by_cases c : j < 5
      · rw [pk_un (by omega), pk_un (by omega)]
        exact hv g6 j c
      · by_cases c5 : j = 5
        · subst c5; rfl
        · obtain rfl : j = 6 := by omega
          show upd (upd g 5 (nI so)) 6 _ 6 = nI (if lnw T K so st = true then _ else _)
          rw [pk_us]
          first
            | (rw [if_pos hw_]; exact hw gg)
            | (rw [if_neg (by rw [hw_]; decide)]; rfl)
    · rw [if_pos h186] at l2
      have hw_ : lnw T K so st = true := by unfold lnw; rw [h186, decide_eq_true (by omega)]; rfl
      have e7 : ln7 T K so st = nmS T 0 100 (adS T (ln6 T K so st)) := if_pos hw_
      refine Wp.n (pc' := 193) 3 rfl ?_
      refine Wp.callV (len := 3) rfl rfl rfl (rfl) rfl (by decide) rfl (m_number (lo := 0) (hi := 100) (A2.tm hT) l2 (fun q => ⟨rfl, rfl, by omega, by omega⟩)) ?_
      rintro _ _ ⟨w, rfl, hw, τ3, rfl, f3, l3⟩
      have A3 := A2.b f3
      refine Wp.n (pc' := 200) 1 rfl ?_
      first
        | refine Wp.rst (A := 10) (i := 7 * (36 + kh K 3) + 6) (j := 6) (len := 1) rfl A3 (by omega) rfl rfl (by omega) (by unfold dcl; omega) (fun τ4 A4 e4 j4 => ?_)
        | refine Wp.rst (A := 10) (i := 7 * (36 + kh K 3) + 6) (j := 6) (len := 1) rfl A2 (by omega) rfl rfl (by omega) (by unfold dcl; omega) (fun τ4 A4 e4 j4 => ?_)
        | refine Wp.rst (A := 10) (i := 7 * (36 + kh K 3) + 6) (j := 6) (len := 1) rfl A1 (by omega) rfl rfl (by omega) (by unfold dcl; omega) (fun τ4 A4 e4 j4 => ?_)
      refine Wp.n (pc' := 208) 4 rfl ?_
      refine Wp.mialdN (j := 23) (len := 1) rfl rfl rfl (by omega) ?_
      refine Wp.top (A4.h (j := 3) (by decide) hB (by decide)) ?_
      refine Wp.n (pc' := 210) 1 rfl ?_
      refine Wp.iaddN (x := kh K 3) (y := 1) (len := 1) rfl ?_
      refine Wp.miastN (j := 23) (len := 1) rfl rfl rfl (by omega) ?_
      refine Wp.retV (len := 1) rfl rfl ?_
      rw [e7]
      refine ⟨rfl, _, rfl, A4.1.t (FrK.a (by unfold dcl; omega)), LM_a (LM_e e4 j4 (by first | exact l3 | exact l2 | exact l1)), fun gg => BM_lane hB ok hr A4 (fun j hj => ?_)⟩
      have g6 : gd (ln6 T K so st) = true := by first | exact gg | exact gd_ad (gd_nm gg)
      by_cases c : j < 5
      · rw [pk_un (by omega), pk_un (by omega)]
        exact hv g6 j c
      · by_cases c5 : j = 5
        · subst c5; rfl
        · obtain rfl : j = 6 := by omega
          show upd (upd g 5 (nI so)) 6 _ 6 = nI (if lnw T K so st = true then _ else _)
          rw [pk_us]
          first
            | (rw [if_pos hw_]; exact hw gg)
            | (rw [if_neg (by rw [hw_]; decide)]; rfl)
theorem m_laneLine_2 (hT : TM σ T) (hB : BM σ K) (ok : KOK K) (hP : 2 ≤ kh K 0) (hD : 1 ≤ kh K 1) (hr : kh K 3 < 8) {so : Nat} (hso : so ≤ 2) {τ0 : MS} {a : Int32} {is : Bool} (A0 : ArF 10 (7 * (36 + kh K 3)) (upd g 0 a) σ τ0) (l0 : LM τ0 T (rd2 T K st)) (ha : gd (rd1 T K st) = true → a = nI (nmV T st)) (hi : gd (rd2 T K st) = true → ∀ r, τ0.1 10 = nI r → r < kh K 0 → is = lno T st r) : Wp (d + 5) md_180 63 [some (.ref 287), some (.int (nI so)), some (.int (nI (7 * (36 + kh K 3))))] [.int (bI is), .ref 287, .int (nI (7 * (36 + kh K 3) + 1)), .ref 298] (mset M τ0) (RLn M σ T (ln7 T K so st) (lnK T K so st)) := by
  have b0 := (ok_h ok).1
  have b1 := (ok_h ok).2.1
  have h20 : τ0.2.2.1 6 20 = nI (kh K 0) := A0.h (j := 0) (by decide) hB (by decide)
  refine Wp.callV (len := 3) rfl rfl rfl (rfl) rfl (by decide) rfl (m_other (P := kh K 0) (ok := lno T st) (A0.tm hT) l0 (fun q => ⟨h20, by omega, by omega, hi q⟩)) ?_
  rintro _ _ ⟨b, rfl, hb, τ1, rfl, f1, l1⟩
  have A1 := A0.b f1
  refine Wp.rst (A := 10) (i := 7 * (36 + kh K 3) + 1) (j := 1) (len := 1) rfl A1 (by omega) rfl rfl (by omega) (by unfold dcl; omega) (fun τ2 A2 e2 j2 => ?_)
  have l2 := LM_e e2 j2 l1
  refine Wp.n (pc' := 73) 4 rfl ?_
  refine Wp.iaddN (x := 7 * (36 + kh K 3)) (y := 2) (len := 1) rfl ?_
  refine Wp.n (pc' := 78) 3 rfl ?_
  refine Wp.callV (len := 3) rfl rfl rfl (rfl) rfl (by decide) rfl (m_number (lo := 1) (hi := 30) (A2.tm hT) l2 (fun q => ⟨rfl, rfl, by omega, by omega⟩)) ?_
  rintro _ _ ⟨c, rfl, hc, τ3, rfl, f3, l3⟩
  have A3 := A2.b f3
  refine Wp.rst (A := 10) (i := 7 * (36 + kh K 3) + 2) (j := 2) (len := 1) rfl A3 (by omega) rfl rfl (by omega) (by unfold dcl; omega) (fun τ4 A4 e4 j4 => ?_)
  have l4 := LM_e e4 j4 l3
  refine Wp.n (pc' := 88) 4 rfl ?_
  refine Wp.iaddN (x := 7 * (36 + kh K 3)) (y := 3) (len := 1) rfl ?_
  refine Wp.n (pc' := 90) 1 rfl ?_
  refine Wp.rst (A := 10) (i := 7 * (36 + kh K 3) + 3) (j := 3) (len := 1) rfl A4 (by omega) rfl rfl (by omega) (by unfold dcl; omega) (fun τ5 A5 e5 j5 => ?_)
  have l5 := LM_e e5 j5 l4
  refine Wp.n (pc' := 97) 4 rfl ?_
  refine Wp.iaddN (x := 7 * (36 + kh K 3)) (y := 4) (len := 1) rfl ?_
  refine Wp.n (pc' := 99) 1 rfl ?_
  refine Wp.rst (A := 10) (i := 7 * (36 + kh K 3) + 4) (j := 4) (len := 1) rfl A5 (by omega) rfl rfl (by omega) (by unfold dcl; omega) (fun τ6 A6 e6 j6 => ?_)
  have l6 := LM_e e6 j6 l5
  refine Wp.n (pc' := 101) 1 rfl ?_
  refine Wp.nz1 (x := so) (tgt := 157) (len := 3) rfl (by omega) (fun h101 => ?_) (fun h101 => ?_)
  · skip
    have g3 : gd (ln4 T K st) = true → gd (ln3 T K st) = true ∧ gd (rd1 T K st) = true := fun q => ⟨gd_nm q, gd_wd (gd_ot (gd_nm q))⟩
    first
      | (have s6 : ln6 T K so st = nmS T (nmV T (lnf T K st)) (kh K 1 - 1) (lnl T K st) := if_pos h101
         refine m_laneLine_3 hT hB ok hr hso A10 (by rw [s6]; exact l10) (fun gg j hj => ?_)
         rw [s6] at gg
         have g5 : gd (ln5 T K st) = true := gd_wd (gd_nm gg)
         have g4 := gd_wd (gd_nm g5)
         have jj : j = 0 ∨ j = 1 ∨ j = 2 ∨ j = 3 ∨ j = 4 := by omega
         rcases jj with rfl | rfl | rfl | rfl | rfl
         · exact ha (g3 g4).2
         · exact hb (g3 g4).1
         · exact hc g4
         · show x = nI (if so = 0 then _ else _)
           rw [if_pos h101]; exact hx g5
         · show y = nI (if so = 0 then _ else _)
           rw [if_pos h101]; exact hy gg)
      | (have s6 : ln6 T K so st = ln4 T K st := if_neg h101
         refine m_laneLine_3 hT hB ok hr hso A6 (by rw [s6]; exact l6) (fun g4 j hj => ?_)
         rw [s6] at g4
         have jj : j = 0 ∨ j = 1 ∨ j = 2 ∨ j = 3 ∨ j = 4 := by omega
         rcases jj with rfl | rfl | rfl | rfl | rfl
         · exact ha (g3 g4).2
         · exact hb (g3 g4).1
         · exact hc g4
         · show _ = nI (if so = 0 then _ else _)
           rw [if_neg h101]; rfl
         · show _ = nI (if so = 0 then _ else _)
           rw [if_neg h101]; rfl)
  · skip
    refine Wp.n (pc' := 110) 4 rfl ?_
    refine Wp.iaddN (x := 7 * (36 + kh K 3)) (y := 3) (len := 1) rfl ?_
    refine Wp.n (pc' := 118) 5 rfl ?_
    refine Wp.ecallV (len := 3) rfl rfl rfl (rfl) rfl (by decide) rfl (m_hasRead (k := 1) (by decide)) ?_
    refine Wp.top (A6.h (j := 1) (by decide) hB (by decide)) ?_
    refine Wp.n (pc' := 122) 1 rfl ?_
    refine Wp.isubN (x := kh K 1) (y := 1) (len := 1) rfl (by omega) ?_
    refine Wp.callV (len := 3) rfl rfl rfl (rfl) rfl (by decide) rfl (m_numberW (h := 131638) (lo := 0) (hi := kh K 1 - 1) (A6.tm hT) l6 (by decide) (fun q => ⟨rfl, rfl, by omega, by omega⟩)) ?_
    rintro _ _ ⟨x, rfl, hx, τ7, rfl, f7, l7⟩
    have A7 := A6.b f7
    refine Wp.rst (A := 10) (i := 7 * (36 + kh K 3) + 3) (j := 3) (len := 1) rfl A7 (by omega) rfl rfl (by omega) (by unfold dcl; omega) (fun τ8 A8 e8 j8 => ?_)
    have l8 := LM_e e8 j8 l7
    refine Wp.n (pc' := 133) 4 rfl ?_
    refine Wp.iaddN (x := 7 * (36 + kh K 3)) (y := 4) (len := 1) rfl ?_
    refine Wp.n (pc' := 144) 6 rfl ?_
    refine Wp.iaddN (x := 7 * (36 + kh K 3)) (y := 3) (len := 1) rfl ?_
    refine Wp.mialdN (j := (7 * (36 + kh K 3)) + 3) (len := 1) rfl rfl rfl (by omega) ?_
    refine Wp.top (A8.2.2.2.2 3) ?_
    refine Wp.n (pc' := 148) 2 rfl ?_
    refine Wp.ecallV (len := 3) rfl rfl rfl (rfl) rfl (by decide) rfl (m_hasRead (k := 1) (by decide)) ?_
    refine Wp.top (A8.h (j := 1) (by decide) hB (by decide)) ?_
    refine Wp.n (pc' := 152) 1 rfl ?_
    refine Wp.isubN (x := kh K 1) (y := 1) (len := 1) rfl (by omega) ?_
    refine Wp.callV (len := 3) rfl rfl rfl (rfl) rfl (by decide) rfl (m_numberW (h := 555) (lo := nmV T (lnf T K st)) (hi := kh K 1 - 1) (A8.tm hT) l8 (by decide) (fun q => ⟨hx (gd_wd q), rfl, by omega, by have : 0 ≤ nmV T (lnf T K st) ∧ nmV T (lnf T K st) ≤ kh K 1 - 1 := nm_le (gd_wd (T := T) q); omega⟩)) ?_
    rintro _ _ ⟨y, rfl, hy, τ9, rfl, f9, l9⟩
    have A9 := A8.b f9
    refine Wp.rst (A := 10) (i := 7 * (36 + kh K 3) + 4) (j := 4) (len := 1) rfl A9 (by omega) rfl rfl (by omega) (by unfold dcl; omega) (fun τ10 A10 e10 j10 => ?_)
    have l10 := LM_e e10 j10 l9
    have g3 : gd (ln4 T K st) = true → gd (ln3 T K st) = true ∧ gd (rd1 T K st) = true := fun q => ⟨gd_nm q, gd_wd (gd_ot (gd_nm q))⟩
    first
      | (have s6 : ln6 T K so st = nmS T (nmV T (lnf T K st)) (kh K 1 - 1) (lnl T K st) := if_pos h101
         refine m_laneLine_3 hT hB ok hr hso A10 (by rw [s6]; exact l10) (fun gg j hj => ?_)
         rw [s6] at gg
         have g5 : gd (ln5 T K st) = true := gd_wd (gd_nm gg)
         have g4 := gd_wd (gd_nm g5)
         have jj : j = 0 ∨ j = 1 ∨ j = 2 ∨ j = 3 ∨ j = 4 := by omega
         rcases jj with rfl | rfl | rfl | rfl | rfl
         · exact ha (g3 g4).2
         · exact hb (g3 g4).1
         · exact hc g4
         · show x = nI (if so = 0 then _ else _)
           rw [if_pos h101]; exact hx g5
         · show y = nI (if so = 0 then _ else _)
           rw [if_pos h101]; exact hy gg)
      | (have s6 : ln6 T K so st = ln4 T K st := if_neg h101
         refine m_laneLine_3 hT hB ok hr hso A6 (by rw [s6]; exact l6) (fun g4 j hj => ?_)
         rw [s6] at g4
         have jj : j = 0 ∨ j = 1 ∨ j = 2 ∨ j = 3 ∨ j = 4 := by omega
         rcases jj with rfl | rfl | rfl | rfl | rfl
         · exact ha (g3 g4).2
         · exact hb (g3 g4).1
         · exact hc g4
         · show _ = nI (if so = 0 then _ else _)
           rw [if_neg h101]; rfl
         · show _ = nI (if so = 0 then _ else _)
           rw [if_neg h101]; rfl)
theorem m_laneLine (hT : TM σ T) (hL : LM σ T st) (hB : BM σ K) (ok : KOK K) (hP : 2 ≤ kh K 0) (hD : 1 ≤ kh K 1) (hr : kh K 3 < 8) {so : Nat} (hso : so ≤ 2) : Wp (d + 5) md_180 0 [some (.ref 287), some (.int (nI so)), none] [] (mset M σ) (RLn M σ T (ln7 T K so st) (lnK T K so st)) := by
  have b0 := (ok_h ok).1
  have A0 : ArF 10 (7 * (36 + kh K 3)) _ σ σ := ArF.r
  refine Wp.n (pc' := 6) 4 rfl ?_
  refine Wp.ecallV (len := 3) rfl rfl rfl (rfl) rfl (by decide) rfl (m_hasRead (k := 3) (by decide)) ?_
  refine Wp.top (BM_h hB (by decide)) ?_
  refine Wp.iaddN (x := 36) (y := kh K 3) (len := 1) rfl ?_
  refine Wp.imulN (x := 7) (y := 36 + (kh K 3)) (len := 1) rfl ?_
  refine Wp.n (pc' := 21) 8 rfl ?_
  refine Wp.ecallV (len := 3) rfl rfl rfl (rfl) rfl (by decide) rfl (m_hasRead (k := 0) (by decide)) ?_
  refine Wp.top (BM_h hB (by decide)) ?_
  refine Wp.n (pc' := 25) 1 rfl ?_
  refine Wp.isubN (x := kh K 0) (y := 1) (len := 1) rfl (by omega) ?_
  refine Wp.callV (len := 3) rfl rfl rfl (rfl) rfl (by decide) rfl (m_number (lo := 0) (hi := kh K 0 - 1) hT hL (fun q => ⟨rfl, rfl, by omega, by omega⟩)) ?_
  rintro _ _ ⟨a, rfl, ha, τ1, rfl, f1, l1⟩
  have A1 := A0.b f1
  refine Wp.rst (A := 10) (i := 7 * (36 + kh K 3)) (j := 0) (len := 1) rfl A1 (by omega) rfl rfl (by omega) (by unfold dcl; omega) (fun τ2 A2 e2 j2 => ?_)
  have l2 := LM_e e2 j2 l1
  refine Wp.n (pc' := 34) 2 rfl ?_
  refine Wp.callV (len := 3) rfl rfl rfl (rfl) rfl (by decide) rfl (m_asks (h := 555) (A2.tm hT) l2 (by decide)) ?_
  rintro _ _ ⟨rfl, τ3, rfl, f3, l3⟩
  have A3 := A2.b f3
  have hv : gd (rd2 T K st) = true → a = nI (nmV T st) ∧ nmV T st < 7 := fun g => ⟨ha (gd_wd g), by have := nm_le (gd_wd (T := T) g); omega⟩
  refine Wp.n (pc' := 43) 4 rfl ?_
  refine Wp.iaddN (x := 7 * (36 + (kh K 3))) (y := 1) (len := 1) rfl ?_
  refine Wp.n (pc' := 54) 6 rfl ?_
  refine Wp.mialdN (j := 7 * (36 + (kh K 3))) (len := 1) rfl rfl rfl (by omega) ?_
  refine Wp.top (A3.2.2.2.2 0) ?_
  refine Wp.ic0 (tgt := 62) (len := 3) rfl (fun h55 => ?_) (fun h55 => ?_)
  · skip
    refine Wp.n (pc' := 63) 1 rfl ?_
    first
      | exact m_laneLine_2 (is := true) hT hB ok hP hD hr hso A3 l3 ha (fun g r q1 q2 => by
          obtain ⟨v1, v2⟩ := hv g
          have q3 : r ≠ nmV T st := fun q => h55 (by rw [pk_us, q1, v1, q])
          exact (decide_eq_true q3).symm)
      | exact m_laneLine_2 (is := false) hT hB ok hP hD hr hso A3 l3 ha (fun g r q1 q2 => by
          obtain ⟨v1, v2⟩ := hv g
          rw [pk_us, q1, v1, nI_eq (by omega) (by omega)] at h55
          exact (decide_eq_false (fun q => q h55)).symm)
  · skip
    refine Wp.n (pc' := 63) 2 rfl ?_
    first
      | exact m_laneLine_2 (is := true) hT hB ok hP hD hr hso A3 l3 ha (fun g r q1 q2 => by
          obtain ⟨v1, v2⟩ := hv g
          have q3 : r ≠ nmV T st := fun q => h55 (by rw [pk_us, q1, v1, q])
          exact (decide_eq_true q3).symm)
      | exact m_laneLine_2 (is := false) hT hB ok hP hD hr hso A3 l3 ha (fun g r q1 q2 => by
          obtain ⟨v1, v2⟩ := hv g
          rw [pk_us, q1, v1, nI_eq (by omega) (by omega)] at h55
          exact (decide_eq_false (fun q => q h55)).symm)
end ARF
end
section
/-! LINES: walks; the reference. -/
def wlo (pl : Nat → Nat) (i v : Nat) : Bool := decide (v ≠ pl (i - 1))
def nup (pl : Nat → Nat) (i v : Nat) : Nat → Nat := fun j => if j = i then v else pl j
def fl3 (s : St) : St → St
  | .inl x => .inl x
  | .inr _ => flS 3 s
def wlk (T : TP) (P : Nat) : Nat → (Nat → Nat) → Nat → St → St × (Nat → Nat) × Nat
  | 0, pl, i, st => (fl3 st (otS T P (wlo pl i) st), pl, i)
  | n + 1, pl, i, st => match otS T P (wlo pl i) st with
    | .inl x => (.inl x, pl, i)
    | .inr s' => if tk T s' = 2 then wlk T P n (nup pl i (nmV T st)) (i + 1) (.inr s') else (.inr s', nup pl i (nmV T st), i + 1)
def wk1 (T : TP) (st : St) : St := nmS T 0 4 st
def wka (T : TP) (st : St) : St := wdS T 247162 (wk1 T st)
def wk2 (T : TP) (st : St) : St := nmS T 1 9 (wka T st)
def wkb (T : TP) (st : St) : St := wdS T 419 (wk2 T st)
def wk3 (T : TP) (K : KD) (st : St) : St := nmS T 0 (kh K 1 - 1) (wkb T st)
def wkc (T : TP) (K : KD) (st : St) : St := wdS T 131638 (wk3 T K st)
def wk4 (T : TP) (K : KD) (st : St) : St := nmS T 0 (kh K 0 - 1) (wkc T K st)
def wk5 (T : TP) (K : KD) (st : St) : St := wdS T 79 (wk4 T K st)
def wkr (T : TP) (K : KD) (st : St) : St × (Nat → Nat) × Nat := wlk T (kh K 0) 6 (fun _ => nmV T (wkc T K st)) 1 (wk5 T K st)
def addW (K : KD) (g : Nat → Nat) : KD := (fun i => if i = 4 then kh K 4 + 1 else kh K i, kr K, kl K, fun i => if i = kh K 4 then g else kw K i)
def wkG (w0 w1 w2 : Nat) (r : St × (Nat → Nat) × Nat) (j : Nat) : Nat := if j = 0 then w0 else if j = 1 then w1 else if j = 2 then w2 else if j = 3 then r.2.2 else r.2.1 (j - 4)
def wkK (T : TP) (K : KD) (st : St) : KD := addW K (wkG (nmV T st) (nmV T (wka T st)) (nmV T (wkb T st)) (wkr T K st))
theorem wkG_4 {w0 w1 w2 j : Nat} {r : St × (Nat → Nat) × Nat} : wkG w0 w1 w2 r (4 + j) = r.2.1 j := by
  unfold wkG
  rw [if_neg (by omega), if_neg (by omega), if_neg (by omega), if_neg (by omega), show 4 + j - 4 = j by omega]
section WKL
variable {d : Nat} {M : AM} {σ σ' τ τ' : MS} {T : TP} {st : St} {K : KD} {Q : Option Value → AM → Prop} {g : Nat → Int32}
theorem BM_walk (hB : BM σ K) (ok : KOK K) (hr : kh K 4 < 10) {G : Nat → Nat} (hA : ArF 11 (11 * (40 + kh K 4)) g σ τ) (hv : ∀ j, j < 4 → g j = nI (G j)) (hw : ∀ j, j < G 3 → g (4 + j) = nI (G (4 + j))) : BM (aset τ 6 (upd (τ.2.2.1 6) 24 (nI (kh K 4 + 1)))) (addW K G) := by
  obtain ⟨⟨h1, h2, h3, h4, h5, h6, h7⟩, hl, h11⟩ := hB
  have ek : ∀ j, j ≠ 4 → kh (addW K G) j = kh K j := fun j hj => if_neg hj
  have e2 : kh (addW K G) 4 = kh K 4 + 1 := rfl
  have ea : ∀ i, i ≠ 6 → i ≠ 11 → (aset τ 6 (upd (τ.2.2.1 6) 24 (nI (kh K 4 + 1)))).2.2.1 i = σ.2.2.1 i := fun i i6 i10 => (va_up_ne _ _ i6).trans (hA.2.1 i i10)
  have e10 : (aset τ 6 (upd (τ.2.2.1 6) 24 (nI (kh K 4 + 1)))).2.2.1 11 = τ.2.2.1 11 := rfl
  have e11 : kh (addW K G) 11 = 0 := (ek 11 (by decide)).trans h11
  have c8 : ∀ i, i < kh K 4 → kw K i 3 ≤ 7 := fun i hi => (ok.2.2.2.2.2.2.2.2.2.2.2.2.2.2.2.2.1 i hi).2.2.2.2.2.1
  refine ⟨⟨fun j hj => ?_, fun h0 j hj => ?_, ?_, ?_, ?_, ?_, fun i hi => ?_⟩, fun j hj => ?_, e11⟩
  · rw [aset_get]
    by_cases q : j = 4
    · subst q; exact pk_us
    · rw [pk_un (by omega), ek j q, hA.2.1 6 (by decide)]; exact h1 j hj
  · rw [ea 7 (by decide) (by decide), ek (6 + j) (by omega)]; exact hl j hj
  · rw [ea 5 (by decide) (by decide), ek 5 (by decide)]; exact h3
  · show τ.2.2.2 8 4 = _
    rw [hA.2.2.1, ek 12 (by decide)]; exact h4
  · rw [ea 9 (by decide) (by decide), ek 2 (by decide)]; exact h5
  · rw [ea 10 (by decide) (by decide), ek 3 (by decide), ek 11 (by decide)]; exact h6
  · rw [e2] at hi
    rw [e10]
    have ew : kw (addW K G) i = if i = kh K 4 then G else kw K i := rfl
    rw [ew]
    by_cases q : i = kh K 4
    · subst q
      rw [if_pos rfl]
      refine ⟨fun j hj => ?_, fun j hj => ?_⟩
      · rw [show 110 * 4 + 11 * kh K 4 + j = 11 * (40 + kh K 4) + j by omega, hA.2.2.2.2 j]
        exact hv j hj
      · rw [show 110 * 4 + 11 * kh K 4 + 4 + j = 11 * (40 + kh K 4) + (4 + j) by omega, hA.2.2.2.2 _]
        exact hw j hj
    · rw [if_neg q]
      have := c8 i (by omega)
      refine ⟨fun j hj => ?_, fun j hj => ?_⟩
      · rw [hA.2.2.2.1 _ (by omega)]; exact (h7 i (by omega)).1 j hj
      · rw [hA.2.2.2.1 _ (by omega)]; exact (h7 i (by omega)).2 j hj
  · rw [ea 7 (by decide) (by decide), ek (6 + j) (by omega)]; exact hl j hj
/-- the end of a walk -/
theorem m_walk_e (hT : TM σ T) (hB : BM σ K) (ok : KOK K) (hr : kh K 4 < 10) {n : Nat} (hn : n ≤ 7) (A0 : ArF 11 (11 * (40 + kh K 4)) g σ τ) (l0 : LM τ T st) {G : Nat → Nat} (hv : gd st = true → (∀ j, j < 3 → g j = nI (G j)) ∧ G 3 = n ∧ ∀ j, j < n → g (4 + j) = nI (G (4 + j))) {m x4 x5 : Option Value} : Wp (d + 5) md_179 218 [some (.ref 287), some (.int (nI (11 * (40 + kh K 4)))), some (.int (nI n)), m, x4, x5] [] (mset M τ) (RLn M σ T st (addW K G)) := by
  refine Wp.n (pc' := 224) 4 rfl ?_
  refine Wp.iaddN (x := 11 * (40 + kh K 4)) (y := 3) (len := 1) rfl ?_
  refine Wp.n (pc' := 226) 1 rfl ?_
  refine Wp.rst (A := 11) (i := 11 * (40 + kh K 4) + 3) (j := 3) (len := 1) rfl A0 (by omega) rfl rfl (by omega) (by unfold dcl; omega) (fun τ1 A1 e1 j1 => ?_)
  have l1 := LM_e e1 j1 l0
  refine Wp.n (pc' := 234) 4 rfl ?_
  refine Wp.mialdN (j := 24) (len := 1) rfl rfl rfl (by omega) ?_
  refine Wp.top (A1.h (j := 4) (by decide) hB (by decide)) ?_
  refine Wp.n (pc' := 236) 1 rfl ?_
  refine Wp.iaddN (x := kh K 4) (y := 1) (len := 1) rfl ?_
  refine Wp.miastN (j := 24) (len := 1) rfl rfl rfl (by omega) ?_
  refine Wp.retV (len := 1) rfl rfl ?_
  refine ⟨rfl, _, rfl, A1.1.t (FrK.a (by unfold dcl; omega)), LM_a l1, fun gg => ?_⟩
  obtain ⟨v1, v2, v3⟩ := hv gg
  refine BM_walk hB ok hr A1 (fun j hj => ?_) (fun j hj => ?_)
  · by_cases c : j = 3
    · subst c; rw [pk_us, v2]
    · rw [pk_un c]; exact v1 j (by omega)
  · rw [pk_un (by omega)]; exact v3 j (by omega)
theorem m_walk_o (hT : TM σ T) (hB : BM σ K) (ok : KOK K) (hP : 2 ≤ kh K 0) {n s : Nat} {f : Nat → Bool} (A0 : ArF 11 (11 * (40 + kh K 4)) g σ τ) (l0 : LM τ T (.inr s)) {is : Bool} (hi : ∀ r, τ.1 10 = nI r → r < kh K 0 → is = f r) {m x5 : Option Value} (hb : ∀ z τ', otS T (kh K 0) f (.inr s) = .inl z → FrK σ τ' → LM τ' T (.inl z) → Q none (mset M τ')) (hg : ∀ s' τ', otS T (kh K 0) f (.inr s) = .inr s' → ArF 11 (11 * (40 + kh K 4)) g σ τ' → LM τ' T (.inr s') → Wp (d + 5) md_179 186 [some (.ref 287), some (.int (nI (11 * (40 + kh K 4)))), some (.int (nI n)), m, some (.int (bI is)), some (.int (nI (vl T s)))] [] (mset M τ') Q) : Wp (d + 5) md_179 170 [some (.ref 287), some (.int (nI (11 * (40 + kh K 4)))), some (.int (nI n)), m, some (.int (bI is)), x5] [] (mset M τ) Q := by
  have b0 := (ok_h ok).1
  have h20 : τ.2.2.1 6 20 = nI (kh K 0) := A0.h (j := 0) (by decide) hB (by decide)
  refine Wp.n (pc' := 173) 2 rfl ?_
  refine Wp.callV (len := 3) rfl rfl rfl (rfl) rfl (by decide) rfl (m_other (P := kh K 0) (ok := f) (A0.tm hT) l0 (fun q => ⟨h20, by omega, by omega, hi⟩)) ?_
  rintro _ _ ⟨x, rfl, hx, τ1, rfl, f1, l1⟩
  have A1 := A0.b f1
  refine Wp.n (pc' := 178) 1 rfl ?_
  rcases hq : otS T (kh K 0) f (.inr s) with z | s'
  · rw [hq] at l1
    have z1 := l1.2.1
    have z3 := l1.2.2.1
    refine Wp.n (pc' := 182) 2 rfl ?_
    refine Wp.top l1.1 ?_
    refine Wp.nz0 (x := z.1) (tgt := 186) (len := 3) rfl (by omega) (fun h182 => ?_) (fun h182 => ?_)
    · omega
    · skip
      refine Wp.retV (len := 1) rfl rfl ?_
      exact hb z τ1 hq A1.1 l1
  · rw [hq] at l1 hx
    obtain rfl := hx rfl
    refine Wp.n (pc' := 182) 2 rfl ?_
    refine Wp.top l1.1 ?_
    refine Wp.nz0 (x := 0) (tgt := 186) (len := 3) rfl (by omega) (fun h182 => ?_) (fun h182 => ?_)
    · skip
      exact hg s' τ1 hq A1 l1
    · omega
theorem m_walk_f (hT : TM σ T) {z : Nat × Nat} {n : Nat} {w : Bool} (A0 : ArF 11 (11 * (40 + kh K 4)) g σ τ) (l0 : LM τ T (.inl z)) {m x5 : Option Value} (kk : ∀ τ', FrK σ τ' → LM τ' T (.inl z) → Q none (mset M τ')) : Wp (d + 5) md_179 170 [some (.ref 287), some (.int (nI (11 * (40 + kh K 4)))), some (.int (nI n)), m, some (.int (bI w)), x5] [] (mset M τ) Q := by
  refine Wp.n (pc' := 173) 2 rfl ?_
  refine Wp.callV (len := 3) rfl rfl rfl (rfl) rfl (by decide) rfl (m_other (st := .inl z) (P := kh K 0) (ok := fun _ => true) (A0.tm hT) l0 (fun q => by cases q)) ?_
  rintro _ _ ⟨x, rfl, hx, τ1, rfl, f1, l1⟩
  have A1 := A0.b f1
  change LM τ1 T (.inl z) at l1
  have z1 := l1.2.1
  have z3 := l1.2.2.1
  refine Wp.n (pc' := 182) 3 rfl ?_
  refine Wp.top l1.1 ?_
  refine Wp.nz0 (x := z.1) (tgt := 186) (len := 3) rfl (by omega) (fun h182 => ?_) (fun h182 => ?_)
  · omega
  · skip
    refine Wp.retV (len := 1) rfl rfl ?_
    exact kk τ1 A1.1 l1
theorem m_walk_c {P s s' i j : Nat} {pl : Nat → Nat} (e : otS T P (wlo pl i) (.inr s) = .inr s') (hi : i = j + 1) : tk T s = 2 ∧ vl T s < P ∧ vl T s ≠ pl j := by
  subst hi
  have := ot_ok (T := T) (P := P) (ok := wlo pl (j + 1)) (st := .inr s) (by rw [e]; rfl)
  refine ⟨?_, this.1, of_decide_eq_true this.2⟩
  by_cases c : tk T s = 2
  · exact c
  · rw [show otS T P (wlo pl (j + 1)) (.inr s) = .inl (1, s) from if_neg c] at e; cases e
theorem m_walk_l (hT : TM σ T) (hB : BM σ K) (ok : KOK K) (hP : 2 ≤ kh K 0) (hr : kh K 4 < 10) {w0 w1 w2 : Nat} : ∀ (N n : Nat) {pl : Nat → Nat} {g : Nat → Int32} {τ : MS} {s : Nat} {x4 x5 : Option Value}, N + n = 7 → 1 ≤ n → ArF 11 (11 * (40 + kh K 4)) g σ τ → LM τ T (.inr s) → g 0 = nI w0 ∧ g 1 = nI w1 ∧ g 2 = nI w2 → (∀ j, j < n → g (4 + j) = nI (pl j)) → (∀ j, j < n → pl j < 7) → Wp (d + 5) md_179 99 [some (.ref 287), some (.int (nI (11 * (40 + kh K 4)))), some (.int (nI n)), some (.int (bI true)), x4, x5] [] (mset M τ) (RLn M σ T (wlk T (kh K 0) N pl n (.inr s)).1 (addW K (wkG w0 w1 w2 (wlk T (kh K 0) N pl n (.inr s)))))
  | 0, n, pl, g, τ, s, x4, x5, hN, h1, A0, l0, hw, hp, hq7 => by
    obtain rfl : n = 7 := by omega
    have b0 := (ok_h ok).1
    obtain ⟨h12, hL⟩ := id l0
    obtain ⟨r, h10, r1, r2⟩ := hL.2.2.2.1
    have t4 := tk_le (T := T) (s := s)
    have hp6 : τ.2.2.1 11 (11 * (40 + kh K 4) + 3 + 7) = nI (pl 6) := by rw [Nat.add_assoc, A0.2.2.2.2 (3 + 7)]; exact hp 6 (by decide)
    have hq6 := hq7 6 (by decide)
    have eb : ∀ z, otS T (kh K 0) (wlo pl 7) (.inr s) = .inl z → (wlk T (kh K 0) 0 pl 7 (.inr s)).1 = .inl z := fun z h => by
      show fl3 (.inr s) (otS T (kh K 0) (wlo pl 7) (.inr s)) = _
      rw [h]; rfl
    refine Wp.n (pc' := 100) 1 rfl ?_
    refine Wp.ecallV (len := 3) rfl rfl rfl (rfl) rfl (by decide) rfl (m_isGood l0) ?_
    refine Wp.ifb0 (tgt := 218) (len := 3) rfl (fun h103 => ?_) (fun h103 => ?_)
    · cases h103
    · skip
      refine Wp.n (pc' := 107) 1 rfl ?_
      refine Wp.ifb0 (tgt := 218) (len := 3) rfl (fun h107 => ?_) (fun h107 => ?_)
      · cases h107
      · skip
        refine Wp.n (pc' := 114) 2 rfl ?_
        refine Wp.top h10 ?_
        refine Wp.n (pc' := 120) 4 rfl ?_
        refine Wp.iaddN (x := 11 * (40 + kh K 4)) (y := 3) (len := 1) rfl ?_
        refine Wp.n (pc' := 122) 1 rfl ?_
        refine Wp.iaddN (x := (11 * (40 + kh K 4)) + 3) (y := 7) (len := 1) rfl ?_
        refine Wp.mialdN (j := ((11 * (40 + kh K 4)) + 3) + 7) (len := 1) rfl rfl rfl (by omega) ?_
        refine Wp.top hp6 ?_
        refine Wp.nc0 (x := r) (y := pl 6) (tgt := 131) (len := 3) rfl (by omega) (by omega) (fun h124 => ?_) (fun h124 => ?_)
        · skip
          refine Wp.n (pc' := 137) 4 rfl ?_
          refine Wp.nc1 (x := 7) (y := 7) (tgt := 170) (len := 3) rfl (by omega) (by omega) (fun h137 => ?_) (fun h137 => ?_)
          · omega
          · skip
            refine Wp.n (pc' := 144) 2 rfl ?_
            refine Wp.top hL.2.1 ?_
            refine Wp.n (pc' := 145) 1 rfl ?_
            refine Wp.nc1 (x := tk T s) (y := 2) (tgt := 170) (len := 3) rfl (by omega) (by omega) (fun h145 => ?_) (fun h145 => ?_)
            · skip
              first
                | (have l1' := l1
                   exact m_walk_f (w := true) hT A1 l1 (fun τ2 f2 l2 => by
                    have eo : otS T (kh K 0) (wlo pl 7) (.inr s) = .inr (nx T s) := (if_pos (by omega)).trans (if_pos ⟨by omega, decide_eq_true (fun e => by have : vl T s = pl 6 := e; omega)⟩)
                    have ew : (wlk T (kh K 0) 0 pl 7 (.inr s)).1 = .inl (3, s) := by
                      show fl3 (.inr s) (otS T (kh K 0) (wlo pl 7) (.inr s)) = _
                      rw [eo]; rfl
                    exact ⟨rfl, τ2, rfl, f2, by rw [ew]; exact l2, fun q => by rw [ew] at q; cases q⟩))
                | (have q0 : r ≠ pl 6 := h124
                   exact m_walk_o (is := true) (f := wlo pl 7) hT hB ok hP A0 l0 (fun r' e1 e2 => by
                    have : r' = r := (nI_eq (by omega) (by omega)).mp (e1.symm.trans h10)
                    subst this
                    exact (decide_eq_true h124).symm) (fun z τ' e f l => ⟨rfl, τ', rfl, f, by rw [eb z e]; exact l, fun q => by rw [eb z e] at q; cases q⟩) (fun s' τ' e _ _ => absurd (m_walk_c (j := 6) e rfl) (by omega)))
                | (have q0 : r = pl 6 := h124
                   exact m_walk_o (is := false) (f := wlo pl 7) hT hB ok hP A0 l0 (fun r' e1 e2 => by
                    have : r' = r := (nI_eq (by omega) (by omega)).mp (e1.symm.trans h10)
                    subst this
                    exact (decide_eq_false (fun e => e h124)).symm) (fun z τ' e f l => ⟨rfl, τ', rfl, f, by rw [eb z e]; exact l, fun q => by rw [eb z e] at q; cases q⟩) (fun s' τ' e _ _ => absurd (m_walk_c (j := 6) e rfl) (by omega)))
            · skip
              refine Wp.n (pc' := 152) 2 rfl ?_
              refine Wp.top h10 ?_
              refine Wp.n (pc' := 154) 2 rfl ?_
              refine Wp.ecallV (len := 3) rfl rfl rfl (rfl) rfl (by decide) rfl (m_hasRead (k := 0) (by decide)) ?_
              refine Wp.top (A0.h (j := 0) (by decide) hB (by decide)) ?_
              refine Wp.nc3 (x := r) (y := kh K 0) (tgt := 170) (len := 3) rfl (by omega) (by omega) (fun h157 => ?_) (fun h157 => ?_)
              · skip
                first
                  | (have l1' := l1
                     exact m_walk_f (w := true) hT A1 l1 (fun τ2 f2 l2 => by
                      have eo : otS T (kh K 0) (wlo pl 7) (.inr s) = .inr (nx T s) := (if_pos (by omega)).trans (if_pos ⟨by omega, decide_eq_true (fun e => by have : vl T s = pl 6 := e; omega)⟩)
                      have ew : (wlk T (kh K 0) 0 pl 7 (.inr s)).1 = .inl (3, s) := by
                        show fl3 (.inr s) (otS T (kh K 0) (wlo pl 7) (.inr s)) = _
                        rw [eo]; rfl
                      exact ⟨rfl, τ2, rfl, f2, by rw [ew]; exact l2, fun q => by rw [ew] at q; cases q⟩))
                  | (have q0 : r ≠ pl 6 := h124
                     exact m_walk_o (is := true) (f := wlo pl 7) hT hB ok hP A0 l0 (fun r' e1 e2 => by
                      have : r' = r := (nI_eq (by omega) (by omega)).mp (e1.symm.trans h10)
                      subst this
                      exact (decide_eq_true h124).symm) (fun z τ' e f l => ⟨rfl, τ', rfl, f, by rw [eb z e]; exact l, fun q => by rw [eb z e] at q; cases q⟩) (fun s' τ' e _ _ => absurd (m_walk_c (j := 6) e rfl) (by omega)))
                  | (have q0 : r = pl 6 := h124
                     exact m_walk_o (is := false) (f := wlo pl 7) hT hB ok hP A0 l0 (fun r' e1 e2 => by
                      have : r' = r := (nI_eq (by omega) (by omega)).mp (e1.symm.trans h10)
                      subst this
                      exact (decide_eq_false (fun e => e h124)).symm) (fun z τ' e f l => ⟨rfl, τ', rfl, f, by rw [eb z e]; exact l, fun q => by rw [eb z e] at q; cases q⟩) (fun s' τ' e _ _ => absurd (m_walk_c (j := 6) e rfl) (by omega)))
              · skip
                refine Wp.n (pc' := 162) 1 rfl ?_
                refine Wp.nz0 (x := 0) (tgt := 170) (len := 3) rfl (by omega) (fun h162 => ?_) (fun h162 => ?_)
                · skip
                  first
                    | (have l1' := l1
                       exact m_walk_f (w := true) hT A1 l1 (fun τ2 f2 l2 => by
                        have eo : otS T (kh K 0) (wlo pl 7) (.inr s) = .inr (nx T s) := (if_pos (by omega)).trans (if_pos ⟨by omega, decide_eq_true (fun e => by have : vl T s = pl 6 := e; omega)⟩)
                        have ew : (wlk T (kh K 0) 0 pl 7 (.inr s)).1 = .inl (3, s) := by
                          show fl3 (.inr s) (otS T (kh K 0) (wlo pl 7) (.inr s)) = _
                          rw [eo]; rfl
                        exact ⟨rfl, τ2, rfl, f2, by rw [ew]; exact l2, fun q => by rw [ew] at q; cases q⟩))
                    | (have q0 : r ≠ pl 6 := h124
                       exact m_walk_o (is := true) (f := wlo pl 7) hT hB ok hP A0 l0 (fun r' e1 e2 => by
                        have : r' = r := (nI_eq (by omega) (by omega)).mp (e1.symm.trans h10)
                        subst this
                        exact (decide_eq_true h124).symm) (fun z τ' e f l => ⟨rfl, τ', rfl, f, by rw [eb z e]; exact l, fun q => by rw [eb z e] at q; cases q⟩) (fun s' τ' e _ _ => absurd (m_walk_c (j := 6) e rfl) (by omega)))
                    | (have q0 : r = pl 6 := h124
                       exact m_walk_o (is := false) (f := wlo pl 7) hT hB ok hP A0 l0 (fun r' e1 e2 => by
                        have : r' = r := (nI_eq (by omega) (by omega)).mp (e1.symm.trans h10)
                        subst this
                        exact (decide_eq_false (fun e => e h124)).symm) (fun z τ' e f l => ⟨rfl, τ', rfl, f, by rw [eb z e]; exact l, fun q => by rw [eb z e] at q; cases q⟩) (fun s' τ' e _ _ => absurd (m_walk_c (j := 6) e rfl) (by omega)))
                · omega
        · skip
          refine Wp.n (pc' := 137) 5 rfl ?_
          refine Wp.nc1 (x := 7) (y := 7) (tgt := 170) (len := 3) rfl (by omega) (by omega) (fun h137 => ?_) (fun h137 => ?_)
          · omega
          · skip
            refine Wp.n (pc' := 144) 2 rfl ?_
            refine Wp.top hL.2.1 ?_
            refine Wp.n (pc' := 145) 1 rfl ?_
            refine Wp.nc1 (x := tk T s) (y := 2) (tgt := 170) (len := 3) rfl (by omega) (by omega) (fun h145 => ?_) (fun h145 => ?_)
            · skip
              first
                | (have l1' := l1
                   exact m_walk_f (w := true) hT A1 l1 (fun τ2 f2 l2 => by
                    have eo : otS T (kh K 0) (wlo pl 7) (.inr s) = .inr (nx T s) := (if_pos (by omega)).trans (if_pos ⟨by omega, decide_eq_true (fun e => by have : vl T s = pl 6 := e; omega)⟩)
                    have ew : (wlk T (kh K 0) 0 pl 7 (.inr s)).1 = .inl (3, s) := by
                      show fl3 (.inr s) (otS T (kh K 0) (wlo pl 7) (.inr s)) = _
                      rw [eo]; rfl
                    exact ⟨rfl, τ2, rfl, f2, by rw [ew]; exact l2, fun q => by rw [ew] at q; cases q⟩))
                | (have q0 : r ≠ pl 6 := h124
                   exact m_walk_o (is := true) (f := wlo pl 7) hT hB ok hP A0 l0 (fun r' e1 e2 => by
                    have : r' = r := (nI_eq (by omega) (by omega)).mp (e1.symm.trans h10)
                    subst this
                    exact (decide_eq_true h124).symm) (fun z τ' e f l => ⟨rfl, τ', rfl, f, by rw [eb z e]; exact l, fun q => by rw [eb z e] at q; cases q⟩) (fun s' τ' e _ _ => absurd (m_walk_c (j := 6) e rfl) (by omega)))
                | (have q0 : r = pl 6 := h124
                   exact m_walk_o (is := false) (f := wlo pl 7) hT hB ok hP A0 l0 (fun r' e1 e2 => by
                    have : r' = r := (nI_eq (by omega) (by omega)).mp (e1.symm.trans h10)
                    subst this
                    exact (decide_eq_false (fun e => e h124)).symm) (fun z τ' e f l => ⟨rfl, τ', rfl, f, by rw [eb z e]; exact l, fun q => by rw [eb z e] at q; cases q⟩) (fun s' τ' e _ _ => absurd (m_walk_c (j := 6) e rfl) (by omega)))
            · skip
              refine Wp.n (pc' := 152) 2 rfl ?_
              refine Wp.top h10 ?_
              refine Wp.n (pc' := 154) 2 rfl ?_
              refine Wp.ecallV (len := 3) rfl rfl rfl (rfl) rfl (by decide) rfl (m_hasRead (k := 0) (by decide)) ?_
              refine Wp.top (A0.h (j := 0) (by decide) hB (by decide)) ?_
              refine Wp.nc3 (x := r) (y := kh K 0) (tgt := 170) (len := 3) rfl (by omega) (by omega) (fun h157 => ?_) (fun h157 => ?_)
              · skip
                first
                  | (have l1' := l1
                     exact m_walk_f (w := true) hT A1 l1 (fun τ2 f2 l2 => by
                      have eo : otS T (kh K 0) (wlo pl 7) (.inr s) = .inr (nx T s) := (if_pos (by omega)).trans (if_pos ⟨by omega, decide_eq_true (fun e => by have : vl T s = pl 6 := e; omega)⟩)
                      have ew : (wlk T (kh K 0) 0 pl 7 (.inr s)).1 = .inl (3, s) := by
                        show fl3 (.inr s) (otS T (kh K 0) (wlo pl 7) (.inr s)) = _
                        rw [eo]; rfl
                      exact ⟨rfl, τ2, rfl, f2, by rw [ew]; exact l2, fun q => by rw [ew] at q; cases q⟩))
                  | (have q0 : r ≠ pl 6 := h124
                     exact m_walk_o (is := true) (f := wlo pl 7) hT hB ok hP A0 l0 (fun r' e1 e2 => by
                      have : r' = r := (nI_eq (by omega) (by omega)).mp (e1.symm.trans h10)
                      subst this
                      exact (decide_eq_true h124).symm) (fun z τ' e f l => ⟨rfl, τ', rfl, f, by rw [eb z e]; exact l, fun q => by rw [eb z e] at q; cases q⟩) (fun s' τ' e _ _ => absurd (m_walk_c (j := 6) e rfl) (by omega)))
                  | (have q0 : r = pl 6 := h124
                     exact m_walk_o (is := false) (f := wlo pl 7) hT hB ok hP A0 l0 (fun r' e1 e2 => by
                      have : r' = r := (nI_eq (by omega) (by omega)).mp (e1.symm.trans h10)
                      subst this
                      exact (decide_eq_false (fun e => e h124)).symm) (fun z τ' e f l => ⟨rfl, τ', rfl, f, by rw [eb z e]; exact l, fun q => by rw [eb z e] at q; cases q⟩) (fun s' τ' e _ _ => absurd (m_walk_c (j := 6) e rfl) (by omega)))
              · skip
                refine Wp.n (pc' := 162) 1 rfl ?_
                refine Wp.nz0 (x := 1) (tgt := 170) (len := 3) rfl (by omega) (fun h162 => ?_) (fun h162 => ?_)
                · omega
                · skip
                  refine Wp.n (pc' := 167) 2 rfl ?_
                  refine Wp.callV (len := 3) rfl rfl rfl (rfl) rfl (by decide) rfl (m_fails (A0.tm hT) l0 (k := 3) (by decide)) ?_
                  rintro _ _ ⟨rfl, τ1, rfl, f1, l1⟩
                  have A1 := A0.b f1
                  first
                    | (have l1' := l1
                       exact m_walk_f (w := true) hT A1 l1 (fun τ2 f2 l2 => by
                        have eo : otS T (kh K 0) (wlo pl 7) (.inr s) = .inr (nx T s) := (if_pos (by omega)).trans (if_pos ⟨by omega, decide_eq_true (fun e => by have : vl T s = pl 6 := e; omega)⟩)
                        have ew : (wlk T (kh K 0) 0 pl 7 (.inr s)).1 = .inl (3, s) := by
                          show fl3 (.inr s) (otS T (kh K 0) (wlo pl 7) (.inr s)) = _
                          rw [eo]; rfl
                        exact ⟨rfl, τ2, rfl, f2, by rw [ew]; exact l2, fun q => by rw [ew] at q; cases q⟩))
                    | (have q0 : r ≠ pl 6 := h124
                       exact m_walk_o (is := true) (f := wlo pl 7) hT hB ok hP A0 l0 (fun r' e1 e2 => by
                        have : r' = r := (nI_eq (by omega) (by omega)).mp (e1.symm.trans h10)
                        subst this
                        exact (decide_eq_true h124).symm) (fun z τ' e f l => ⟨rfl, τ', rfl, f, by rw [eb z e]; exact l, fun q => by rw [eb z e] at q; cases q⟩) (fun s' τ' e _ _ => absurd (m_walk_c (j := 6) e rfl) (by omega)))
                    | (have q0 : r = pl 6 := h124
                       exact m_walk_o (is := false) (f := wlo pl 7) hT hB ok hP A0 l0 (fun r' e1 e2 => by
                        have : r' = r := (nI_eq (by omega) (by omega)).mp (e1.symm.trans h10)
                        subst this
                        exact (decide_eq_false (fun e => e h124)).symm) (fun z τ' e f l => ⟨rfl, τ', rfl, f, by rw [eb z e]; exact l, fun q => by rw [eb z e] at q; cases q⟩) (fun s' τ' e _ _ => absurd (m_walk_c (j := 6) e rfl) (by omega)))
  | N + 1, n, pl, g, τ, s, x4, x5, hN, h1, A0, l0, hw, hp, hq7 => by
    have b0 := (ok_h ok).1
    obtain ⟨h12, hL⟩ := id l0
    obtain ⟨r, h10, r1, r2⟩ := hL.2.2.2.1
    have t4 := tk_le (T := T) (s := s)
    have hp6 : τ.2.2.1 11 (11 * (40 + kh K 4) + 3 + n) = nI (pl (n - 1)) := by rw [Nat.add_assoc, A0.2.2.2.2 (3 + n), show 3 + n = 4 + (n - 1) by omega]; exact hp (n - 1) (by omega)
    have hq6 := hq7 (n - 1) (by omega)
    have eb : ∀ z, otS T (kh K 0) (wlo pl n) (.inr s) = .inl z → wlk T (kh K 0) (N + 1) pl n (.inr s) = (.inl z, pl, n) := fun z h => by
      show (match otS T (kh K 0) (wlo pl n) (.inr s) with | .inl x => _ | .inr s' => _) = _
      rw [h]
    have eg : ∀ s', otS T (kh K 0) (wlo pl n) (.inr s) = .inr s' → wlk T (kh K 0) (N + 1) pl n (.inr s) = if tk T s' = 2 then wlk T (kh K 0) N (nup pl n (vl T s)) (n + 1) (.inr s') else (.inr s', nup pl n (vl T s), n + 1) := fun z h => by
      show (match otS T (kh K 0) (wlo pl n) (.inr s) with | .inl x => _ | .inr s' => _) = _
      rw [h]
      rfl
    have kk : ∀ s' τ' (x4 : Option Value), otS T (kh K 0) (wlo pl n) (.inr s) = .inr s' → ArF 11 (11 * (40 + kh K 4)) g σ τ' → LM τ' T (.inr s') → Wp (d + 5) md_179 186 [some (.ref 287), some (.int (nI (11 * (40 + kh K 4)))), some (.int (nI n)), some (.int (bI true)), x4, some (.int (nI (vl T s)))] [] (mset M τ') (RLn M σ T (wlk T (kh K 0) (N + 1) pl n (.inr s)).1 (addW K (wkG w0 w1 w2 (wlk T (kh K 0) (N + 1) pl n (.inr s))))) := by
      intro s' τ' x4 e A1 l1
      have o1 := ot_ok (st := .inr s) (by rw [e]; rfl)
      have o2 : vl T s < kh K 0 := o1.1
      have t4' := tk_le (T := T) (s := s')
      have hpn : ∀ j, j < n + 1 → upd g (3 + (n + 1)) (nI (vl T s)) (4 + j) = nI (nup pl n (vl T s) j) := fun j hj => by
        unfold nup
        by_cases c : j = n
        · rw [if_pos c, c, show 4 + n = 3 + (n + 1) by omega, pk_us]
        · rw [if_neg c, pk_un (by omega)]; exact hp j (by omega)
      have hq8 : ∀ j, j < n + 1 → nup pl n (vl T s) j < 7 := fun j hj => by
        unfold nup
        by_cases c : j = n
        · rw [if_pos c]; omega
        · rw [if_neg c]; exact hq7 j (by omega)
      have hw' : ∀ i, i < 3 → upd g (3 + (n + 1)) (nI (vl T s)) i = g i := fun i hi => pk_un (by omega)
      rw [eg s' e]
      refine Wp.incN (x := n) (len := 3) rfl rfl ?_
      refine Wp.n (pc' := 195) 4 rfl ?_
      refine Wp.iaddN (x := 11 * (40 + kh K 4)) (y := 3) (len := 1) rfl ?_
      refine Wp.n (pc' := 197) 1 rfl ?_
      refine Wp.iaddN (x := (11 * (40 + kh K 4)) + 3) (y := n + 1) (len := 1) rfl ?_
      refine Wp.n (pc' := 200) 1 rfl ?_
      refine Wp.rst (A := 11) (i := 11 * (40 + kh K 4) + 3 + (n + 1)) (j := 3 + (n + 1)) (len := 1) rfl A1 (by omega) rfl rfl (by omega) (by unfold dcl; omega) (fun τ2 A2 e2 j2 => ?_)
      have l2 := LM_e e2 j2 l1
      refine Wp.n (pc' := 205) 2 rfl ?_
      refine Wp.top l2.2.2.1 ?_
      refine Wp.n (pc' := 206) 1 rfl ?_
      refine Wp.nc1 (x := tk T s') (y := 2) (tgt := 213) (len := 3) rfl (by omega) (by omega) (fun h206 => ?_) (fun h206 => ?_)
      · skip
        refine Wp.n (pc' := 99) 3 rfl ?_
        first
          | (rw [if_pos h206]
             exact m_walk_l hT hB ok hP hr N (n + 1) (by omega) (by omega) A2 l2 ⟨(hw' 0 (by decide)).trans hw.1, (hw' 1 (by decide)).trans hw.2.1, (hw' 2 (by decide)).trans hw.2.2⟩ hpn hq8)
          | (rw [if_neg h206]
             refine Wp.n (pc' := 100) 1 rfl ?_
             refine Wp.ecallV (len := 3) rfl rfl rfl (rfl) rfl (by decide) rfl (m_isGood l2) ?_
             refine Wp.ifb0 (c := true) (tgt := 218) (len := 3) rfl (fun h => by cases h) (fun _ => ?_)
             refine Wp.n (pc' := 107) 1 rfl ?_
             refine Wp.ifb0 (c := false) (tgt := 218) (len := 3) rfl (fun _ => ?_) (fun h => by cases h)
             refine m_walk_e hT hB ok hr (n := n + 1) (by omega) A2 l2 (fun _ => ⟨fun j hj => ?_, rfl, fun j hj => by rw [wkG_4]; exact hpn j hj⟩)
             have jj : j = 0 ∨ j = 1 ∨ j = 2 := by omega
             rcases jj with rfl | rfl | rfl
             · exact (hw' 0 (by decide)).trans hw.1
             · exact (hw' 1 (by decide)).trans hw.2.1
             · exact (hw' 2 (by decide)).trans hw.2.2)
      · skip
        refine Wp.n (pc' := 99) 4 rfl ?_
        first
          | (rw [if_pos h206]
             exact m_walk_l hT hB ok hP hr N (n + 1) (by omega) (by omega) A2 l2 ⟨(hw' 0 (by decide)).trans hw.1, (hw' 1 (by decide)).trans hw.2.1, (hw' 2 (by decide)).trans hw.2.2⟩ hpn hq8)
          | (rw [if_neg h206]
             refine Wp.n (pc' := 100) 1 rfl ?_
             refine Wp.ecallV (len := 3) rfl rfl rfl (rfl) rfl (by decide) rfl (m_isGood l2) ?_
             refine Wp.ifb0 (c := true) (tgt := 218) (len := 3) rfl (fun h => by cases h) (fun _ => ?_)
             refine Wp.n (pc' := 107) 1 rfl ?_
             refine Wp.ifb0 (c := false) (tgt := 218) (len := 3) rfl (fun _ => ?_) (fun h => by cases h)
             refine m_walk_e hT hB ok hr (n := n + 1) (by omega) A2 l2 (fun _ => ⟨fun j hj => ?_, rfl, fun j hj => by rw [wkG_4]; exact hpn j hj⟩)
             have jj : j = 0 ∨ j = 1 ∨ j = 2 := by omega
             rcases jj with rfl | rfl | rfl
             · exact (hw' 0 (by decide)).trans hw.1
             · exact (hw' 1 (by decide)).trans hw.2.1
             · exact (hw' 2 (by decide)).trans hw.2.2)
    refine Wp.n (pc' := 100) 1 rfl ?_
    refine Wp.ecallV (len := 3) rfl rfl rfl (rfl) rfl (by decide) rfl (m_isGood l0) ?_
    refine Wp.ifb0 (tgt := 218) (len := 3) rfl (fun h103 => ?_) (fun h103 => ?_)
    · cases h103
    · skip
      refine Wp.n (pc' := 107) 1 rfl ?_
      refine Wp.ifb0 (tgt := 218) (len := 3) rfl (fun h107 => ?_) (fun h107 => ?_)
      · cases h107
      · skip
        refine Wp.n (pc' := 114) 2 rfl ?_
        refine Wp.top h10 ?_
        refine Wp.n (pc' := 120) 4 rfl ?_
        refine Wp.iaddN (x := 11 * (40 + kh K 4)) (y := 3) (len := 1) rfl ?_
        refine Wp.n (pc' := 122) 1 rfl ?_
        refine Wp.iaddN (x := (11 * (40 + kh K 4)) + 3) (y := n) (len := 1) rfl ?_
        refine Wp.mialdN (j := ((11 * (40 + kh K 4)) + 3) + n) (len := 1) rfl rfl rfl (by omega) ?_
        refine Wp.top hp6 ?_
        refine Wp.nc0 (x := r) (y := pl (n - 1)) (tgt := 131) (len := 3) rfl (by omega) (by omega) (fun h124 => ?_) (fun h124 => ?_)
        · skip
          refine Wp.n (pc' := 137) 4 rfl ?_
          refine Wp.nc1 (x := n) (y := 7) (tgt := 170) (len := 3) rfl (by omega) (by omega) (fun h137 => ?_) (fun h137 => ?_)
          · skip
            first
              | (have q0 : r ≠ pl (n - 1) := h124
                 exact m_walk_o (is := true) (f := wlo pl n) hT hB ok hP A0 l0 (fun r' e1 e2 => by
                  have : r' = r := (nI_eq (by omega) (by omega)).mp (e1.symm.trans h10)
                  subst this
                  exact (decide_eq_true h124).symm) (fun z τ' e f l => ⟨rfl, τ', rfl, f, by rw [eb z e]; exact l, fun q => by rw [eb z e] at q; cases q⟩) (fun s' τ' e A1 l1 => kk s' τ' _ e A1 l1))
              | (have q0 : r = pl (n - 1) := h124
                 exact m_walk_o (is := false) (f := wlo pl n) hT hB ok hP A0 l0 (fun r' e1 e2 => by
                  have : r' = r := (nI_eq (by omega) (by omega)).mp (e1.symm.trans h10)
                  subst this
                  exact (decide_eq_false (fun e => e h124)).symm) (fun z τ' e f l => ⟨rfl, τ', rfl, f, by rw [eb z e]; exact l, fun q => by rw [eb z e] at q; cases q⟩) (fun s' τ' e A1 l1 => kk s' τ' _ e A1 l1))
          · omega
        · skip
          refine Wp.n (pc' := 137) 5 rfl ?_
          refine Wp.nc1 (x := n) (y := 7) (tgt := 170) (len := 3) rfl (by omega) (by omega) (fun h137 => ?_) (fun h137 => ?_)
          · skip
            first
              | (have q0 : r ≠ pl (n - 1) := h124
                 exact m_walk_o (is := true) (f := wlo pl n) hT hB ok hP A0 l0 (fun r' e1 e2 => by
                  have : r' = r := (nI_eq (by omega) (by omega)).mp (e1.symm.trans h10)
                  subst this
                  exact (decide_eq_true h124).symm) (fun z τ' e f l => ⟨rfl, τ', rfl, f, by rw [eb z e]; exact l, fun q => by rw [eb z e] at q; cases q⟩) (fun s' τ' e A1 l1 => kk s' τ' _ e A1 l1))
              | (have q0 : r = pl (n - 1) := h124
                 exact m_walk_o (is := false) (f := wlo pl n) hT hB ok hP A0 l0 (fun r' e1 e2 => by
                  have : r' = r := (nI_eq (by omega) (by omega)).mp (e1.symm.trans h10)
                  subst this
                  exact (decide_eq_false (fun e => e h124)).symm) (fun z τ' e f l => ⟨rfl, τ', rfl, f, by rw [eb z e]; exact l, fun q => by rw [eb z e] at q; cases q⟩) (fun s' τ' e A1 l1 => kk s' τ' _ e A1 l1))
          · omega
end WKL
end
section
/-! LINES: the walk's line, the first line, laws, floods; the reference. -/
section WKL2
variable {d : Nat} {M : AM} {σ σ' τ τ' : MS} {T : TP} {st : St} {K : KD} {Q : Option Value → AM → Prop} {g : Nat → Int32}
theorem m_walkLine (hT : TM σ T) (hL : LM σ T st) (hB : BM σ K) (ok : KOK K) (hP : 2 ≤ kh K 0) (hD : 1 ≤ kh K 1) (hr : kh K 4 < 10) : Wp (d + 5) md_179 0 [some (.ref 287), none, none, none, none, none] [] (mset M σ) (RLn M σ T (wkr T K st).1 (wkK T K st)) := by
  have b0 := (ok_h ok).1
  have b1 := (ok_h ok).2.1
  have A0 : ArF 11 (11 * (40 + kh K 4)) _ σ σ := ArF.r
  refine Wp.n (pc' := 6) 4 rfl ?_
  refine Wp.ecallV (len := 3) rfl rfl rfl (rfl) rfl (by decide) rfl (m_hasRead (k := 4) (by decide)) ?_
  refine Wp.top (BM_h hB (by decide)) ?_
  refine Wp.iaddN (x := 40) (y := kh K 4) (len := 1) rfl ?_
  refine Wp.imulN (x := 11) (y := 40 + (kh K 4)) (len := 1) rfl ?_
  refine Wp.n (pc' := 20) 7 rfl ?_
  refine Wp.callV (len := 3) rfl rfl rfl (rfl) rfl (by decide) rfl (m_number (lo := 0) (hi := 4) hT hL (fun q => ⟨rfl, rfl, by omega, by omega⟩)) ?_
  rintro _ _ ⟨a, rfl, ha, τ1, rfl, f1, l1⟩
  have A1 := A0.b f1
  refine Wp.rst (A := 11) (i := 11 * (40 + kh K 4)) (j := 0) (len := 1) rfl A1 (by omega) rfl rfl (by omega) (by unfold dcl; omega) (fun τ2 A2 e2 j2 => ?_)
  have l2 := LM_e e2 j2 l1
  refine Wp.n (pc' := 30) 4 rfl ?_
  refine Wp.iaddN (x := 11 * (40 + (kh K 4))) (y := 1) (len := 1) rfl ?_
  refine Wp.n (pc' := 38) 4 rfl ?_
  refine Wp.callV (len := 3) rfl rfl rfl (rfl) rfl (by decide) rfl (m_numberW (h := 247162) (lo := 1) (hi := 9) (A2.tm hT) l2 (by decide) (fun q => ⟨rfl, rfl, by omega, by omega⟩)) ?_
  rintro _ _ ⟨b, rfl, hb, τ3, rfl, f3, l3⟩
  have A3 := A2.b f3
  refine Wp.rst (A := 11) (i := 11 * (40 + kh K 4) + 1) (j := 1) (len := 1) rfl A3 (by omega) rfl rfl (by omega) (by unfold dcl; omega) (fun τ4 A4 e4 j4 => ?_)
  have l4 := LM_e e4 j4 l3
  refine Wp.n (pc' := 48) 4 rfl ?_
  refine Wp.iaddN (x := 11 * (40 + (kh K 4))) (y := 2) (len := 1) rfl ?_
  refine Wp.n (pc' := 56) 5 rfl ?_
  refine Wp.ecallV (len := 3) rfl rfl rfl (rfl) rfl (by decide) rfl (m_hasRead (k := 1) (by decide)) ?_
  refine Wp.top (A4.h (j := 1) (by decide) hB (by decide)) ?_
  refine Wp.n (pc' := 60) 1 rfl ?_
  refine Wp.isubN (x := kh K 1) (y := 1) (len := 1) rfl (by omega) ?_
  refine Wp.callV (len := 3) rfl rfl rfl (rfl) rfl (by decide) rfl (m_numberW (h := 419) (lo := 0) (hi := kh K 1 - 1) (A4.tm hT) l4 (by decide) (fun q => ⟨rfl, rfl, by omega, by omega⟩)) ?_
  rintro _ _ ⟨c, rfl, hc, τ5, rfl, f5, l5⟩
  have A5 := A4.b f5
  refine Wp.rst (A := 11) (i := 11 * (40 + kh K 4) + 2) (j := 2) (len := 1) rfl A5 (by omega) rfl rfl (by omega) (by unfold dcl; omega) (fun τ6 A6 e6 j6 => ?_)
  have l6 := LM_e e6 j6 l5
  refine Wp.n (pc' := 71) 4 rfl ?_
  refine Wp.iaddN (x := 11 * (40 + (kh K 4))) (y := 4) (len := 1) rfl ?_
  refine Wp.n (pc' := 79) 5 rfl ?_
  refine Wp.ecallV (len := 3) rfl rfl rfl (rfl) rfl (by decide) rfl (m_hasRead (k := 0) (by decide)) ?_
  refine Wp.top (A6.h (j := 0) (by decide) hB (by decide)) ?_
  refine Wp.n (pc' := 83) 1 rfl ?_
  refine Wp.isubN (x := kh K 0) (y := 1) (len := 1) rfl (by omega) ?_
  refine Wp.callV (len := 3) rfl rfl rfl (rfl) rfl (by decide) rfl (m_numberW (h := 131638) (lo := 0) (hi := kh K 0 - 1) (A6.tm hT) l6 (by decide) (fun q => ⟨rfl, rfl, by omega, by omega⟩)) ?_
  rintro _ _ ⟨x, rfl, hx, τ7, rfl, f7, l7⟩
  have A7 := A6.b f7
  refine Wp.rst (A := 11) (i := 11 * (40 + kh K 4) + 4) (j := 4) (len := 1) rfl A7 (by omega) rfl rfl (by omega) (by unfold dcl; omega) (fun τ8 A8 e8 j8 => ?_)
  have l8 := LM_e e8 j8 l7
  refine Wp.n (pc' := 92) 2 rfl ?_
  refine Wp.callV (len := 3) rfl rfl rfl (rfl) rfl (by decide) rfl (m_asks (h := 79) (A8.tm hT) l8 (by decide)) ?_
  rintro _ _ ⟨rfl, τ9, rfl, f9, l9⟩
  have A9 := A8.b f9
  change LM τ9 T (wk5 T K st) at l9
  refine Wp.n (pc' := 99) 4 rfl ?_
  rcases hq : wk5 T K st with z | s
  · have ew : wkr T K st = (.inl z, fun _ => nmV T (wkc T K st), 1) := by unfold wkr; rw [hq]; rfl
    rw [hq] at l9
    refine Wp.n (pc' := 100) 1 rfl ?_
    refine Wp.ecallV (len := 3) rfl rfl rfl (rfl) rfl (by decide) rfl (m_isGood l9) ?_
    refine Wp.ifb0 (c := false) (tgt := 218) (len := 3) rfl (fun _ => ?_) (fun h => by cases h)
    have w := m_walk_e (d := d) (M := M) (n := 1) (m := some (.int 1)) (x4 := none) (x5 := none) hT hB ok hr (by decide) A9 l9 (G := wkG (nmV T st) (nmV T (wka T st)) (nmV T (wkb T st)) (wkr T K st)) (fun q => by cases q)
    unfold wkK
    rw [show (wkr T K st).1 = .inl z by rw [ew]]
    exact w
  · rw [hq] at l9
    have g5 : gd (wk5 T K st) = true := by rw [hq]; rfl
    have g4 : gd (wk4 T K st) = true := gd_wd g5
    have g3 : gd (wk3 T K st) = true := gd_wd (gd_nm g4)
    have g2 : gd (wk2 T st) = true := gd_wd (gd_nm g3)
    have g1 : gd (wk1 T st) = true := gd_wd (gd_nm g2)
    obtain rfl := ha g1
    obtain rfl := hb g2
    obtain rfl := hc g3
    obtain rfl := hx g4
    have h7 : 0 ≤ nmV T (wkc T K st) ∧ nmV T (wkc T K st) ≤ kh K 0 - 1 := nm_le g4
    have ew : wkr T K st = wlk T (kh K 0) 6 (fun _ => nmV T (wkc T K st)) 1 (.inr s) := by unfold wkr; rw [hq]
    unfold wkK
    rw [ew]
    refine m_walk_l hT hB ok hP hr 6 1 (by decide) (by decide) A9 l9 ⟨rfl, rfl, rfl⟩ (fun j hj => ?_) (fun j hj => by omega)
    obtain rfl : j = 0 := by omega
    rfl
theorem isW_x {s a b : Nat} (h : isW T s a = true) (hab : a ≠ b) : isW T s b = false := by
  have h1 := of_decide_eq_true h
  exact decide_eq_false (fun q => hab (h1.2.2.symm.trans q.2.2))
/-- which law is told -/
def lwk (T : TP) (s : Nat) : Nat := if isW T s 284068024 = true then 0 else if isW T s 131360 = true then 1 else if isW T s 247162 = true then 2 else if isW T s 6559778 = true then 3 else 4
def lawS (T : TP) : St → St
  | .inl x => .inl x
  | .inr s => if lwk T s < 4 then .inr (nx T s) else .inl (1, s)
def lwm (k : Nat) : Nat := if k < 2 then 3 else 4
def lwv (k : Nat) : Nat := if k = 0 ∨ k = 2 then 1 else 0
def lawH (K : KD) (k : Nat) : KD := (fun i => if i = 6 + lwm k then lwv k else kh K i, K.2)
def lwq (T : TP) : St → Nat
  | .inl _ => 0
  | .inr s => lwk T s
theorem BM_lw (hB : BM σ K) {k : Nat} (e : ∀ i, i ≠ 7 → τ.2.2.1 i = σ.2.2.1 i) (el : τ.2.2.2 = σ.2.2.2) (e7 : τ.2.2.1 7 = upd (σ.2.2.1 7) (20 + lwm k) (nI (lwv k))) : BM τ (lawH K k) := by
  obtain ⟨⟨h1, h2, h3, h4, h5, h6, h7⟩, hl, h11⟩ := hB
  have hm : lwm k = 3 ∨ lwm k = 4 := by unfold lwm; split <;> simp
  have ek : ∀ j, j ≠ 6 + lwm k → kh (lawH K k) j = kh K j := fun j hj => if_neg hj
  have en : kh (lawH K k) (6 + lwm k) = lwv k := if_pos rfl
  have hl' : ∀ j, j < 5 → τ.2.2.1 7 (20 + j) = nI (kh (lawH K k) (6 + j)) := fun j hj => by
    rw [e7]
    by_cases q : j = lwm k
    · rw [q, pk_us, en]
    · rw [pk_un (by omega), ek (6 + j) (by omega)]; exact hl j hj
  refine ⟨⟨fun j hj => ?_, fun _ => hl', ?_, ?_, ?_, ?_, ?_⟩, hl', (ek 11 (by omega)).trans h11⟩
  · rw [e 6 (by decide), ek j (by omega)]; exact h1 j hj
  · rw [e 5 (by decide), ek 5 (by omega)]; exact h3
  · rw [el, ek 12 (by omega)]; exact h4
  · rw [e 9 (by decide), ek 2 (by omega)]; exact h5
  · rw [e 10 (by decide), ek 3 (by omega), ek 11 (by omega)]; exact h6
  · rw [e 11 (by decide), ek 4 (by omega)]; exact h7
theorem m_law_2 (hT : TM σ T) {s k : Nat} (hL : LM σ T (.inr s)) (hB : BM σ K) (hk : k < 4) (ek : lwk T s = k) : Wp (d + 5) md_181 57 [some (.ref 287), none] [.int (nI k)] (mset M σ) (RLn M σ T (lawS T (.inr s)) (lawH K (lwk T s))) := by
  obtain ⟨h12, hN⟩ := id hL
  have es : lawS T (.inr s) = .inr (nx T s) := if_pos (by omega)
  rw [es, ek]
  refine Wp.n (pc' := 60) 3 rfl ?_
  refine Wp.ic1 (tgt := 68) (len := 3) rfl (fun h60 => ?_) (fun h60 => ?_)
  · skip
    refine Wp.n (pc' := 72) 2 rfl ?_
    refine Wp.top h12 ?_
    refine Wp.nz0 (x := 0) (tgt := 76) (len := 3) rfl (by omega) (fun h72 => ?_) (fun h72 => ?_)
    · skip
      refine Wp.n (pc' := 77) 1 rfl ?_
      refine Wp.callV (len := 3) rfl rfl rfl (rfl) rfl (by decide) rfl (LN_n hT h12 hN) ?_
      rintro _ _ ⟨rfl, τ, rfl, f, hτ⟩
      refine Wp.n (pc' := 88) 5 rfl ?_
      refine Wp.nc3 (x := k) (y := 2) (tgt := 95) (len := 3) rfl (by omega) (by omega) (fun h88 => ?_) (fun h88 => ?_)
      · skip
        refine Wp.n (pc' := 96) 1 rfl ?_
        refine Wp.iaddN (x := 20) (y := 4) (len := 1) rfl ?_
        refine Wp.n (pc' := 98) 1 rfl ?_
        refine Wp.nz0 (x := k) (tgt := 106) (len := 3) rfl (by omega) (fun h98 => ?_) (fun h98 => ?_)
        · skip
          refine Wp.n (pc' := 111) 2 rfl ?_
          refine Wp.miastN (j := 20 + 4) (len := 1) rfl rfl rfl (by omega) ?_
          refine Wp.retV (len := 1) rfl rfl ?_
          first
            | (exfalso; omega)
            | (refine ⟨rfl, _, rfl, f.k.t (FrK.a (by unfold dcl; omega)), LM_a (st := .inr (nx T s)) hτ, fun _ => BM_lw hB (fun i hi => ?_) ?_ ?_⟩
               · show va_up τ.2.2.1 7 _ i = _
                 rw [va_up_ne _ _ hi, f.2]
               · show τ.2.2.2 = _
                 rw [f.2]
               · show upd (τ.2.2.1 7) _ _ = _
                 rw [f.2]
                 unfold lwm lwv
                 first
                   | rw [if_pos (show k < 2 by omega), if_pos (show k = 0 ∨ k = 2 by omega)]
                   | rw [if_pos (show k < 2 by omega), if_neg (show ¬ (k = 0 ∨ k = 2) by omega)]
                   | rw [if_neg (show ¬ k < 2 by omega), if_pos (show k = 0 ∨ k = 2 by omega)]
                   | rw [if_neg (show ¬ k < 2 by omega), if_neg (show ¬ (k = 0 ∨ k = 2) by omega)]
                   | omega
                 first | rfl | skip)
        · skip
          refine Wp.n (pc' := 103) 2 rfl ?_
          refine Wp.nc1 (x := k) (y := 2) (tgt := 110) (len := 3) rfl (by omega) (by omega) (fun h103 => ?_) (fun h103 => ?_)
          · skip
            refine Wp.n (pc' := 111) 1 rfl ?_
            refine Wp.miastN (j := 20 + 4) (len := 1) rfl rfl rfl (by omega) ?_
            refine Wp.retV (len := 1) rfl rfl ?_
            first
              | (exfalso; omega)
              | (refine ⟨rfl, _, rfl, f.k.t (FrK.a (by unfold dcl; omega)), LM_a (st := .inr (nx T s)) hτ, fun _ => BM_lw hB (fun i hi => ?_) ?_ ?_⟩
                 · show va_up τ.2.2.1 7 _ i = _
                   rw [va_up_ne _ _ hi, f.2]
                 · show τ.2.2.2 = _
                   rw [f.2]
                 · show upd (τ.2.2.1 7) _ _ = _
                   rw [f.2]
                   unfold lwm lwv
                   first
                     | rw [if_pos (show k < 2 by omega), if_pos (show k = 0 ∨ k = 2 by omega)]
                     | rw [if_pos (show k < 2 by omega), if_neg (show ¬ (k = 0 ∨ k = 2) by omega)]
                     | rw [if_neg (show ¬ k < 2 by omega), if_pos (show k = 0 ∨ k = 2 by omega)]
                     | rw [if_neg (show ¬ k < 2 by omega), if_neg (show ¬ (k = 0 ∨ k = 2) by omega)]
                     | omega
                   first | rfl | skip)
          · skip
            refine Wp.n (pc' := 111) 2 rfl ?_
            refine Wp.miastN (j := 20 + 4) (len := 1) rfl rfl rfl (by omega) ?_
            refine Wp.retV (len := 1) rfl rfl ?_
            first
              | (exfalso; omega)
              | (refine ⟨rfl, _, rfl, f.k.t (FrK.a (by unfold dcl; omega)), LM_a (st := .inr (nx T s)) hτ, fun _ => BM_lw hB (fun i hi => ?_) ?_ ?_⟩
                 · show va_up τ.2.2.1 7 _ i = _
                   rw [va_up_ne _ _ hi, f.2]
                 · show τ.2.2.2 = _
                   rw [f.2]
                 · show upd (τ.2.2.1 7) _ _ = _
                   rw [f.2]
                   unfold lwm lwv
                   first
                     | rw [if_pos (show k < 2 by omega), if_pos (show k = 0 ∨ k = 2 by omega)]
                     | rw [if_pos (show k < 2 by omega), if_neg (show ¬ (k = 0 ∨ k = 2) by omega)]
                     | rw [if_neg (show ¬ k < 2 by omega), if_pos (show k = 0 ∨ k = 2 by omega)]
                     | rw [if_neg (show ¬ k < 2 by omega), if_neg (show ¬ (k = 0 ∨ k = 2) by omega)]
                     | omega
                   first | rfl | skip)
      · skip
        refine Wp.n (pc' := 96) 2 rfl ?_
        refine Wp.iaddN (x := 20) (y := 3) (len := 1) rfl ?_
        refine Wp.n (pc' := 98) 1 rfl ?_
        refine Wp.nz0 (x := k) (tgt := 106) (len := 3) rfl (by omega) (fun h98 => ?_) (fun h98 => ?_)
        · skip
          refine Wp.n (pc' := 111) 2 rfl ?_
          refine Wp.miastN (j := 20 + 3) (len := 1) rfl rfl rfl (by omega) ?_
          refine Wp.retV (len := 1) rfl rfl ?_
          first
            | (exfalso; omega)
            | (refine ⟨rfl, _, rfl, f.k.t (FrK.a (by unfold dcl; omega)), LM_a (st := .inr (nx T s)) hτ, fun _ => BM_lw hB (fun i hi => ?_) ?_ ?_⟩
               · show va_up τ.2.2.1 7 _ i = _
                 rw [va_up_ne _ _ hi, f.2]
               · show τ.2.2.2 = _
                 rw [f.2]
               · show upd (τ.2.2.1 7) _ _ = _
                 rw [f.2]
                 unfold lwm lwv
                 first
                   | rw [if_pos (show k < 2 by omega), if_pos (show k = 0 ∨ k = 2 by omega)]
                   | rw [if_pos (show k < 2 by omega), if_neg (show ¬ (k = 0 ∨ k = 2) by omega)]
                   | rw [if_neg (show ¬ k < 2 by omega), if_pos (show k = 0 ∨ k = 2 by omega)]
                   | rw [if_neg (show ¬ k < 2 by omega), if_neg (show ¬ (k = 0 ∨ k = 2) by omega)]
                   | omega
                 first | rfl | skip)
        · skip
          refine Wp.n (pc' := 103) 2 rfl ?_
          refine Wp.nc1 (x := k) (y := 2) (tgt := 110) (len := 3) rfl (by omega) (by omega) (fun h103 => ?_) (fun h103 => ?_)
          · skip
            refine Wp.n (pc' := 111) 1 rfl ?_
            refine Wp.miastN (j := 20 + 3) (len := 1) rfl rfl rfl (by omega) ?_
            refine Wp.retV (len := 1) rfl rfl ?_
            first
              | (exfalso; omega)
              | (refine ⟨rfl, _, rfl, f.k.t (FrK.a (by unfold dcl; omega)), LM_a (st := .inr (nx T s)) hτ, fun _ => BM_lw hB (fun i hi => ?_) ?_ ?_⟩
                 · show va_up τ.2.2.1 7 _ i = _
                   rw [va_up_ne _ _ hi, f.2]
                 · show τ.2.2.2 = _
                   rw [f.2]
                 · show upd (τ.2.2.1 7) _ _ = _
                   rw [f.2]
                   unfold lwm lwv
                   first
                     | rw [if_pos (show k < 2 by omega), if_pos (show k = 0 ∨ k = 2 by omega)]
                     | rw [if_pos (show k < 2 by omega), if_neg (show ¬ (k = 0 ∨ k = 2) by omega)]
                     | rw [if_neg (show ¬ k < 2 by omega), if_pos (show k = 0 ∨ k = 2 by omega)]
                     | rw [if_neg (show ¬ k < 2 by omega), if_neg (show ¬ (k = 0 ∨ k = 2) by omega)]
                     | omega
                   first | rfl | skip)
          · skip
            refine Wp.n (pc' := 111) 2 rfl ?_
            refine Wp.miastN (j := 20 + 3) (len := 1) rfl rfl rfl (by omega) ?_
            refine Wp.retV (len := 1) rfl rfl ?_
            first
              | (exfalso; omega)
              | (refine ⟨rfl, _, rfl, f.k.t (FrK.a (by unfold dcl; omega)), LM_a (st := .inr (nx T s)) hτ, fun _ => BM_lw hB (fun i hi => ?_) ?_ ?_⟩
                 · show va_up τ.2.2.1 7 _ i = _
                   rw [va_up_ne _ _ hi, f.2]
                 · show τ.2.2.2 = _
                   rw [f.2]
                 · show upd (τ.2.2.1 7) _ _ = _
                   rw [f.2]
                   unfold lwm lwv
                   first
                     | rw [if_pos (show k < 2 by omega), if_pos (show k = 0 ∨ k = 2 by omega)]
                     | rw [if_pos (show k < 2 by omega), if_neg (show ¬ (k = 0 ∨ k = 2) by omega)]
                     | rw [if_neg (show ¬ k < 2 by omega), if_pos (show k = 0 ∨ k = 2 by omega)]
                     | rw [if_neg (show ¬ k < 2 by omega), if_neg (show ¬ (k = 0 ∨ k = 2) by omega)]
                     | omega
                   first | rfl | skip)
    · omega
  · exact absurd h60 (oI_ne (by omega))
theorem m_law_3 (hT : TM σ T) {s : Nat} (hL : LM σ T (.inr s)) (ek : lwk T s = 4) : Wp (d + 5) md_181 57 [some (.ref 287), none] [.int (-1)] (mset M σ) (RLn M σ T (lawS T (.inr s)) (lawH K (lwk T s))) := by
  have es : lawS T (.inr s) = .inl (1, s) := if_neg (by omega)
  rw [es]
  refine Wp.n (pc' := 60) 3 rfl ?_
  refine Wp.ic1 (tgt := 68) (len := 3) rfl (fun h60 => ?_) (fun h60 => ?_)
  · exact absurd rfl h60
  · skip
    refine Wp.n (pc' := 65) 2 rfl ?_
    refine Wp.callV (len := 3) rfl rfl rfl (rfl) rfl (by decide) rfl (m_fails hT hL (k := 1) (by decide)) ?_
    rintro _ _ ⟨rfl, τ, rfl, f, hτ⟩
    change LM τ T (.inl (1, s)) at hτ
    refine Wp.n (pc' := 72) 2 rfl ?_
    refine Wp.top hτ.1 ?_
    refine Wp.nz0 (x := 1) (tgt := 76) (len := 3) rfl (by omega) (fun h72 => ?_) (fun h72 => ?_)
    · omega
    · skip
      refine Wp.retV (len := 1) rfl rfl ?_
      exact ⟨rfl, τ, rfl, f.k, hτ, fun q => by cases q⟩
theorem m_lawLine (hT : TM σ T) {s : Nat} (hL : LM σ T (.inr s)) (hB : BM σ K) : Wp (d + 5) md_181 0 [some (.ref 287), none] [] (mset M σ) (RLn M σ T (lawS T (.inr s)) (lawH K (lwk T s))) := by
  refine Wp.n (pc' := 4) 2 rfl ?_
  refine Wp.ecallV (len := 3) rfl rfl rfl (rfl) rfl (by decide) rfl (m_is (h := 284068024) hL (by decide)) ?_
  refine Wp.ifb0 (tgt := 14) (len := 3) rfl (fun h7 => ?_) (fun h7 => ?_)
  · have n7 : ¬ isW T s 284068024 = true := fun q => by rw [show isW T s 284068024 = false from h7] at q; cases q
    refine Wp.n (pc' := 18) 2 rfl ?_
    refine Wp.ecallV (len := 3) rfl rfl rfl (rfl) rfl (by decide) rfl (m_is (h := 131360) hL (by decide)) ?_
    refine Wp.ifb0 (tgt := 28) (len := 3) rfl (fun h21 => ?_) (fun h21 => ?_)
    · have n21 : ¬ isW T s 131360 = true := fun q => by rw [show isW T s 131360 = false from h21] at q; cases q
      refine Wp.n (pc' := 32) 2 rfl ?_
      refine Wp.ecallV (len := 3) rfl rfl rfl (rfl) rfl (by decide) rfl (m_is (h := 247162) hL (by decide)) ?_
      refine Wp.ifb0 (tgt := 42) (len := 3) rfl (fun h35 => ?_) (fun h35 => ?_)
      · have n35 : ¬ isW T s 247162 = true := fun q => by rw [show isW T s 247162 = false from h35] at q; cases q
        refine Wp.n (pc' := 46) 2 rfl ?_
        refine Wp.ecallV (len := 3) rfl rfl rfl (rfl) rfl (by decide) rfl (m_is (h := 6559778) hL (by decide)) ?_
        refine Wp.ifb0 (tgt := 56) (len := 3) rfl (fun h49 => ?_) (fun h49 => ?_)
        · have n49 : ¬ isW T s 6559778 = true := fun q => by rw [show isW T s 6559778 = false from h49] at q; cases q
          refine Wp.n (pc' := 57) 1 rfl ?_
          first
            | exact m_law_3 hT hL (by unfold lwk; rw [if_neg n7, if_neg n21, if_neg n35, if_neg n49])
            | exact m_law_2 (k := 3) hT hL hB (by decide) (by unfold lwk; rw [if_neg n7, if_neg n21, if_neg n35, if_pos p49])
            | exact m_law_2 (k := 2) hT hL hB (by decide) (by unfold lwk; rw [if_neg n7, if_neg n21, if_pos p35])
            | exact m_law_2 (k := 1) hT hL hB (by decide) (by unfold lwk; rw [if_neg n7, if_pos p21])
            | exact m_law_2 (k := 0) hT hL hB (by decide) (by unfold lwk; rw [if_pos p7])
        · have p49 : isW T s 6559778 = true := h49
          refine Wp.n (pc' := 57) 2 rfl ?_
          first
            | exact m_law_3 hT hL (by unfold lwk; rw [if_neg n7, if_neg n21, if_neg n35, if_neg n49])
            | exact m_law_2 (k := 3) hT hL hB (by decide) (by unfold lwk; rw [if_neg n7, if_neg n21, if_neg n35, if_pos p49])
            | exact m_law_2 (k := 2) hT hL hB (by decide) (by unfold lwk; rw [if_neg n7, if_neg n21, if_pos p35])
            | exact m_law_2 (k := 1) hT hL hB (by decide) (by unfold lwk; rw [if_neg n7, if_pos p21])
            | exact m_law_2 (k := 0) hT hL hB (by decide) (by unfold lwk; rw [if_pos p7])
      · have p35 : isW T s 247162 = true := h35
        refine Wp.n (pc' := 57) 2 rfl ?_
        first
          | exact m_law_3 hT hL (by unfold lwk; rw [if_neg n7, if_neg n21, if_neg n35, if_neg n49])
          | exact m_law_2 (k := 3) hT hL hB (by decide) (by unfold lwk; rw [if_neg n7, if_neg n21, if_neg n35, if_pos p49])
          | exact m_law_2 (k := 2) hT hL hB (by decide) (by unfold lwk; rw [if_neg n7, if_neg n21, if_pos p35])
          | exact m_law_2 (k := 1) hT hL hB (by decide) (by unfold lwk; rw [if_neg n7, if_pos p21])
          | exact m_law_2 (k := 0) hT hL hB (by decide) (by unfold lwk; rw [if_pos p7])
    · have p21 : isW T s 131360 = true := h21
      refine Wp.n (pc' := 57) 2 rfl ?_
      first
        | exact m_law_3 hT hL (by unfold lwk; rw [if_neg n7, if_neg n21, if_neg n35, if_neg n49])
        | exact m_law_2 (k := 3) hT hL hB (by decide) (by unfold lwk; rw [if_neg n7, if_neg n21, if_neg n35, if_pos p49])
        | exact m_law_2 (k := 2) hT hL hB (by decide) (by unfold lwk; rw [if_neg n7, if_neg n21, if_pos p35])
        | exact m_law_2 (k := 1) hT hL hB (by decide) (by unfold lwk; rw [if_neg n7, if_pos p21])
        | exact m_law_2 (k := 0) hT hL hB (by decide) (by unfold lwk; rw [if_pos p7])
  · have p7 : isW T s 284068024 = true := h7
    refine Wp.n (pc' := 57) 2 rfl ?_
    first
      | exact m_law_3 hT hL (by unfold lwk; rw [if_neg n7, if_neg n21, if_neg n35, if_neg n49])
      | exact m_law_2 (k := 3) hT hL hB (by decide) (by unfold lwk; rw [if_neg n7, if_neg n21, if_neg n35, if_pos p49])
      | exact m_law_2 (k := 2) hT hL hB (by decide) (by unfold lwk; rw [if_neg n7, if_neg n21, if_pos p35])
      | exact m_law_2 (k := 1) hT hL hB (by decide) (by unfold lwk; rw [if_neg n7, if_pos p21])
      | exact m_law_2 (k := 0) hT hL hB (by decide) (by unfold lwk; rw [if_pos p7])
end WKL2
end
section
/-! LINES: the first, any; the reference. -/
def endS (T : TP) : St → St
  | .inl x => .inl x
  | .inr s => if tk T s = 3 then .inr (nx T s) else .inl (1, s)
def srt (T : TP) (s : Nat) : Nat := if isW T s 365260 = true then 0 else if isW T s 237308 = true then 1 else if isW T s 129523 = true then 2 else if isW T s 50348 = true then 3 else if isW T s 3436186 = true then 4 else if isW T s 453773 = true then 5 else 6
def fd1 (T : TP) (st : St) : St := wdS T 419 st
def fd2 (T : TP) (K : KD) (st : St) : St := nmS T 0 (kh K 1 - 1) (fd1 T st)
def fdK (T : TP) (K : KD) (st : St) : KD := (fun i => if i = 12 then kh K 12 ||| 2 ^ nmV T (fd1 T st) else kh K i, K.2)
def lw1 (T : TP) (st : St) : St := wdS T 8798 st
def linS (T : TP) (K : KD) (s : Nat) : St := if srt T s = 0 then (if kh K 2 = 12 then .inl (3, s) else rd4 T K (.inr (nx T s))) else if srt T s < 4 then (if kh K 3 = 8 then .inl (3, s) else ln7 T K (srt T s - 1) (.inr (nx T s))) else if srt T s = 4 then fd2 T K (.inr (nx T s)) else if srt T s = 5 then (if kh K 4 = 10 then .inl (3, s) else (wkr T K (.inr (nx T s))).1) else lawS T (lw1 T (.inr s))
def linK (T : TP) (K : KD) (s : Nat) : KD := if srt T s = 0 then rdK T K (.inr (nx T s)) else if srt T s < 4 then lnK T K (srt T s - 1) (.inr (nx T s)) else if srt T s = 4 then fdK T K (.inr (nx T s)) else if srt T s = 5 then wkK T K (.inr (nx T s)) else lawH K (lwq T (lw1 T (.inr s)))
theorem lin_1 {T : TP} {K : KD} {s k : Nat} (h : srt T s = k + 1) (hk : k < 3) : linS T K s = (if kh K 3 = 8 then .inl (3, s) else ln7 T K k (.inr (nx T s))) ∧ linK T K s = lnK T K k (.inr (nx T s)) := by
  have e : srt T s - 1 = k := by omega
  refine ⟨?_, ?_⟩
  · unfold linS
    rw [if_neg (show ¬ srt T s = 0 by omega), if_pos (show srt T s < 4 by omega), e]
  · unfold linK
    rw [if_neg (show ¬ srt T s = 0 by omega), if_pos (show srt T s < 4 by omega), e]
theorem lin_4 {T : TP} {K : KD} {s : Nat} (h : srt T s = 4) : linS T K s = fd2 T K (.inr (nx T s)) ∧ linK T K s = fdK T K (.inr (nx T s)) := by
  refine ⟨?_, ?_⟩
  · unfold linS
    rw [if_neg (show ¬ srt T s = 0 by omega), if_neg (show ¬ srt T s < 4 by omega), if_pos h]
  · unfold linK
    rw [if_neg (show ¬ srt T s = 0 by omega), if_neg (show ¬ srt T s < 4 by omega), if_pos h]
theorem lin_5 {T : TP} {K : KD} {s : Nat} (h : srt T s = 5) : linS T K s = (if kh K 4 = 10 then .inl (3, s) else (wkr T K (.inr (nx T s))).1) ∧ linK T K s = wkK T K (.inr (nx T s)) := by
  refine ⟨?_, ?_⟩
  · unfold linS
    rw [if_neg (show ¬ srt T s = 0 by omega), if_neg (show ¬ srt T s < 4 by omega), if_neg (show ¬ srt T s = 4 by omega), if_pos h]
  · unfold linK
    rw [if_neg (show ¬ srt T s = 0 by omega), if_neg (show ¬ srt T s < 4 by omega), if_neg (show ¬ srt T s = 4 by omega), if_pos h]
theorem lin_6 {T : TP} {K : KD} {s : Nat} (h : srt T s = 6) : linS T K s = lawS T (lw1 T (.inr s)) ∧ linK T K s = lawH K (lwq T (lw1 T (.inr s))) := by
  refine ⟨?_, ?_⟩
  · unfold linS
    rw [if_neg (show ¬ srt T s = 0 by omega), if_neg (show ¬ srt T s < 4 by omega), if_neg (show ¬ srt T s = 4 by omega), if_neg (show ¬ srt T s = 5 by omega)]
  · unfold linK
    rw [if_neg (show ¬ srt T s = 0 by omega), if_neg (show ¬ srt T s < 4 by omega), if_neg (show ¬ srt T s = 4 by omega), if_neg (show ¬ srt T s = 5 by omega)]
/-- the first line is being read -/
def ArH (G6 G7 : Nat → Int32) (σ τ : MS) : Prop := FrK σ τ ∧ (∀ i, i ≠ 6 → i ≠ 7 → τ.2.2.1 i = σ.2.2.1 i) ∧ τ.2.2.2 = σ.2.2.2 ∧ τ.2.2.1 6 = G6 ∧ τ.2.2.1 7 = G7
section LNA
variable {d : Nat} {M : AM} {σ σ' τ τ' : MS} {T : TP} {st : St} {K : KD} {Q : Option Value → AM → Prop} {G6 G7 : Nat → Int32}
theorem ArH.r : ArH (σ.2.2.1 6) (σ.2.2.1 7) σ σ := ⟨FrK.r, fun _ _ _ => rfl, rfl, rfl, rfl⟩
theorem ArH.b (h : ArH G6 G7 σ τ) (f : FrB τ τ') : ArH G6 G7 σ τ' := ⟨h.1.t f.k, fun i h6 h7 => by rw [f.2]; exact h.2.1 i h6 h7, by rw [f.2]; exact h.2.2.1, by rw [f.2]; exact h.2.2.2.1, by rw [f.2]; exact h.2.2.2.2⟩
theorem Wp.h6 {X : MD} {pc len i : Nat} {l : AL} {sk : List Value} {x : Int32} (hc : cdx X pc = some (.inr (.inl .iastore), len)) (hA : ArH G6 G7 σ τ) (hi : 20 ≤ i ∧ i < 25) (kk : ∀ τ', ArH (upd G6 i x) G7 σ τ' → τ'.1 = τ.1 → τ'.2.1 = τ.2.1 → Wp d X (pc + len) l sk (mset M τ') Q) : Wp d X pc l (.int x :: .int (nI i) :: .ref 294 :: sk) (mset M τ) Q := by
  refine Wp.miastN (k := 6) (j := i) hc rfl rfl hi.2 ?_
  refine kk _ ⟨hA.1.t (FrK.a (by unfold dcl; omega)), fun q h6 h7 => ?_, hA.2.2.1, ?_, hA.2.2.2.2⟩ rfl rfl
  · show va_up τ.2.2.1 6 _ q = _
    rw [va_up_ne _ _ h6]; exact hA.2.1 q h6 h7
  · rw [aset_get, hA.2.2.2.1]
theorem Wp.h7 {X : MD} {pc len i : Nat} {l : AL} {sk : List Value} {x : Int32} (hc : cdx X pc = some (.inr (.inl .iastore), len)) (hA : ArH G6 G7 σ τ) (hi : 20 ≤ i ∧ i < 25) (kk : ∀ τ', ArH G6 (upd G7 i x) σ τ' → τ'.1 = τ.1 → τ'.2.1 = τ.2.1 → Wp d X (pc + len) l sk (mset M τ') Q) : Wp d X pc l (.int x :: .int (nI i) :: .ref 295 :: sk) (mset M τ) Q := by
  refine Wp.miastN (k := 7) (j := i) hc rfl rfl hi.2 ?_
  refine kk _ ⟨hA.1.t (FrK.a (by unfold dcl; omega)), fun q h6 h7 => ?_, hA.2.2.1, hA.2.2.2.1, ?_⟩ rfl rfl
  · show va_up τ.2.2.1 7 _ q = _
    rw [va_up_ne _ _ h7]; exact hA.2.1 q h6 h7
  · rw [aset_get, hA.2.2.2.2]
theorem m_first (hT : TM σ T) (hL : LM σ T st) (hB : BM σ K0) : Wp (d + 5) md_166 0 [some (.ref 287)] [] (mset M σ) (RLn M σ T (pf6 T st) (firK T st)) := by
  have A0 : ArH _ _ σ σ := ArH.r
  refine Wp.n (pc' := 4) 2 rfl ?_
  refine Wp.callV (len := 3) rfl rfl rfl (rfl) rfl (by decide) rfl (m_asks (h := 4398346831) hT hL (by decide)) ?_
  rintro _ _ ⟨rfl, τ1, rfl, f1, l1⟩
  have A1 := A0.b f1
  refine Wp.n (pc' := 20) 7 rfl ?_
  refine Wp.callV (len := 3) rfl rfl rfl (rfl) rfl (by decide) rfl (m_numberW (h := 235981828) (lo := 2) (hi := 7) (A1.1.T hT) l1 (by decide) (fun q => ⟨rfl, rfl, by omega, by omega⟩)) ?_
  rintro _ _ ⟨a, rfl, ha, τ2, rfl, f2, l2⟩
  have A2 := A1.b f2
  refine Wp.h6 (i := 20) (len := 1) rfl A2 (by decide) (fun τ3 A3 e3 j3 => ?_)
  have l3 := LM_e e3 j3 l2
  refine Wp.n (pc' := 37) 7 rfl ?_
  refine Wp.callV (len := 3) rfl rfl rfl (rfl) rfl (by decide) rfl (m_numberW (h := 80155) (lo := 1) (hi := 30) (A3.1.T hT) l3 (by decide) (fun q => ⟨rfl, rfl, by omega, by omega⟩)) ?_
  rintro _ _ ⟨b, rfl, hb, τ4, rfl, f4, l4⟩
  have A4 := A3.b f4
  refine Wp.h6 (i := 21) (len := 1) rfl A4 (by decide) (fun τ5 A5 e5 j5 => ?_)
  have l5 := LM_e e5 j5 l4
  refine Wp.n (pc' := 54) 7 rfl ?_
  refine Wp.callV (len := 3) rfl rfl rfl (rfl) rfl (by decide) rfl (m_numberW (h := 355568) (lo := 0) (hi := 99) (A5.1.T hT) l5 (by decide) (fun q => ⟨rfl, rfl, by omega, by omega⟩)) ?_
  rintro _ _ ⟨c, rfl, hc, τ6, rfl, f6, l6⟩
  have A6 := A5.b f6
  refine Wp.h7 (i := 20) (len := 1) rfl A6 (by decide) (fun τ7 A7 e7 j7 => ?_)
  have l7 := LM_e e7 j7 l6
  refine Wp.n (pc' := 71) 7 rfl ?_
  refine Wp.callV (len := 3) rfl rfl rfl (rfl) rfl (by decide) rfl (m_numberW (h := 131360) (lo := 0) (hi := 99) (A7.1.T hT) l7 (by decide) (fun q => ⟨rfl, rfl, by omega, by omega⟩)) ?_
  rintro _ _ ⟨x, rfl, hx, τ8, rfl, f8, l8⟩
  have A8 := A7.b f8
  refine Wp.h7 (i := 21) (len := 1) rfl A8 (by decide) (fun τ9 A9 e9 j9 => ?_)
  have l9 := LM_e e9 j9 l8
  refine Wp.n (pc' := 88) 7 rfl ?_
  refine Wp.callV (len := 3) rfl rfl rfl (rfl) rfl (by decide) rfl (m_numberW (h := 400577) (lo := 0) (hi := 99) (A9.1.T hT) l9 (by decide) (fun q => ⟨rfl, rfl, by omega, by omega⟩)) ?_
  rintro _ _ ⟨y, rfl, hy, τ10, rfl, f10, l10⟩
  have A10 := A9.b f10
  refine Wp.h7 (i := 22) (len := 1) rfl A10 (by decide) (fun τ11 A11 e11 j11 => ?_)
  have l11 := LM_e e11 j11 l10
  refine Wp.retV (len := 1) rfl rfl ?_
  refine ⟨rfl, τ11, rfl, A11.1, l11, fun g6 => ?_⟩
  have g5 : gd (pf5 T st) = true := gd_wd (gd_nm g6)
  have g4 : gd (pf4 T st) = true := gd_wd (gd_nm g5)
  have g3 : gd (pf3 T st) = true := gd_wd (gd_nm g4)
  have g2 : gd (pf2 T st) = true := gd_wd (gd_nm g3)
  obtain rfl := ha g2
  obtain rfl := hb g3
  obtain rfl := hc g4
  obtain rfl := hx g5
  obtain rfl := hy g6
  obtain ⟨⟨h1, h2, h3, h4, h5, h6, h7⟩, hl, h11⟩ := hB
  have hl' : ∀ j, j < 5 → τ11.2.2.1 7 (20 + j) = nI (kh (firK T st) (6 + j)) := fun j hj => by
    rw [A11.2.2.2.2]
    have jj : j = 0 ∨ j = 1 ∨ j = 2 ∨ j = 3 ∨ j = 4 := by omega
    rcases jj with rfl | rfl | rfl | rfl | rfl
    · rfl
    · rfl
    · rfl
    · exact hl 3 (by decide)
    · exact hl 4 (by decide)
  refine ⟨⟨fun j hj => ?_, fun _ => hl', ?_, ?_, fun i hi => ?_, fun i hi => ?_, fun i hi => ?_⟩, hl', rfl⟩
  · rw [A11.2.2.2.1]
    have jj : j = 0 ∨ j = 1 ∨ j = 2 ∨ j = 3 ∨ j = 4 := by omega
    rcases jj with rfl | rfl | rfl | rfl | rfl
    · rfl
    · rfl
    · exact h1 2 (by decide)
    · exact h1 3 (by decide)
    · exact h1 4 (by decide)
  · rw [A11.2.1 5 (by decide) (by decide)]; exact h3
  · rw [A11.2.2.1]; exact h4
  · exact absurd hi (Nat.not_lt_zero _)
  · rcases hi with hi | hi
    · exact absurd hi (Nat.not_lt_zero _)
    · exact absurd hi.2 (by show ¬ (0 : Nat) = 1; decide)
  · exact absurd hi (Nat.not_lt_zero _)
theorem m_ends (hT : TM σ T) {s : Nat} (hL : LM σ T (.inr s)) : Wp (d + 2) md_182 0 [some (.ref 287)] [] (mset M σ) (fun v M' => v = none ∧ RdB M σ T (endS T (.inr s)) M') := by
  obtain ⟨h12, hN⟩ := id hL
  have t4 := tk_le (T := T) (s := s)
  by_cases cc : tk T s = 3
  · have e : endS T (.inr s) = .inr (nx T s) := if_pos cc
    refine Wp.n (pc' := 4) 2 rfl ?_
    refine Wp.top hN.2.1 ?_
    refine Wp.n (pc' := 5) 1 rfl ?_
    refine Wp.nc0 (x := tk T s) (y := 3) (tgt := 13) (len := 3) rfl (by omega) (by omega) (fun h5 => ?_) (fun h5 => ?_)
    · skip
      refine Wp.n (pc' := 17) 2 rfl ?_
      refine Wp.top h12 ?_
      refine Wp.nz1 (x := 0) (tgt := 24) (len := 3) rfl (by omega) (fun h17 => ?_) (fun h17 => ?_)
      · omega
      · skip
        refine Wp.n (pc' := 21) 1 rfl ?_
        refine Wp.callV (len := 3) rfl rfl rfl (rfl) rfl (by decide) rfl (LN_n hT h12 hN) ?_
        rintro _ _ ⟨rfl, τ, rfl, f, hτ⟩
        refine Wp.retV (len := 1) rfl rfl ?_
        rw [e]
        exact ⟨rfl, τ, rfl, f, hτ⟩
    · omega
  · skip
    refine Wp.n (pc' := 4) 2 rfl ?_
    refine Wp.top hN.2.1 ?_
    refine Wp.n (pc' := 5) 1 rfl ?_
    refine Wp.nc0 (x := tk T s) (y := 3) (tgt := 13) (len := 3) rfl (by omega) (by omega) (fun h5 => ?_) (fun h5 => ?_)
    · omega
    · skip
      refine Wp.n (pc' := 10) 2 rfl ?_
      refine Wp.callV (len := 3) rfl rfl rfl (rfl) rfl (by decide) rfl (m_fails hT hL (k := 1) (by decide)) ?_
      rintro _ _ ⟨rfl, τ, rfl, f, hτ⟩
      have e : endS T (.inr s) = .inl (1, s) := if_neg h5
      change LM τ T (.inl (1, s)) at hτ
      refine Wp.n (pc' := 17) 2 rfl ?_
      refine Wp.top hτ.1 ?_
      refine Wp.nz1 (x := 1) (tgt := 24) (len := 3) rfl (by omega) (fun h17 => ?_) (fun h17 => ?_)
      · skip
        refine Wp.retV (len := 1) rfl rfl ?_
        rw [e]
        exact ⟨rfl, τ, rfl, f, hτ⟩
      · omega
theorem BM_fd (hB : BM σ K) {x : Nat} (e : τ.2.2.1 = σ.2.2.1) (e8 : τ.2.2.2 8 4 = lN (kh K 12 ||| x)) : BM τ (fun i => if i = 12 then kh K 12 ||| x else kh K i, K.2) := by
  obtain ⟨⟨h1, h2, h3, h4, h5, h6, h7⟩, hl, h11⟩ := hB
  have hl' : ∀ j, j < 5 → τ.2.2.1 7 (20 + j) = nI (if 6 + j = 12 then kh K 12 ||| x else kh K (6 + j)) := fun j hj => by
    rw [e, if_neg (by omega)]; exact hl j hj
  refine ⟨⟨fun j hj => ?_, fun _ => hl', ?_, e8, ?_, ?_, ?_⟩, hl', h11⟩
  · show _ = nI (if j = 12 then _ else kh K j)
    rw [if_neg (by omega), e]; exact h1 j hj
  · rw [e]; exact h3
  · rw [e]; exact h5
  · rw [e]; exact h6
  · rw [e]; exact h7
theorem FrK.l {x : Int64} : FrK σ (lset σ 8 (vp_updL (σ.2.2.2 8) 4 x)) := ⟨fun _ _ => rfl, fun _ _ => rfl, fun k hk => va_up_ne _ _ hk, fun q hq => ⟨by show va_up σ.2.2.2 8 _ 8 q = _; rw [va_up_self]; exact lu_n (by omega), rfl⟩, fun _ _ => ⟨rfl, rfl⟩, fun _ _ => rfl, fun _ _ => rfl, fun _ _ => rfl⟩
theorem LM_l {k : Nat} {g : Nat → Int64} (h : LM σ T st) : LM (lset σ k g) T st := by
  rcases st with x | s
  · exact h
  · exact h
theorem BM_b (hB : BM σ K) (f : FrB σ τ) : BM τ K := by
  unfold BM RepM at *
  rw [f.2]
  exact hB
theorem RLn_b {v : Option Value} {M' : AM} (f : FrB σ τ) (h : RLn M τ T st K v M') : RLn M σ T st K v M' := by
  obtain ⟨rfl, τ', rfl, h1, h2⟩ := h
  exact ⟨rfl, τ', rfl, f.k.t h1, h2⟩
theorem m_line (hT : TM σ T) {s : Nat} (hL : LM σ T (.inr s)) (hB : BM σ K) (ok : KOK K) (hP : 2 ≤ kh K 0) (hD : 1 ≤ kh K 1) : Wp (d + 6) md_173 0 [some (.ref 287), none, none, none, none] [] (mset M σ) (RLn M σ T (linS T K s) (linK T K s)) := by
  obtain ⟨h12, hN⟩ := id hL
  obtain ⟨b0, b1, b2, b3, b4, b5, b6, b7, b8, b9, b10, b11, b12⟩ := ok_h ok
  by_cases c0 : isW T s 365260 = true
  · have w365260 := c0
    have w237308 := isW_x (b := 237308) c0 (by decide)
    have w129523 := isW_x (b := 129523) c0 (by decide)
    have w50348 := isW_x (b := 50348) c0 (by decide)
    have w453773 := isW_x (b := 453773) c0 (by decide)
    have sr : srt T s = 0 := if_pos c0
    unfold linS linK
    rw [if_pos sr, if_pos sr]
    by_cases cc : kh K 2 = 12
    · rw [if_pos cc]
      refine Wp.n (pc' := 4) 2 rfl ?_
      refine Wp.ecallV (len := 3) rfl rfl rfl (rfl) rfl (by decide) rfl ((by have w := m_is (d := d + 5) (M := M) (h := 237308) hL (by decide); rw [show isS T 237308 (.inr s) = false from w237308] at w; exact w)) ?_
      refine Wp.ifb0 (tgt := 14) (len := 3) rfl (fun h7 => ?_) (fun h7 => ?_)
      · skip
        refine Wp.n (pc' := 18) 2 rfl ?_
        refine Wp.ecallV (len := 3) rfl rfl rfl (rfl) rfl (by decide) rfl ((by have w := m_is (d := d + 5) (M := M) (h := 129523) hL (by decide); rw [show isS T 129523 (.inr s) = false from w129523] at w; exact w)) ?_
        refine Wp.ifb0 (tgt := 28) (len := 3) rfl (fun h21 => ?_) (fun h21 => ?_)
        · skip
          refine Wp.n (pc' := 32) 2 rfl ?_
          refine Wp.ecallV (len := 3) rfl rfl rfl (rfl) rfl (by decide) rfl ((by have w := m_is (d := d + 5) (M := M) (h := 50348) hL (by decide); rw [show isS T 50348 (.inr s) = false from w50348] at w; exact w)) ?_
          refine Wp.ifb0 (tgt := 42) (len := 3) rfl (fun h35 => ?_) (fun h35 => ?_)
          · skip
            refine Wp.n (pc' := 48) 4 rfl ?_
            refine Wp.ecallV (len := 3) rfl rfl rfl (rfl) rfl (by decide) rfl ((by have w := m_is (d := d + 5) (M := M) (h := 365260) hL (by decide); rw [show isS T 365260 (.inr s) = true from w365260] at w; exact w)) ?_
            refine Wp.n (pc' := 56) 3 rfl ?_
            refine Wp.ecallV (len := 3) rfl rfl rfl (rfl) rfl (by decide) rfl ((by have w := m_is (d := d + 5) (M := M) (h := 453773) hL (by decide); rw [show isS T 453773 (.inr s) = false from w453773] at w; exact w)) ?_
            refine Wp.n (pc' := 61) 2 rfl ?_
            refine Wp.ifb0 (tgt := 74) (len := 3) rfl (fun h61 => ?_) (fun h61 => ?_)
            · cases h61
            · skip
              refine Wp.n (pc' := 66) 2 rfl ?_
              refine Wp.ecallV (len := 3) rfl rfl rfl (rfl) rfl (by decide) rfl (m_hasRead (k := 2) (by decide)) ?_
              refine Wp.top (BM_h hB (by decide)) ?_
              refine Wp.n (pc' := 71) 1 rfl ?_
              refine Wp.nc0 (x := kh K 2) (y := 12) (tgt := 103) (len := 3) rfl (by omega) (by omega) (fun h71 => ?_) (fun h71 => ?_)
              · skip
                refine Wp.n (pc' := 105) 2 rfl ?_
                refine Wp.callV (len := 3) rfl rfl rfl (rfl) rfl (by decide) rfl (m_fails hT hL (k := 3) (by decide)) ?_
                rintro _ _ ⟨rfl, τ, rfl, f, hτ⟩
                change LM τ T (.inl (3, s)) at hτ
                refine Wp.n (pc' := 112) 2 rfl ?_
                refine Wp.top hτ.1 ?_
                refine Wp.nz0 (x := 3) (tgt := 116) (len := 3) rfl (by omega) (fun h112 => ?_) (fun h112 => ?_)
                · omega
                · skip
                  refine Wp.retV (len := 1) rfl rfl ?_
                  exact ⟨rfl, τ, rfl, f.k, hτ, fun q => by cases q⟩
              · omega
          · cases h35
        · cases h21
      · cases h7
    · rw [if_neg cc]
      refine Wp.n (pc' := 4) 2 rfl ?_
      refine Wp.ecallV (len := 3) rfl rfl rfl (rfl) rfl (by decide) rfl ((by have w := m_is (d := d + 5) (M := M) (h := 237308) hL (by decide); rw [show isS T 237308 (.inr s) = false from w237308] at w; exact w)) ?_
      refine Wp.ifb0 (tgt := 14) (len := 3) rfl (fun h7 => ?_) (fun h7 => ?_)
      · skip
        refine Wp.n (pc' := 18) 2 rfl ?_
        refine Wp.ecallV (len := 3) rfl rfl rfl (rfl) rfl (by decide) rfl ((by have w := m_is (d := d + 5) (M := M) (h := 129523) hL (by decide); rw [show isS T 129523 (.inr s) = false from w129523] at w; exact w)) ?_
        refine Wp.ifb0 (tgt := 28) (len := 3) rfl (fun h21 => ?_) (fun h21 => ?_)
        · skip
          refine Wp.n (pc' := 32) 2 rfl ?_
          refine Wp.ecallV (len := 3) rfl rfl rfl (rfl) rfl (by decide) rfl ((by have w := m_is (d := d + 5) (M := M) (h := 50348) hL (by decide); rw [show isS T 50348 (.inr s) = false from w50348] at w; exact w)) ?_
          refine Wp.ifb0 (tgt := 42) (len := 3) rfl (fun h35 => ?_) (fun h35 => ?_)
          · skip
            refine Wp.n (pc' := 48) 4 rfl ?_
            refine Wp.ecallV (len := 3) rfl rfl rfl (rfl) rfl (by decide) rfl ((by have w := m_is (d := d + 5) (M := M) (h := 365260) hL (by decide); rw [show isS T 365260 (.inr s) = true from w365260] at w; exact w)) ?_
            refine Wp.n (pc' := 56) 3 rfl ?_
            refine Wp.ecallV (len := 3) rfl rfl rfl (rfl) rfl (by decide) rfl ((by have w := m_is (d := d + 5) (M := M) (h := 453773) hL (by decide); rw [show isS T 453773 (.inr s) = false from w453773] at w; exact w)) ?_
            refine Wp.n (pc' := 61) 2 rfl ?_
            refine Wp.ifb0 (tgt := 74) (len := 3) rfl (fun h61 => ?_) (fun h61 => ?_)
            · cases h61
            · skip
              refine Wp.n (pc' := 66) 2 rfl ?_
              refine Wp.ecallV (len := 3) rfl rfl rfl (rfl) rfl (by decide) rfl (m_hasRead (k := 2) (by decide)) ?_
              refine Wp.top (BM_h hB (by decide)) ?_
              refine Wp.n (pc' := 71) 1 rfl ?_
              refine Wp.nc0 (x := kh K 2) (y := 12) (tgt := 103) (len := 3) rfl (by omega) (by omega) (fun h71 => ?_) (fun h71 => ?_)
              · omega
              · skip
                refine Wp.n (pc' := 76) 2 rfl ?_
                refine Wp.ic0 (tgt := 89) (len := 3) rfl (fun h76 => ?_) (fun h76 => ?_)
                · skip
                  refine Wp.n (pc' := 90) 1 rfl ?_
                  refine Wp.ifb0 (tgt := 108) (len := 3) rfl (fun h90 => ?_) (fun h90 => ?_)
                  · skip
                    refine Wp.n (pc' := 112) 2 rfl ?_
                    refine Wp.top h12 ?_
                    refine Wp.nz0 (x := 0) (tgt := 116) (len := 3) rfl (by omega) (fun h112 => ?_) (fun h112 => ?_)
                    · skip
                      refine Wp.n (pc' := 117) 1 rfl ?_
                      refine Wp.ifb1 (tgt := 129) (len := 3) rfl (fun h117 => ?_) (fun h117 => ?_)
                      · skip
                        refine Wp.n (pc' := 130) 1 rfl ?_
                        refine Wp.callV (len := 3) rfl rfl rfl (rfl) rfl (by decide) rfl (LN_n hT h12 hN) ?_
                        rintro _ _ ⟨rfl, τ, rfl, f, hτ⟩
                        have hT1 := f.T hT
                        have hB1 := BM_b hB f
                        refine Wp.n (pc' := 134) 1 rfl ?_
                        refine Wp.ifb0 (tgt := 144) (len := 3) rfl (fun h134 => ?_) (fun h134 => ?_)
                        · cases h134
                        · skip
                          refine Wp.n (pc' := 138) 1 rfl ?_
                          refine Wp.callV (len := 3) rfl rfl rfl (rfl) rfl (by decide) rfl (m_roadLine (d := d) hT1 hτ hB1 ok hP (by omega)) ?_
                          rintro _ _ h0
                          obtain ⟨rfl, τ2, rfl, h⟩ := RLn_b f h0
                          refine Wp.n (pc' := 231) 1 rfl ?_
                          refine Wp.retV (len := 1) rfl rfl ?_
                          exact ⟨rfl, τ2, rfl, h⟩
                      · cases h117
                    · omega
                  · cases h90
                · exact absurd rfl h76
          · cases h35
        · cases h21
      · cases h7
  · have w365260 : isW T s 365260 = false := by simpa using c0
    by_cases c1 : isW T s 237308 = true
    · have w237308 := c1
      have w129523 := isW_x (b := 129523) c1 (by decide)
      have w50348 := isW_x (b := 50348) c1 (by decide)
      have w453773 := isW_x (b := 453773) c1 (by decide)
      have sr : srt T s = 1 := by unfold srt; rw [if_neg c0, if_pos c1]
      rw [(lin_1 (K := K) sr (by decide)).1, (lin_1 (K := K) sr (by decide)).2]
      by_cases cc : kh K 3 = 8
      · rw [if_pos cc]
        refine Wp.n (pc' := 4) 2 rfl ?_
        refine Wp.ecallV (len := 3) rfl rfl rfl (rfl) rfl (by decide) rfl ((by have w := m_is (d := d + 5) (M := M) (h := 237308) hL (by decide); rw [show isS T 237308 (.inr s) = true from w237308] at w; exact w)) ?_
        refine Wp.ifb0 (tgt := 14) (len := 3) rfl (fun h7 => ?_) (fun h7 => ?_)
        · cases h7
        · skip
          refine Wp.n (pc' := 48) 5 rfl ?_
          refine Wp.ecallV (len := 3) rfl rfl rfl (rfl) rfl (by decide) rfl ((by have w := m_is (d := d + 5) (M := M) (h := 365260) hL (by decide); rw [show isS T 365260 (.inr s) = false from w365260] at w; exact w)) ?_
          refine Wp.n (pc' := 56) 3 rfl ?_
          refine Wp.ecallV (len := 3) rfl rfl rfl (rfl) rfl (by decide) rfl ((by have w := m_is (d := d + 5) (M := M) (h := 453773) hL (by decide); rw [show isS T 453773 (.inr s) = false from w453773] at w; exact w)) ?_
          refine Wp.n (pc' := 61) 2 rfl ?_
          refine Wp.ifb0 (tgt := 74) (len := 3) rfl (fun h61 => ?_) (fun h61 => ?_)
          · skip
            refine Wp.n (pc' := 76) 2 rfl ?_
            refine Wp.ic0 (tgt := 89) (len := 3) rfl (fun h76 => ?_) (fun h76 => ?_)
            · exact absurd h76 (by decide)
            · skip
              refine Wp.n (pc' := 81) 2 rfl ?_
              refine Wp.ecallV (len := 3) rfl rfl rfl (rfl) rfl (by decide) rfl (m_hasRead (k := 3) (by decide)) ?_
              refine Wp.top (BM_h hB (by decide)) ?_
              refine Wp.n (pc' := 86) 1 rfl ?_
              refine Wp.nc0 (x := kh K 3) (y := 8) (tgt := 103) (len := 3) rfl (by omega) (by omega) (fun h86 => ?_) (fun h86 => ?_)
              · skip
                refine Wp.n (pc' := 105) 2 rfl ?_
                refine Wp.callV (len := 3) rfl rfl rfl (rfl) rfl (by decide) rfl (m_fails hT hL (k := 3) (by decide)) ?_
                rintro _ _ ⟨rfl, τ, rfl, f, hτ⟩
                change LM τ T (.inl (3, s)) at hτ
                refine Wp.n (pc' := 112) 2 rfl ?_
                refine Wp.top hτ.1 ?_
                refine Wp.nz0 (x := 3) (tgt := 116) (len := 3) rfl (by omega) (fun h112 => ?_) (fun h112 => ?_)
                · omega
                · skip
                  refine Wp.retV (len := 1) rfl rfl ?_
                  exact ⟨rfl, τ, rfl, f.k, hτ, fun q => by cases q⟩
              · omega
          · cases h61
      · rw [if_neg cc]
        refine Wp.n (pc' := 4) 2 rfl ?_
        refine Wp.ecallV (len := 3) rfl rfl rfl (rfl) rfl (by decide) rfl ((by have w := m_is (d := d + 5) (M := M) (h := 237308) hL (by decide); rw [show isS T 237308 (.inr s) = true from w237308] at w; exact w)) ?_
        refine Wp.ifb0 (tgt := 14) (len := 3) rfl (fun h7 => ?_) (fun h7 => ?_)
        · cases h7
        · skip
          refine Wp.n (pc' := 48) 5 rfl ?_
          refine Wp.ecallV (len := 3) rfl rfl rfl (rfl) rfl (by decide) rfl ((by have w := m_is (d := d + 5) (M := M) (h := 365260) hL (by decide); rw [show isS T 365260 (.inr s) = false from w365260] at w; exact w)) ?_
          refine Wp.n (pc' := 56) 3 rfl ?_
          refine Wp.ecallV (len := 3) rfl rfl rfl (rfl) rfl (by decide) rfl ((by have w := m_is (d := d + 5) (M := M) (h := 453773) hL (by decide); rw [show isS T 453773 (.inr s) = false from w453773] at w; exact w)) ?_
          refine Wp.n (pc' := 61) 2 rfl ?_
          refine Wp.ifb0 (tgt := 74) (len := 3) rfl (fun h61 => ?_) (fun h61 => ?_)
          · skip
            refine Wp.n (pc' := 76) 2 rfl ?_
            refine Wp.ic0 (tgt := 89) (len := 3) rfl (fun h76 => ?_) (fun h76 => ?_)
            · exact absurd h76 (by decide)
            · skip
              refine Wp.n (pc' := 81) 2 rfl ?_
              refine Wp.ecallV (len := 3) rfl rfl rfl (rfl) rfl (by decide) rfl (m_hasRead (k := 3) (by decide)) ?_
              refine Wp.top (BM_h hB (by decide)) ?_
              refine Wp.n (pc' := 86) 1 rfl ?_
              refine Wp.nc0 (x := kh K 3) (y := 8) (tgt := 103) (len := 3) rfl (by omega) (by omega) (fun h86 => ?_) (fun h86 => ?_)
              · omega
              · skip
                refine Wp.n (pc' := 90) 1 rfl ?_
                refine Wp.ifb0 (tgt := 108) (len := 3) rfl (fun h90 => ?_) (fun h90 => ?_)
                · skip
                  refine Wp.n (pc' := 112) 2 rfl ?_
                  refine Wp.top h12 ?_
                  refine Wp.nz0 (x := 0) (tgt := 116) (len := 3) rfl (by omega) (fun h112 => ?_) (fun h112 => ?_)
                  · skip
                    refine Wp.n (pc' := 117) 1 rfl ?_
                    refine Wp.ifb1 (tgt := 129) (len := 3) rfl (fun h117 => ?_) (fun h117 => ?_)
                    · cases h117
                    · skip
                      refine Wp.n (pc' := 122) 2 rfl ?_
                      refine Wp.ic1 (tgt := 129) (len := 3) rfl (fun h122 => ?_) (fun h122 => ?_)
                      · skip
                        refine Wp.n (pc' := 130) 1 rfl ?_
                        refine Wp.callV (len := 3) rfl rfl rfl (rfl) rfl (by decide) rfl (LN_n hT h12 hN) ?_
                        rintro _ _ ⟨rfl, τ, rfl, f, hτ⟩
                        have hT1 := f.T hT
                        have hB1 := BM_b hB f
                        refine Wp.n (pc' := 134) 1 rfl ?_
                        refine Wp.ifb0 (tgt := 144) (len := 3) rfl (fun h134 => ?_) (fun h134 => ?_)
                        · skip
                          refine Wp.n (pc' := 145) 1 rfl ?_
                          refine Wp.ifb0 (tgt := 155) (len := 3) rfl (fun h145 => ?_) (fun h145 => ?_)
                          · skip
                            refine Wp.n (pc' := 157) 2 rfl ?_
                            refine Wp.callV (len := 3) rfl rfl rfl (rfl) rfl (by decide) rfl (m_laneLine (d := d) (so := 0) hT1 hτ hB1 ok hP hD (by omega) (by decide)) ?_
                            rintro _ _ h0
                            obtain ⟨rfl, τ2, rfl, h⟩ := RLn_b f h0
                            refine Wp.n (pc' := 231) 1 rfl ?_
                            refine Wp.retV (len := 1) rfl rfl ?_
                            exact ⟨rfl, τ2, rfl, h⟩
                          · cases h145
                        · cases h134
                      · exact absurd h122 (by decide)
                  · omega
                · cases h90
          · cases h61
    have w237308 : isW T s 237308 = false := by simpa using c1
    by_cases c2 : isW T s 129523 = true
    · have w129523 := c2
      have w237308 := isW_x (b := 237308) c2 (by decide)
      have w50348 := isW_x (b := 50348) c2 (by decide)
      have w453773 := isW_x (b := 453773) c2 (by decide)
      have sr : srt T s = 2 := by unfold srt; rw [if_neg c0, if_neg c1, if_pos c2]
      rw [(lin_1 (K := K) sr (by decide)).1, (lin_1 (K := K) sr (by decide)).2]
      by_cases cc : kh K 3 = 8
      · rw [if_pos cc]
        refine Wp.n (pc' := 4) 2 rfl ?_
        refine Wp.ecallV (len := 3) rfl rfl rfl (rfl) rfl (by decide) rfl ((by have w := m_is (d := d + 5) (M := M) (h := 237308) hL (by decide); rw [show isS T 237308 (.inr s) = false from w237308] at w; exact w)) ?_
        refine Wp.ifb0 (tgt := 14) (len := 3) rfl (fun h7 => ?_) (fun h7 => ?_)
        · skip
          refine Wp.n (pc' := 18) 2 rfl ?_
          refine Wp.ecallV (len := 3) rfl rfl rfl (rfl) rfl (by decide) rfl ((by have w := m_is (d := d + 5) (M := M) (h := 129523) hL (by decide); rw [show isS T 129523 (.inr s) = true from w129523] at w; exact w)) ?_
          refine Wp.ifb0 (tgt := 28) (len := 3) rfl (fun h21 => ?_) (fun h21 => ?_)
          · cases h21
          · skip
            refine Wp.n (pc' := 48) 5 rfl ?_
            refine Wp.ecallV (len := 3) rfl rfl rfl (rfl) rfl (by decide) rfl ((by have w := m_is (d := d + 5) (M := M) (h := 365260) hL (by decide); rw [show isS T 365260 (.inr s) = false from w365260] at w; exact w)) ?_
            refine Wp.n (pc' := 56) 3 rfl ?_
            refine Wp.ecallV (len := 3) rfl rfl rfl (rfl) rfl (by decide) rfl ((by have w := m_is (d := d + 5) (M := M) (h := 453773) hL (by decide); rw [show isS T 453773 (.inr s) = false from w453773] at w; exact w)) ?_
            refine Wp.n (pc' := 61) 2 rfl ?_
            refine Wp.ifb0 (tgt := 74) (len := 3) rfl (fun h61 => ?_) (fun h61 => ?_)
            · skip
              refine Wp.n (pc' := 76) 2 rfl ?_
              refine Wp.ic0 (tgt := 89) (len := 3) rfl (fun h76 => ?_) (fun h76 => ?_)
              · exact absurd h76 (by decide)
              · skip
                refine Wp.n (pc' := 81) 2 rfl ?_
                refine Wp.ecallV (len := 3) rfl rfl rfl (rfl) rfl (by decide) rfl (m_hasRead (k := 3) (by decide)) ?_
                refine Wp.top (BM_h hB (by decide)) ?_
                refine Wp.n (pc' := 86) 1 rfl ?_
                refine Wp.nc0 (x := kh K 3) (y := 8) (tgt := 103) (len := 3) rfl (by omega) (by omega) (fun h86 => ?_) (fun h86 => ?_)
                · skip
                  refine Wp.n (pc' := 105) 2 rfl ?_
                  refine Wp.callV (len := 3) rfl rfl rfl (rfl) rfl (by decide) rfl (m_fails hT hL (k := 3) (by decide)) ?_
                  rintro _ _ ⟨rfl, τ, rfl, f, hτ⟩
                  change LM τ T (.inl (3, s)) at hτ
                  refine Wp.n (pc' := 112) 2 rfl ?_
                  refine Wp.top hτ.1 ?_
                  refine Wp.nz0 (x := 3) (tgt := 116) (len := 3) rfl (by omega) (fun h112 => ?_) (fun h112 => ?_)
                  · omega
                  · skip
                    refine Wp.retV (len := 1) rfl rfl ?_
                    exact ⟨rfl, τ, rfl, f.k, hτ, fun q => by cases q⟩
                · omega
            · cases h61
        · cases h7
      · rw [if_neg cc]
        refine Wp.n (pc' := 4) 2 rfl ?_
        refine Wp.ecallV (len := 3) rfl rfl rfl (rfl) rfl (by decide) rfl ((by have w := m_is (d := d + 5) (M := M) (h := 237308) hL (by decide); rw [show isS T 237308 (.inr s) = false from w237308] at w; exact w)) ?_
        refine Wp.ifb0 (tgt := 14) (len := 3) rfl (fun h7 => ?_) (fun h7 => ?_)
        · skip
          refine Wp.n (pc' := 18) 2 rfl ?_
          refine Wp.ecallV (len := 3) rfl rfl rfl (rfl) rfl (by decide) rfl ((by have w := m_is (d := d + 5) (M := M) (h := 129523) hL (by decide); rw [show isS T 129523 (.inr s) = true from w129523] at w; exact w)) ?_
          refine Wp.ifb0 (tgt := 28) (len := 3) rfl (fun h21 => ?_) (fun h21 => ?_)
          · cases h21
          · skip
            refine Wp.n (pc' := 48) 5 rfl ?_
            refine Wp.ecallV (len := 3) rfl rfl rfl (rfl) rfl (by decide) rfl ((by have w := m_is (d := d + 5) (M := M) (h := 365260) hL (by decide); rw [show isS T 365260 (.inr s) = false from w365260] at w; exact w)) ?_
            refine Wp.n (pc' := 56) 3 rfl ?_
            refine Wp.ecallV (len := 3) rfl rfl rfl (rfl) rfl (by decide) rfl ((by have w := m_is (d := d + 5) (M := M) (h := 453773) hL (by decide); rw [show isS T 453773 (.inr s) = false from w453773] at w; exact w)) ?_
            refine Wp.n (pc' := 61) 2 rfl ?_
            refine Wp.ifb0 (tgt := 74) (len := 3) rfl (fun h61 => ?_) (fun h61 => ?_)
            · skip
              refine Wp.n (pc' := 76) 2 rfl ?_
              refine Wp.ic0 (tgt := 89) (len := 3) rfl (fun h76 => ?_) (fun h76 => ?_)
              · exact absurd h76 (by decide)
              · skip
                refine Wp.n (pc' := 81) 2 rfl ?_
                refine Wp.ecallV (len := 3) rfl rfl rfl (rfl) rfl (by decide) rfl (m_hasRead (k := 3) (by decide)) ?_
                refine Wp.top (BM_h hB (by decide)) ?_
                refine Wp.n (pc' := 86) 1 rfl ?_
                refine Wp.nc0 (x := kh K 3) (y := 8) (tgt := 103) (len := 3) rfl (by omega) (by omega) (fun h86 => ?_) (fun h86 => ?_)
                · omega
                · skip
                  refine Wp.n (pc' := 90) 1 rfl ?_
                  refine Wp.ifb0 (tgt := 108) (len := 3) rfl (fun h90 => ?_) (fun h90 => ?_)
                  · skip
                    refine Wp.n (pc' := 112) 2 rfl ?_
                    refine Wp.top h12 ?_
                    refine Wp.nz0 (x := 0) (tgt := 116) (len := 3) rfl (by omega) (fun h112 => ?_) (fun h112 => ?_)
                    · skip
                      refine Wp.n (pc' := 117) 1 rfl ?_
                      refine Wp.ifb1 (tgt := 129) (len := 3) rfl (fun h117 => ?_) (fun h117 => ?_)
                      · cases h117
                      · skip
                        refine Wp.n (pc' := 122) 2 rfl ?_
                        refine Wp.ic1 (tgt := 129) (len := 3) rfl (fun h122 => ?_) (fun h122 => ?_)
                        · skip
                          refine Wp.n (pc' := 130) 1 rfl ?_
                          refine Wp.callV (len := 3) rfl rfl rfl (rfl) rfl (by decide) rfl (LN_n hT h12 hN) ?_
                          rintro _ _ ⟨rfl, τ, rfl, f, hτ⟩
                          have hT1 := f.T hT
                          have hB1 := BM_b hB f
                          refine Wp.n (pc' := 134) 1 rfl ?_
                          refine Wp.ifb0 (tgt := 144) (len := 3) rfl (fun h134 => ?_) (fun h134 => ?_)
                          · skip
                            refine Wp.n (pc' := 145) 1 rfl ?_
                            refine Wp.ifb0 (tgt := 155) (len := 3) rfl (fun h145 => ?_) (fun h145 => ?_)
                            · skip
                              refine Wp.n (pc' := 157) 2 rfl ?_
                              refine Wp.callV (len := 3) rfl rfl rfl (rfl) rfl (by decide) rfl (m_laneLine (d := d) (so := 1) hT1 hτ hB1 ok hP hD (by omega) (by decide)) ?_
                              rintro _ _ h0
                              obtain ⟨rfl, τ2, rfl, h⟩ := RLn_b f h0
                              refine Wp.n (pc' := 231) 1 rfl ?_
                              refine Wp.retV (len := 1) rfl rfl ?_
                              exact ⟨rfl, τ2, rfl, h⟩
                            · cases h145
                          · cases h134
                        · exact absurd h122 (by decide)
                    · omega
                  · cases h90
            · cases h61
        · cases h7
    have w129523 : isW T s 129523 = false := by simpa using c2
    by_cases c3 : isW T s 50348 = true
    · have w50348 := c3
      have w237308 := isW_x (b := 237308) c3 (by decide)
      have w129523 := isW_x (b := 129523) c3 (by decide)
      have w453773 := isW_x (b := 453773) c3 (by decide)
      have sr : srt T s = 3 := by unfold srt; rw [if_neg c0, if_neg c1, if_neg c2, if_pos c3]
      rw [(lin_1 (K := K) sr (by decide)).1, (lin_1 (K := K) sr (by decide)).2]
      by_cases cc : kh K 3 = 8
      · rw [if_pos cc]
        refine Wp.n (pc' := 4) 2 rfl ?_
        refine Wp.ecallV (len := 3) rfl rfl rfl (rfl) rfl (by decide) rfl ((by have w := m_is (d := d + 5) (M := M) (h := 237308) hL (by decide); rw [show isS T 237308 (.inr s) = false from w237308] at w; exact w)) ?_
        refine Wp.ifb0 (tgt := 14) (len := 3) rfl (fun h7 => ?_) (fun h7 => ?_)
        · skip
          refine Wp.n (pc' := 18) 2 rfl ?_
          refine Wp.ecallV (len := 3) rfl rfl rfl (rfl) rfl (by decide) rfl ((by have w := m_is (d := d + 5) (M := M) (h := 129523) hL (by decide); rw [show isS T 129523 (.inr s) = false from w129523] at w; exact w)) ?_
          refine Wp.ifb0 (tgt := 28) (len := 3) rfl (fun h21 => ?_) (fun h21 => ?_)
          · skip
            refine Wp.n (pc' := 32) 2 rfl ?_
            refine Wp.ecallV (len := 3) rfl rfl rfl (rfl) rfl (by decide) rfl ((by have w := m_is (d := d + 5) (M := M) (h := 50348) hL (by decide); rw [show isS T 50348 (.inr s) = true from w50348] at w; exact w)) ?_
            refine Wp.ifb0 (tgt := 42) (len := 3) rfl (fun h35 => ?_) (fun h35 => ?_)
            · cases h35
            · skip
              refine Wp.n (pc' := 48) 5 rfl ?_
              refine Wp.ecallV (len := 3) rfl rfl rfl (rfl) rfl (by decide) rfl ((by have w := m_is (d := d + 5) (M := M) (h := 365260) hL (by decide); rw [show isS T 365260 (.inr s) = false from w365260] at w; exact w)) ?_
              refine Wp.n (pc' := 56) 3 rfl ?_
              refine Wp.ecallV (len := 3) rfl rfl rfl (rfl) rfl (by decide) rfl ((by have w := m_is (d := d + 5) (M := M) (h := 453773) hL (by decide); rw [show isS T 453773 (.inr s) = false from w453773] at w; exact w)) ?_
              refine Wp.n (pc' := 61) 2 rfl ?_
              refine Wp.ifb0 (tgt := 74) (len := 3) rfl (fun h61 => ?_) (fun h61 => ?_)
              · skip
                refine Wp.n (pc' := 76) 2 rfl ?_
                refine Wp.ic0 (tgt := 89) (len := 3) rfl (fun h76 => ?_) (fun h76 => ?_)
                · exact absurd h76 (by decide)
                · skip
                  refine Wp.n (pc' := 81) 2 rfl ?_
                  refine Wp.ecallV (len := 3) rfl rfl rfl (rfl) rfl (by decide) rfl (m_hasRead (k := 3) (by decide)) ?_
                  refine Wp.top (BM_h hB (by decide)) ?_
                  refine Wp.n (pc' := 86) 1 rfl ?_
                  refine Wp.nc0 (x := kh K 3) (y := 8) (tgt := 103) (len := 3) rfl (by omega) (by omega) (fun h86 => ?_) (fun h86 => ?_)
                  · skip
                    refine Wp.n (pc' := 105) 2 rfl ?_
                    refine Wp.callV (len := 3) rfl rfl rfl (rfl) rfl (by decide) rfl (m_fails hT hL (k := 3) (by decide)) ?_
                    rintro _ _ ⟨rfl, τ, rfl, f, hτ⟩
                    change LM τ T (.inl (3, s)) at hτ
                    refine Wp.n (pc' := 112) 2 rfl ?_
                    refine Wp.top hτ.1 ?_
                    refine Wp.nz0 (x := 3) (tgt := 116) (len := 3) rfl (by omega) (fun h112 => ?_) (fun h112 => ?_)
                    · omega
                    · skip
                      refine Wp.retV (len := 1) rfl rfl ?_
                      exact ⟨rfl, τ, rfl, f.k, hτ, fun q => by cases q⟩
                  · omega
              · cases h61
          · cases h21
        · cases h7
      · rw [if_neg cc]
        refine Wp.n (pc' := 4) 2 rfl ?_
        refine Wp.ecallV (len := 3) rfl rfl rfl (rfl) rfl (by decide) rfl ((by have w := m_is (d := d + 5) (M := M) (h := 237308) hL (by decide); rw [show isS T 237308 (.inr s) = false from w237308] at w; exact w)) ?_
        refine Wp.ifb0 (tgt := 14) (len := 3) rfl (fun h7 => ?_) (fun h7 => ?_)
        · skip
          refine Wp.n (pc' := 18) 2 rfl ?_
          refine Wp.ecallV (len := 3) rfl rfl rfl (rfl) rfl (by decide) rfl ((by have w := m_is (d := d + 5) (M := M) (h := 129523) hL (by decide); rw [show isS T 129523 (.inr s) = false from w129523] at w; exact w)) ?_
          refine Wp.ifb0 (tgt := 28) (len := 3) rfl (fun h21 => ?_) (fun h21 => ?_)
          · skip
            refine Wp.n (pc' := 32) 2 rfl ?_
            refine Wp.ecallV (len := 3) rfl rfl rfl (rfl) rfl (by decide) rfl ((by have w := m_is (d := d + 5) (M := M) (h := 50348) hL (by decide); rw [show isS T 50348 (.inr s) = true from w50348] at w; exact w)) ?_
            refine Wp.ifb0 (tgt := 42) (len := 3) rfl (fun h35 => ?_) (fun h35 => ?_)
            · cases h35
            · skip
              refine Wp.n (pc' := 48) 5 rfl ?_
              refine Wp.ecallV (len := 3) rfl rfl rfl (rfl) rfl (by decide) rfl ((by have w := m_is (d := d + 5) (M := M) (h := 365260) hL (by decide); rw [show isS T 365260 (.inr s) = false from w365260] at w; exact w)) ?_
              refine Wp.n (pc' := 56) 3 rfl ?_
              refine Wp.ecallV (len := 3) rfl rfl rfl (rfl) rfl (by decide) rfl ((by have w := m_is (d := d + 5) (M := M) (h := 453773) hL (by decide); rw [show isS T 453773 (.inr s) = false from w453773] at w; exact w)) ?_
              refine Wp.n (pc' := 61) 2 rfl ?_
              refine Wp.ifb0 (tgt := 74) (len := 3) rfl (fun h61 => ?_) (fun h61 => ?_)
              · skip
                refine Wp.n (pc' := 76) 2 rfl ?_
                refine Wp.ic0 (tgt := 89) (len := 3) rfl (fun h76 => ?_) (fun h76 => ?_)
                · exact absurd h76 (by decide)
                · skip
                  refine Wp.n (pc' := 81) 2 rfl ?_
                  refine Wp.ecallV (len := 3) rfl rfl rfl (rfl) rfl (by decide) rfl (m_hasRead (k := 3) (by decide)) ?_
                  refine Wp.top (BM_h hB (by decide)) ?_
                  refine Wp.n (pc' := 86) 1 rfl ?_
                  refine Wp.nc0 (x := kh K 3) (y := 8) (tgt := 103) (len := 3) rfl (by omega) (by omega) (fun h86 => ?_) (fun h86 => ?_)
                  · omega
                  · skip
                    refine Wp.n (pc' := 90) 1 rfl ?_
                    refine Wp.ifb0 (tgt := 108) (len := 3) rfl (fun h90 => ?_) (fun h90 => ?_)
                    · skip
                      refine Wp.n (pc' := 112) 2 rfl ?_
                      refine Wp.top h12 ?_
                      refine Wp.nz0 (x := 0) (tgt := 116) (len := 3) rfl (by omega) (fun h112 => ?_) (fun h112 => ?_)
                      · skip
                        refine Wp.n (pc' := 117) 1 rfl ?_
                        refine Wp.ifb1 (tgt := 129) (len := 3) rfl (fun h117 => ?_) (fun h117 => ?_)
                        · cases h117
                        · skip
                          refine Wp.n (pc' := 122) 2 rfl ?_
                          refine Wp.ic1 (tgt := 129) (len := 3) rfl (fun h122 => ?_) (fun h122 => ?_)
                          · skip
                            refine Wp.n (pc' := 130) 1 rfl ?_
                            refine Wp.callV (len := 3) rfl rfl rfl (rfl) rfl (by decide) rfl (LN_n hT h12 hN) ?_
                            rintro _ _ ⟨rfl, τ, rfl, f, hτ⟩
                            have hT1 := f.T hT
                            have hB1 := BM_b hB f
                            refine Wp.n (pc' := 134) 1 rfl ?_
                            refine Wp.ifb0 (tgt := 144) (len := 3) rfl (fun h134 => ?_) (fun h134 => ?_)
                            · skip
                              refine Wp.n (pc' := 145) 1 rfl ?_
                              refine Wp.ifb0 (tgt := 155) (len := 3) rfl (fun h145 => ?_) (fun h145 => ?_)
                              · skip
                                refine Wp.n (pc' := 157) 2 rfl ?_
                                refine Wp.callV (len := 3) rfl rfl rfl (rfl) rfl (by decide) rfl (m_laneLine (d := d) (so := 2) hT1 hτ hB1 ok hP hD (by omega) (by decide)) ?_
                                rintro _ _ h0
                                obtain ⟨rfl, τ2, rfl, h⟩ := RLn_b f h0
                                refine Wp.n (pc' := 231) 1 rfl ?_
                                refine Wp.retV (len := 1) rfl rfl ?_
                                exact ⟨rfl, τ2, rfl, h⟩
                              · cases h145
                            · cases h134
                          · exact absurd h122 (by decide)
                      · omega
                    · cases h90
              · cases h61
          · cases h21
        · cases h7
    have w50348 : isW T s 50348 = false := by simpa using c3
    by_cases c5 : isW T s 453773 = true
    · have w453773 := c5
      have w3436186 := isW_x (b := 3436186) c5 (by decide)
      have c4 : ¬ isW T s 3436186 = true := by rw [w3436186]; decide
      have sr : srt T s = 5 := by unfold srt; rw [if_neg c0, if_neg c1, if_neg c2, if_neg c3, if_neg c4, if_pos c5]
      rw [(lin_5 (K := K) sr).1, (lin_5 (K := K) sr).2]
      by_cases cc : kh K 4 = 10
      · rw [if_pos cc]
        refine Wp.n (pc' := 4) 2 rfl ?_
        refine Wp.ecallV (len := 3) rfl rfl rfl (rfl) rfl (by decide) rfl ((by have w := m_is (d := d + 5) (M := M) (h := 237308) hL (by decide); rw [show isS T 237308 (.inr s) = false from w237308] at w; exact w)) ?_
        refine Wp.ifb0 (tgt := 14) (len := 3) rfl (fun h7 => ?_) (fun h7 => ?_)
        · skip
          refine Wp.n (pc' := 18) 2 rfl ?_
          refine Wp.ecallV (len := 3) rfl rfl rfl (rfl) rfl (by decide) rfl ((by have w := m_is (d := d + 5) (M := M) (h := 129523) hL (by decide); rw [show isS T 129523 (.inr s) = false from w129523] at w; exact w)) ?_
          refine Wp.ifb0 (tgt := 28) (len := 3) rfl (fun h21 => ?_) (fun h21 => ?_)
          · skip
            refine Wp.n (pc' := 32) 2 rfl ?_
            refine Wp.ecallV (len := 3) rfl rfl rfl (rfl) rfl (by decide) rfl ((by have w := m_is (d := d + 5) (M := M) (h := 50348) hL (by decide); rw [show isS T 50348 (.inr s) = false from w50348] at w; exact w)) ?_
            refine Wp.ifb0 (tgt := 42) (len := 3) rfl (fun h35 => ?_) (fun h35 => ?_)
            · skip
              refine Wp.n (pc' := 48) 4 rfl ?_
              refine Wp.ecallV (len := 3) rfl rfl rfl (rfl) rfl (by decide) rfl ((by have w := m_is (d := d + 5) (M := M) (h := 365260) hL (by decide); rw [show isS T 365260 (.inr s) = false from w365260] at w; exact w)) ?_
              refine Wp.n (pc' := 56) 3 rfl ?_
              refine Wp.ecallV (len := 3) rfl rfl rfl (rfl) rfl (by decide) rfl ((by have w := m_is (d := d + 5) (M := M) (h := 453773) hL (by decide); rw [show isS T 453773 (.inr s) = true from w453773] at w; exact w)) ?_
              refine Wp.n (pc' := 61) 2 rfl ?_
              refine Wp.ifb0 (tgt := 74) (len := 3) rfl (fun h61 => ?_) (fun h61 => ?_)
              · skip
                refine Wp.n (pc' := 76) 2 rfl ?_
                refine Wp.ic0 (tgt := 89) (len := 3) rfl (fun h76 => ?_) (fun h76 => ?_)
                · skip
                  refine Wp.n (pc' := 90) 1 rfl ?_
                  refine Wp.ifb0 (tgt := 108) (len := 3) rfl (fun h90 => ?_) (fun h90 => ?_)
                  · cases h90
                  · skip
                    refine Wp.n (pc' := 95) 2 rfl ?_
                    refine Wp.ecallV (len := 3) rfl rfl rfl (rfl) rfl (by decide) rfl (m_hasRead (k := 4) (by decide)) ?_
                    refine Wp.top (BM_h hB (by decide)) ?_
                    refine Wp.n (pc' := 100) 1 rfl ?_
                    refine Wp.nc1 (x := kh K 4) (y := 10) (tgt := 108) (len := 3) rfl (by omega) (by omega) (fun h100 => ?_) (fun h100 => ?_)
                    · omega
                    · skip
                      refine Wp.n (pc' := 105) 2 rfl ?_
                      refine Wp.callV (len := 3) rfl rfl rfl (rfl) rfl (by decide) rfl (m_fails hT hL (k := 3) (by decide)) ?_
                      rintro _ _ ⟨rfl, τ, rfl, f, hτ⟩
                      change LM τ T (.inl (3, s)) at hτ
                      refine Wp.n (pc' := 112) 2 rfl ?_
                      refine Wp.top hτ.1 ?_
                      refine Wp.nz0 (x := 3) (tgt := 116) (len := 3) rfl (by omega) (fun h112 => ?_) (fun h112 => ?_)
                      · omega
                      · skip
                        refine Wp.retV (len := 1) rfl rfl ?_
                        exact ⟨rfl, τ, rfl, f.k, hτ, fun q => by cases q⟩
                · exact absurd rfl h76
              · cases h61
            · cases h35
          · cases h21
        · cases h7
      · rw [if_neg cc]
        refine Wp.n (pc' := 4) 2 rfl ?_
        refine Wp.ecallV (len := 3) rfl rfl rfl (rfl) rfl (by decide) rfl ((by have w := m_is (d := d + 5) (M := M) (h := 237308) hL (by decide); rw [show isS T 237308 (.inr s) = false from w237308] at w; exact w)) ?_
        refine Wp.ifb0 (tgt := 14) (len := 3) rfl (fun h7 => ?_) (fun h7 => ?_)
        · skip
          refine Wp.n (pc' := 18) 2 rfl ?_
          refine Wp.ecallV (len := 3) rfl rfl rfl (rfl) rfl (by decide) rfl ((by have w := m_is (d := d + 5) (M := M) (h := 129523) hL (by decide); rw [show isS T 129523 (.inr s) = false from w129523] at w; exact w)) ?_
          refine Wp.ifb0 (tgt := 28) (len := 3) rfl (fun h21 => ?_) (fun h21 => ?_)
          · skip
            refine Wp.n (pc' := 32) 2 rfl ?_
            refine Wp.ecallV (len := 3) rfl rfl rfl (rfl) rfl (by decide) rfl ((by have w := m_is (d := d + 5) (M := M) (h := 50348) hL (by decide); rw [show isS T 50348 (.inr s) = false from w50348] at w; exact w)) ?_
            refine Wp.ifb0 (tgt := 42) (len := 3) rfl (fun h35 => ?_) (fun h35 => ?_)
            · skip
              refine Wp.n (pc' := 48) 4 rfl ?_
              refine Wp.ecallV (len := 3) rfl rfl rfl (rfl) rfl (by decide) rfl ((by have w := m_is (d := d + 5) (M := M) (h := 365260) hL (by decide); rw [show isS T 365260 (.inr s) = false from w365260] at w; exact w)) ?_
              refine Wp.n (pc' := 56) 3 rfl ?_
              refine Wp.ecallV (len := 3) rfl rfl rfl (rfl) rfl (by decide) rfl ((by have w := m_is (d := d + 5) (M := M) (h := 453773) hL (by decide); rw [show isS T 453773 (.inr s) = true from w453773] at w; exact w)) ?_
              refine Wp.n (pc' := 61) 2 rfl ?_
              refine Wp.ifb0 (tgt := 74) (len := 3) rfl (fun h61 => ?_) (fun h61 => ?_)
              · skip
                refine Wp.n (pc' := 76) 2 rfl ?_
                refine Wp.ic0 (tgt := 89) (len := 3) rfl (fun h76 => ?_) (fun h76 => ?_)
                · skip
                  refine Wp.n (pc' := 90) 1 rfl ?_
                  refine Wp.ifb0 (tgt := 108) (len := 3) rfl (fun h90 => ?_) (fun h90 => ?_)
                  · cases h90
                  · skip
                    refine Wp.n (pc' := 95) 2 rfl ?_
                    refine Wp.ecallV (len := 3) rfl rfl rfl (rfl) rfl (by decide) rfl (m_hasRead (k := 4) (by decide)) ?_
                    refine Wp.top (BM_h hB (by decide)) ?_
                    refine Wp.n (pc' := 100) 1 rfl ?_
                    refine Wp.nc1 (x := kh K 4) (y := 10) (tgt := 108) (len := 3) rfl (by omega) (by omega) (fun h100 => ?_) (fun h100 => ?_)
                    · skip
                      refine Wp.n (pc' := 112) 2 rfl ?_
                      refine Wp.top h12 ?_
                      refine Wp.nz0 (x := 0) (tgt := 116) (len := 3) rfl (by omega) (fun h112 => ?_) (fun h112 => ?_)
                      · skip
                        refine Wp.n (pc' := 117) 1 rfl ?_
                        refine Wp.ifb1 (tgt := 129) (len := 3) rfl (fun h117 => ?_) (fun h117 => ?_)
                        · cases h117
                        · skip
                          refine Wp.n (pc' := 122) 2 rfl ?_
                          refine Wp.ic1 (tgt := 129) (len := 3) rfl (fun h122 => ?_) (fun h122 => ?_)
                          · exact absurd rfl h122
                          · skip
                            refine Wp.n (pc' := 126) 1 rfl ?_
                            refine Wp.ifb0 (tgt := 163) (len := 3) rfl (fun h126 => ?_) (fun h126 => ?_)
                            · cases h126
                            · skip
                              refine Wp.n (pc' := 130) 1 rfl ?_
                              refine Wp.callV (len := 3) rfl rfl rfl (rfl) rfl (by decide) rfl (LN_n hT h12 hN) ?_
                              rintro _ _ ⟨rfl, τ, rfl, f, hτ⟩
                              have hT1 := f.T hT
                              have hB1 := BM_b hB f
                              refine Wp.n (pc' := 134) 1 rfl ?_
                              refine Wp.ifb0 (tgt := 144) (len := 3) rfl (fun h134 => ?_) (fun h134 => ?_)
                              · skip
                                refine Wp.n (pc' := 145) 1 rfl ?_
                                refine Wp.ifb0 (tgt := 155) (len := 3) rfl (fun h145 => ?_) (fun h145 => ?_)
                                · cases h145
                                · skip
                                  refine Wp.n (pc' := 149) 1 rfl ?_
                                  refine Wp.callV (len := 3) rfl rfl rfl (rfl) rfl (by decide) rfl (m_walkLine (d := d) hT1 hτ hB1 ok hP hD (by omega)) ?_
                                  rintro _ _ h0
                                  obtain ⟨rfl, τ2, rfl, h⟩ := RLn_b f h0
                                  refine Wp.n (pc' := 231) 1 rfl ?_
                                  refine Wp.retV (len := 1) rfl rfl ?_
                                  exact ⟨rfl, τ2, rfl, h⟩
                              · cases h134
                      · omega
                    · omega
                · exact absurd rfl h76
              · cases h61
            · cases h35
          · cases h21
        · cases h7
    have w453773 : isW T s 453773 = false := by simpa using c5
    by_cases c4 : isW T s 3436186 = true
    · have sr : srt T s = 4 := by unfold srt; rw [if_neg c0, if_neg c1, if_neg c2, if_neg c3, if_pos c4]
      rw [(lin_4 (K := K) sr).1, (lin_4 (K := K) sr).2]
      refine Wp.n (pc' := 4) 2 rfl ?_
      refine Wp.ecallV (len := 3) rfl rfl rfl (rfl) rfl (by decide) rfl ((by have w := m_is (d := d + 5) (M := M) (h := 237308) hL (by decide); rw [show isS T 237308 (.inr s) = false from w237308] at w; exact w)) ?_
      refine Wp.ifb0 (tgt := 14) (len := 3) rfl (fun h7 => ?_) (fun h7 => ?_)
      · skip
        refine Wp.n (pc' := 18) 2 rfl ?_
        refine Wp.ecallV (len := 3) rfl rfl rfl (rfl) rfl (by decide) rfl ((by have w := m_is (d := d + 5) (M := M) (h := 129523) hL (by decide); rw [show isS T 129523 (.inr s) = false from w129523] at w; exact w)) ?_
        refine Wp.ifb0 (tgt := 28) (len := 3) rfl (fun h21 => ?_) (fun h21 => ?_)
        · skip
          refine Wp.n (pc' := 32) 2 rfl ?_
          refine Wp.ecallV (len := 3) rfl rfl rfl (rfl) rfl (by decide) rfl ((by have w := m_is (d := d + 5) (M := M) (h := 50348) hL (by decide); rw [show isS T 50348 (.inr s) = false from w50348] at w; exact w)) ?_
          refine Wp.ifb0 (tgt := 42) (len := 3) rfl (fun h35 => ?_) (fun h35 => ?_)
          · skip
            refine Wp.n (pc' := 48) 4 rfl ?_
            refine Wp.ecallV (len := 3) rfl rfl rfl (rfl) rfl (by decide) rfl ((by have w := m_is (d := d + 5) (M := M) (h := 365260) hL (by decide); rw [show isS T 365260 (.inr s) = false from w365260] at w; exact w)) ?_
            refine Wp.n (pc' := 56) 3 rfl ?_
            refine Wp.ecallV (len := 3) rfl rfl rfl (rfl) rfl (by decide) rfl ((by have w := m_is (d := d + 5) (M := M) (h := 453773) hL (by decide); rw [show isS T 453773 (.inr s) = false from w453773] at w; exact w)) ?_
            refine Wp.n (pc' := 61) 2 rfl ?_
            refine Wp.ifb0 (tgt := 74) (len := 3) rfl (fun h61 => ?_) (fun h61 => ?_)
            · skip
              refine Wp.n (pc' := 76) 2 rfl ?_
              refine Wp.ic0 (tgt := 89) (len := 3) rfl (fun h76 => ?_) (fun h76 => ?_)
              · skip
                refine Wp.n (pc' := 90) 1 rfl ?_
                refine Wp.ifb0 (tgt := 108) (len := 3) rfl (fun h90 => ?_) (fun h90 => ?_)
                · skip
                  refine Wp.n (pc' := 112) 2 rfl ?_
                  refine Wp.top h12 ?_
                  refine Wp.nz0 (x := 0) (tgt := 116) (len := 3) rfl (by omega) (fun h112 => ?_) (fun h112 => ?_)
                  · skip
                    refine Wp.n (pc' := 117) 1 rfl ?_
                    refine Wp.ifb1 (tgt := 129) (len := 3) rfl (fun h117 => ?_) (fun h117 => ?_)
                    · cases h117
                    · skip
                      refine Wp.n (pc' := 122) 2 rfl ?_
                      refine Wp.ic1 (tgt := 129) (len := 3) rfl (fun h122 => ?_) (fun h122 => ?_)
                      · exact absurd rfl h122
                      · skip
                        refine Wp.n (pc' := 126) 1 rfl ?_
                        refine Wp.ifb0 (tgt := 163) (len := 3) rfl (fun h126 => ?_) (fun h126 => ?_)
                        · skip
                          refine Wp.n (pc' := 167) 2 rfl ?_
                          refine Wp.callV (len := 3) rfl rfl rfl (rfl) rfl (by decide) rfl (m_takes (d := d + 3) (h := 3436186) hT hL (by decide)) ?_
                          rintro _ _ ⟨rfl, τ, rfl, f, hτ⟩
                          rw [show isS T 3436186 (.inr s) = true from c4, if_pos rfl] at hτ
                          rw [show isS T 3436186 (.inr s) = true from c4]
                          change LM τ T (.inr (nx T s)) at hτ
                          have hT1 := f.T hT
                          have hB1 := BM_b hB f
                          refine Wp.ifb0 (tgt := 213) (len := 3) rfl (fun h170 => ?_) (fun h170 => ?_)
                          · cases h170
                          · skip
                            refine Wp.n (pc' := 180) 5 rfl ?_
                            refine Wp.ecallV (len := 3) rfl rfl rfl (rfl) rfl (by decide) rfl (m_hasRead (k := 1) (by decide)) ?_
                            refine Wp.top (BM_h hB1 (by decide)) ?_
                            refine Wp.n (pc' := 184) 1 rfl ?_
                            refine Wp.isubN (x := kh K 1) (y := 1) (len := 1) rfl (by omega) ?_
                            refine Wp.callV (len := 3) rfl rfl rfl (rfl) rfl (by decide) rfl (m_numberW (d := d + 1) (h := 419) (lo := 0) (hi := kh K 1 - 1) hT1 hτ (by decide) (fun q => ⟨rfl, rfl, by omega, by omega⟩)) ?_
                            rintro _ _ ⟨x, rfl, hx, τ2, rfl, f2, l2⟩
                            have hB2 := BM_b hB1 f2
                            change LM τ2 T (fd2 T K (.inr (nx T s))) at l2
                            refine Wp.n (pc' := 191) 2 rfl ?_
                            refine Wp.ecallV (len := 3) rfl rfl rfl (rfl) rfl (by decide) rfl (m_isGood l2) ?_
                            refine Wp.ifb0 (tgt := 210) (len := 3) rfl (fun h194 => ?_) (fun h194 => ?_)
                            · skip
                              refine Wp.n (pc' := 231) 1 rfl ?_
                              refine Wp.retV (len := 1) rfl rfl ?_
                              first
                                | (have q0 : gd (fd2 T K (.inr (nx T s))) = false := h194
                                   exact ⟨rfl, τ2, rfl, (f.t f2).k, l2, fun q => by rw [q0] at q; cases q⟩)
                                | skip
                              first
                                | done
                                | (refine ⟨rfl, _, rfl, (f.t f2).k.t FrK.l, LM_l l2, fun _ => BM_fd (x := 2 ^ nmV T (fd1 T (.inr (nx T s)))) hB2 rfl ?_⟩
                                   show vp_updL (τ2.2.2.2 8) 4 (τ2.2.2.2 8 4 ||| _) 4 = _
                                   have hb : nmV T (fd1 T (.inr (nx T s))) < 31 := by omega
                                   change nmV T (wdS T 419 (.inr (nx T s))) < 31 at hb
                                   rw [lu_s, show τ2.2.2.2 8 4 = lN (kh K 12) from hB2.1.2.2.2.1, l_sh1 _ hb, l_or]
                                   rfl)
                            · skip
                              obtain rfl := hx h194
                              have hx7 : 0 ≤ nmV T (fd1 T (.inr (nx T s))) ∧ nmV T (fd1 T (.inr (nx T s))) ≤ kh K 1 - 1 := nm_le h194
                              refine Wp.n (pc' := 203) 4 rfl ?_
                              refine Wp.mlaldN (j := 4) (len := 1) rfl rfl rfl (by omega) ?_
                              refine Wp.n (pc' := 209) 4 rfl ?_
                              refine Wp.mlastN (j := 4) (len := 1) rfl rfl rfl (by omega) ?_
                              refine Wp.n (pc' := 231) 1 rfl ?_
                              refine Wp.retV (len := 1) rfl rfl ?_
                              first
                                | (have q0 : gd (fd2 T K (.inr (nx T s))) = false := h194
                                   exact ⟨rfl, τ2, rfl, (f.t f2).k, l2, fun q => by rw [q0] at q; cases q⟩)
                                | skip
                              first
                                | done
                                | (refine ⟨rfl, _, rfl, (f.t f2).k.t FrK.l, LM_l l2, fun _ => BM_fd (x := 2 ^ nmV T (fd1 T (.inr (nx T s)))) hB2 rfl ?_⟩
                                   show vp_updL (τ2.2.2.2 8) 4 (τ2.2.2.2 8 4 ||| _) 4 = _
                                   have hb : nmV T (fd1 T (.inr (nx T s))) < 31 := by omega
                                   change nmV T (wdS T 419 (.inr (nx T s))) < 31 at hb
                                   rw [lu_s, show τ2.2.2.2 8 4 = lN (kh K 12) from hB2.1.2.2.2.1, l_sh1 _ hb, l_or]
                                   rfl)
                        · cases h126
                  · omega
                · cases h90
              · exact absurd rfl h76
            · cases h61
          · cases h35
        · cases h21
      · cases h7
    have w3436186 : isW T s 3436186 = false := by simpa using c4
    have sr : srt T s = 6 := by unfold srt; rw [if_neg c0, if_neg c1, if_neg c2, if_neg c3, if_neg c4, if_neg c5]
    rw [(lin_6 (K := K) sr).1, (lin_6 (K := K) sr).2]
    refine Wp.n (pc' := 4) 2 rfl ?_
    refine Wp.ecallV (len := 3) rfl rfl rfl (rfl) rfl (by decide) rfl ((by have w := m_is (d := d + 5) (M := M) (h := 237308) hL (by decide); rw [show isS T 237308 (.inr s) = false from w237308] at w; exact w)) ?_
    refine Wp.ifb0 (tgt := 14) (len := 3) rfl (fun h7 => ?_) (fun h7 => ?_)
    · skip
      refine Wp.n (pc' := 18) 2 rfl ?_
      refine Wp.ecallV (len := 3) rfl rfl rfl (rfl) rfl (by decide) rfl ((by have w := m_is (d := d + 5) (M := M) (h := 129523) hL (by decide); rw [show isS T 129523 (.inr s) = false from w129523] at w; exact w)) ?_
      refine Wp.ifb0 (tgt := 28) (len := 3) rfl (fun h21 => ?_) (fun h21 => ?_)
      · skip
        refine Wp.n (pc' := 32) 2 rfl ?_
        refine Wp.ecallV (len := 3) rfl rfl rfl (rfl) rfl (by decide) rfl ((by have w := m_is (d := d + 5) (M := M) (h := 50348) hL (by decide); rw [show isS T 50348 (.inr s) = false from w50348] at w; exact w)) ?_
        refine Wp.ifb0 (tgt := 42) (len := 3) rfl (fun h35 => ?_) (fun h35 => ?_)
        · skip
          refine Wp.n (pc' := 48) 4 rfl ?_
          refine Wp.ecallV (len := 3) rfl rfl rfl (rfl) rfl (by decide) rfl ((by have w := m_is (d := d + 5) (M := M) (h := 365260) hL (by decide); rw [show isS T 365260 (.inr s) = false from w365260] at w; exact w)) ?_
          refine Wp.n (pc' := 56) 3 rfl ?_
          refine Wp.ecallV (len := 3) rfl rfl rfl (rfl) rfl (by decide) rfl ((by have w := m_is (d := d + 5) (M := M) (h := 453773) hL (by decide); rw [show isS T 453773 (.inr s) = false from w453773] at w; exact w)) ?_
          refine Wp.n (pc' := 61) 2 rfl ?_
          refine Wp.ifb0 (tgt := 74) (len := 3) rfl (fun h61 => ?_) (fun h61 => ?_)
          · skip
            refine Wp.n (pc' := 76) 2 rfl ?_
            refine Wp.ic0 (tgt := 89) (len := 3) rfl (fun h76 => ?_) (fun h76 => ?_)
            · skip
              refine Wp.n (pc' := 90) 1 rfl ?_
              refine Wp.ifb0 (tgt := 108) (len := 3) rfl (fun h90 => ?_) (fun h90 => ?_)
              · skip
                refine Wp.n (pc' := 112) 2 rfl ?_
                refine Wp.top h12 ?_
                refine Wp.nz0 (x := 0) (tgt := 116) (len := 3) rfl (by omega) (fun h112 => ?_) (fun h112 => ?_)
                · skip
                  refine Wp.n (pc' := 117) 1 rfl ?_
                  refine Wp.ifb1 (tgt := 129) (len := 3) rfl (fun h117 => ?_) (fun h117 => ?_)
                  · cases h117
                  · skip
                    refine Wp.n (pc' := 122) 2 rfl ?_
                    refine Wp.ic1 (tgt := 129) (len := 3) rfl (fun h122 => ?_) (fun h122 => ?_)
                    · exact absurd rfl h122
                    · skip
                      refine Wp.n (pc' := 126) 1 rfl ?_
                      refine Wp.ifb0 (tgt := 163) (len := 3) rfl (fun h126 => ?_) (fun h126 => ?_)
                      · skip
                        refine Wp.n (pc' := 167) 2 rfl ?_
                        refine Wp.callV (len := 3) rfl rfl rfl (rfl) rfl (by decide) rfl (m_takes (d := d + 3) (h := 3436186) hT hL (by decide)) ?_
                        rintro _ _ ⟨rfl, τ, rfl, f, hτ⟩
                        rw [show isS T 3436186 (.inr s) = false from w3436186, if_neg (by decide)] at hτ
                        rw [show isS T 3436186 (.inr s) = false from w3436186]
                        have hT1 := f.T hT
                        refine Wp.ifb0 (tgt := 213) (len := 3) rfl (fun h170 => ?_) (fun h170 => ?_)
                        · skip
                          refine Wp.n (pc' := 217) 2 rfl ?_
                          refine Wp.callV (len := 3) rfl rfl rfl (rfl) rfl (by decide) rfl (m_asks (d := d + 2) (h := 8798) hT1 hτ (by decide)) ?_
                          rintro _ _ ⟨rfl, τ2, rfl, f2, l2⟩
                          have hT2 := f2.T hT1
                          have hB2 := BM_b hB (f.t f2)
                          change LM τ2 T (lw1 T (.inr s)) at l2
                          refine Wp.n (pc' := 221) 1 rfl ?_
                          refine Wp.ecallV (len := 3) rfl rfl rfl (rfl) rfl (by decide) rfl (m_isGood l2) ?_
                          refine Wp.ifb0 (tgt := 231) (len := 3) rfl (fun h224 => ?_) (fun h224 => ?_)
                          · skip
                            refine Wp.retV (len := 1) rfl rfl ?_
                            first
                              | exact ⟨rfl, τ3, rfl, h⟩
                              | (rcases hq : lw1 T (.inr s) with z | s2
                                 · rw [hq] at l2
                                   exact ⟨rfl, τ2, rfl, (f.t f2).k, l2, fun q => by cases q⟩
                                 · rw [hq] at h224; cases h224)
                          · skip
                            rcases hq : lw1 T (.inr s) with z | s2
                            · rw [hq] at h224; cases h224
                            rw [hq] at l2
                            refine Wp.n (pc' := 228) 1 rfl ?_
                            refine Wp.callV (len := 3) rfl rfl rfl (rfl) rfl (by decide) rfl (m_lawLine (d := d) hT2 l2 hB2) ?_
                            rintro _ _ h0
                            obtain ⟨rfl, τ3, rfl, h⟩ := RLn_b (f.t f2) h0
                            refine Wp.retV (len := 1) rfl rfl ?_
                            first
                              | exact ⟨rfl, τ3, rfl, h⟩
                              | (rcases hq : lw1 T (.inr s) with z | s2
                                 · rw [hq] at l2
                                   exact ⟨rfl, τ2, rfl, (f.t f2).k, l2, fun q => by cases q⟩
                                 · rw [hq] at h224; cases h224)
                        · cases h170
                      · cases h126
                · omega
              · cases h90
            · exact absurd rfl h76
          · cases h61
        · cases h35
      · cases h21
    · cases h7
end LNA
end
