section
/-! TOKENS: what a token is; the reference's way to the next one. -/
def isBl (x : Int32) : Bool := decide (x = 32 ∨ x = 10)
def isLt (x : Int32) : Bool := decide (97 ≤ x.toInt ∧ x.toInt ≤ 122)
def isDg (x : Int32) : Bool := decide (48 ≤ x.toInt ∧ x.toInt ≤ 57)
def rn (p : Nat → Bool) : Nat → Nat → Nat
  | 0, i => i
  | m + 1, i => if p i = true then rn p m (i + 1) else i
def tn (T : TP) (p : Int32 → Bool) (s : Nat) : Nat := rn (fun i => p (T.2 i)) (T.1 - s) s
/-- the kind of the token that begins at s -/
def tk (T : TP) (s : Nat) : Nat := if T.1 ≤ s then 0 else if isLt (T.2 s) = true then 1 else if isDg (T.2 s) = true then 2 else if T.2 s = 59 then 3 else 4
/-- its end -/
def en (T : TP) (s : Nat) : Nat := if T.1 ≤ s then s else if isLt (T.2 s) = true then tn T isLt s else if isDg (T.2 s) = true then tn T isDg s else s + 1
def bl (T : TP) (s : Nat) : Nat := tn T isBl s
def nx (T : TP) (s : Nat) : Nat := bl T (en T s)
def hsN (T : TP) (s : Nat) : Nat → Nat
  | 0 => 0
  | m + 1 => 27 * hsN T s m + ((T.2 (s + m)).toNatClampNeg - 96)
def vdN (T : TP) (s : Nat) : Nat → Nat
  | 0 => 0
  | m + 1 => 10 * vdN T s m + ((T.2 (s + m)).toNatClampNeg - 48)
def vl (T : TP) (s : Nat) : Nat := if tk T s = 2 then vdN T s (en T s - s) else 0
def wv (T : TP) (s m : Nat) : Int64 := if m ≤ 12 then lN (hsN T s m) else -1
def wl (T : TP) (s : Nat) : Int64 := if tk T s = 1 then wv T s (en T s - s) else 0
def isW (T : TP) (s h : Nat) : Bool := decide (tk T s = 1 ∧ en T s - s ≤ 12 ∧ hsN T s (en T s - s) = h)
def VR (r v : Nat) : Prop := r ≤ 1000009 ∧ (r = v ∨ (100000 < r ∧ 100000 < v))
theorem rn_le {p : Nat → Bool} : ∀ (m i : Nat), i ≤ rn p m i ∧ rn p m i ≤ i + m
  | 0, i => ⟨Nat.le_refl _, Nat.le_refl _⟩
  | m + 1, i => by
    unfold rn
    have h := rn_le (p := p) m (i + 1)
    by_cases c : p i = true
    · rw [if_pos c]; omega
    · rw [if_neg c]; omega
section TN
variable {T : TP} {p : Int32 → Bool} {s : Nat}
theorem tn_go (h : s < T.1) (hp : p (T.2 s) = true) : tn T p s = tn T p (s + 1) := by
  unfold tn
  rw [show T.1 - s = (T.1 - (s + 1)) + 1 by omega]
  show (if p (T.2 s) = true then _ else _) = _
  rw [if_pos hp]
theorem tn_no (h : ¬ (s < T.1 ∧ p (T.2 s) = true)) : tn T p s = s := by
  unfold tn
  by_cases c : s < T.1
  · rw [show T.1 - s = (T.1 - (s + 1)) + 1 by omega]
    show (if p (T.2 s) = true then _ else _) = _
    rw [if_neg (fun q => h ⟨c, q⟩)]
  · rw [show T.1 - s = 0 by omega]
    rfl
theorem tn_le (h : s ≤ T.1) : s ≤ tn T p s ∧ tn T p s ≤ T.1 := by
  have := rn_le (p := fun i => p (T.2 i)) (T.1 - s) s
  unfold tn
  omega
theorem en_le (h : s ≤ T.1) : s ≤ en T s ∧ en T s ≤ T.1 := by
  have h1 := tn_le (p := isLt) h
  have h2 := tn_le (p := isDg) h
  unfold en
  split
  · omega
  · split
    · exact h1
    · split
      · exact h2
      · omega
theorem en_lt (h : s < T.1) : s < en T s := by
  unfold en
  rw [if_neg (by omega)]
  split
  · rename_i c
    have h1 := tn_le (T := T) (p := isLt) (s := s + 1) h
    rw [tn_go h c]; omega
  · split
    · rename_i c
      have h1 := tn_le (T := T) (p := isDg) (s := s + 1) h
      rw [tn_go h c]; omega
    · omega
theorem nx_le (h : s ≤ T.1) : nx T s ≤ T.1 ∧ en T s ≤ nx T s := by
  have h1 := en_le h
  have h2 := tn_le (T := T) (p := isBl) h1.2
  unfold nx bl
  omega
theorem tk_0 : tk T s = 0 ↔ T.1 ≤ s := by
  unfold tk
  constructor
  · intro h
    by_cases c : T.1 ≤ s
    · exact c
    · rw [if_neg c] at h
      split at h
      · cases h
      · split at h
        · cases h
        · split at h <;> cases h
  · intro h
    rw [if_pos h]
theorem lt_of {x : Int32} (h : isLt x = true) : ∃ c, x = nI c ∧ 97 ≤ c ∧ c ≤ 122 := by
  have h1 := of_decide_eq_true h
  obtain ⟨c, hc, rfl⟩ := nI_of (x := x) (by rw [i_lt]; intro q; have : x.toInt < 0 := q; omega)
  rw [nI_toInt hc] at h1
  exact ⟨c, rfl, by omega, by omega⟩
theorem dg_of {x : Int32} (h : isDg x = true) : ∃ c, x = nI c ∧ 48 ≤ c ∧ c ≤ 57 := by
  have h1 := of_decide_eq_true h
  obtain ⟨c, hc, rfl⟩ := nI_of (x := x) (by rw [i_lt]; intro q; have : x.toInt < 0 := q; omega)
  rw [nI_toInt hc] at h1
  exact ⟨c, rfl, by omega, by omega⟩
end TN
def iby (T : TP) (k : Nat) (lo hi : Int32) : Bool := decide (k < T.1 ∧ lo.toInt ≤ (T.2 k).toInt ∧ (T.2 k).toInt ≤ hi.toInt)
theorem iby_lt {T : TP} {k : Nat} : iby T k 97 122 = true ↔ k < T.1 ∧ isLt (T.2 k) = true := by
  unfold iby isLt
  rw [decide_eq_true_iff, decide_eq_true_iff]
  exact Iff.rfl
theorem iby_dg {T : TP} {k : Nat} : iby T k 48 57 = true ↔ k < T.1 ∧ isDg (T.2 k) = true := by
  unfold iby isDg
  rw [decide_eq_true_iff, decide_eq_true_iff]
  exact Iff.rfl
theorem eq_toInt {x y : Int32} : x = y ↔ x.toInt = y.toInt := ⟨fun h => by rw [h], fun h => Int32.toInt_inj.mp h⟩
theorem iby_bl {T : TP} {k : Nat} : (iby T k 32 32 = true ∨ iby T k 10 10 = true) ↔ k < T.1 ∧ isBl (T.2 k) = true := by
  unfold iby isBl
  rw [decide_eq_true_iff, decide_eq_true_iff, decide_eq_true_iff, eq_toInt, eq_toInt]
  have e1 : (32 : Int32).toInt = 32 := rfl
  have e2 : (10 : Int32).toInt = 10 := rfl
  rw [e1, e2]
  omega
/-- only the token differs -/
def FrN (σ σ' : MS) : Prop := (∀ j, List.elem j [7, 8, 9, 10] = false → σ'.1 j = σ.1 j) ∧ σ'.2.2 = σ.2.2
theorem FrN.r {σ : MS} : FrN σ σ := ⟨fun _ _ => rfl, rfl⟩
theorem FrN.t {σ σ' σ'' : MS} (h : FrN σ σ') (h' : FrN σ' σ'') : FrN σ σ'' := ⟨fun j hj => (h'.1 j hj).trans (h.1 j hj), h'.2.trans h.2⟩
theorem FrN.f {σ : MS} {j : Nat} {x : Int32} (hj : List.elem j [7, 8, 9, 10] = true) : FrN σ (fset σ j x) := ⟨fun i hi => pk_un (fun e => by rw [e, hj] at hi; cases hi), rfl⟩
theorem FrN.j {σ : MS} {x : Int64} : FrN σ (jset σ x) := ⟨fun _ _ => rfl, rfl⟩
theorem FrN.T {σ σ' : MS} {T : TP} (h : FrN σ σ') (hT : TM σ T) : TM σ' T := ⟨(h.1 6 rfl).trans hT.1, hT.2.1, fun i hi => by rw [h.2]; exact hT.2.2 i hi⟩
/-- the token that begins at s is the present one -/
def LN (σ : MS) (T : TP) (s : Nat) : Prop := σ.1 7 = nI (en T s) ∧ σ.1 8 = nI (tk T s) ∧ σ.1 9 = nI s ∧ (∃ r, σ.1 10 = nI r ∧ VR r (vl T s)) ∧ σ.2.1 = wl T s ∧ s ≤ T.1
section NEXT
variable {d : Nat} {M : AM} {σ σ' : MS} {T : TP} {Q : Option Value → AM → Prop}
theorem m_isByte (hT : TM σ T) {k : Nat} (hk : k ≤ T.1) (lo hi : Int32) : Ev d md_164 0 [some (.ref 287), some (.int (nI k)), some (.int lo), some (.int hi)] [] (mset M σ) (some (.int (bI (iby T k lo hi))), mset M σ) := by
  refine Wp.toEv ?_
  have t20 := hT.2.1
  refine Wp.n (pc' := 5) 3 rfl ?_
  refine Wp.top hT.1 ?_
  refine Wp.nc3 (x := k) (y := T.1) (tgt := 32) (len := 3) rfl (by omega) (by omega) (fun h5 => ?_) (fun h5 => ?_)
  · skip
    refine Wp.n (pc' := 33) 1 rfl ?_
    refine Wp.retZ (len := 1) (c := false) rfl rfl rfl ?_
    first
      | exact ⟨by rw [show iby T k lo hi = true from decide_eq_true ⟨by omega, by rw [i_lt] at h15; omega, by rw [i_lt] at h25; omega⟩], rfl⟩
      | exact ⟨by rw [show iby T k lo hi = false from decide_eq_false (fun q => by rw [i_lt] at h25; omega)], rfl⟩
      | exact ⟨by rw [show iby T k lo hi = false from decide_eq_false (fun q => by rw [i_lt] at h15; omega)], rfl⟩
      | exact ⟨by rw [show iby T k lo hi = false from decide_eq_false (fun q => by omega)], rfl⟩
  · skip
    refine Wp.n (pc' := 13) 3 rfl ?_
    refine Wp.baldN (j := k) (len := 1) rfl rfl rfl (by omega) (by decide) ?_
    refine Wp.top (hT.2.2 k (by omega)) ?_
    refine Wp.n (pc' := 15) 1 rfl ?_
    refine Wp.ic2 (tgt := 32) (len := 3) rfl (fun h15 => ?_) (fun h15 => ?_)
    · skip
      refine Wp.n (pc' := 33) 1 rfl ?_
      refine Wp.retZ (len := 1) (c := false) rfl rfl rfl ?_
      first
        | exact ⟨by rw [show iby T k lo hi = true from decide_eq_true ⟨by omega, by rw [i_lt] at h15; omega, by rw [i_lt] at h25; omega⟩], rfl⟩
        | exact ⟨by rw [show iby T k lo hi = false from decide_eq_false (fun q => by rw [i_lt] at h25; omega)], rfl⟩
        | exact ⟨by rw [show iby T k lo hi = false from decide_eq_false (fun q => by rw [i_lt] at h15; omega)], rfl⟩
        | exact ⟨by rw [show iby T k lo hi = false from decide_eq_false (fun q => by omega)], rfl⟩
    · skip
      refine Wp.n (pc' := 23) 3 rfl ?_
      refine Wp.baldN (j := k) (len := 1) rfl rfl rfl (by omega) (by decide) ?_
      refine Wp.top (hT.2.2 k (by omega)) ?_
      refine Wp.n (pc' := 25) 1 rfl ?_
      refine Wp.ic4 (tgt := 32) (len := 3) rfl (fun h25 => ?_) (fun h25 => ?_)
      · skip
        refine Wp.n (pc' := 33) 1 rfl ?_
        refine Wp.retZ (len := 1) (c := false) rfl rfl rfl ?_
        first
          | exact ⟨by rw [show iby T k lo hi = true from decide_eq_true ⟨by omega, by rw [i_lt] at h15; omega, by rw [i_lt] at h25; omega⟩], rfl⟩
          | exact ⟨by rw [show iby T k lo hi = false from decide_eq_false (fun q => by rw [i_lt] at h25; omega)], rfl⟩
          | exact ⟨by rw [show iby T k lo hi = false from decide_eq_false (fun q => by rw [i_lt] at h15; omega)], rfl⟩
          | exact ⟨by rw [show iby T k lo hi = false from decide_eq_false (fun q => by omega)], rfl⟩
      · skip
        refine Wp.n (pc' := 33) 2 rfl ?_
        refine Wp.retZ (len := 1) (c := true) rfl rfl rfl ?_
        first
          | exact ⟨by rw [show iby T k lo hi = true from decide_eq_true ⟨by omega, by rw [i_lt] at h15; omega, by rw [i_lt] at h25; omega⟩], rfl⟩
          | exact ⟨by rw [show iby T k lo hi = false from decide_eq_false (fun q => by rw [i_lt] at h25; omega)], rfl⟩
          | exact ⟨by rw [show iby T k lo hi = false from decide_eq_false (fun q => by rw [i_lt] at h15; omega)], rfl⟩
          | exact ⟨by rw [show iby T k lo hi = false from decide_eq_false (fun q => by omega)], rfl⟩
theorem m_next_1 : ∀ (n p : Nat) {σ : MS}, TM σ T → p + n = T.1 → σ.1 7 = nI p → (∀ σ', FrN σ σ' → σ'.1 7 = nI (bl T p) → Wp (d + 1) md_163 43 [some (.ref 287), none] [] (mset M σ') Q) → Wp (d + 1) md_163 0 [some (.ref 287), none] [] (mset M σ) Q
  | 0, p, σ, hT, hn, h7, kk => by
    have t20 := hT.2.1
    have e : bl T p = p := tn_no (fun q => by omega)
    refine Wp.n (pc' := 5) 3 rfl ?_
    refine Wp.top h7 ?_
    refine Wp.n (pc' := 9) 2 rfl ?_
    refine Wp.ecallV (len := 3) rfl rfl rfl (rfl) rfl (by decide) rfl (m_isByte hT (k := p) (by omega) _ _) ?_
    refine Wp.ifb1 (tgt := 30) (len := 3) rfl (fun h12 => ?_) (fun h12 => ?_)
    · exact absurd (iby_bl.mp (Or.inl h12)).1 (by omega)
    · skip
      refine Wp.n (pc' := 20) 3 rfl ?_
      refine Wp.top h7 ?_
      refine Wp.n (pc' := 24) 2 rfl ?_
      refine Wp.ecallV (len := 3) rfl rfl rfl (rfl) rfl (by decide) rfl (m_isByte hT (k := p) (by omega) _ _) ?_
      refine Wp.ifb0 (tgt := 43) (len := 3) rfl (fun h27 => ?_) (fun h27 => ?_)
      · skip
        exact kk σ FrN.r (by rw [e]; exact h7)
      · exact absurd (iby_bl.mp (Or.inr h27)).1 (by omega)
  | n + 1, p, σ, hT, hn, h7, kk => by
    have t20 := hT.2.1
    refine Wp.n (pc' := 5) 3 rfl ?_
    refine Wp.top h7 ?_
    refine Wp.n (pc' := 9) 2 rfl ?_
    refine Wp.ecallV (len := 3) rfl rfl rfl (rfl) rfl (by decide) rfl (m_isByte hT (k := p) (by omega) _ _) ?_
    refine Wp.ifb1 (tgt := 30) (len := 3) rfl (fun h12 => ?_) (fun h12 => ?_)
    · skip
      refine Wp.n (pc' := 35) 3 rfl ?_
      refine Wp.top h7 ?_
      refine Wp.n (pc' := 36) 1 rfl ?_
      refine Wp.iaddN (x := p) (y := 1) (len := 1) rfl ?_
      refine Wp.mput (len := 3) rfl rfl ?_
      refine Wp.n (pc' := 0) 1 rfl ?_
      have hb : isBl (T.2 p) = true := (iby_bl.mp (by first | exact Or.inl h12 | exact Or.inr h27)).2
      have w := m_next_1 n (p + 1) (σ := fset σ 7 (nI (p + 1))) (FrN.T (FrN.f rfl) hT) (by omega) rfl (fun σ' f h => kk σ' ((FrN.f rfl).t f) (by rw [show bl T p = bl T (p + 1) from tn_go (by omega) hb]; exact h))
      exact w
    · skip
      refine Wp.n (pc' := 20) 3 rfl ?_
      refine Wp.top h7 ?_
      refine Wp.n (pc' := 24) 2 rfl ?_
      refine Wp.ecallV (len := 3) rfl rfl rfl (rfl) rfl (by decide) rfl (m_isByte hT (k := p) (by omega) _ _) ?_
      refine Wp.ifb0 (tgt := 43) (len := 3) rfl (fun h27 => ?_) (fun h27 => ?_)
      · skip
        have hb : bl T p = p := tn_no (fun q => by
          rcases iby_bl.mpr q with c | c
          · rw [h12] at c; cases c
          · rw [h27] at c; cases c)
        exact kk σ FrN.r (by rw [hb]; exact h7)
      · skip
        refine Wp.n (pc' := 35) 3 rfl ?_
        refine Wp.top h7 ?_
        refine Wp.n (pc' := 36) 1 rfl ?_
        refine Wp.iaddN (x := p) (y := 1) (len := 1) rfl ?_
        refine Wp.mput (len := 3) rfl rfl ?_
        refine Wp.n (pc' := 0) 1 rfl ?_
        have hb : isBl (T.2 p) = true := (iby_bl.mp (by first | exact Or.inl h12 | exact Or.inr h27)).2
        have w := m_next_1 n (p + 1) (σ := fset σ 7 (nI (p + 1))) (FrN.T (FrN.f rfl) hT) (by omega) rfl (fun σ' f h => kk σ' ((FrN.f rfl).t f) (by rw [show bl T p = bl T (p + 1) from tn_go (by omega) hb]; exact h))
        exact w
/-- letters -/
theorem m_next_2 {s : Nat} (kk : ∀ σ' n', FrN σ σ' → σ'.1 7 = nI (tn T isLt s) → σ'.1 8 = σ.1 8 → σ'.1 9 = σ.1 9 → σ'.1 10 = σ.1 10 → σ'.2.1 = wv T s (tn T isLt s - s) → Wp (d + 1) md_163 307 [some (.ref 287), some (.int n')] [] (mset M σ') Q) : ∀ (n m : Nat) {σ1 : MS}, TM σ1 T → s + m + n = T.1 → σ1.1 7 = nI (s + m) → FrN σ σ1 → σ1.1 8 = σ.1 8 → σ1.1 9 = σ.1 9 → σ1.1 10 = σ.1 10 → σ1.2.1 = wv T s m → tn T isLt s = tn T isLt (s + m) → Wp (d + 1) md_163 102 [some (.ref 287), some (.int (nI m))] [] (mset M σ1) Q
  | 0, m, σ1, hT, hn, h7, f, e8, e9, e10, hw, et => by
    have t20 := hT.2.1
    have e0 : tn T isLt (s + m) = s + m := tn_no (fun q => by omega)
    refine Wp.n (pc' := 107) 3 rfl ?_
    refine Wp.top h7 ?_
    refine Wp.n (pc' := 111) 2 rfl ?_
    refine Wp.ecallV (len := 3) rfl rfl rfl (rfl) rfl (by decide) rfl (m_isByte hT (k := s + m) (by omega) _ _) ?_
    refine Wp.ifb0 (tgt := 185) (len := 3) rfl (fun h114 => ?_) (fun h114 => ?_)
    · skip
      refine Wp.n (pc' := 307) 1 rfl ?_
      refine kk σ1 _ f (by rw [et, e0]; exact h7) e8 e9 e10 ?_
      rw [et, e0, show s + m - s = m by omega]
      exact hw
    · exact absurd (iby_lt.mp h114).1 (by omega)
  | n + 1, m, σ1, hT, hn, h7, f, e8, e9, e10, hw, et => by
    have t20 := hT.2.1
    refine Wp.n (pc' := 107) 3 rfl ?_
    refine Wp.top h7 ?_
    refine Wp.n (pc' := 111) 2 rfl ?_
    refine Wp.ecallV (len := 3) rfl rfl rfl (rfl) rfl (by decide) rfl (m_isByte hT (k := s + m) (by omega) _ _) ?_
    refine Wp.ifb0 (tgt := 185) (len := 3) rfl (fun h114 => ?_) (fun h114 => ?_)
    · skip
      refine Wp.n (pc' := 307) 1 rfl ?_
      refine kk σ1 _ f (by rw [et, tn_no (fun q => by rw [iby_lt.mpr q] at h114; cases h114)]; exact h7) e8 e9 e10 ?_
      rw [et, tn_no (fun q => by rw [iby_lt.mpr q] at h114; cases h114), show s + m - s = m by omega]
      exact hw
    · skip
      have hl := (iby_lt.mp h114).2
      obtain ⟨c, hc, c1, c2⟩ := lt_of hl
      refine Wp.n (pc' := 121) 3 rfl ?_
      refine Wp.nc5 (x := m) (y := 11) (tgt := 130) (len := 3) rfl (by omega) (by omega) (fun h121 => ?_) (fun h121 => ?_)
      · skip
        refine Wp.n (pc' := 137) 3 rfl ?_
        refine Wp.topL (hw.trans (if_pos (by omega))) ?_
        refine Wp.lmulM (x := 27) (y := hsN T s m) (len := 1) rfl ?_
        refine Wp.n (pc' := 146) 4 rfl ?_
        refine Wp.top h7 ?_
        refine Wp.baldN (j := s + m) (len := 1) rfl rfl rfl (by omega) (by decide) ?_
        refine Wp.top ((hT.2.2 (s + m) (by omega)).trans hc) ?_
        refine Wp.i2lM (x := c) (len := 1) rfl (by omega) ?_
        refine Wp.laddM (x := 27 * (hsN T s m)) (y := c) (len := 1) rfl ?_
        refine Wp.n (pc' := 152) 1 rfl ?_
        refine Wp.lsubM (x := (27 * (hsN T s m)) + c) (y := 96) (len := 1) rfl (by omega) ?_
        refine Wp.mputJ (len := 3) rfl ?_
        refine Wp.n (pc' := 159) 2 rfl ?_
        refine Wp.nc5 (x := m) (y := 11) (tgt := 169) (len := 3) rfl (by omega) (by omega) (fun h159 => ?_) (fun h159 => ?_)
        · skip
          refine Wp.n (pc' := 174) 3 rfl ?_
          refine Wp.top h7 ?_
          refine Wp.n (pc' := 175) 1 rfl ?_
          refine Wp.iaddN (x := s + m) (y := 1) (len := 1) rfl ?_
          refine Wp.mput (len := 3) rfl rfl ?_
          refine Wp.incN (x := m) (len := 3) rfl rfl ?_
          refine Wp.n (pc' := 102) 1 rfl ?_
          have hw1 : wv T s (m + 1) = if m ≤ 11 then lN (27 * hsN T s m + c - 96) else -1 := by
            unfold wv
            by_cases q : m ≤ 11
            · rw [if_pos q, if_pos (by omega)]
              show lN (27 * hsN T s m + ((T.2 (s + m)).toNatClampNeg - 96)) = _
              rw [hc, nI_clamp (by omega)]
              exact congrArg lN (by omega)
            · rw [if_neg q, if_neg (by omega)]
          first
            | omega
            | exact m_next_2 kk n (m + 1) (FrN.T (FrN.t FrN.j (FrN.f rfl)) hT) (by omega) rfl (f.t (FrN.t FrN.j (FrN.f rfl))) e8 e9 e10 (by rw [hw1, if_pos (by omega)]; rfl) (by rw [et]; exact tn_go (by omega) hl)
            | exact m_next_2 kk n (m + 1) (FrN.T (FrN.t FrN.j (FrN.t FrN.j (FrN.f rfl))) hT) (by omega) rfl (f.t (FrN.t FrN.j (FrN.t FrN.j (FrN.f rfl)))) e8 e9 e10 (by rw [hw1, if_neg (by omega)]; rfl) (by rw [et]; exact tn_go (by omega) hl)
        · skip
          refine Wp.n (pc' := 166) 2 rfl ?_
          refine Wp.mputJ (len := 3) rfl ?_
          refine Wp.n (pc' := 174) 3 rfl ?_
          refine Wp.top h7 ?_
          refine Wp.n (pc' := 175) 1 rfl ?_
          refine Wp.iaddN (x := s + m) (y := 1) (len := 1) rfl ?_
          refine Wp.mput (len := 3) rfl rfl ?_
          refine Wp.incN (x := m) (len := 3) rfl rfl ?_
          refine Wp.n (pc' := 102) 1 rfl ?_
          have hw1 : wv T s (m + 1) = if m ≤ 11 then lN (27 * hsN T s m + c - 96) else -1 := by
            unfold wv
            by_cases q : m ≤ 11
            · rw [if_pos q, if_pos (by omega)]
              show lN (27 * hsN T s m + ((T.2 (s + m)).toNatClampNeg - 96)) = _
              rw [hc, nI_clamp (by omega)]
              exact congrArg lN (by omega)
            · rw [if_neg q, if_neg (by omega)]
          first
            | omega
            | exact m_next_2 kk n (m + 1) (FrN.T (FrN.t FrN.j (FrN.f rfl)) hT) (by omega) rfl (f.t (FrN.t FrN.j (FrN.f rfl))) e8 e9 e10 (by rw [hw1, if_pos (by omega)]; rfl) (by rw [et]; exact tn_go (by omega) hl)
            | exact m_next_2 kk n (m + 1) (FrN.T (FrN.t FrN.j (FrN.t FrN.j (FrN.f rfl))) hT) (by omega) rfl (f.t (FrN.t FrN.j (FrN.t FrN.j (FrN.f rfl)))) e8 e9 e10 (by rw [hw1, if_neg (by omega)]; rfl) (by rw [et]; exact tn_go (by omega) hl)
      · skip
        refine Wp.n (pc' := 153) 2 rfl ?_
        refine Wp.mputJ (len := 3) rfl ?_
        refine Wp.n (pc' := 159) 2 rfl ?_
        refine Wp.nc5 (x := m) (y := 11) (tgt := 169) (len := 3) rfl (by omega) (by omega) (fun h159 => ?_) (fun h159 => ?_)
        · skip
          refine Wp.n (pc' := 174) 3 rfl ?_
          refine Wp.top h7 ?_
          refine Wp.n (pc' := 175) 1 rfl ?_
          refine Wp.iaddN (x := s + m) (y := 1) (len := 1) rfl ?_
          refine Wp.mput (len := 3) rfl rfl ?_
          refine Wp.incN (x := m) (len := 3) rfl rfl ?_
          refine Wp.n (pc' := 102) 1 rfl ?_
          have hw1 : wv T s (m + 1) = if m ≤ 11 then lN (27 * hsN T s m + c - 96) else -1 := by
            unfold wv
            by_cases q : m ≤ 11
            · rw [if_pos q, if_pos (by omega)]
              show lN (27 * hsN T s m + ((T.2 (s + m)).toNatClampNeg - 96)) = _
              rw [hc, nI_clamp (by omega)]
              exact congrArg lN (by omega)
            · rw [if_neg q, if_neg (by omega)]
          first
            | omega
            | exact m_next_2 kk n (m + 1) (FrN.T (FrN.t FrN.j (FrN.f rfl)) hT) (by omega) rfl (f.t (FrN.t FrN.j (FrN.f rfl))) e8 e9 e10 (by rw [hw1, if_pos (by omega)]; rfl) (by rw [et]; exact tn_go (by omega) hl)
            | exact m_next_2 kk n (m + 1) (FrN.T (FrN.t FrN.j (FrN.t FrN.j (FrN.f rfl))) hT) (by omega) rfl (f.t (FrN.t FrN.j (FrN.t FrN.j (FrN.f rfl)))) e8 e9 e10 (by rw [hw1, if_neg (by omega)]; rfl) (by rw [et]; exact tn_go (by omega) hl)
        · skip
          refine Wp.n (pc' := 166) 2 rfl ?_
          refine Wp.mputJ (len := 3) rfl ?_
          refine Wp.n (pc' := 174) 3 rfl ?_
          refine Wp.top h7 ?_
          refine Wp.n (pc' := 175) 1 rfl ?_
          refine Wp.iaddN (x := s + m) (y := 1) (len := 1) rfl ?_
          refine Wp.mput (len := 3) rfl rfl ?_
          refine Wp.incN (x := m) (len := 3) rfl rfl ?_
          refine Wp.n (pc' := 102) 1 rfl ?_
          have hw1 : wv T s (m + 1) = if m ≤ 11 then lN (27 * hsN T s m + c - 96) else -1 := by
            unfold wv
            by_cases q : m ≤ 11
            · rw [if_pos q, if_pos (by omega)]
              show lN (27 * hsN T s m + ((T.2 (s + m)).toNatClampNeg - 96)) = _
              rw [hc, nI_clamp (by omega)]
              exact congrArg lN (by omega)
            · rw [if_neg q, if_neg (by omega)]
          first
            | omega
            | exact m_next_2 kk n (m + 1) (FrN.T (FrN.t FrN.j (FrN.f rfl)) hT) (by omega) rfl (f.t (FrN.t FrN.j (FrN.f rfl))) e8 e9 e10 (by rw [hw1, if_pos (by omega)]; rfl) (by rw [et]; exact tn_go (by omega) hl)
            | exact m_next_2 kk n (m + 1) (FrN.T (FrN.t FrN.j (FrN.t FrN.j (FrN.f rfl))) hT) (by omega) rfl (f.t (FrN.t FrN.j (FrN.t FrN.j (FrN.f rfl)))) e8 e9 e10 (by rw [hw1, if_neg (by omega)]; rfl) (by rw [et]; exact tn_go (by omega) hl)
/-- digits -/
theorem m_next_3 {s : Nat} (kk : ∀ σ', FrN σ σ' → σ'.1 7 = nI (tn T isDg s) → σ'.1 8 = σ.1 8 → σ'.1 9 = σ.1 9 → σ'.2.1 = σ.2.1 → (∃ r, σ'.1 10 = nI r ∧ VR r (vdN T s (tn T isDg s - s))) → Wp (d + 1) md_163 307 [some (.ref 287), none] [] (mset M σ') Q) : ∀ (n m : Nat) {σ1 : MS}, TM σ1 T → s + m + n = T.1 → σ1.1 7 = nI (s + m) → FrN σ σ1 → σ1.1 8 = σ.1 8 → σ1.1 9 = σ.1 9 → σ1.2.1 = σ.2.1 → (∃ r, σ1.1 10 = nI r ∧ VR r (vdN T s m)) → tn T isDg s = tn T isDg (s + m) → Wp (d + 1) md_163 208 [some (.ref 287), none] [] (mset M σ1) Q
  | 0, m, σ1, hT, hn, h7, f, e8, e9, e11, hv, et => by
    have t20 := hT.2.1
    have e0 : tn T isDg (s + m) = s + m := tn_no (fun q => by omega)
    refine Wp.n (pc' := 213) 3 rfl ?_
    refine Wp.top h7 ?_
    refine Wp.n (pc' := 217) 2 rfl ?_
    refine Wp.ecallV (len := 3) rfl rfl rfl (rfl) rfl (by decide) rfl (m_isByte hT (k := s + m) (by omega) _ _) ?_
    refine Wp.ifb0 (tgt := 307) (len := 3) rfl (fun h220 => ?_) (fun h220 => ?_)
    · skip
      refine kk σ1 f (by rw [et, e0]; exact h7) e8 e9 e11 ?_
      rw [et, e0, show s + m - s = m by omega]
      exact hv
    · exact absurd (iby_dg.mp h220).1 (by omega)
  | n + 1, m, σ1, hT, hn, h7, f, e8, e9, e11, hv, et => by
    have t20 := hT.2.1
    obtain ⟨r, h10, r1, r2⟩ := id hv
    refine Wp.n (pc' := 213) 3 rfl ?_
    refine Wp.top h7 ?_
    refine Wp.n (pc' := 217) 2 rfl ?_
    refine Wp.ecallV (len := 3) rfl rfl rfl (rfl) rfl (by decide) rfl (m_isByte hT (k := s + m) (by omega) _ _) ?_
    refine Wp.ifb0 (tgt := 307) (len := 3) rfl (fun h220 => ?_) (fun h220 => ?_)
    · skip
      refine kk σ1 f (by rw [et, tn_no (fun q => by rw [iby_dg.mpr q] at h220; cases h220)]; exact h7) e8 e9 e11 ?_
      rw [et, tn_no (fun q => by rw [iby_dg.mpr q] at h220; cases h220), show s + m - s = m by omega]
      exact hv
    · skip
      have hl := (iby_dg.mp h220).2
      obtain ⟨c, hc, c1, c2⟩ := dg_of hl
      have hvd : vdN T s (m + 1) = 10 * vdN T s m + (c - 48) := by
        show 10 * vdN T s m + ((T.2 (s + m)).toNatClampNeg - 48) = _
        rw [hc, nI_clamp (by omega)]
      refine Wp.n (pc' := 228) 3 rfl ?_
      refine Wp.top h10 ?_
      refine Wp.n (pc' := 230) 1 rfl ?_
      refine Wp.nc5 (x := r) (y := 100000) (tgt := 238) (len := 3) rfl (by omega) (by omega) (fun h230 => ?_) (fun h230 => ?_)
      · skip
        refine Wp.n (pc' := 244) 3 rfl ?_
        refine Wp.top h10 ?_
        refine Wp.imulN (x := 10) (y := r) (len := 1) rfl ?_
        refine Wp.n (pc' := 253) 4 rfl ?_
        refine Wp.top h7 ?_
        refine Wp.baldN (j := s + m) (len := 1) rfl rfl rfl (by omega) (by decide) ?_
        refine Wp.top ((hT.2.2 (s + m) (by omega)).trans hc) ?_
        refine Wp.iaddN (x := 10 * r) (y := c) (len := 1) rfl ?_
        refine Wp.n (pc' := 257) 1 rfl ?_
        refine Wp.isubN (x := (10 * r) + c) (y := 48) (len := 1) rfl (by omega) ?_
        refine Wp.mput (len := 3) rfl rfl ?_
        refine Wp.n (pc' := 266) 3 rfl ?_
        refine Wp.top h7 ?_
        refine Wp.n (pc' := 267) 1 rfl ?_
        refine Wp.iaddN (x := s + m) (y := 1) (len := 1) rfl ?_
        refine Wp.mput (len := 3) rfl rfl ?_
        refine Wp.n (pc' := 208) 1 rfl ?_
        first
          | exact m_next_3 kk n (m + 1) (FrN.T (FrN.t (FrN.f rfl) (FrN.f rfl)) hT) (by omega) rfl (f.t (FrN.t (FrN.f rfl) (FrN.f rfl))) e8 e9 e11 ⟨1000000, rfl, by decide, Or.inr ⟨by decide, by omega⟩⟩ (by rw [et]; exact tn_go (by omega) hl)
          | exact m_next_3 kk n (m + 1) (FrN.T (FrN.t (FrN.f rfl) (FrN.f rfl)) hT) (by omega) rfl (f.t (FrN.t (FrN.f rfl) (FrN.f rfl))) e8 e9 e11 ⟨10 * r + c - 48, rfl, by omega, by omega⟩ (by rw [et]; exact tn_go (by omega) hl)
      · skip
        refine Wp.n (pc' := 258) 2 rfl ?_
        refine Wp.mput (len := 3) rfl rfl ?_
        refine Wp.n (pc' := 266) 3 rfl ?_
        refine Wp.top h7 ?_
        refine Wp.n (pc' := 267) 1 rfl ?_
        refine Wp.iaddN (x := s + m) (y := 1) (len := 1) rfl ?_
        refine Wp.mput (len := 3) rfl rfl ?_
        refine Wp.n (pc' := 208) 1 rfl ?_
        first
          | exact m_next_3 kk n (m + 1) (FrN.T (FrN.t (FrN.f rfl) (FrN.f rfl)) hT) (by omega) rfl (f.t (FrN.t (FrN.f rfl) (FrN.f rfl))) e8 e9 e11 ⟨1000000, rfl, by decide, Or.inr ⟨by decide, by omega⟩⟩ (by rw [et]; exact tn_go (by omega) hl)
          | exact m_next_3 kk n (m + 1) (FrN.T (FrN.t (FrN.f rfl) (FrN.f rfl)) hT) (by omega) rfl (f.t (FrN.t (FrN.f rfl) (FrN.f rfl))) e8 e9 e11 ⟨10 * r + c - 48, rfl, by omega, by omega⟩ (by rw [et]; exact tn_go (by omega) hl)
theorem m_next (hT : TM σ T) {p : Nat} (hp : p ≤ T.1) (h7 : σ.1 7 = nI p) : Wp (d + 1) md_163 0 [some (.ref 287), none] [] (mset M σ) (fun v M' => v = none ∧ ∃ σ', M' = mset M σ' ∧ FrN σ σ' ∧ LN σ' T (bl T p)) := by
  have t20 := hT.2.1
  refine m_next_1 (T.1 - p) p hT (by omega) h7 (fun σ1 f1 e7 => ?_)
  have hs := tn_le (T := T) (p := isBl) hp
  change p ≤ bl T p ∧ bl T p ≤ T.1 at hs
  have hT1 := f1.T hT
  generalize bl T p = s at e7 hs ⊢
  refine Wp.n (pc' := 48) 3 rfl ?_
  refine Wp.top e7 ?_
  refine Wp.mput (len := 3) rfl rfl ?_
  refine Wp.n (pc' := 53) 2 rfl ?_
  refine Wp.mput (len := 3) rfl rfl ?_
  refine Wp.n (pc' := 58) 2 rfl ?_
  refine Wp.mputJ (len := 3) rfl ?_
  refine Wp.n (pc' := 65) 2 rfl ?_
  refine Wp.top e7 ?_
  refine Wp.n (pc' := 69) 2 rfl ?_
  refine Wp.top hT1.1 ?_
  refine Wp.nc1 (x := s) (y := T.1) (tgt := 80) (len := 3) rfl (by omega) (by omega) (fun h69 => ?_) (fun h69 => ?_)
  · skip
    refine Wp.n (pc' := 85) 3 rfl ?_
    refine Wp.top e7 ?_
    refine Wp.n (pc' := 89) 2 rfl ?_
    refine Wp.ecallV (len := 3) rfl rfl rfl (rfl) rfl (by decide) rfl (m_isByte (FrN.T (FrN.t (FrN.f rfl) (FrN.t (FrN.f rfl) FrN.j)) hT1) (k := s) (by omega) _ _) ?_
    refine Wp.ifb0 (tgt := 188) (len := 3) rfl (fun h92 => ?_) (fun h92 => ?_)
    · have nl : ¬ isLt (T.2 s) = true := fun q => by rw [iby_lt.mpr ⟨by omega, q⟩] at h92; cases h92
      refine Wp.n (pc' := 193) 3 rfl ?_
      refine Wp.top e7 ?_
      refine Wp.n (pc' := 197) 2 rfl ?_
      refine Wp.ecallV (len := 3) rfl rfl rfl (rfl) rfl (by decide) rfl (m_isByte (FrN.T (FrN.t (FrN.f rfl) (FrN.t (FrN.f rfl) FrN.j)) hT1) (k := s) (by omega) _ _) ?_
      refine Wp.ifb0 (tgt := 274) (len := 3) rfl (fun h200 => ?_) (fun h200 => ?_)
      · have ng : ¬ isDg (T.2 s) = true := fun q => by rw [iby_dg.mpr ⟨by omega, q⟩] at h200; cases h200
        refine Wp.n (pc' := 283) 5 rfl ?_
        refine Wp.top e7 ?_
        refine Wp.baldN (j := s) (len := 1) rfl rfl rfl (by omega) (by decide) ?_
        refine Wp.top (hT1.2.2 s (by omega)) ?_
        refine Wp.n (pc' := 286) 1 rfl ?_
        refine Wp.ic1 (tgt := 293) (len := 3) rfl (fun h286 => ?_) (fun h286 => ?_)
        · skip
          refine Wp.n (pc' := 294) 1 rfl ?_
          refine Wp.mput (len := 3) rfl rfl ?_
          refine Wp.n (pc' := 302) 3 rfl ?_
          refine Wp.top e7 ?_
          refine Wp.n (pc' := 303) 1 rfl ?_
          refine Wp.iaddN (x := s) (y := 1) (len := 1) rfl ?_
          refine Wp.mput (len := 3) rfl rfl ?_
          refine Wp.retV (len := 1) rfl rfl ?_
          have f9 : ∀ (τ : MS) (a : Int32) (x : Int64) (y z : Int32), FrN τ (fset (jset (fset (fset τ 9 a) 10 y) x) 8 z) := fun τ a x y z => FrN.t (FrN.f rfl) (FrN.t (FrN.f rfl) (FrN.t FrN.j (FrN.f rfl)))
          first
            | (have t1 : tk T s = 0 := tk_0.mpr (by omega)
               have t2 : en T s = s := if_pos (by omega)
               exact ⟨rfl, _, rfl, f1.t (f9 _ _ _ _ _), by rw [t2]; exact e7, by rw [t1]; rfl, rfl, ⟨0, rfl, by decide, Or.inl (by unfold vl; rw [t1]; rfl)⟩, by unfold wl; rw [t1]; rfl, hs.2⟩)
            | (have t1 : tk T s = 3 := by unfold tk; rw [if_neg (by omega), if_neg nl, if_neg ng, if_pos h286]
               have t2 : en T s = s + 1 := by unfold en; rw [if_neg (by omega), if_neg nl, if_neg ng]
               exact ⟨rfl, _, rfl, f1.t ((f9 _ _ _ _ _).t (FrN.f rfl)), by rw [t2]; rfl, by rw [t1]; rfl, rfl, ⟨0, rfl, by decide, Or.inl (by unfold vl; rw [t1]; rfl)⟩, by unfold wl; rw [t1]; rfl, hs.2⟩)
            | (have t1 : tk T s = 4 := by unfold tk; rw [if_neg (by omega), if_neg nl, if_neg ng, if_neg h286]
               have t2 : en T s = s + 1 := by unfold en; rw [if_neg (by omega), if_neg nl, if_neg ng]
               exact ⟨rfl, _, rfl, f1.t ((f9 _ _ _ _ _).t (FrN.f rfl)), by rw [t2]; rfl, by rw [t1]; rfl, rfl, ⟨0, rfl, by decide, Or.inl (by unfold vl; rw [t1]; rfl)⟩, by unfold wl; rw [t1]; rfl, hs.2⟩)
        · skip
          refine Wp.n (pc' := 294) 2 rfl ?_
          refine Wp.mput (len := 3) rfl rfl ?_
          refine Wp.n (pc' := 302) 3 rfl ?_
          refine Wp.top e7 ?_
          refine Wp.n (pc' := 303) 1 rfl ?_
          refine Wp.iaddN (x := s) (y := 1) (len := 1) rfl ?_
          refine Wp.mput (len := 3) rfl rfl ?_
          refine Wp.retV (len := 1) rfl rfl ?_
          have f9 : ∀ (τ : MS) (a : Int32) (x : Int64) (y z : Int32), FrN τ (fset (jset (fset (fset τ 9 a) 10 y) x) 8 z) := fun τ a x y z => FrN.t (FrN.f rfl) (FrN.t (FrN.f rfl) (FrN.t FrN.j (FrN.f rfl)))
          first
            | (have t1 : tk T s = 0 := tk_0.mpr (by omega)
               have t2 : en T s = s := if_pos (by omega)
               exact ⟨rfl, _, rfl, f1.t (f9 _ _ _ _ _), by rw [t2]; exact e7, by rw [t1]; rfl, rfl, ⟨0, rfl, by decide, Or.inl (by unfold vl; rw [t1]; rfl)⟩, by unfold wl; rw [t1]; rfl, hs.2⟩)
            | (have t1 : tk T s = 3 := by unfold tk; rw [if_neg (by omega), if_neg nl, if_neg ng, if_pos h286]
               have t2 : en T s = s + 1 := by unfold en; rw [if_neg (by omega), if_neg nl, if_neg ng]
               exact ⟨rfl, _, rfl, f1.t ((f9 _ _ _ _ _).t (FrN.f rfl)), by rw [t2]; rfl, by rw [t1]; rfl, rfl, ⟨0, rfl, by decide, Or.inl (by unfold vl; rw [t1]; rfl)⟩, by unfold wl; rw [t1]; rfl, hs.2⟩)
            | (have t1 : tk T s = 4 := by unfold tk; rw [if_neg (by omega), if_neg nl, if_neg ng, if_neg h286]
               have t2 : en T s = s + 1 := by unfold en; rw [if_neg (by omega), if_neg nl, if_neg ng]
               exact ⟨rfl, _, rfl, f1.t ((f9 _ _ _ _ _).t (FrN.f rfl)), by rw [t2]; rfl, by rw [t1]; rfl, rfl, ⟨0, rfl, by decide, Or.inl (by unfold vl; rw [t1]; rfl)⟩, by unfold wl; rw [t1]; rfl, hs.2⟩)
      · have hg := (iby_dg.mp h200).2
        refine Wp.n (pc' := 205) 2 rfl ?_
        refine Wp.mput (len := 3) rfl rfl ?_
        have t1 : tk T s = 2 := by unfold tk; rw [if_neg (by omega), if_neg nl, if_pos hg]
        have t2 : en T s = tn T isDg s := by unfold en; rw [if_neg (by omega), if_neg nl, if_pos hg]
        refine m_next_3 (s := s) (fun σ' f g7 g8 g9 gw g10 => ?_) (T.1 - s) 0 (FrN.T (FrN.t (FrN.f rfl) (FrN.t (FrN.f rfl) (FrN.t FrN.j (FrN.f rfl)))) hT1) (by omega) e7 FrN.r rfl rfl rfl ⟨0, rfl, by decide, Or.inl rfl⟩ rfl
        refine Wp.retV (len := 1) rfl rfl ?_
        refine ⟨rfl, σ', rfl, (f1.t (FrN.t (FrN.f rfl) (FrN.t (FrN.f rfl) (FrN.t FrN.j (FrN.f rfl))))).t f, ?_, ?_, ?_, ?_, ?_, hs.2⟩
        · rw [t2]; exact g7
        · rw [t1]; exact g8
        · exact g9
        · unfold vl; rw [t1, if_pos rfl, t2]; exact g10
        · unfold wl; rw [t1]; exact gw
    · have hl := (iby_lt.mp h92).2
      refine Wp.n (pc' := 97) 2 rfl ?_
      refine Wp.mput (len := 3) rfl rfl ?_
      refine Wp.n (pc' := 102) 2 rfl ?_
      have t1 : tk T s = 1 := by unfold tk; rw [if_neg (by omega), if_pos hl]
      have t2 : en T s = tn T isLt s := by unfold en; rw [if_neg (by omega), if_pos hl]
      refine m_next_2 (s := s) (fun σ' n' f g7 g8 g9 g10 gw => ?_) (T.1 - s) 0 (FrN.T (FrN.t (FrN.f rfl) (FrN.t (FrN.f rfl) (FrN.t FrN.j (FrN.f rfl)))) hT1) (by omega) e7 FrN.r rfl rfl rfl rfl rfl
      refine Wp.retV (len := 1) rfl rfl ?_
      refine ⟨rfl, σ', rfl, (f1.t (FrN.t (FrN.f rfl) (FrN.t (FrN.f rfl) (FrN.t FrN.j (FrN.f rfl))))).t f, ?_, ?_, ?_, ⟨0, g10, by decide, Or.inl ?_⟩, ?_, hs.2⟩
      · rw [t2]; exact g7
      · rw [t1]; exact g8
      · exact g9
      · unfold vl; rw [t1]; rfl
      · unfold wl; rw [t1, if_pos rfl, t2]; exact gw
  · skip
    refine Wp.n (pc' := 74) 2 rfl ?_
    refine Wp.mput (len := 3) rfl rfl ?_
    refine Wp.n (pc' := 307) 1 rfl ?_
    refine Wp.retV (len := 1) rfl rfl ?_
    have f9 : ∀ (τ : MS) (a : Int32) (x : Int64) (y z : Int32), FrN τ (fset (jset (fset (fset τ 9 a) 10 y) x) 8 z) := fun τ a x y z => FrN.t (FrN.f rfl) (FrN.t (FrN.f rfl) (FrN.t FrN.j (FrN.f rfl)))
    first
      | (have t1 : tk T s = 0 := tk_0.mpr (by omega)
         have t2 : en T s = s := if_pos (by omega)
         exact ⟨rfl, _, rfl, f1.t (f9 _ _ _ _ _), by rw [t2]; exact e7, by rw [t1]; rfl, rfl, ⟨0, rfl, by decide, Or.inl (by unfold vl; rw [t1]; rfl)⟩, by unfold wl; rw [t1]; rfl, hs.2⟩)
      | (have t1 : tk T s = 3 := by unfold tk; rw [if_neg (by omega), if_neg nl, if_neg ng, if_pos h286]
         have t2 : en T s = s + 1 := by unfold en; rw [if_neg (by omega), if_neg nl, if_neg ng]
         exact ⟨rfl, _, rfl, f1.t ((f9 _ _ _ _ _).t (FrN.f rfl)), by rw [t2]; rfl, by rw [t1]; rfl, rfl, ⟨0, rfl, by decide, Or.inl (by unfold vl; rw [t1]; rfl)⟩, by unfold wl; rw [t1]; rfl, hs.2⟩)
      | (have t1 : tk T s = 4 := by unfold tk; rw [if_neg (by omega), if_neg nl, if_neg ng, if_neg h286]
         have t2 : en T s = s + 1 := by unfold en; rw [if_neg (by omega), if_neg nl, if_neg ng]
         exact ⟨rfl, _, rfl, f1.t ((f9 _ _ _ _ _).t (FrN.f rfl)), by rw [t2]; rfl, by rw [t1]; rfl, rfl, ⟨0, rfl, by decide, Or.inl (by unfold vl; rw [t1]; rfl)⟩, by unfold wl; rw [t1]; rfl, hs.2⟩)
end NEXT
end
section
/-! READING, the reference: words, numbers, faults. -/
abbrev St : Type := (Nat × Nat) ⊕ Nat
def gd : St → Bool
  | .inl _ => false
  | .inr _ => true
def adS (T : TP) : St → St
  | .inl x => .inl x
  | .inr s => .inr (nx T s)
def isS (T : TP) (h : Nat) : St → Bool
  | .inl _ => false
  | .inr s => isW T s h
def flS (k : Nat) : St → St
  | .inl x => .inl x
  | .inr s => .inl (k, s)
def wdS (T : TP) (h : Nat) : St → St
  | .inl x => .inl x
  | .inr s => if isW T s h = true then .inr (nx T s) else .inl (1, s)
def nmS (T : TP) (lo hi : Nat) : St → St
  | .inl x => .inl x
  | .inr s => if tk T s = 2 then (if lo ≤ vl T s ∧ vl T s ≤ hi then .inr (nx T s) else .inl (2, s)) else .inl (1, s)
def nmV (T : TP) : St → Nat
  | .inl _ => 0
  | .inr s => vl T s
def otS (T : TP) (P : Nat) (ok : Nat → Bool) : St → St
  | .inl x => .inl x
  | .inr s => if tk T s = 2 then (if vl T s < P ∧ ok (vl T s) = true then .inr (nx T s) else .inl (2, s)) else .inl (1, s)
theorem rn_all {p : Nat → Bool} : ∀ (m i q : Nat), i ≤ q → q < rn p m i → p q = true
  | 0, i, q, h1, h2 => by have : q < i := h2; omega
  | m + 1, i, q, h1, h2 => by
    unfold rn at h2
    by_cases c : p i = true
    · rw [if_pos c] at h2
      by_cases e : q = i
      · rw [e]; exact c
      · exact rn_all m (i + 1) q (by omega) h2
    · rw [if_neg c] at h2
      omega
theorem tn_all {T : TP} {p : Int32 → Bool} {s q : Nat} (h1 : s ≤ q) (h2 : q < tn T p s) : p (T.2 q) = true := rn_all (p := fun i => p (T.2 i)) _ _ _ h1 h2
theorem hsN_lt {T : TP} {s : Nat} : ∀ m, (∀ q, s ≤ q → q < s + m → isLt (T.2 q) = true) → hsN T s m < 27 ^ m
  | 0, _ => by show 0 < 1; decide
  | m + 1, h => by
    have h1 := hsN_lt m (fun q a b => h q a (by omega))
    obtain ⟨c, hc, c1, c2⟩ := lt_of (h (s + m) (by omega) (by omega))
    show 27 * hsN T s m + ((T.2 (s + m)).toNatClampNeg - 96) < 27 ^ (m + 1)
    rw [hc, nI_clamp (by omega), Nat.pow_succ]
    omega
theorem tk_le {T : TP} {s : Nat} : tk T s ≤ 4 := by
  unfold tk
  split
  · omega
  · split
    · omega
    · split
      · omega
      · split <;> omega
theorem tk_1 {T : TP} {s : Nat} (h : tk T s = 1) : en T s = tn T isLt s ∧ s < T.1 := by
  unfold tk at h
  by_cases c : T.1 ≤ s
  · rw [if_pos c] at h; cases h
  · rw [if_neg c] at h
    by_cases c2 : isLt (T.2 s) = true
    · unfold en
      rw [if_neg c, if_pos c2]
      exact ⟨rfl, by omega⟩
    · rw [if_neg c2] at h
      split at h
      · cases h
      · split at h <;> cases h
theorem wl_is {T : TP} {s h : Nat} (h1 : tk T s = 1) (hh : h < 2 ^ 62) : wl T s = lN h ↔ en T s - s ≤ 12 ∧ hsN T s (en T s - s) = h := by
  have e := (tk_1 h1).1
  have le := en_le (Nat.le_of_lt (tk_1 h1).2)
  unfold wl
  rw [if_pos h1]
  unfold wv
  have hb := hsN_lt (T := T) (s := s) (en T s - s) (fun q a b => tn_all a (by rw [← e]; omega))
  by_cases c : en T s - s ≤ 12
  · rw [if_pos c]
    have h2 : 27 ^ (en T s - s) ≤ 27 ^ 12 := Nat.pow_le_pow_right (by decide) c
    rw [l_inj (by omega) (by omega)]
    exact ⟨fun q => ⟨c, q⟩, fun q => q.2⟩
  · rw [if_neg c]
    constructor
    · intro q
      have e1 := congrArg Int64.toInt q
      rw [l_toInt (by omega)] at e1
      have e2 : (-1 : Int64).toInt = -1 := rfl
      omega
    · intro q
      exact absurd q.1 c
/-- the reading's fields may differ -/
def FrB (σ σ' : MS) : Prop := (∀ j, List.elem j [7, 8, 9, 10, 12, 13] = false → σ'.1 j = σ.1 j) ∧ σ'.2.2 = σ.2.2
theorem FrB.r {σ : MS} : FrB σ σ := ⟨fun _ _ => rfl, rfl⟩
theorem FrB.t {σ σ' σ'' : MS} (h : FrB σ σ') (h' : FrB σ' σ'') : FrB σ σ'' := ⟨fun j hj => (h'.1 j hj).trans (h.1 j hj), h'.2.trans h.2⟩
theorem FrB.f {σ : MS} {j : Nat} {x : Int32} (hj : List.elem j [7, 8, 9, 10, 12, 13] = true) : FrB σ (fset σ j x) := ⟨fun i hi => pk_un (fun e => by rw [e, hj] at hi; cases hi), rfl⟩
theorem FrN.b {σ σ' : MS} (h : FrN σ σ') : FrB σ σ' := ⟨fun j hj => h.1 j (elem_sub (F' := [7, 8, 9, 10, 12, 13]) rfl hj), h.2⟩
theorem FrB.T {σ σ' : MS} {T : TP} (h : FrB σ σ') (hT : TM σ T) : TM σ' T := ⟨(h.1 6 rfl).trans hT.1, hT.2.1, fun i hi => by rw [h.2]; exact hT.2.2 i hi⟩
def LM (σ : MS) (T : TP) : St → Prop
  | .inl x => σ.1 12 = nI x.1 ∧ 1 ≤ x.1 ∧ x.1 ≤ 3 ∧ σ.1 13 = nI x.2 ∧ x.2 ≤ 2000
  | .inr s => σ.1 12 = nI 0 ∧ LN σ T s
/-- read on -/
def RdB (M : AM) (σ : MS) (T : TP) (st : St) : AM → Prop := fun M' => ∃ σ', M' = mset M σ' ∧ FrB σ σ' ∧ LM σ' T st
section RD
variable {d : Nat} {M : AM} {σ σ' : MS} {T : TP} {st : St} {Q : Option Value → AM → Prop}
theorem LN_n (hT : TM σ T) {s : Nat} (h12 : σ.1 12 = nI 0) (hL : LN σ T s) : Wp (d + 1) md_163 0 [some (.ref 287), none] [] (mset M σ) (fun v M' => v = none ∧ RdB M σ T (.inr (nx T s)) M') := by
  refine Wp.mono (m_next hT (en_le hL.2.2.2.2.2).2 hL.1) ?_
  rintro v M' ⟨rfl, τ, rfl, f, h⟩
  exact ⟨rfl, τ, rfl, f.b, (f.1 12 rfl).trans h12, h⟩
theorem m_isGood (hL : LM σ T st) : Ev d md_165 0 [some (.ref 287)] [] (mset M σ) (some (.int (bI (gd st))), mset M σ) := by
  refine Wp.toEv ?_
  rcases st with x | s
  · have x3 := hL.2.2.1
    have x1 := hL.2.1
    refine Wp.n (pc' := 4) 2 rfl ?_
    refine Wp.top hL.1 ?_
    refine Wp.nz1 (x := x.1) (tgt := 11) (len := 3) rfl (by omega) (fun h4 => ?_) (fun h4 => ?_)
    · skip
      refine Wp.n (pc' := 12) 1 rfl ?_
      refine Wp.retZ (len := 1) (c := false) rfl rfl rfl ?_
      exact ⟨rfl, rfl⟩
    · omega
  · skip
    refine Wp.n (pc' := 4) 2 rfl ?_
    refine Wp.top hL.1 ?_
    refine Wp.nz1 (x := 0) (tgt := 11) (len := 3) rfl (by omega) (fun h4 => ?_) (fun h4 => ?_)
    · omega
    · skip
      refine Wp.n (pc' := 12) 2 rfl ?_
      refine Wp.retZ (len := 1) (c := true) rfl rfl rfl ?_
      exact ⟨rfl, rfl⟩
theorem m_fails (hT : TM σ T) (hL : LM σ T st) {k : Nat} (hk : 1 ≤ k ∧ k ≤ 3) : Wp d md_170 0 [some (.ref 287), some (.int (nI k))] [] (mset M σ) (fun v M' => v = none ∧ RdB M σ T (flS k st) M') := by
  have t20 := hT.2.1
  rcases st with x | s
  · have x3 := hL.2.2.1
    have x1 := hL.2.1
    refine Wp.n (pc' := 4) 2 rfl ?_
    refine Wp.top hL.1 ?_
    refine Wp.nz0 (x := x.1) (tgt := 8) (len := 3) rfl (by omega) (fun h4 => ?_) (fun h4 => ?_)
    · omega
    · skip
      refine Wp.retV (len := 1) rfl rfl ?_
      exact ⟨rfl, σ, rfl, FrB.r, hL⟩
  · obtain ⟨h12, hN⟩ := hL
    have sl := hN.2.2.2.2.2
    refine Wp.n (pc' := 4) 2 rfl ?_
    refine Wp.top h12 ?_
    refine Wp.nz0 (x := 0) (tgt := 8) (len := 3) rfl (by omega) (fun h4 => ?_) (fun h4 => ?_)
    · skip
      refine Wp.n (pc' := 10) 2 rfl ?_
      refine Wp.mput (len := 3) rfl rfl ?_
      refine Wp.n (pc' := 18) 3 rfl ?_
      refine Wp.top hN.2.2.1 ?_
      refine Wp.mput (len := 3) rfl rfl ?_
      refine Wp.retV (len := 1) rfl rfl ?_
      exact ⟨rfl, _, rfl, (FrB.f rfl).t (FrB.f rfl), rfl, hk.1, hk.2, rfl, by show s ≤ 2000; omega⟩
    · omega
theorem m_is (hL : LM σ T st) {h : Nat} (hh : h < 2 ^ 62) : Ev d md_169 0 [some (.ref 287), some (.long (lN h)), none] [] (mset M σ) (some (.int (bI (isS T h st))), mset M σ) := by
  refine Wp.toEv ?_
  rcases st with x | s
  · have x3 := hL.2.2.1
    have x1 := hL.2.1
    refine Wp.n (pc' := 4) 2 rfl ?_
    refine Wp.top hL.1 ?_
    refine Wp.nz1 (x := x.1) (tgt := 28) (len := 3) rfl (by omega) (fun h4 => ?_) (fun h4 => ?_)
    · skip
      refine Wp.n (pc' := 29) 1 rfl ?_
      refine Wp.retZ (len := 1) (c := false) rfl rfl rfl ?_
      exact ⟨rfl, rfl⟩
    · omega
  · obtain ⟨h12, hN⟩ := hL
    have t4 := tk_le (T := T) (s := s)
    refine Wp.n (pc' := 4) 2 rfl ?_
    refine Wp.top h12 ?_
    refine Wp.nz1 (x := 0) (tgt := 28) (len := 3) rfl (by omega) (fun h4 => ?_) (fun h4 => ?_)
    · omega
    · skip
      refine Wp.n (pc' := 11) 2 rfl ?_
      refine Wp.top hN.2.1 ?_
      refine Wp.n (pc' := 12) 1 rfl ?_
      refine Wp.nc1 (x := tk T s) (y := 1) (tgt := 28) (len := 3) rfl (by omega) (by omega) (fun h12 => ?_) (fun h12 => ?_)
      · skip
        refine Wp.n (pc' := 29) 1 rfl ?_
        refine Wp.retZ (len := 1) (c := false) rfl rfl rfl ?_
        first
          | exact ⟨by rw [show isS T h (.inr s) = true from decide_eq_true ⟨h12_, (wl_is h12_ hh).mp ((cmp_eq _ _).mp h21)⟩], rfl⟩
          | exact ⟨by rw [show isS T h (.inr s) = false from decide_eq_false (fun q => h21 ((cmp_eq _ _).mpr ((wl_is q.1 hh).mpr q.2)))], rfl⟩
          | exact ⟨by rw [show isS T h (.inr s) = false from decide_eq_false (fun q => absurd q.1 (by omega))], rfl⟩
      · have h12_ : tk T s = 1 := by omega
        refine Wp.n (pc' := 19) 2 rfl ?_
        refine Wp.topL hN.2.2.2.2.1 ?_
        refine Wp.n (pc' := 21) 2 rfl ?_
        refine Wp.if1 (tgt := 28) (len := 3) rfl (fun h21 => ?_) (fun h21 => ?_)
        · skip
          refine Wp.n (pc' := 29) 1 rfl ?_
          refine Wp.retZ (len := 1) (c := false) rfl rfl rfl ?_
          first
            | exact ⟨by rw [show isS T h (.inr s) = true from decide_eq_true ⟨h12_, (wl_is h12_ hh).mp ((cmp_eq _ _).mp h21)⟩], rfl⟩
            | exact ⟨by rw [show isS T h (.inr s) = false from decide_eq_false (fun q => h21 ((cmp_eq _ _).mpr ((wl_is q.1 hh).mpr q.2)))], rfl⟩
            | exact ⟨by rw [show isS T h (.inr s) = false from decide_eq_false (fun q => absurd q.1 (by omega))], rfl⟩
        · skip
          refine Wp.n (pc' := 29) 2 rfl ?_
          refine Wp.retZ (len := 1) (c := true) rfl rfl rfl ?_
          first
            | exact ⟨by rw [show isS T h (.inr s) = true from decide_eq_true ⟨h12_, (wl_is h12_ hh).mp ((cmp_eq _ _).mp h21)⟩], rfl⟩
            | exact ⟨by rw [show isS T h (.inr s) = false from decide_eq_false (fun q => h21 ((cmp_eq _ _).mpr ((wl_is q.1 hh).mpr q.2)))], rfl⟩
            | exact ⟨by rw [show isS T h (.inr s) = false from decide_eq_false (fun q => absurd q.1 (by omega))], rfl⟩
theorem m_takes (hT : TM σ T) (hL : LM σ T st) {h : Nat} (hh : h < 2 ^ 62) : Wp (d + 2) md_168 0 [some (.ref 287), some (.long (lN h)), none] [] (mset M σ) (fun v M' => v = some (.int (bI (isS T h st))) ∧ RdB M σ T (if isS T h st = true then adS T st else st) M') := by
  refine Wp.n (pc' := 2) 2 rfl ?_
  refine Wp.ecallV (len := 3) rfl rfl rfl (rfl) rfl (by decide) rfl (m_is hL hh) ?_
  refine Wp.ifb1 (tgt := 10) (len := 3) rfl (fun h5 => ?_) (fun h5 => ?_)
  · skip
    rcases st with x | s
    · cases h5
    obtain ⟨h12, hN⟩ := hL
    refine Wp.n (pc' := 11) 1 rfl ?_
    refine Wp.callV (len := 3) rfl rfl rfl (rfl) rfl (by decide) rfl (LN_n hT h12 hN) ?_
    rintro _ _ ⟨rfl, τ, rfl, f, hτ⟩
    refine Wp.n (pc' := 15) 1 rfl ?_
    refine Wp.retZ (len := 1) (c := true) rfl rfl rfl ?_
    first
      | exact ⟨by rw [h5], τ, rfl, f, by rw [if_pos h5]; exact hτ⟩
      | exact ⟨by rw [h5], σ, rfl, FrB.r, by rw [if_neg (by rw [h5]; decide)]; exact hL⟩
  · skip
    refine Wp.n (pc' := 9) 1 rfl ?_
    refine Wp.retZ (len := 1) (c := false) rfl rfl rfl ?_
    first
      | exact ⟨by rw [h5], τ, rfl, f, by rw [if_pos h5]; exact hτ⟩
      | exact ⟨by rw [h5], σ, rfl, FrB.r, by rw [if_neg (by rw [h5]; decide)]; exact hL⟩
theorem m_asks (hT : TM σ T) (hL : LM σ T st) {h : Nat} (hh : h < 2 ^ 62) : Wp (d + 3) md_167 0 [some (.ref 287), some (.long (lN h)), none] [] (mset M σ) (fun v M' => v = none ∧ RdB M σ T (wdS T h st) M') := by
  refine Wp.n (pc' := 2) 2 rfl ?_
  refine Wp.callV (len := 3) rfl rfl rfl (rfl) rfl (by decide) rfl (m_takes hT hL hh) ?_
  rintro _ _ ⟨rfl, τ, rfl, f, hτ⟩
  refine Wp.ifb1 (tgt := 13) (len := 3) rfl (fun h5 => ?_) (fun h5 => ?_)
  · rw [if_pos h5] at hτ
    have e : adS T st = wdS T h st := by
      rcases st with x | s
      · rfl
      · exact (if_pos h5).symm
    rw [e] at hτ
    refine Wp.retV (len := 1) rfl rfl ?_
    first
      | exact ⟨rfl, τ2, rfl, f.t f2, e ▸ hτ2⟩
      | exact ⟨rfl, τ, rfl, f, hτ⟩
  · rw [if_neg (by rw [h5]; decide)] at hτ
    have e : flS 1 st = wdS T h st := by
      rcases st with x | s
      · rfl
      · exact (if_neg (fun q : isW T s h = true => by rw [show isW T s h = false from h5] at q; cases q)).symm
    refine Wp.n (pc' := 10) 2 rfl ?_
    refine Wp.callV (len := 3) rfl rfl rfl (rfl) rfl (by decide) rfl (m_fails (f.T hT) hτ (k := 1) (by decide)) ?_
    rintro _ _ ⟨rfl, τ2, rfl, f2, hτ2⟩
    refine Wp.retV (len := 1) rfl rfl ?_
    first
      | exact ⟨rfl, τ2, rfl, f.t f2, e ▸ hτ2⟩
      | exact ⟨rfl, τ, rfl, f, hτ⟩
theorem m_number (hT : TM σ T) (hL : LM σ T st) {l32 h32 : Int32} {lo hi : Nat} (hg : gd st = true → l32 = nI lo ∧ h32 = nI hi ∧ hi ≤ 1000 ∧ lo ≤ 1000) : Wp (d + 2) md_172 0 [some (.ref 287), some (.int l32), some (.int h32), none] [] (mset M σ) (fun v M' => ∃ x, v = some (.int x) ∧ (gd (nmS T lo hi st) = true → x = nI (nmV T st)) ∧ RdB M σ T (nmS T lo hi st) M') := by
  rcases st with x | s
  · have x3 := hL.2.2.1
    have x1 := hL.2.1
    refine Wp.n (pc' := 4) 2 rfl ?_
    refine Wp.top hL.1 ?_
    refine Wp.nz0 (x := x.1) (tgt := 9) (len := 3) rfl (by omega) (fun h4 => ?_) (fun h4 => ?_)
    · omega
    · skip
      refine Wp.n (pc' := 8) 1 rfl ?_
      refine Wp.retI (len := 1) rfl rfl ?_
      exact ⟨_, rfl, fun q => (by cases q), σ, rfl, FrB.r, hL⟩
  · obtain ⟨rfl, rfl, hi1, lo1⟩ := hg rfl
    obtain ⟨h12, hN⟩ := id hL
    obtain ⟨r, h10, r1, r2⟩ := hN.2.2.2.1
    have t4 := tk_le (T := T) (s := s)
    refine Wp.n (pc' := 4) 2 rfl ?_
    refine Wp.top h12 ?_
    refine Wp.nz0 (x := 0) (tgt := 9) (len := 3) rfl (by omega) (fun h4 => ?_) (fun h4 => ?_)
    · skip
      refine Wp.n (pc' := 13) 2 rfl ?_
      refine Wp.top hN.2.1 ?_
      refine Wp.n (pc' := 14) 1 rfl ?_
      refine Wp.nc0 (x := tk T s) (y := 2) (tgt := 24) (len := 3) rfl (by omega) (by omega) (fun h14 => ?_) (fun h14 => ?_)
      · skip
        refine Wp.n (pc' := 28) 2 rfl ?_
        refine Wp.top h10 ?_
        refine Wp.i2lM (x := r) (len := 1) rfl (by omega) ?_
        refine Wp.n (pc' := 30) 1 rfl ?_
        refine Wp.i2lM (x := lo) (len := 1) rfl (by omega) ?_
        refine Wp.n (pc' := 32) 1 rfl ?_
        refine Wp.i2lM (x := hi) (len := 1) rfl (by omega) ?_
        refine Wp.ecallS (len := 3) rfl rfl rfl rfl (m_in _ _ _) ?_
        refine Wp.ifb1 (tgt := 46) (len := 3) rfl (fun h36 => ?_) (fun h36 => ?_)
        · have q := of_decide_eq_true h36
          rw [l_toInt (by omega), l_toInt (by omega), l_toInt (by omega)] at q
          have e : nmS T lo hi (.inr s) = .inr (nx T s) := (if_pos (by omega)).trans (if_pos (by omega))
          have ev : r = vl T s := by omega
          refine Wp.n (pc' := 50) 2 rfl ?_
          refine Wp.top h10 ?_
          refine Wp.n (pc' := 52) 2 rfl ?_
          refine Wp.callV (len := 3) rfl rfl rfl (rfl) rfl (by decide) rfl (LN_n hT h12 hN) ?_
          rintro _ _ ⟨rfl, τ, rfl, f, hτ⟩
          refine Wp.n (pc' := 56) 1 rfl ?_
          refine Wp.retI (len := 1) rfl rfl ?_
          rw [e]
          first
            | exact ⟨_, rfl, fun _ => congrArg nI ev, τ, rfl, f, hτ⟩
            | exact ⟨_, rfl, fun q => (by cases q), τ, rfl, f, hτ⟩
        · have q := of_decide_eq_false h36
          rw [l_toInt (by omega), l_toInt (by omega), l_toInt (by omega)] at q
          have e : nmS T lo hi (.inr s) = .inl (2, s) := (if_pos (by omega)).trans (if_neg (by omega))
          refine Wp.n (pc' := 41) 2 rfl ?_
          refine Wp.callV (len := 3) rfl rfl rfl (rfl) rfl (by decide) rfl (m_fails hT hL (k := 2) (by decide)) ?_
          rintro _ _ ⟨rfl, τ, rfl, f, hτ⟩
          refine Wp.n (pc' := 45) 1 rfl ?_
          refine Wp.retI (len := 1) rfl rfl ?_
          rw [e]
          first
            | exact ⟨_, rfl, fun _ => congrArg nI ev, τ, rfl, f, hτ⟩
            | exact ⟨_, rfl, fun q => (by cases q), τ, rfl, f, hτ⟩
      · have e : nmS T lo hi (.inr s) = .inl (1, s) := if_neg (by omega)
        refine Wp.n (pc' := 19) 2 rfl ?_
        refine Wp.callV (len := 3) rfl rfl rfl (rfl) rfl (by decide) rfl (m_fails hT hL (k := 1) (by decide)) ?_
        rintro _ _ ⟨rfl, τ, rfl, f, hτ⟩
        refine Wp.n (pc' := 23) 1 rfl ?_
        refine Wp.retI (len := 1) rfl rfl ?_
        rw [e]
        first
          | exact ⟨_, rfl, fun _ => congrArg nI ev, τ, rfl, f, hτ⟩
          | exact ⟨_, rfl, fun q => (by cases q), τ, rfl, f, hτ⟩
    · omega
theorem m_numberW (hT : TM σ T) (hL : LM σ T st) {h : Nat} (hh : h < 2 ^ 62) {l32 h32 : Int32} {lo hi : Nat} (hg : gd (wdS T h st) = true → l32 = nI lo ∧ h32 = nI hi ∧ hi ≤ 1000 ∧ lo ≤ 1000) : Wp (d + 4) md_171 0 [some (.ref 287), some (.long (lN h)), none, some (.int l32), some (.int h32)] [] (mset M σ) (fun v M' => ∃ x, v = some (.int x) ∧ (gd (nmS T lo hi (wdS T h st)) = true → x = nI (nmV T (wdS T h st))) ∧ RdB M σ T (nmS T lo hi (wdS T h st)) M') := by
  refine Wp.n (pc' := 2) 2 rfl ?_
  refine Wp.callV (len := 3) rfl rfl rfl (rfl) rfl (by decide) rfl (m_asks hT hL hh) ?_
  rintro _ _ ⟨rfl, τ, rfl, f, hτ⟩
  refine Wp.n (pc' := 9) 3 rfl ?_
  refine Wp.callV (len := 3) rfl rfl rfl (rfl) rfl (by decide) rfl (m_number (f.T hT) hτ hg) ?_
  rintro _ _ ⟨x, rfl, hx, τ2, rfl, f2, hτ2⟩
  refine Wp.retI (len := 1) rfl rfl ?_
  exact ⟨_, rfl, hx, τ2, rfl, f.t f2, hτ2⟩
theorem m_hasRead {k : Nat} (hk : k < 5) : Ev d md_174 0 [some (.ref 287), some (.int (nI k))] [] (mset M σ) (some (.int (σ.2.2.1 6 (20 + k))), mset M σ) := by
  refine Wp.toEv ?_
  refine Wp.n (pc' := 7) 4 rfl ?_
  refine Wp.iaddN (x := 20) (y := k) (len := 1) rfl ?_
  refine Wp.mialdN (j := 20 + k) (len := 1) rfl rfl rfl (by omega) ?_
  refine Wp.retI (len := 1) rfl rfl ?_
  exact ⟨rfl, rfl⟩
theorem m_other_b (hT : TM σ T) {z : Nat × Nat} (hL : LM σ T (.inl z)) {w : Value} (kk : ∀ x τ, FrB σ τ → LM τ T (.inl z) → Q (some (.int x)) (mset M τ)) : Wp (d + 3) md_178 36 [some (.ref 287), some w] [] (mset M σ) Q := by
  refine Wp.n (pc' := 40) 4 rfl ?_
  refine Wp.ecallV (len := 3) rfl rfl rfl (rfl) rfl (by decide) rfl (m_hasRead (k := 0) (by decide)) ?_
  refine Wp.n (pc' := 45) 2 rfl ?_
  refine Wp.callV (len := 3) rfl rfl rfl (rfl) rfl (by decide) rfl (m_number (lo := 0) (hi := 0) hT hL (fun q => by cases q)) ?_
  rintro _ _ ⟨y, rfl, hx, τ2, rfl, f2, hτ2⟩
  refine Wp.retI (len := 1) rfl rfl ?_
  exact kk _ τ2 f2 hτ2
theorem m_other_g (hT : TM σ T) {s P : Nat} (hL : LM σ T (.inr s)) (h20 : σ.2.2.1 6 20 = nI P) (P1 : 1 ≤ P) (P7 : P ≤ 7) {w : Value} (kk : ∀ x τ, FrB σ τ → (gd (nmS T 0 (P - 1) (.inr s)) = true → x = nI (vl T s)) → LM τ T (nmS T 0 (P - 1) (.inr s)) → Q (some (.int x)) (mset M τ)) : Wp (d + 3) md_178 36 [some (.ref 287), some w] [] (mset M σ) Q := by
  refine Wp.n (pc' := 40) 4 rfl ?_
  refine Wp.ecallV (len := 3) rfl rfl rfl (rfl) rfl (by decide) rfl (m_hasRead (k := 0) (by decide)) ?_
  refine Wp.top h20 ?_
  refine Wp.n (pc' := 44) 1 rfl ?_
  refine Wp.isubN (x := P) (y := 1) (len := 1) rfl (by omega) ?_
  refine Wp.callV (len := 3) rfl rfl rfl (rfl) rfl (by decide) rfl (m_number (lo := 0) (hi := P - 1) hT hL (fun q => ⟨rfl, rfl, by omega, by omega⟩)) ?_
  rintro _ _ ⟨y, rfl, hx, τ2, rfl, f2, hτ2⟩
  refine Wp.retI (len := 1) rfl rfl ?_
  exact kk _ τ2 f2 hx hτ2
theorem m_other (hT : TM σ T) (hL : LM σ T st) {is : Bool} {P : Nat} {ok : Nat → Bool} (hg : gd st = true → σ.2.2.1 6 20 = nI P ∧ 1 ≤ P ∧ P ≤ 7 ∧ ∀ r, σ.1 10 = nI r → r < P → is = ok r) : Wp (d + 3) md_178 0 [some (.ref 287), some (.int (bI is))] [] (mset M σ) (fun v M' => ∃ x, v = some (.int x) ∧ (gd (otS T P ok st) = true → x = nI (nmV T st)) ∧ RdB M σ T (otS T P ok st) M') := by
  rcases st with x | s
  · have x3 := hL.2.2.1
    have x1 := hL.2.1
    refine Wp.n (pc' := 4) 2 rfl ?_
    refine Wp.top hL.1 ?_
    refine Wp.nz1 (x := x.1) (tgt := 36) (len := 3) rfl (by omega) (fun h4 => ?_) (fun h4 => ?_)
    · skip
      refine Wp.n (pc' := 40) 4 rfl ?_
      refine Wp.ecallV (len := 3) rfl rfl rfl (rfl) rfl (by decide) rfl (m_hasRead (k := 0) (by decide)) ?_
      refine Wp.n (pc' := 45) 2 rfl ?_
      refine Wp.callV (len := 3) rfl rfl rfl (rfl) rfl (by decide) rfl (m_number (lo := 0) (hi := 0) hT hL (fun q => by cases q)) ?_
      rintro _ _ ⟨y, rfl, hx, τ2, rfl, f2, hτ2⟩
      refine Wp.retI (len := 1) rfl rfl ?_
      exact ⟨_, rfl, hx, τ2, rfl, f2, hτ2⟩
    · omega
  · obtain ⟨h20, P1, P7, hok⟩ := hg rfl
    obtain ⟨h12, hN⟩ := id hL
    obtain ⟨r, h10, r1, r2⟩ := hN.2.2.2.1
    have t4 := tk_le (T := T) (s := s)
    have okr := hok r h10
    refine Wp.n (pc' := 4) 2 rfl ?_
    refine Wp.top h12 ?_
    refine Wp.nz1 (x := 0) (tgt := 36) (len := 3) rfl (by omega) (fun h4 => ?_) (fun h4 => ?_)
    · omega
    · skip
      refine Wp.n (pc' := 11) 2 rfl ?_
      refine Wp.top hN.2.1 ?_
      refine Wp.n (pc' := 12) 1 rfl ?_
      refine Wp.nc1 (x := tk T s) (y := 2) (tgt := 36) (len := 3) rfl (by omega) (by omega) (fun h12 => ?_) (fun h12 => ?_)
      · skip
        first
          | (have e0 : otS T P ok (.inr s) = .inl (2, s) := (if_pos (by omega)).trans (if_neg (fun q => by have e1 := okr (by omega); rw [h28, show r = vl T s by omega, q.2] at e1; cases e1))
             rw [e0]
             have hτ' : LM τ T (.inl (2, s)) := hτ
             refine m_other_b (f.T hT) hτ' (fun x τ2 f2 h2 => ⟨x, rfl, fun q => (by cases q), τ2, rfl, f.t f2, h2⟩))
          | (refine m_other_g hT hL h20 P1 P7 (fun x τ2 f2 hx h2 => ?_)
             have e0 : nmS T 0 (P - 1) (.inr s) = otS T P ok (.inr s) := by
               show (if _ then (if _ then _ else _) else _) = (if _ then (if _ then _ else _) else _)
               by_cases c2 : tk T s = 2
               · rw [if_pos c2, if_pos c2]
                 by_cases cv : vl T s < P
                 · rw [if_pos (by omega), if_pos ⟨cv, by have e1 := okr (by omega); rw [h28] at e1; rw [show vl T s = r by omega]; exact e1.symm⟩]
                 · rw [if_neg (by omega), if_neg (fun q => cv q.1)]
               · rw [if_neg c2, if_neg c2]
             rw [e0] at hx h2
             exact ⟨x, rfl, hx, τ2, rfl, f2, h2⟩)
          | (refine m_other_g hT hL h20 P1 P7 (fun x τ2 f2 hx h2 => ?_)
             have e0 : nmS T 0 (P - 1) (.inr s) = otS T P ok (.inr s) := by
               show (if _ then (if _ then _ else _) else _) = (if _ then (if _ then _ else _) else _)
               by_cases c2 : tk T s = 2
               · rw [if_pos c2, if_pos c2, if_neg (by omega), if_neg (fun q => by omega)]
               · rw [if_neg c2, if_neg c2]
             rw [e0] at hx h2
             exact ⟨x, rfl, hx, τ2, rfl, f2, h2⟩)
      · skip
        refine Wp.n (pc' := 19) 2 rfl ?_
        refine Wp.top h10 ?_
        refine Wp.n (pc' := 21) 2 rfl ?_
        refine Wp.ecallV (len := 3) rfl rfl rfl (rfl) rfl (by decide) rfl (m_hasRead (k := 0) (by decide)) ?_
        refine Wp.top h20 ?_
        refine Wp.nc3 (x := r) (y := P) (tgt := 36) (len := 3) rfl (by omega) (by omega) (fun h24 => ?_) (fun h24 => ?_)
        · skip
          first
            | (have e0 : otS T P ok (.inr s) = .inl (2, s) := (if_pos (by omega)).trans (if_neg (fun q => by have e1 := okr (by omega); rw [h28, show r = vl T s by omega, q.2] at e1; cases e1))
               rw [e0]
               have hτ' : LM τ T (.inl (2, s)) := hτ
               refine m_other_b (f.T hT) hτ' (fun x τ2 f2 h2 => ⟨x, rfl, fun q => (by cases q), τ2, rfl, f.t f2, h2⟩))
            | (refine m_other_g hT hL h20 P1 P7 (fun x τ2 f2 hx h2 => ?_)
               have e0 : nmS T 0 (P - 1) (.inr s) = otS T P ok (.inr s) := by
                 show (if _ then (if _ then _ else _) else _) = (if _ then (if _ then _ else _) else _)
                 by_cases c2 : tk T s = 2
                 · rw [if_pos c2, if_pos c2]
                   by_cases cv : vl T s < P
                   · rw [if_pos (by omega), if_pos ⟨cv, by have e1 := okr (by omega); rw [h28] at e1; rw [show vl T s = r by omega]; exact e1.symm⟩]
                   · rw [if_neg (by omega), if_neg (fun q => cv q.1)]
                 · rw [if_neg c2, if_neg c2]
               rw [e0] at hx h2
               exact ⟨x, rfl, hx, τ2, rfl, f2, h2⟩)
            | (refine m_other_g hT hL h20 P1 P7 (fun x τ2 f2 hx h2 => ?_)
               have e0 : nmS T 0 (P - 1) (.inr s) = otS T P ok (.inr s) := by
                 show (if _ then (if _ then _ else _) else _) = (if _ then (if _ then _ else _) else _)
                 by_cases c2 : tk T s = 2
                 · rw [if_pos c2, if_pos c2, if_neg (by omega), if_neg (fun q => by omega)]
                 · rw [if_neg c2, if_neg c2]
               rw [e0] at hx h2
               exact ⟨x, rfl, hx, τ2, rfl, f2, h2⟩)
        · skip
          refine Wp.n (pc' := 28) 1 rfl ?_
          refine Wp.ifb1 (tgt := 36) (len := 3) rfl (fun h28 => ?_) (fun h28 => ?_)
          · skip
            first
              | (have e0 : otS T P ok (.inr s) = .inl (2, s) := (if_pos (by omega)).trans (if_neg (fun q => by have e1 := okr (by omega); rw [h28, show r = vl T s by omega, q.2] at e1; cases e1))
                 rw [e0]
                 have hτ' : LM τ T (.inl (2, s)) := hτ
                 refine m_other_b (f.T hT) hτ' (fun x τ2 f2 h2 => ⟨x, rfl, fun q => (by cases q), τ2, rfl, f.t f2, h2⟩))
              | (refine m_other_g hT hL h20 P1 P7 (fun x τ2 f2 hx h2 => ?_)
                 have e0 : nmS T 0 (P - 1) (.inr s) = otS T P ok (.inr s) := by
                   show (if _ then (if _ then _ else _) else _) = (if _ then (if _ then _ else _) else _)
                   by_cases c2 : tk T s = 2
                   · rw [if_pos c2, if_pos c2]
                     by_cases cv : vl T s < P
                     · rw [if_pos (by omega), if_pos ⟨cv, by have e1 := okr (by omega); rw [h28] at e1; rw [show vl T s = r by omega]; exact e1.symm⟩]
                     · rw [if_neg (by omega), if_neg (fun q => cv q.1)]
                   · rw [if_neg c2, if_neg c2]
                 rw [e0] at hx h2
                 exact ⟨x, rfl, hx, τ2, rfl, f2, h2⟩)
              | (refine m_other_g hT hL h20 P1 P7 (fun x τ2 f2 hx h2 => ?_)
                 have e0 : nmS T 0 (P - 1) (.inr s) = otS T P ok (.inr s) := by
                   show (if _ then (if _ then _ else _) else _) = (if _ then (if _ then _ else _) else _)
                   by_cases c2 : tk T s = 2
                   · rw [if_pos c2, if_pos c2, if_neg (by omega), if_neg (fun q => by omega)]
                   · rw [if_neg c2, if_neg c2]
                 rw [e0] at hx h2
                 exact ⟨x, rfl, hx, τ2, rfl, f2, h2⟩)
          · skip
            refine Wp.n (pc' := 33) 2 rfl ?_
            refine Wp.callV (len := 3) rfl rfl rfl (rfl) rfl (by decide) rfl (m_fails hT hL (k := 2) (by decide)) ?_
            rintro _ _ ⟨rfl, τ, rfl, f, hτ⟩
            first
              | (have e0 : otS T P ok (.inr s) = .inl (2, s) := (if_pos (by omega)).trans (if_neg (fun q => by have e1 := okr (by omega); rw [h28, show r = vl T s by omega, q.2] at e1; cases e1))
                 rw [e0]
                 have hτ' : LM τ T (.inl (2, s)) := hτ
                 refine m_other_b (f.T hT) hτ' (fun x τ2 f2 h2 => ⟨x, rfl, fun q => (by cases q), τ2, rfl, f.t f2, h2⟩))
              | (refine m_other_g hT hL h20 P1 P7 (fun x τ2 f2 hx h2 => ?_)
                 have e0 : nmS T 0 (P - 1) (.inr s) = otS T P ok (.inr s) := by
                   show (if _ then (if _ then _ else _) else _) = (if _ then (if _ then _ else _) else _)
                   by_cases c2 : tk T s = 2
                   · rw [if_pos c2, if_pos c2]
                     by_cases cv : vl T s < P
                     · rw [if_pos (by omega), if_pos ⟨cv, by have e1 := okr (by omega); rw [h28] at e1; rw [show vl T s = r by omega]; exact e1.symm⟩]
                     · rw [if_neg (by omega), if_neg (fun q => cv q.1)]
                   · rw [if_neg c2, if_neg c2]
                 rw [e0] at hx h2
                 exact ⟨x, rfl, hx, τ2, rfl, f2, h2⟩)
              | (refine m_other_g hT hL h20 P1 P7 (fun x τ2 f2 hx h2 => ?_)
                 have e0 : nmS T 0 (P - 1) (.inr s) = otS T P ok (.inr s) := by
                   show (if _ then (if _ then _ else _) else _) = (if _ then (if _ then _ else _) else _)
                   by_cases c2 : tk T s = 2
                   · rw [if_pos c2, if_pos c2, if_neg (by omega), if_neg (fun q => by omega)]
                   · rw [if_neg c2, if_neg c2]
                 rw [e0] at hx h2
                 exact ⟨x, rfl, hx, τ2, rfl, f2, h2⟩)
end RD
end
section
/-! LINES: the first, roads; what they make of a kingdom; the reference. -/
def K0 : KD := (fun i => if i = 9 then 1 else 0, fun _ _ => 0, fun _ _ => 0, fun _ _ => 0)
def pf1 (T : TP) (st : St) : St := wdS T 4398346831 st
def pf2 (T : TP) (st : St) : St := nmS T 2 7 (wdS T 235981828 (pf1 T st))
def pf3 (T : TP) (st : St) : St := nmS T 1 30 (wdS T 80155 (pf2 T st))
def pf4 (T : TP) (st : St) : St := nmS T 0 99 (wdS T 355568 (pf3 T st))
def pf5 (T : TP) (st : St) : St := nmS T 0 99 (wdS T 131360 (pf4 T st))
def pf6 (T : TP) (st : St) : St := nmS T 0 99 (wdS T 400577 (pf5 T st))
def firK (T : TP) (st : St) : KD := (fun i => if i = 0 then nmV T (wdS T 235981828 (pf1 T st)) else if i = 1 then nmV T (wdS T 80155 (pf2 T st)) else if i = 6 then nmV T (wdS T 355568 (pf3 T st)) else if i = 7 then nmV T (wdS T 131360 (pf4 T st)) else if i = 8 then nmV T (wdS T 400577 (pf5 T st)) else if i = 9 then 1 else 0, fun _ _ => 0, fun _ _ => 0, fun _ _ => 0)
def rd1 (T : TP) (K : KD) (st : St) : St := nmS T 0 (kh K 0 - 1) st
def rd2 (T : TP) (K : KD) (st : St) : St := wdS T 555 (rd1 T K st)
def rdo (T : TP) (K : KD) (st : St) (v : Nat) : Bool := decide (v ≠ nmV T st) && !(roadK K (nmV T st) v).isSome
def rd3 (T : TP) (K : KD) (st : St) : St := otS T (kh K 0) (rdo T K st) (rd2 T K st)
def rd4 (T : TP) (K : KD) (st : St) : St := nmS T 1 30 (rd3 T K st)
def addR (K : KD) (a b c : Nat) : KD := (fun i => if i = 2 then kh K 2 + 1 else kh K i, fun i => if i = kh K 2 then (fun j => if j = 0 then a else if j = 1 then b else c) else kr K i, K.2.2)
def rdK (T : TP) (K : KD) (st : St) : KD := addR K (nmV T st) (nmV T (rd2 T K st)) (nmV T (rd3 T K st))
theorem gd_nm {T : TP} {lo hi : Nat} {st : St} (h : gd (nmS T lo hi st) = true) : gd st = true := by
  rcases st with x | s
  · cases h
  · rfl
theorem gd_wd {T : TP} {w : Nat} {st : St} (h : gd (wdS T w st) = true) : gd st = true := by
  rcases st with x | s
  · cases h
  · rfl
theorem gd_ot {T : TP} {P : Nat} {ok : Nat → Bool} {st : St} (h : gd (otS T P ok st) = true) : gd st = true := by
  rcases st with x | s
  · cases h
  · rfl
/-- the reference's draft holds K -/
def BM (σ : MS) (K : KD) : Prop := RepM σ 4 K ∧ (∀ j, j < 5 → σ.2.2.1 7 (20 + j) = nI (kh K (6 + j))) ∧ kh K 11 = 0
/-- only the draft and the reading differ -/
def FrK (σ σ' : MS) : Prop := (∀ j, List.elem j [7, 8, 9, 10, 12, 13] = false → σ'.1 j = σ.1 j) ∧ (∀ k, List.elem k [5, 6, 7, 9, 10, 11] = false → σ'.2.2.1 k = σ.2.2.1 k) ∧ (∀ k, k ≠ 8 → σ'.2.2.2 k = σ.2.2.2 k) ∧ (∀ q, q < 4 → σ'.2.2.2 8 q = σ.2.2.2 8 q ∧ σ'.2.2.1 5 q = σ.2.2.1 5 q) ∧ (∀ q, q < 20 → σ'.2.2.1 6 q = σ.2.2.1 6 q ∧ σ'.2.2.1 7 q = σ.2.2.1 7 q) ∧ (∀ q, q < 144 → σ'.2.2.1 9 q = σ.2.2.1 9 q) ∧ (∀ q, q < 252 → σ'.2.2.1 10 q = σ.2.2.1 10 q) ∧ (∀ q, q < 440 → σ'.2.2.1 11 q = σ.2.2.1 11 q)
theorem FrK.r {σ : MS} : FrK σ σ := ⟨fun _ _ => rfl, fun _ _ => rfl, fun _ _ => rfl, fun _ _ => ⟨rfl, rfl⟩, fun _ _ => ⟨rfl, rfl⟩, fun _ _ => rfl, fun _ _ => rfl, fun _ _ => rfl⟩
theorem FrK.t {σ σ' σ'' : MS} (h : FrK σ σ') (h' : FrK σ' σ'') : FrK σ σ'' := ⟨fun j hj => (h'.1 j hj).trans (h.1 j hj), fun j hj => (h'.2.1 j hj).trans (h.2.1 j hj), fun j hj => (h'.2.2.1 j hj).trans (h.2.2.1 j hj), fun q hq => ⟨(h'.2.2.2.1 q hq).1.trans (h.2.2.2.1 q hq).1, (h'.2.2.2.1 q hq).2.trans (h.2.2.2.1 q hq).2⟩, fun q hq => ⟨(h'.2.2.2.2.1 q hq).1.trans (h.2.2.2.2.1 q hq).1, (h'.2.2.2.2.1 q hq).2.trans (h.2.2.2.2.1 q hq).2⟩, fun q hq => (h'.2.2.2.2.2.1 q hq).trans (h.2.2.2.2.2.1 q hq), fun q hq => (h'.2.2.2.2.2.2.1 q hq).trans (h.2.2.2.2.2.2.1 q hq), fun q hq => (h'.2.2.2.2.2.2.2 q hq).trans (h.2.2.2.2.2.2.2 q hq)⟩
theorem FrB.k {σ σ' : MS} (h : FrB σ σ') : FrK σ σ' := ⟨h.1, fun k _ => by rw [h.2], fun k _ => by rw [h.2], fun q _ => by rw [h.2]; exact ⟨rfl, rfl⟩, fun q _ => by rw [h.2]; exact ⟨rfl, rfl⟩, fun q _ => by rw [h.2], fun q _ => by rw [h.2], fun q _ => by rw [h.2]⟩
theorem FrK.T {σ σ' : MS} {T : TP} (h : FrK σ σ') (hT : TM σ T) : TM σ' T := ⟨(h.1 6 rfl).trans hT.1, hT.2.1, fun i hi => by rw [h.2.1 4 rfl]; exact hT.2.2 i hi⟩
/-- a cell of the draft -/
def dcl (k q : Nat) : Prop := (k = 5 ∧ 4 ≤ q) ∨ ((k = 6 ∨ k = 7) ∧ 20 ≤ q) ∨ (k = 9 ∧ 144 ≤ q) ∨ (k = 10 ∧ 252 ≤ q) ∨ (k = 11 ∧ 440 ≤ q)
theorem FrK.a {σ : MS} {k q : Nat} {x : Int32} (h : dcl k q) : FrK σ (aset σ k (upd (σ.2.2.1 k) q x)) := by
  have e : ∀ i j, (i ≠ k ∨ j ≠ q) → va_up σ.2.2.1 k (upd (σ.2.2.1 k) q x) i j = σ.2.2.1 i j := by
    intro i j hij
    by_cases c : i = k
    · subst c
      rw [va_up_self]
      exact pk_un (by rcases hij with z | z; · exact absurd rfl z
                      · exact z)
    · rw [va_up_ne _ _ c]
  unfold dcl at h
  refine ⟨fun _ _ => rfl, fun i hi => ?_, fun _ _ => rfl, fun j hj => ⟨rfl, e 5 j (by omega)⟩, fun j hj => ⟨e 6 j (by omega), e 7 j (by omega)⟩, fun j hj => e 9 j (by omega), fun j hj => e 10 j (by omega), fun j hj => e 11 j (by omega)⟩
  refine va_up_ne _ _ (fun c => ?_)
  rw [c] at hi
  rcases h with ⟨rfl, _⟩ | ⟨rfl | rfl, _⟩ | ⟨rfl, _⟩ | ⟨rfl, _⟩ | ⟨rfl, _⟩ <;> cases hi
theorem FrK.rep {σ σ' : MS} {s : Nat} {K : KD} (h : FrK σ σ') (hs : s < 4) (ok : KOK K) (hR : RepM σ s K) : RepM σ' s K := by
  obtain ⟨b0, b1, b2, b3, b4, b5, b6, b7, b8, b9, b10, b11, b12⟩ := ok_h ok
  have c8 : ∀ i, i < kh K 4 → kw K i 3 ≤ 7 := fun i hi => (ok.2.2.2.2.2.2.2.2.2.2.2.2.2.2.2.2.1 i hi).2.2.2.2.2.1
  refine ⟨fun j hj => ?_, fun h0 j hj => ?_, ?_, ?_, fun i hi j hj => ?_, fun i hi j hj => ?_, fun i hi => ⟨fun j hj => ?_, fun j hj => ?_⟩⟩
  · rw [(h.2.2.2.2.1 _ (by omega)).1]; exact hR.1 j hj
  · rw [(h.2.2.2.2.1 _ (by omega)).2]; exact hR.2.1 h0 j hj
  · rw [(h.2.2.2.1 _ (by omega)).2]; exact hR.2.2.1
  · rw [(h.2.2.2.1 _ (by omega)).1]; exact hR.2.2.2.1
  · rw [h.2.2.2.2.2.1 _ (by omega)]; exact hR.2.2.2.2.1 i hi j hj
  · rw [h.2.2.2.2.2.2.1 _ (by omega)]; exact hR.2.2.2.2.2.1 i hi j hj
  · rw [h.2.2.2.2.2.2.2 _ (by omega)]; exact (hR.2.2.2.2.2.2 i hi).1 j hj
  · have := c8 i hi
    rw [h.2.2.2.2.2.2.2 _ (by omega)]; exact (hR.2.2.2.2.2.2 i hi).2 j hj
def btI (f : Nat → Int32) (q : Nat) (a b : Int32) : Bool := decide ((f q = a ∧ f (q + 1) = b) ∨ (f q = b ∧ f (q + 1) = a))
/-- a line read, its state and its kingdom -/
def RLn (M : AM) (σ : MS) (T : TP) (st : St) (K : KD) : Option Value → AM → Prop := fun v M' => v = none ∧ ∃ σ', M' = mset M σ' ∧ FrK σ σ' ∧ LM σ' T st ∧ (gd st = true → BM σ' K)
section LNS
variable {d : Nat} {M : AM} {σ σ' : MS} {T : TP} {st : St} {K : KD} {Q : Option Value → AM → Prop}
theorem m_btI {q : Nat} (hq : q + 1 < 180) (a b : Int32) : Ev d md_177 0 [some (.ref 297), some (.int (nI q)), some (.int a), some (.int b)] [] (mset M σ) (some (.int (bI (btI (σ.2.2.1 9) q a b))), mset M σ) := by
  refine Wp.toEv ?_
  refine Wp.n (pc' := 2) 2 rfl ?_
  refine Wp.mialdN (j := q) (len := 1) rfl rfl rfl (by omega) ?_
  refine Wp.n (pc' := 4) 1 rfl ?_
  refine Wp.ic1 (tgt := 16) (len := 3) rfl (fun h4 => ?_) (fun h4 => ?_)
  · skip
    refine Wp.n (pc' := 18) 2 rfl ?_
    refine Wp.mialdN (j := q) (len := 1) rfl rfl rfl (by omega) ?_
    refine Wp.n (pc' := 20) 1 rfl ?_
    refine Wp.ic1 (tgt := 36) (len := 3) rfl (fun h20 => ?_) (fun h20 => ?_)
    · skip
      refine Wp.n (pc' := 37) 1 rfl ?_
      refine Wp.retZ (len := 1) (c := false) rfl rfl rfl ?_
      refine ⟨?_, rfl⟩
      unfold btI
      simp_all [bI]
    · skip
      refine Wp.n (pc' := 26) 3 rfl ?_
      refine Wp.iaddN (x := q) (y := 1) (len := 1) rfl ?_
      refine Wp.mialdN (j := q + 1) (len := 1) rfl rfl rfl (by omega) ?_
      refine Wp.n (pc' := 29) 1 rfl ?_
      refine Wp.ic1 (tgt := 36) (len := 3) rfl (fun h29 => ?_) (fun h29 => ?_)
      · skip
        refine Wp.n (pc' := 37) 1 rfl ?_
        refine Wp.retZ (len := 1) (c := false) rfl rfl rfl ?_
        refine ⟨?_, rfl⟩
        unfold btI
        simp_all [bI]
      · skip
        refine Wp.n (pc' := 37) 2 rfl ?_
        refine Wp.retZ (len := 1) (c := true) rfl rfl rfl ?_
        refine ⟨?_, rfl⟩
        unfold btI
        simp_all [bI]
  · skip
    refine Wp.n (pc' := 10) 3 rfl ?_
    refine Wp.iaddN (x := q) (y := 1) (len := 1) rfl ?_
    refine Wp.mialdN (j := q + 1) (len := 1) rfl rfl rfl (by omega) ?_
    refine Wp.n (pc' := 13) 1 rfl ?_
    refine Wp.ic0 (tgt := 32) (len := 3) rfl (fun h13 => ?_) (fun h13 => ?_)
    · skip
      refine Wp.n (pc' := 37) 2 rfl ?_
      refine Wp.retZ (len := 1) (c := true) rfl rfl rfl ?_
      refine ⟨?_, rfl⟩
      unfold btI
      simp_all [bI]
    · skip
      refine Wp.n (pc' := 18) 2 rfl ?_
      refine Wp.mialdN (j := q) (len := 1) rfl rfl rfl (by omega) ?_
      refine Wp.n (pc' := 20) 1 rfl ?_
      refine Wp.ic1 (tgt := 36) (len := 3) rfl (fun h20 => ?_) (fun h20 => ?_)
      · skip
        refine Wp.n (pc' := 37) 1 rfl ?_
        refine Wp.retZ (len := 1) (c := false) rfl rfl rfl ?_
        refine ⟨?_, rfl⟩
        unfold btI
        simp_all [bI]
      · skip
        refine Wp.n (pc' := 26) 3 rfl ?_
        refine Wp.iaddN (x := q) (y := 1) (len := 1) rfl ?_
        refine Wp.mialdN (j := q + 1) (len := 1) rfl rfl rfl (by omega) ?_
        refine Wp.n (pc' := 29) 1 rfl ?_
        refine Wp.ic1 (tgt := 36) (len := 3) rfl (fun h29 => ?_) (fun h29 => ?_)
        · skip
          refine Wp.n (pc' := 37) 1 rfl ?_
          refine Wp.retZ (len := 1) (c := false) rfl rfl rfl ?_
          refine ⟨?_, rfl⟩
          unfold btI
          simp_all [bI]
        · skip
          refine Wp.n (pc' := 37) 2 rfl ?_
          refine Wp.retZ (len := 1) (c := true) rfl rfl rfl ?_
          refine ⟨?_, rfl⟩
          unfold btI
          simp_all [bI]
theorem m_isRoadTold_l {n0 : Nat} (h22 : σ.2.2.1 6 22 = nI n0) (hn0 : n0 ≤ 12) (a b : Int32) : ∀ (n i : Nat), i + n = n0 → Wp (d + 1) md_176 2 [some (.ref 287), some (.int a), some (.int b), some (.int (nI i))] [] (mset M σ) (IsR (some (.int (bI ((fnd (fun i => btI (σ.2.2.1 9) (144 + 3 * i) a b) n i).isSome)))) (mset M σ))
  | 0, i, hi => by
    refine Wp.n (pc' := 5) 3 rfl ?_
    refine Wp.ecallV (len := 3) rfl rfl rfl (rfl) rfl (by decide) rfl (m_hasRead (k := 2) (by decide)) ?_
    refine Wp.top h22 ?_
    refine Wp.nc3 (x := i) (y := n0) (tgt := 37) (len := 3) rfl (by omega) (by omega) (fun h8 => ?_) (fun h8 => ?_)
    · skip
      refine Wp.n (pc' := 38) 1 rfl ?_
      refine Wp.retZ (len := 1) (c := false) rfl rfl rfl ?_
      exact ⟨rfl, rfl⟩
    · omega
  | n + 1, i, hi => by
    have e : fnd (fun i => btI (σ.2.2.1 9) (144 + 3 * i) a b) (n + 1) i = if btI (σ.2.2.1 9) (144 + 3 * i) a b = true then some i else fnd (fun i => btI (σ.2.2.1 9) (144 + 3 * i) a b) n (i + 1) := rfl
    rw [show 144 + 3 * i = 3 * (48 + i) by omega] at e
    rw [e]
    refine Wp.n (pc' := 5) 3 rfl ?_
    refine Wp.ecallV (len := 3) rfl rfl rfl (rfl) rfl (by decide) rfl (m_hasRead (k := 2) (by decide)) ?_
    refine Wp.top h22 ?_
    refine Wp.nc3 (x := i) (y := n0) (tgt := 37) (len := 3) rfl (by omega) (by omega) (fun h8 => ?_) (fun h8 => ?_)
    · omega
    · skip
      refine Wp.n (pc' := 19) 5 rfl ?_
      refine Wp.iaddN (x := 48) (y := i) (len := 1) rfl ?_
      refine Wp.imulN (x := 3) (y := 48 + i) (len := 1) rfl ?_
      refine Wp.n (pc' := 23) 2 rfl ?_
      refine Wp.ecallS (len := 3) rfl rfl rfl rfl (m_btI (q := 3 * (48 + i)) (by omega) a b) ?_
      refine Wp.ifb0 (tgt := 31) (len := 3) rfl (fun h26 => ?_) (fun h26 => ?_)
      · skip
        refine Wp.incN (x := i) (len := 3) rfl rfl ?_
        refine Wp.n (pc' := 2) 1 rfl ?_
        rw [if_neg (by rw [h26]; decide)]
        exact m_isRoadTold_l h22 hn0 a b n (i + 1) (by omega)
      · skip
        refine Wp.n (pc' := 30) 1 rfl ?_
        refine Wp.retZ (len := 1) (c := true) rfl rfl rfl ?_
        rw [if_pos h26]
        exact ⟨rfl, rfl⟩
theorem m_isRoadTold {n0 : Nat} (h22 : σ.2.2.1 6 22 = nI n0) (hn0 : n0 ≤ 12) (a b : Int32) : Ev (d + 1) md_176 0 [some (.ref 287), some (.int a), some (.int b), none] [] (mset M σ) (some (.int (bI ((fnd (fun i => btI (σ.2.2.1 9) (144 + 3 * i) a b) n0 0).isSome))), mset M σ) := by
  refine Wp.toEv ?_
  refine Wp.n (pc' := 2) 2 rfl ?_
  exact m_isRoadTold_l h22 hn0 a b n0 0 (by omega)
theorem told_eq (hB : BM σ K) (ok : KOK K) {a b : Nat} (ha : a < 7) (hb : b < 7) : (fnd (fun i => btI (σ.2.2.1 9) (144 + 3 * i) (nI a) (nI b)) (kh K 2) 0).isSome = (roadK K a b).isSome := by
  have h := hB.1.2.2.2.2.1
  have b0 := (ok_h ok).1
  have hr := ok.2.2.2.2.2.2.2.2.2.2.2.2.2.2.1
  have e : ∀ j, j < kh K 2 → btI (σ.2.2.1 9) (144 + 3 * j) (nI a) (nI b) = btw (kr K j 0) (kr K j 1) a b := by
    intro j hj
    have e0 := h j hj 0 (by decide)
    have e1 := h j hj 1 (by decide)
    rw [show 36 * 4 + 3 * j + 0 = 144 + 3 * j by omega] at e0
    rw [show 36 * 4 + 3 * j + 1 = 144 + 3 * j + 1 by omega] at e1
    have r := hr j hj
    unfold btI btw
    rw [e0, e1]
    simp only [nI_eq (a := kr K j 0) (b := a) (by omega) (by omega), nI_eq (a := kr K j 0) (b := b) (by omega) (by omega), nI_eq (a := kr K j 1) (b := a) (by omega) (by omega), nI_eq (a := kr K j 1) (b := b) (by omega) (by omega)]
    simp
  rw [Bool.eq_iff_iff, fnd_any, show roadK K a b = fnd (fun i => btw (kr K i 0) (kr K i 1) a b) (kh K 2) 0 from rfl, fnd_any]
  constructor
  · rintro ⟨j, h1, h2, h3⟩
    exact ⟨j, h1, h2, by rw [← e j (by omega)]; exact h3⟩
  · rintro ⟨j, h1, h2, h3⟩
    exact ⟨j, h1, h2, by rw [e j (by omega)]; exact h3⟩
theorem LN_a {s k : Nat} {g : Nat → Int32} (h : LN σ T s) : LN (aset σ k g) T s := h
theorem LM_a {k : Nat} {g : Nat → Int32} (h : LM σ T st) : LM (aset σ k g) T st := by
  rcases st with x | s
  · exact h
  · exact h
theorem nm_le {lo hi : Nat} (h : gd (nmS T lo hi st) = true) : lo ≤ nmV T st ∧ nmV T st ≤ hi := by
  rcases st with x | s
  · cases h
  · by_cases c : tk T s = 2
    · by_cases c2 : lo ≤ vl T s ∧ vl T s ≤ hi
      · exact c2
      · rw [show nmS T lo hi (.inr s) = .inl (2, s) from (if_pos c).trans (if_neg c2)] at h
        cases h
    · rw [show nmS T lo hi (.inr s) = .inl (1, s) from if_neg c] at h
      cases h
theorem ot_ok {P : Nat} {ok : Nat → Bool} (h : gd (otS T P ok st) = true) : nmV T st < P ∧ ok (nmV T st) = true := by
  rcases st with x | s
  · cases h
  · by_cases c : tk T s = 2
    · by_cases c2 : vl T s < P ∧ ok (vl T s) = true
      · exact c2
      · rw [show otS T P ok (.inr s) = .inl (2, s) from (if_pos c).trans (if_neg c2)] at h
        cases h
    · rw [show otS T P ok (.inr s) = .inl (1, s) from if_neg c] at h
      cases h
theorem BM_h (hB : BM σ K) {j : Nat} (hj : j < 5) : σ.2.2.1 6 (20 + j) = nI (kh K j) := hB.1.1 j hj
theorem BM_road (hB : BM σ K) (ok : KOK K) (hr : kh K 2 < 12) {a b c : Nat} (e : ∀ k, k ≠ 6 → k ≠ 9 → σ'.2.2.1 k = σ.2.2.1 k) (el : σ'.2.2.2 = σ.2.2.2) (e6 : σ'.2.2.1 6 = upd (σ.2.2.1 6) 22 (nI (kh K 2 + 1))) (e9 : σ'.2.2.1 9 = upd (upd (upd (σ.2.2.1 9) (3 * (48 + kh K 2) + 1) (nI b)) (3 * (48 + kh K 2)) (nI a)) (3 * (48 + kh K 2) + 2) (nI c)) : BM σ' (addR K a b c) := by
  obtain ⟨⟨h1, h2, h3, h4, h5, h6, h7⟩, hl, h11⟩ := hB
  have ek : ∀ j, j ≠ 2 → kh (addR K a b c) j = kh K j := fun j hj => if_neg hj
  have e2 : kh (addR K a b c) 2 = kh K 2 + 1 := rfl
  refine ⟨⟨fun j hj => ?_, fun h0 j hj => ?_, ?_, ?_, fun i hi j hj => ?_, ?_, ?_⟩, fun j hj => ?_, (ek 11 (by decide)).trans h11⟩
  · rw [e6]
    by_cases q : j = 2
    · subst q; exact pk_us
    · rw [pk_un (by omega), ek j q]; exact h1 j hj
  · rw [e 7 (by decide) (by decide), ek (6 + j) (by omega)]; exact hl j hj
  · rw [e 5 (by decide) (by decide), ek 5 (by decide)]; exact h3
  · rw [el, ek 12 (by decide)]; exact h4
  · rw [e2] at hi
    rw [e9]
    show _ = nI ((if i = kh K 2 then (fun j => if j = 0 then a else if j = 1 then b else c) else kr K i) j)
    by_cases q : i = kh K 2
    · subst q
      rw [if_pos rfl]
      have jj : j = 0 ∨ j = 1 ∨ j = 2 := by omega
      rcases jj with rfl | rfl | rfl
      · rw [pk_un (by omega), show 36 * 4 + 3 * kh K 2 + 0 = 3 * (48 + kh K 2) by omega, pk_us]; rfl
      · rw [pk_un (by omega), pk_un (by omega), show 36 * 4 + 3 * kh K 2 + 1 = 3 * (48 + kh K 2) + 1 by omega, pk_us]; rfl
      · rw [show 36 * 4 + 3 * kh K 2 + 2 = 3 * (48 + kh K 2) + 2 by omega, pk_us]; rfl
    · rw [if_neg q, pk_un (by omega), pk_un (by omega), pk_un (by omega)]
      exact h5 i (by omega) j hj
  · rw [e 10 (by decide) (by decide), ek 3 (by decide), ek 11 (by decide)]; exact h6
  · rw [e 11 (by decide) (by decide), ek 4 (by decide)]; exact h7
  · rw [e 7 (by decide) (by decide), ek (6 + j) (by omega)]; exact hl j hj
theorem m_roadLine_2 (hT : TM σ T) (hB : BM σ K) (ok : KOK K) (hP : 2 ≤ kh K 0) (hr : kh K 2 < 12) {τ : MS} {a : Int32} {is : Bool} (f : FrB σ τ) (hτ : LM τ T (rd2 T K st)) (ha : gd (rd1 T K st) = true → a = nI (nmV T st)) (hi : gd (rd2 T K st) = true → ∀ r, τ.1 10 = nI r → r < kh K 0 → is = rdo T K st r) : Wp (d + 5) md_175 64 [some (.ref 287), some (.int (nI (3 * (48 + kh K 2)))), some (.int a)] [.int (bI is), .ref 287, .int (nI (3 * (48 + kh K 2) + 1)), .ref 297] (mset M τ) (RLn M σ T (rd4 T K st) (rdK T K st)) := by
  have b0 := (ok_h ok).1
  have h20 : τ.2.2.1 6 20 = nI (kh K 0) := by rw [f.2]; exact BM_h (j := 0) hB (by decide)
  refine Wp.callV (len := 3) rfl rfl rfl (rfl) rfl (by decide) rfl (m_other (P := kh K 0) (ok := rdo T K st) (f.T hT) hτ (fun q => ⟨h20, by omega, by omega, hi q⟩)) ?_
  rintro _ _ ⟨b, rfl, hb, τ2, rfl, f2, hτ2⟩
  have e2 := (f.t f2).2
  refine Wp.miastN (j := 3 * (48 + kh K 2) + 1) (len := 1) rfl rfl rfl (by omega) ?_
  refine Wp.n (pc' := 74) 4 rfl ?_
  refine Wp.miastN (j := 3 * (48 + kh K 2)) (len := 1) rfl rfl rfl (by omega) ?_
  refine Wp.n (pc' := 81) 4 rfl ?_
  refine Wp.iaddN (x := 3 * (48 + kh K 2)) (y := 2) (len := 1) rfl ?_
  refine Wp.n (pc' := 86) 3 rfl ?_
  refine Wp.callV (len := 3) rfl rfl rfl (rfl) rfl (by decide) rfl (m_number (lo := 1) (hi := 30) (σ := aset (aset τ2 9 _) 9 _) (st := rd3 T K st) (FrK.T ((f.t f2).k.t ((FrK.a (by unfold dcl; omega)).t (FrK.a (by unfold dcl; omega)))) hT) (LM_a (LM_a hτ2)) (fun q => ⟨rfl, rfl, by omega, by omega⟩)) ?_
  rintro _ _ ⟨c, rfl, hc, τ3, rfl, f3, hτ3⟩
  have e22 : τ3.2.2.1 6 22 = nI (kh K 2) := by
    rw [f3.2]
    show τ2.2.2.1 6 22 = _
    rw [e2]
    exact BM_h (j := 2) hB (by decide)
  refine Wp.miastN (j := (3 * (48 + kh K 2)) + 2) (len := 1) rfl rfl rfl (by omega) ?_
  refine Wp.n (pc' := 97) 4 rfl ?_
  refine Wp.mialdN (j := 22) (len := 1) rfl rfl rfl (by omega) ?_
  refine Wp.top e22 ?_
  refine Wp.n (pc' := 99) 1 rfl ?_
  refine Wp.iaddN (x := kh K 2) (y := 1) (len := 1) rfl ?_
  refine Wp.miastN (j := 22) (len := 1) rfl rfl rfl (by omega) ?_
  refine Wp.retV (len := 1) rfl rfl ?_
  refine ⟨rfl, _, rfl, (f.t f2).k.t (((FrK.a (by unfold dcl; omega)).t (FrK.a (by unfold dcl; omega))).t (f3.k.t ((FrK.a (by unfold dcl; omega)).t (FrK.a (by unfold dcl; omega))))), LM_a (LM_a hτ3), fun g => ?_⟩
  have g3 : gd (rd3 T K st) = true := gd_nm g
  have g2 : gd (rd2 T K st) = true := gd_ot g3
  have g1 : gd (rd1 T K st) = true := gd_wd g2
  obtain rfl := ha g1
  obtain rfl := hb g3
  obtain rfl := hc g
  refine BM_road hB ok hr (fun k k6 k9 => ?_) ?_ ?_ ?_
  · show va_up (va_up τ3.2.2.1 9 _) 6 _ k = _
    rw [va_up_ne _ _ k6, va_up_ne _ _ k9, f3.2]
    show va_up (va_up τ2.2.2.1 9 _) 9 _ k = _
    rw [va_up_ne _ _ k9, va_up_ne _ _ k9, e2]
  · show τ3.2.2.2 = _
    rw [f3.2]
    show τ2.2.2.2 = _
    rw [e2]
  · show upd (τ3.2.2.1 6) 22 _ = _
    rw [f3.2]
    show upd (τ2.2.2.1 6) 22 _ = _
    rw [e2]
  · show upd (τ3.2.2.1 9) _ _ = _
    rw [f3.2]
    show upd (upd (upd (τ2.2.2.1 9) _ _) _ _) _ _ = _
    rw [e2]
theorem m_roadLine (hT : TM σ T) (hL : LM σ T st) (hB : BM σ K) (ok : KOK K) (hP : 2 ≤ kh K 0) (hr : kh K 2 < 12) : Wp (d + 5) md_175 0 [some (.ref 287), none, none] [] (mset M σ) (RLn M σ T (rd4 T K st) (rdK T K st)) := by
  have b0 := (ok_h ok).1
  refine Wp.n (pc' := 5) 4 rfl ?_
  refine Wp.ecallV (len := 3) rfl rfl rfl (rfl) rfl (by decide) rfl (m_hasRead (k := 2) (by decide)) ?_
  refine Wp.top (BM_h hB (by decide)) ?_
  refine Wp.iaddN (x := 48) (y := kh K 2) (len := 1) rfl ?_
  refine Wp.imulN (x := 3) (y := 48 + (kh K 2)) (len := 1) rfl ?_
  refine Wp.n (pc' := 15) 5 rfl ?_
  refine Wp.ecallV (len := 3) rfl rfl rfl (rfl) rfl (by decide) rfl (m_hasRead (k := 0) (by decide)) ?_
  refine Wp.top (BM_h hB (by decide)) ?_
  refine Wp.n (pc' := 19) 1 rfl ?_
  refine Wp.isubN (x := kh K 0) (y := 1) (len := 1) rfl (by omega) ?_
  refine Wp.callV (len := 3) rfl rfl rfl (rfl) rfl (by decide) rfl (m_number (lo := 0) (hi := kh K 0 - 1) hT hL (fun q => ⟨rfl, rfl, by omega, by omega⟩)) ?_
  rintro _ _ ⟨a, rfl, ha, τ1, rfl, f1, hτ1⟩
  refine Wp.n (pc' := 28) 3 rfl ?_
  refine Wp.callV (len := 3) rfl rfl rfl (rfl) rfl (by decide) rfl (m_asks (h := 555) (f1.T hT) hτ1 (by decide)) ?_
  rintro _ _ ⟨rfl, τ, rfl, f2, hτ⟩
  have f := f1.t f2
  have hv : gd (rd2 T K st) = true → a = nI (nmV T st) ∧ nmV T st < 7 := fun g => ⟨ha (gd_wd g), by have := nm_le (gd_wd (T := T) g); omega⟩
  refine Wp.n (pc' := 37) 4 rfl ?_
  refine Wp.iaddN (x := 3 * (48 + (kh K 2))) (y := 1) (len := 1) rfl ?_
  refine Wp.n (pc' := 44) 4 rfl ?_
  refine Wp.ic0 (tgt := 63) (len := 3) rfl (fun h44 => ?_) (fun h44 => ?_)
  · skip
    refine Wp.n (pc' := 64) 1 rfl ?_
    first
      | exact m_roadLine_2 (is := true) hT hB ok hP hr f hτ ha (fun g r q1 q2 => by
          obtain ⟨v1, v2⟩ := hv g
          rw [q1, v1, f.2, told_eq hB ok v2 (by omega)] at h56
          have q3 : r ≠ nmV T st := fun q => h44 (by rw [q1, v1, q])
          unfold rdo
          rw [h56, decide_eq_true q3]
          rfl)
      | exact m_roadLine_2 (is := false) hT hB ok hP hr f hτ ha (fun g r q1 q2 => by
          obtain ⟨v1, v2⟩ := hv g
          rw [q1, v1, f.2, told_eq hB ok v2 (by omega)] at h56
          unfold rdo
          rw [h56]
          exact (Bool.and_false _).symm)
      | exact m_roadLine_2 (is := false) hT hB ok hP hr f hτ ha (fun g r q1 q2 => by
          obtain ⟨v1, v2⟩ := hv g
          rw [q1, v1, nI_eq (by omega) (by omega)] at h44
          unfold rdo
          rw [show decide (r ≠ nmV T st) = false from decide_eq_false (fun q => q h44)]
          rfl)
  · skip
    refine Wp.n (pc' := 53) 4 rfl ?_
    refine Wp.ecallV (len := 3) rfl rfl rfl (rfl) rfl (by decide) rfl (m_isRoadTold (n0 := kh K 2) (by rw [f.2]; exact BM_h (j := 2) hB (by decide)) (by omega) _ _) ?_
    refine Wp.ifb1 (tgt := 63) (len := 3) rfl (fun h56 => ?_) (fun h56 => ?_)
    · skip
      refine Wp.n (pc' := 64) 1 rfl ?_
      first
        | exact m_roadLine_2 (is := true) hT hB ok hP hr f hτ ha (fun g r q1 q2 => by
            obtain ⟨v1, v2⟩ := hv g
            rw [q1, v1, f.2, told_eq hB ok v2 (by omega)] at h56
            have q3 : r ≠ nmV T st := fun q => h44 (by rw [q1, v1, q])
            unfold rdo
            rw [h56, decide_eq_true q3]
            rfl)
        | exact m_roadLine_2 (is := false) hT hB ok hP hr f hτ ha (fun g r q1 q2 => by
            obtain ⟨v1, v2⟩ := hv g
            rw [q1, v1, f.2, told_eq hB ok v2 (by omega)] at h56
            unfold rdo
            rw [h56]
            exact (Bool.and_false _).symm)
        | exact m_roadLine_2 (is := false) hT hB ok hP hr f hτ ha (fun g r q1 q2 => by
            obtain ⟨v1, v2⟩ := hv g
            rw [q1, v1, nI_eq (by omega) (by omega)] at h44
            unfold rdo
            rw [show decide (r ≠ nmV T st) = false from decide_eq_false (fun q => q h44)]
            rfl)
    · skip
      refine Wp.n (pc' := 64) 2 rfl ?_
      first
        | exact m_roadLine_2 (is := true) hT hB ok hP hr f hτ ha (fun g r q1 q2 => by
            obtain ⟨v1, v2⟩ := hv g
            rw [q1, v1, f.2, told_eq hB ok v2 (by omega)] at h56
            have q3 : r ≠ nmV T st := fun q => h44 (by rw [q1, v1, q])
            unfold rdo
            rw [h56, decide_eq_true q3]
            rfl)
        | exact m_roadLine_2 (is := false) hT hB ok hP hr f hτ ha (fun g r q1 q2 => by
            obtain ⟨v1, v2⟩ := hv g
            rw [q1, v1, f.2, told_eq hB ok v2 (by omega)] at h56
            unfold rdo
            rw [h56]
            exact (Bool.and_false _).symm)
        | exact m_roadLine_2 (is := false) hT hB ok hP hr f hτ ha (fun g r q1 q2 => by
            obtain ⟨v1, v2⟩ := hv g
            rw [q1, v1, nI_eq (by omega) (by omega)] at h44
            unfold rdo
            rw [show decide (r ≠ nmV T st) = false from decide_eq_false (fun q => q h44)]
            rfl)
end LNS
end
section
/-! LINES: lanes, fords, boats; the first line; the reference. -/
def lno (T : TP) (st : St) (v : Nat) : Bool := decide (v ≠ nmV T st)
def ln3 (T : TP) (K : KD) (st : St) : St := otS T (kh K 0) (lno T st) (rd2 T K st)
def ln4 (T : TP) (K : KD) (st : St) : St := nmS T 1 30 (ln3 T K st)
def lnf (T : TP) (K : KD) (st : St) : St := wdS T 131638 (ln4 T K st)
def ln5 (T : TP) (K : KD) (st : St) : St := nmS T 0 (kh K 1 - 1) (lnf T K st)
def lnl (T : TP) (K : KD) (st : St) : St := wdS T 555 (ln5 T K st)
def ln6 (T : TP) (K : KD) (so : Nat) (st : St) : St := if so = 0 then nmS T (nmV T (lnf T K st)) (kh K 1 - 1) (lnl T K st) else ln4 T K st
def lnw (T : TP) (K : KD) (so : Nat) (st : St) : Bool := decide (so < 2) && isS T 8935713994 (ln6 T K so st)
def ln7 (T : TP) (K : KD) (so : Nat) (st : St) : St := if lnw T K so st = true then nmS T 0 100 (adS T (ln6 T K so st)) else ln6 T K so st
def addL (K : KD) (g : Nat → Nat) : KD := (fun i => if i = 3 then kh K 3 + 1 else kh K i, kr K, fun i => if i = kh K 3 then g else kl K i, kw K)
def lnR (T : TP) (K : KD) (so : Nat) (st : St) (j : Nat) : Nat := if j = 0 then nmV T st else if j = 1 then nmV T (rd2 T K st) else if j = 2 then nmV T (ln3 T K st) else if j = 3 then (if so = 0 then nmV T (lnf T K st) else 0) else if j = 4 then (if so = 0 then nmV T (lnl T K st) else 0) else if j = 5 then so else (if lnw T K so st = true then nmV T (adS T (ln6 T K so st)) else 0)
def lnK (T : TP) (K : KD) (so : Nat) (st : St) : KD := addL K (lnR T K so st)
/-- a row of the draft is being written -/
def ArF (A k : Nat) (g : Nat → Int32) (σ τ : MS) : Prop := FrK σ τ ∧ (∀ i, i ≠ A → τ.2.2.1 i = σ.2.2.1 i) ∧ τ.2.2.2 = σ.2.2.2 ∧ (∀ q, q < k → τ.2.2.1 A q = σ.2.2.1 A q) ∧ ∀ j, τ.2.2.1 A (k + j) = g j
section ARF
variable {d : Nat} {M : AM} {σ σ' τ τ' : MS} {T : TP} {st : St} {K : KD} {Q : Option Value → AM → Prop} {A k : Nat} {g : Nat → Int32}
theorem ArF.r : ArF A k (fun j => σ.2.2.1 A (k + j)) σ σ := ⟨FrK.r, fun _ _ => rfl, rfl, fun _ _ => rfl, fun _ => rfl⟩
theorem ArF.b (h : ArF A k g σ τ) (f : FrB τ τ') : ArF A k g σ τ' := ⟨h.1.t f.k, fun i hi => by rw [f.2]; exact h.2.1 i hi, by rw [f.2]; exact h.2.2.1, fun q hq => by rw [f.2]; exact h.2.2.2.1 q hq, fun j => by rw [f.2]; exact h.2.2.2.2 j⟩
theorem ArF.tm (h : ArF A k g σ τ) (hT : TM σ T) : TM τ T := h.1.T hT
theorem LM_e (e : τ'.1 = τ.1) (e' : τ'.2.1 = τ.2.1) (h : LM τ T st) : LM τ' T st := by
  rcases st with x | s
  · unfold LM at *
    rw [e]; exact h
  · unfold LM LN at *
    rw [e, e']; exact h
theorem Wp.rst {X : MD} {pc len i j n : Nat} {l : AL} {sk : List Value} {x : Int32} (hc : cdx X pc = some (.inr (.inl .iastore), len)) (hA : ArF A k g σ τ) (hi : i = k + j) (hk : mtl_ A = (0, n)) (hn : (Nat.blt 0 n && Nat.blt n 100000) = true) (hj : i < n) (hd : dcl A i) (kk : ∀ τ', ArF A k (upd g j x) σ τ' → τ'.1 = τ.1 → τ'.2.1 = τ.2.1 → Wp d X (pc + len) l sk (mset M τ') Q) : Wp d X pc l (.int x :: .int (nI i) :: .ref (A + 288) :: sk) (mset M τ) Q := by
  refine Wp.miastN (k := A) (j := i) hc hk hn hj ?_
  refine kk _ ⟨hA.1.t (FrK.a hd), fun q hq => ?_, hA.2.2.1, fun q hq => ?_, fun q => ?_⟩ rfl rfl
  · show va_up τ.2.2.1 A _ q = _
    rw [va_up_ne _ _ hq]; exact hA.2.1 q hq
  · rw [aset_get, pk_un (by omega)]; exact hA.2.2.2.1 q hq
  · rw [aset_get]
    by_cases c : q = j
    · rw [c, hi, pk_us, pk_us]
    · rw [pk_un (by omega), pk_un c]; exact hA.2.2.2.2 q
theorem ArF.h (h : ArF A k g σ τ) (hA : A ≠ 6) (hB : BM σ K) {j : Nat} (hj : j < 5) : τ.2.2.1 6 (20 + j) = nI (kh K j) := by rw [h.2.1 6 (fun e => hA e.symm)]; exact BM_h hB hj
theorem BM_lane (hB : BM σ K) (ok : KOK K) (hr : kh K 3 < 8) {G : Nat → Nat} (hA : ArF 10 (7 * (36 + kh K 3)) g σ τ) (hv : ∀ j, j < 7 → g j = nI (G j)) : BM (aset τ 6 (upd (τ.2.2.1 6) 23 (nI (kh K 3 + 1)))) (addL K G) := by
  obtain ⟨⟨h1, h2, h3, h4, h5, h6, h7⟩, hl, h11⟩ := hB
  have ek : ∀ j, j ≠ 3 → kh (addL K G) j = kh K j := fun j hj => if_neg hj
  have e2 : kh (addL K G) 3 = kh K 3 + 1 := rfl
  have ea : ∀ i, i ≠ 6 → i ≠ 10 → (aset τ 6 (upd (τ.2.2.1 6) 23 (nI (kh K 3 + 1)))).2.2.1 i = σ.2.2.1 i := fun i i6 i10 => (va_up_ne _ _ i6).trans (hA.2.1 i i10)
  have e10 : (aset τ 6 (upd (τ.2.2.1 6) 23 (nI (kh K 3 + 1)))).2.2.1 10 = τ.2.2.1 10 := rfl
  have e11 : kh (addL K G) 11 = 0 := (ek 11 (by decide)).trans h11
  refine ⟨⟨fun j hj => ?_, fun h0 j hj => ?_, ?_, ?_, ?_, fun i hi j hj => ?_, ?_⟩, fun j hj => ?_, e11⟩
  · rw [aset_get]
    by_cases q : j = 3
    · subst q; exact pk_us
    · rw [pk_un (by omega), ek j q, hA.2.1 6 (by decide)]; exact h1 j hj
  · rw [ea 7 (by decide) (by decide), ek (6 + j) (by omega)]; exact hl j hj
  · rw [ea 5 (by decide) (by decide), ek 5 (by decide)]; exact h3
  · show τ.2.2.2 8 4 = _
    rw [hA.2.2.1, ek 12 (by decide)]; exact h4
  · rw [ea 9 (by decide) (by decide), ek 2 (by decide)]; exact h5
  · rw [e2, e11] at hi
    rw [e10]
    show _ = nI ((if i = kh K 3 then G else kl K i) j)
    by_cases q : i = kh K 3
    · subst q
      rw [if_pos rfl, show 63 * 4 + 7 * kh K 3 + j = 7 * (36 + kh K 3) + j by omega, hA.2.2.2.2 j]
      exact hv j hj
    · rw [if_neg q, hA.2.2.2.1 _ (by omega)]
      exact h6 i (Or.inl (by omega)) j hj
  · rw [ea 11 (by decide) (by decide), ek 4 (by decide)]; exact h7
  · rw [ea 7 (by decide) (by decide), ek (6 + j) (by omega)]; exact hl j hj
theorem gd_ad (h : gd (adS T st) = true) : gd st = true := by
  rcases st with x | s
  · cases h
  · rfl
theorem m_laneLine_3 (hT : TM σ T) (hB : BM σ K) (ok : KOK K) (hr : kh K 3 < 8) {so : Nat} (hso : so ≤ 2) {τ0 : MS} (A0 : ArF 10 (7 * (36 + kh K 3)) g σ τ0) (l0 : LM τ0 T (ln6 T K so st)) (hv : gd (ln6 T K so st) = true → ∀ j, j < 5 → g j = nI (lnR T K so st j)) : Wp (d + 5) md_180 157 [some (.ref 287), some (.int (nI so)), some (.int (nI (7 * (36 + kh K 3))))] [] (mset M τ0) (RLn M σ T (ln7 T K so st) (lnK T K so st)) := by
  refine Wp.n (pc' := 163) 4 rfl ?_
  refine Wp.iaddN (x := 7 * (36 + kh K 3)) (y := 5) (len := 1) rfl ?_
  refine Wp.n (pc' := 165) 1 rfl ?_
  refine Wp.rst (A := 10) (i := 7 * (36 + kh K 3) + 5) (j := 5) (len := 1) rfl A0 (by omega) rfl rfl (by omega) (by unfold dcl; omega) (fun τ1 A1 e1 j1 => ?_)
  have l1 := LM_e e1 j1 l0
  refine Wp.n (pc' := 173) 4 rfl ?_
  refine Wp.iaddN (x := 7 * (36 + kh K 3)) (y := 6) (len := 1) rfl ?_
  refine Wp.n (pc' := 176) 2 rfl ?_
  refine Wp.nc3 (x := so) (y := 2) (tgt := 199) (len := 3) rfl (by omega) (by omega) (fun h176 => ?_) (fun h176 => ?_)
  · have hw_ : lnw T K so st = false := by unfold lnw; rw [decide_eq_false (by omega)]; rfl
    have e7 : ln7 T K so st = ln6 T K so st := if_neg (by rw [hw_]; decide)
    refine Wp.n (pc' := 200) 1 rfl ?_
    first
      | refine Wp.rst (A := 10) (i := 7 * (36 + kh K 3) + 6) (j := 6) (len := 1) rfl A3 (by omega) rfl rfl (by omega) (by unfold dcl; omega) (fun τ4 A4 e4 j4 => ?_)
      | refine Wp.rst (A := 10) (i := 7 * (36 + kh K 3) + 6) (j := 6) (len := 1) rfl A2 (by omega) rfl rfl (by omega) (by unfold dcl; omega) (fun τ4 A4 e4 j4 => ?_)
      | refine Wp.rst (A := 10) (i := 7 * (36 + kh K 3) + 6) (j := 6) (len := 1) rfl A1 (by omega) rfl rfl (by omega) (by unfold dcl; omega) (fun τ4 A4 e4 j4 => ?_)
    refine Wp.n (pc' := 208) 4 rfl ?_
    refine Wp.mialdN (j := 23) (len := 1) rfl rfl rfl (by omega) ?_
    refine Wp.top (A4.h (j := 3) (by decide) hB (by decide)) ?_
    refine Wp.n (pc' := 210) 1 rfl ?_
    refine Wp.iaddN (x := kh K 3) (y := 1) (len := 1) rfl ?_
    refine Wp.miastN (j := 23) (len := 1) rfl rfl rfl (by omega) ?_
    refine Wp.retV (len := 1) rfl rfl ?_
    rw [e7]
    refine ⟨rfl, _, rfl, A4.1.t (FrK.a (by unfold dcl; omega)), LM_a (LM_e e4 j4 (by first | exact l3 | exact l2 | exact l1)), fun gg => BM_lane hB ok hr A4 (fun j hj => ?_)⟩
    have g6 : gd (ln6 T K so st) = true := by first | exact gg | exact gd_ad (gd_nm gg)
    by_cases c : j < 5
    · rw [pk_un (by omega), pk_un (by omega)]
      exact hv g6 j c
    · by_cases c5 : j = 5
      · subst c5; rfl
      · obtain rfl : j = 6 := by omega
        show upd (upd g 5 (nI so)) 6 _ 6 = nI (if lnw T K so st = true then _ else _)
        rw [pk_us]
        first
          | (rw [if_pos hw_]; exact hw gg)
          | (rw [if_neg (by rw [hw_]; decide)]; rfl)
  · skip
    refine Wp.n (pc' := 183) 2 rfl ?_
    refine Wp.callV (len := 3) rfl rfl rfl (rfl) rfl (by decide) rfl (m_takes (h := 8935713994) (A1.tm hT) l1 (by decide)) ?_
    rintro _ _ ⟨rfl, τ2, rfl, f2, l2⟩
    have A2 := A1.b f2
    refine Wp.ifb0 (tgt := 199) (len := 3) rfl (fun h186 => ?_) (fun h186 => ?_)
    · rw [if_neg (by rw [h186]; decide)] at l2
      have hw_ : lnw T K so st = false := by unfold lnw; rw [h186]; exact Bool.and_false _
      have e7 : ln7 T K so st = ln6 T K so st := if_neg (by rw [hw_]; decide)
      refine Wp.n (pc' := 200) 1 rfl ?_
      first
        | refine Wp.rst (A := 10) (i := 7 * (36 + kh K 3) + 6) (j := 6) (len := 1) rfl A3 (by omega) rfl rfl (by omega) (by unfold dcl; omega) (fun τ4 A4 e4 j4 => ?_)
        | refine Wp.rst (A := 10) (i := 7 * (36 + kh K 3) + 6) (j := 6) (len := 1) rfl A2 (by omega) rfl rfl (by omega) (by unfold dcl; omega) (fun τ4 A4 e4 j4 => ?_)
        | refine Wp.rst (A := 10) (i := 7 * (36 + kh K 3) + 6) (j := 6) (len := 1) rfl A1 (by omega) rfl rfl (by omega) (by unfold dcl; omega) (fun τ4 A4 e4 j4 => ?_)
      refine Wp.n (pc' := 208) 4 rfl ?_
      refine Wp.mialdN (j := 23) (len := 1) rfl rfl rfl (by omega) ?_
      refine Wp.top (A4.h (j := 3) (by decide) hB (by decide)) ?_
      refine Wp.n (pc' := 210) 1 rfl ?_
      refine Wp.iaddN (x := kh K 3) (y := 1) (len := 1) rfl ?_
      refine Wp.miastN (j := 23) (len := 1) rfl rfl rfl (by omega) ?_
      refine Wp.retV (len := 1) rfl rfl ?_
      rw [e7]
      refine ⟨rfl, _, rfl, A4.1.t (FrK.a (by unfold dcl; omega)), LM_a (LM_e e4 j4 (by first | exact l3 | exact l2 | exact l1)), fun gg => BM_lane hB ok hr A4 (fun j hj => ?_)⟩
      have g6 : gd (ln6 T K so st) = true := by first | exact gg | exact gd_ad (gd_nm gg)
      by_cases c : j < 5
      · rw [pk_un (by omega), pk_un (by omega)]
        exact hv g6 j c
      · by_cases c5 : j = 5
        · subst c5; rfl
        · obtain rfl : j = 6 := by omega
          show upd (upd g 5 (nI so)) 6 _ 6 = nI (if lnw T K so st = true then _ else _)
          rw [pk_us]
          first
            | (rw [if_pos hw_]; exact hw gg)
            | (rw [if_neg (by rw [hw_]; decide)]; rfl)
    · rw [if_pos h186] at l2
      have hw_ : lnw T K so st = true := by unfold lnw; rw [h186, decide_eq_true (by omega)]; rfl
      have e7 : ln7 T K so st = nmS T 0 100 (adS T (ln6 T K so st)) := if_pos hw_
      refine Wp.n (pc' := 193) 3 rfl ?_
      refine Wp.callV (len := 3) rfl rfl rfl (rfl) rfl (by decide) rfl (m_number (lo := 0) (hi := 100) (A2.tm hT) l2 (fun q => ⟨rfl, rfl, by omega, by omega⟩)) ?_
      rintro _ _ ⟨w, rfl, hw, τ3, rfl, f3, l3⟩
      have A3 := A2.b f3
      refine Wp.n (pc' := 200) 1 rfl ?_
      first
        | refine Wp.rst (A := 10) (i := 7 * (36 + kh K 3) + 6) (j := 6) (len := 1) rfl A3 (by omega) rfl rfl (by omega) (by unfold dcl; omega) (fun τ4 A4 e4 j4 => ?_)
        | refine Wp.rst (A := 10) (i := 7 * (36 + kh K 3) + 6) (j := 6) (len := 1) rfl A2 (by omega) rfl rfl (by omega) (by unfold dcl; omega) (fun τ4 A4 e4 j4 => ?_)
        | refine Wp.rst (A := 10) (i := 7 * (36 + kh K 3) + 6) (j := 6) (len := 1) rfl A1 (by omega) rfl rfl (by omega) (by unfold dcl; omega) (fun τ4 A4 e4 j4 => ?_)
      refine Wp.n (pc' := 208) 4 rfl ?_
      refine Wp.mialdN (j := 23) (len := 1) rfl rfl rfl (by omega) ?_
      refine Wp.top (A4.h (j := 3) (by decide) hB (by decide)) ?_
      refine Wp.n (pc' := 210) 1 rfl ?_
      refine Wp.iaddN (x := kh K 3) (y := 1) (len := 1) rfl ?_
      refine Wp.miastN (j := 23) (len := 1) rfl rfl rfl (by omega) ?_
      refine Wp.retV (len := 1) rfl rfl ?_
      rw [e7]
      refine ⟨rfl, _, rfl, A4.1.t (FrK.a (by unfold dcl; omega)), LM_a (LM_e e4 j4 (by first | exact l3 | exact l2 | exact l1)), fun gg => BM_lane hB ok hr A4 (fun j hj => ?_)⟩
      have g6 : gd (ln6 T K so st) = true := by first | exact gg | exact gd_ad (gd_nm gg)
      by_cases c : j < 5
      · rw [pk_un (by omega), pk_un (by omega)]
        exact hv g6 j c
      · by_cases c5 : j = 5
        · subst c5; rfl
        · obtain rfl : j = 6 := by omega
          show upd (upd g 5 (nI so)) 6 _ 6 = nI (if lnw T K so st = true then _ else _)
          rw [pk_us]
          first
            | (rw [if_pos hw_]; exact hw gg)
            | (rw [if_neg (by rw [hw_]; decide)]; rfl)
theorem m_laneLine_2 (hT : TM σ T) (hB : BM σ K) (ok : KOK K) (hP : 2 ≤ kh K 0) (hD : 1 ≤ kh K 1) (hr : kh K 3 < 8) {so : Nat} (hso : so ≤ 2) {τ0 : MS} {a : Int32} {is : Bool} (A0 : ArF 10 (7 * (36 + kh K 3)) (upd g 0 a) σ τ0) (l0 : LM τ0 T (rd2 T K st)) (ha : gd (rd1 T K st) = true → a = nI (nmV T st)) (hi : gd (rd2 T K st) = true → ∀ r, τ0.1 10 = nI r → r < kh K 0 → is = lno T st r) : Wp (d + 5) md_180 63 [some (.ref 287), some (.int (nI so)), some (.int (nI (7 * (36 + kh K 3))))] [.int (bI is), .ref 287, .int (nI (7 * (36 + kh K 3) + 1)), .ref 298] (mset M τ0) (RLn M σ T (ln7 T K so st) (lnK T K so st)) := by
  have b0 := (ok_h ok).1
  have b1 := (ok_h ok).2.1
  have h20 : τ0.2.2.1 6 20 = nI (kh K 0) := A0.h (j := 0) (by decide) hB (by decide)
  refine Wp.callV (len := 3) rfl rfl rfl (rfl) rfl (by decide) rfl (m_other (P := kh K 0) (ok := lno T st) (A0.tm hT) l0 (fun q => ⟨h20, by omega, by omega, hi q⟩)) ?_
  rintro _ _ ⟨b, rfl, hb, τ1, rfl, f1, l1⟩
  have A1 := A0.b f1
  refine Wp.rst (A := 10) (i := 7 * (36 + kh K 3) + 1) (j := 1) (len := 1) rfl A1 (by omega) rfl rfl (by omega) (by unfold dcl; omega) (fun τ2 A2 e2 j2 => ?_)
  have l2 := LM_e e2 j2 l1
  refine Wp.n (pc' := 73) 4 rfl ?_
  refine Wp.iaddN (x := 7 * (36 + kh K 3)) (y := 2) (len := 1) rfl ?_
  refine Wp.n (pc' := 78) 3 rfl ?_
  refine Wp.callV (len := 3) rfl rfl rfl (rfl) rfl (by decide) rfl (m_number (lo := 1) (hi := 30) (A2.tm hT) l2 (fun q => ⟨rfl, rfl, by omega, by omega⟩)) ?_
  rintro _ _ ⟨c, rfl, hc, τ3, rfl, f3, l3⟩
  have A3 := A2.b f3
  refine Wp.rst (A := 10) (i := 7 * (36 + kh K 3) + 2) (j := 2) (len := 1) rfl A3 (by omega) rfl rfl (by omega) (by unfold dcl; omega) (fun τ4 A4 e4 j4 => ?_)
  have l4 := LM_e e4 j4 l3
  refine Wp.n (pc' := 88) 4 rfl ?_
  refine Wp.iaddN (x := 7 * (36 + kh K 3)) (y := 3) (len := 1) rfl ?_
  refine Wp.n (pc' := 90) 1 rfl ?_
  refine Wp.rst (A := 10) (i := 7 * (36 + kh K 3) + 3) (j := 3) (len := 1) rfl A4 (by omega) rfl rfl (by omega) (by unfold dcl; omega) (fun τ5 A5 e5 j5 => ?_)
  have l5 := LM_e e5 j5 l4
  refine Wp.n (pc' := 97) 4 rfl ?_
  refine Wp.iaddN (x := 7 * (36 + kh K 3)) (y := 4) (len := 1) rfl ?_
  refine Wp.n (pc' := 99) 1 rfl ?_
  refine Wp.rst (A := 10) (i := 7 * (36 + kh K 3) + 4) (j := 4) (len := 1) rfl A5 (by omega) rfl rfl (by omega) (by unfold dcl; omega) (fun τ6 A6 e6 j6 => ?_)
  have l6 := LM_e e6 j6 l5
  refine Wp.n (pc' := 101) 1 rfl ?_
  refine Wp.nz1 (x := so) (tgt := 157) (len := 3) rfl (by omega) (fun h101 => ?_) (fun h101 => ?_)
  · skip
    have g3 : gd (ln4 T K st) = true → gd (ln3 T K st) = true ∧ gd (rd1 T K st) = true := fun q => ⟨gd_nm q, gd_wd (gd_ot (gd_nm q))⟩
    first
      | (have s6 : ln6 T K so st = nmS T (nmV T (lnf T K st)) (kh K 1 - 1) (lnl T K st) := if_pos h101
         refine m_laneLine_3 hT hB ok hr hso A10 (by rw [s6]; exact l10) (fun gg j hj => ?_)
         rw [s6] at gg
         have g5 : gd (ln5 T K st) = true := gd_wd (gd_nm gg)
         have g4 := gd_wd (gd_nm g5)
         have jj : j = 0 ∨ j = 1 ∨ j = 2 ∨ j = 3 ∨ j = 4 := by omega
         rcases jj with rfl | rfl | rfl | rfl | rfl
         · exact ha (g3 g4).2
         · exact hb (g3 g4).1
         · exact hc g4
         · show x = nI (if so = 0 then _ else _)
           rw [if_pos h101]; exact hx g5
         · show y = nI (if so = 0 then _ else _)
           rw [if_pos h101]; exact hy gg)
      | (have s6 : ln6 T K so st = ln4 T K st := if_neg h101
         refine m_laneLine_3 hT hB ok hr hso A6 (by rw [s6]; exact l6) (fun g4 j hj => ?_)
         rw [s6] at g4
         have jj : j = 0 ∨ j = 1 ∨ j = 2 ∨ j = 3 ∨ j = 4 := by omega
         rcases jj with rfl | rfl | rfl | rfl | rfl
         · exact ha (g3 g4).2
         · exact hb (g3 g4).1
         · exact hc g4
         · show _ = nI (if so = 0 then _ else _)
           rw [if_neg h101]; rfl
         · show _ = nI (if so = 0 then _ else _)
           rw [if_neg h101]; rfl)
  · skip
    refine Wp.n (pc' := 110) 4 rfl ?_
    refine Wp.iaddN (x := 7 * (36 + kh K 3)) (y := 3) (len := 1) rfl ?_
    refine Wp.n (pc' := 118) 5 rfl ?_
    refine Wp.ecallV (len := 3) rfl rfl rfl (rfl) rfl (by decide) rfl (m_hasRead (k := 1) (by decide)) ?_
    refine Wp.top (A6.h (j := 1) (by decide) hB (by decide)) ?_
    refine Wp.n (pc' := 122) 1 rfl ?_
    refine Wp.isubN (x := kh K 1) (y := 1) (len := 1) rfl (by omega) ?_
    refine Wp.callV (len := 3) rfl rfl rfl (rfl) rfl (by decide) rfl (m_numberW (h := 131638) (lo := 0) (hi := kh K 1 - 1) (A6.tm hT) l6 (by decide) (fun q => ⟨rfl, rfl, by omega, by omega⟩)) ?_
    rintro _ _ ⟨x, rfl, hx, τ7, rfl, f7, l7⟩
    have A7 := A6.b f7
    refine Wp.rst (A := 10) (i := 7 * (36 + kh K 3) + 3) (j := 3) (len := 1) rfl A7 (by omega) rfl rfl (by omega) (by unfold dcl; omega) (fun τ8 A8 e8 j8 => ?_)
    have l8 := LM_e e8 j8 l7
    refine Wp.n (pc' := 133) 4 rfl ?_
    refine Wp.iaddN (x := 7 * (36 + kh K 3)) (y := 4) (len := 1) rfl ?_
    refine Wp.n (pc' := 144) 6 rfl ?_
    refine Wp.iaddN (x := 7 * (36 + kh K 3)) (y := 3) (len := 1) rfl ?_
    refine Wp.mialdN (j := (7 * (36 + kh K 3)) + 3) (len := 1) rfl rfl rfl (by omega) ?_
    refine Wp.top (A8.2.2.2.2 3) ?_
    refine Wp.n (pc' := 148) 2 rfl ?_
    refine Wp.ecallV (len := 3) rfl rfl rfl (rfl) rfl (by decide) rfl (m_hasRead (k := 1) (by decide)) ?_
    refine Wp.top (A8.h (j := 1) (by decide) hB (by decide)) ?_
    refine Wp.n (pc' := 152) 1 rfl ?_
    refine Wp.isubN (x := kh K 1) (y := 1) (len := 1) rfl (by omega) ?_
    refine Wp.callV (len := 3) rfl rfl rfl (rfl) rfl (by decide) rfl (m_numberW (h := 555) (lo := nmV T (lnf T K st)) (hi := kh K 1 - 1) (A8.tm hT) l8 (by decide) (fun q => ⟨hx (gd_wd q), rfl, by omega, by have : 0 ≤ nmV T (lnf T K st) ∧ nmV T (lnf T K st) ≤ kh K 1 - 1 := nm_le (gd_wd (T := T) q); omega⟩)) ?_
    rintro _ _ ⟨y, rfl, hy, τ9, rfl, f9, l9⟩
    have A9 := A8.b f9
    refine Wp.rst (A := 10) (i := 7 * (36 + kh K 3) + 4) (j := 4) (len := 1) rfl A9 (by omega) rfl rfl (by omega) (by unfold dcl; omega) (fun τ10 A10 e10 j10 => ?_)
    have l10 := LM_e e10 j10 l9
    have g3 : gd (ln4 T K st) = true → gd (ln3 T K st) = true ∧ gd (rd1 T K st) = true := fun q => ⟨gd_nm q, gd_wd (gd_ot (gd_nm q))⟩
    first
      | (have s6 : ln6 T K so st = nmS T (nmV T (lnf T K st)) (kh K 1 - 1) (lnl T K st) := if_pos h101
         refine m_laneLine_3 hT hB ok hr hso A10 (by rw [s6]; exact l10) (fun gg j hj => ?_)
         rw [s6] at gg
         have g5 : gd (ln5 T K st) = true := gd_wd (gd_nm gg)
         have g4 := gd_wd (gd_nm g5)
         have jj : j = 0 ∨ j = 1 ∨ j = 2 ∨ j = 3 ∨ j = 4 := by omega
         rcases jj with rfl | rfl | rfl | rfl | rfl
         · exact ha (g3 g4).2
         · exact hb (g3 g4).1
         · exact hc g4
         · show x = nI (if so = 0 then _ else _)
           rw [if_pos h101]; exact hx g5
         · show y = nI (if so = 0 then _ else _)
           rw [if_pos h101]; exact hy gg)
      | (have s6 : ln6 T K so st = ln4 T K st := if_neg h101
         refine m_laneLine_3 hT hB ok hr hso A6 (by rw [s6]; exact l6) (fun g4 j hj => ?_)
         rw [s6] at g4
         have jj : j = 0 ∨ j = 1 ∨ j = 2 ∨ j = 3 ∨ j = 4 := by omega
         rcases jj with rfl | rfl | rfl | rfl | rfl
         · exact ha (g3 g4).2
         · exact hb (g3 g4).1
         · exact hc g4
         · show _ = nI (if so = 0 then _ else _)
           rw [if_neg h101]; rfl
         · show _ = nI (if so = 0 then _ else _)
           rw [if_neg h101]; rfl)
theorem m_laneLine (hT : TM σ T) (hL : LM σ T st) (hB : BM σ K) (ok : KOK K) (hP : 2 ≤ kh K 0) (hD : 1 ≤ kh K 1) (hr : kh K 3 < 8) {so : Nat} (hso : so ≤ 2) : Wp (d + 5) md_180 0 [some (.ref 287), some (.int (nI so)), none] [] (mset M σ) (RLn M σ T (ln7 T K so st) (lnK T K so st)) := by
  have b0 := (ok_h ok).1
  have A0 : ArF 10 (7 * (36 + kh K 3)) _ σ σ := ArF.r
  refine Wp.n (pc' := 6) 4 rfl ?_
  refine Wp.ecallV (len := 3) rfl rfl rfl (rfl) rfl (by decide) rfl (m_hasRead (k := 3) (by decide)) ?_
  refine Wp.top (BM_h hB (by decide)) ?_
  refine Wp.iaddN (x := 36) (y := kh K 3) (len := 1) rfl ?_
  refine Wp.imulN (x := 7) (y := 36 + (kh K 3)) (len := 1) rfl ?_
  refine Wp.n (pc' := 21) 8 rfl ?_
  refine Wp.ecallV (len := 3) rfl rfl rfl (rfl) rfl (by decide) rfl (m_hasRead (k := 0) (by decide)) ?_
  refine Wp.top (BM_h hB (by decide)) ?_
  refine Wp.n (pc' := 25) 1 rfl ?_
  refine Wp.isubN (x := kh K 0) (y := 1) (len := 1) rfl (by omega) ?_
  refine Wp.callV (len := 3) rfl rfl rfl (rfl) rfl (by decide) rfl (m_number (lo := 0) (hi := kh K 0 - 1) hT hL (fun q => ⟨rfl, rfl, by omega, by omega⟩)) ?_
  rintro _ _ ⟨a, rfl, ha, τ1, rfl, f1, l1⟩
  have A1 := A0.b f1
  refine Wp.rst (A := 10) (i := 7 * (36 + kh K 3)) (j := 0) (len := 1) rfl A1 (by omega) rfl rfl (by omega) (by unfold dcl; omega) (fun τ2 A2 e2 j2 => ?_)
  have l2 := LM_e e2 j2 l1
  refine Wp.n (pc' := 34) 2 rfl ?_
  refine Wp.callV (len := 3) rfl rfl rfl (rfl) rfl (by decide) rfl (m_asks (h := 555) (A2.tm hT) l2 (by decide)) ?_
  rintro _ _ ⟨rfl, τ3, rfl, f3, l3⟩
  have A3 := A2.b f3
  have hv : gd (rd2 T K st) = true → a = nI (nmV T st) ∧ nmV T st < 7 := fun g => ⟨ha (gd_wd g), by have := nm_le (gd_wd (T := T) g); omega⟩
  refine Wp.n (pc' := 43) 4 rfl ?_
  refine Wp.iaddN (x := 7 * (36 + (kh K 3))) (y := 1) (len := 1) rfl ?_
  refine Wp.n (pc' := 54) 6 rfl ?_
  refine Wp.mialdN (j := 7 * (36 + (kh K 3))) (len := 1) rfl rfl rfl (by omega) ?_
  refine Wp.top (A3.2.2.2.2 0) ?_
  refine Wp.ic0 (tgt := 62) (len := 3) rfl (fun h55 => ?_) (fun h55 => ?_)
  · skip
    refine Wp.n (pc' := 63) 1 rfl ?_
    first
      | exact m_laneLine_2 (is := true) hT hB ok hP hD hr hso A3 l3 ha (fun g r q1 q2 => by
          obtain ⟨v1, v2⟩ := hv g
          have q3 : r ≠ nmV T st := fun q => h55 (by rw [pk_us, q1, v1, q])
          exact (decide_eq_true q3).symm)
      | exact m_laneLine_2 (is := false) hT hB ok hP hD hr hso A3 l3 ha (fun g r q1 q2 => by
          obtain ⟨v1, v2⟩ := hv g
          rw [pk_us, q1, v1, nI_eq (by omega) (by omega)] at h55
          exact (decide_eq_false (fun q => q h55)).symm)
  · skip
    refine Wp.n (pc' := 63) 2 rfl ?_
    first
      | exact m_laneLine_2 (is := true) hT hB ok hP hD hr hso A3 l3 ha (fun g r q1 q2 => by
          obtain ⟨v1, v2⟩ := hv g
          have q3 : r ≠ nmV T st := fun q => h55 (by rw [pk_us, q1, v1, q])
          exact (decide_eq_true q3).symm)
      | exact m_laneLine_2 (is := false) hT hB ok hP hD hr hso A3 l3 ha (fun g r q1 q2 => by
          obtain ⟨v1, v2⟩ := hv g
          rw [pk_us, q1, v1, nI_eq (by omega) (by omega)] at h55
          exact (decide_eq_false (fun q => q h55)).symm)
end ARF
end
section
/-! LINES: walks; the reference. -/
def wlo (pl : Nat → Nat) (i v : Nat) : Bool := decide (v ≠ pl (i - 1))
def nup (pl : Nat → Nat) (i v : Nat) : Nat → Nat := fun j => if j = i then v else pl j
def fl3 (s : St) : St → St
  | .inl x => .inl x
  | .inr _ => flS 3 s
def wlk (T : TP) (P : Nat) : Nat → (Nat → Nat) → Nat → St → St × (Nat → Nat) × Nat
  | 0, pl, i, st => (fl3 st (otS T P (wlo pl i) st), pl, i)
  | n + 1, pl, i, st => match otS T P (wlo pl i) st with
    | .inl x => (.inl x, pl, i)
    | .inr s' => if tk T s' = 2 then wlk T P n (nup pl i (nmV T st)) (i + 1) (.inr s') else (.inr s', nup pl i (nmV T st), i + 1)
def wk1 (T : TP) (st : St) : St := nmS T 0 4 st
def wka (T : TP) (st : St) : St := wdS T 247162 (wk1 T st)
def wk2 (T : TP) (st : St) : St := nmS T 1 9 (wka T st)
def wkb (T : TP) (st : St) : St := wdS T 419 (wk2 T st)
def wk3 (T : TP) (K : KD) (st : St) : St := nmS T 0 (kh K 1 - 1) (wkb T st)
def wkc (T : TP) (K : KD) (st : St) : St := wdS T 131638 (wk3 T K st)
def wk4 (T : TP) (K : KD) (st : St) : St := nmS T 0 (kh K 0 - 1) (wkc T K st)
def wk5 (T : TP) (K : KD) (st : St) : St := wdS T 79 (wk4 T K st)
def wkr (T : TP) (K : KD) (st : St) : St × (Nat → Nat) × Nat := wlk T (kh K 0) 6 (fun _ => nmV T (wkc T K st)) 1 (wk5 T K st)
def addW (K : KD) (g : Nat → Nat) : KD := (fun i => if i = 4 then kh K 4 + 1 else kh K i, kr K, kl K, fun i => if i = kh K 4 then g else kw K i)
def wkG (w0 w1 w2 : Nat) (r : St × (Nat → Nat) × Nat) (j : Nat) : Nat := if j = 0 then w0 else if j = 1 then w1 else if j = 2 then w2 else if j = 3 then r.2.2 else r.2.1 (j - 4)
def wkK (T : TP) (K : KD) (st : St) : KD := addW K (wkG (nmV T st) (nmV T (wka T st)) (nmV T (wkb T st)) (wkr T K st))
theorem wkG_4 {w0 w1 w2 j : Nat} {r : St × (Nat → Nat) × Nat} : wkG w0 w1 w2 r (4 + j) = r.2.1 j := by
  unfold wkG
  rw [if_neg (by omega), if_neg (by omega), if_neg (by omega), if_neg (by omega), show 4 + j - 4 = j by omega]
section WKL
variable {d : Nat} {M : AM} {σ σ' τ τ' : MS} {T : TP} {st : St} {K : KD} {Q : Option Value → AM → Prop} {g : Nat → Int32}
theorem BM_walk (hB : BM σ K) (ok : KOK K) (hr : kh K 4 < 10) {G : Nat → Nat} (hA : ArF 11 (11 * (40 + kh K 4)) g σ τ) (hv : ∀ j, j < 4 → g j = nI (G j)) (hw : ∀ j, j < G 3 → g (4 + j) = nI (G (4 + j))) : BM (aset τ 6 (upd (τ.2.2.1 6) 24 (nI (kh K 4 + 1)))) (addW K G) := by
  obtain ⟨⟨h1, h2, h3, h4, h5, h6, h7⟩, hl, h11⟩ := hB
  have ek : ∀ j, j ≠ 4 → kh (addW K G) j = kh K j := fun j hj => if_neg hj
  have e2 : kh (addW K G) 4 = kh K 4 + 1 := rfl
  have ea : ∀ i, i ≠ 6 → i ≠ 11 → (aset τ 6 (upd (τ.2.2.1 6) 24 (nI (kh K 4 + 1)))).2.2.1 i = σ.2.2.1 i := fun i i6 i10 => (va_up_ne _ _ i6).trans (hA.2.1 i i10)
  have e10 : (aset τ 6 (upd (τ.2.2.1 6) 24 (nI (kh K 4 + 1)))).2.2.1 11 = τ.2.2.1 11 := rfl
  have e11 : kh (addW K G) 11 = 0 := (ek 11 (by decide)).trans h11
  have c8 : ∀ i, i < kh K 4 → kw K i 3 ≤ 7 := fun i hi => (ok.2.2.2.2.2.2.2.2.2.2.2.2.2.2.2.2.1 i hi).2.2.2.2.2.1
  refine ⟨⟨fun j hj => ?_, fun h0 j hj => ?_, ?_, ?_, ?_, ?_, fun i hi => ?_⟩, fun j hj => ?_, e11⟩
  · rw [aset_get]
    by_cases q : j = 4
    · subst q; exact pk_us
    · rw [pk_un (by omega), ek j q, hA.2.1 6 (by decide)]; exact h1 j hj
  · rw [ea 7 (by decide) (by decide), ek (6 + j) (by omega)]; exact hl j hj
  · rw [ea 5 (by decide) (by decide), ek 5 (by decide)]; exact h3
  · show τ.2.2.2 8 4 = _
    rw [hA.2.2.1, ek 12 (by decide)]; exact h4
  · rw [ea 9 (by decide) (by decide), ek 2 (by decide)]; exact h5
  · rw [ea 10 (by decide) (by decide), ek 3 (by decide), ek 11 (by decide)]; exact h6
  · rw [e2] at hi
    rw [e10]
    have ew : kw (addW K G) i = if i = kh K 4 then G else kw K i := rfl
    rw [ew]
    by_cases q : i = kh K 4
    · subst q
      rw [if_pos rfl]
      refine ⟨fun j hj => ?_, fun j hj => ?_⟩
      · rw [show 110 * 4 + 11 * kh K 4 + j = 11 * (40 + kh K 4) + j by omega, hA.2.2.2.2 j]
        exact hv j hj
      · rw [show 110 * 4 + 11 * kh K 4 + 4 + j = 11 * (40 + kh K 4) + (4 + j) by omega, hA.2.2.2.2 _]
        exact hw j hj
    · rw [if_neg q]
      have := c8 i (by omega)
      refine ⟨fun j hj => ?_, fun j hj => ?_⟩
      · rw [hA.2.2.2.1 _ (by omega)]; exact (h7 i (by omega)).1 j hj
      · rw [hA.2.2.2.1 _ (by omega)]; exact (h7 i (by omega)).2 j hj
  · rw [ea 7 (by decide) (by decide), ek (6 + j) (by omega)]; exact hl j hj
/-- the end of a walk -/
theorem m_walk_e (hT : TM σ T) (hB : BM σ K) (ok : KOK K) (hr : kh K 4 < 10) {n : Nat} (hn : n ≤ 7) (A0 : ArF 11 (11 * (40 + kh K 4)) g σ τ) (l0 : LM τ T st) {G : Nat → Nat} (hv : gd st = true → (∀ j, j < 3 → g j = nI (G j)) ∧ G 3 = n ∧ ∀ j, j < n → g (4 + j) = nI (G (4 + j))) {m x4 x5 : Option Value} : Wp (d + 5) md_179 218 [some (.ref 287), some (.int (nI (11 * (40 + kh K 4)))), some (.int (nI n)), m, x4, x5] [] (mset M τ) (RLn M σ T st (addW K G)) := by
  refine Wp.n (pc' := 224) 4 rfl ?_
  refine Wp.iaddN (x := 11 * (40 + kh K 4)) (y := 3) (len := 1) rfl ?_
  refine Wp.n (pc' := 226) 1 rfl ?_
  refine Wp.rst (A := 11) (i := 11 * (40 + kh K 4) + 3) (j := 3) (len := 1) rfl A0 (by omega) rfl rfl (by omega) (by unfold dcl; omega) (fun τ1 A1 e1 j1 => ?_)
  have l1 := LM_e e1 j1 l0
  refine Wp.n (pc' := 234) 4 rfl ?_
  refine Wp.mialdN (j := 24) (len := 1) rfl rfl rfl (by omega) ?_
  refine Wp.top (A1.h (j := 4) (by decide) hB (by decide)) ?_
  refine Wp.n (pc' := 236) 1 rfl ?_
  refine Wp.iaddN (x := kh K 4) (y := 1) (len := 1) rfl ?_
  refine Wp.miastN (j := 24) (len := 1) rfl rfl rfl (by omega) ?_
  refine Wp.retV (len := 1) rfl rfl ?_
  refine ⟨rfl, _, rfl, A1.1.t (FrK.a (by unfold dcl; omega)), LM_a l1, fun gg => ?_⟩
  obtain ⟨v1, v2, v3⟩ := hv gg
  refine BM_walk hB ok hr A1 (fun j hj => ?_) (fun j hj => ?_)
  · by_cases c : j = 3
    · subst c; rw [pk_us, v2]
    · rw [pk_un c]; exact v1 j (by omega)
  · rw [pk_un (by omega)]; exact v3 j (by omega)
theorem m_walk_o (hT : TM σ T) (hB : BM σ K) (ok : KOK K) (hP : 2 ≤ kh K 0) {n s : Nat} {f : Nat → Bool} (A0 : ArF 11 (11 * (40 + kh K 4)) g σ τ) (l0 : LM τ T (.inr s)) {is : Bool} (hi : ∀ r, τ.1 10 = nI r → r < kh K 0 → is = f r) {m x5 : Option Value} (hb : ∀ z τ', otS T (kh K 0) f (.inr s) = .inl z → FrK σ τ' → LM τ' T (.inl z) → Q none (mset M τ')) (hg : ∀ s' τ', otS T (kh K 0) f (.inr s) = .inr s' → ArF 11 (11 * (40 + kh K 4)) g σ τ' → LM τ' T (.inr s') → Wp (d + 5) md_179 186 [some (.ref 287), some (.int (nI (11 * (40 + kh K 4)))), some (.int (nI n)), m, some (.int (bI is)), some (.int (nI (vl T s)))] [] (mset M τ') Q) : Wp (d + 5) md_179 170 [some (.ref 287), some (.int (nI (11 * (40 + kh K 4)))), some (.int (nI n)), m, some (.int (bI is)), x5] [] (mset M τ) Q := by
  have b0 := (ok_h ok).1
  have h20 : τ.2.2.1 6 20 = nI (kh K 0) := A0.h (j := 0) (by decide) hB (by decide)
  refine Wp.n (pc' := 173) 2 rfl ?_
  refine Wp.callV (len := 3) rfl rfl rfl (rfl) rfl (by decide) rfl (m_other (P := kh K 0) (ok := f) (A0.tm hT) l0 (fun q => ⟨h20, by omega, by omega, hi⟩)) ?_
  rintro _ _ ⟨x, rfl, hx, τ1, rfl, f1, l1⟩
  have A1 := A0.b f1
  refine Wp.n (pc' := 178) 1 rfl ?_
  rcases hq : otS T (kh K 0) f (.inr s) with z | s'
  · rw [hq] at l1
    have z1 := l1.2.1
    have z3 := l1.2.2.1
    refine Wp.n (pc' := 182) 2 rfl ?_
    refine Wp.top l1.1 ?_
    refine Wp.nz0 (x := z.1) (tgt := 186) (len := 3) rfl (by omega) (fun h182 => ?_) (fun h182 => ?_)
    · omega
    · skip
      refine Wp.retV (len := 1) rfl rfl ?_
      exact hb z τ1 hq A1.1 l1
  · rw [hq] at l1 hx
    obtain rfl := hx rfl
    refine Wp.n (pc' := 182) 2 rfl ?_
    refine Wp.top l1.1 ?_
    refine Wp.nz0 (x := 0) (tgt := 186) (len := 3) rfl (by omega) (fun h182 => ?_) (fun h182 => ?_)
    · skip
      exact hg s' τ1 hq A1 l1
    · omega
theorem m_walk_f (hT : TM σ T) {z : Nat × Nat} {n : Nat} {w : Bool} (A0 : ArF 11 (11 * (40 + kh K 4)) g σ τ) (l0 : LM τ T (.inl z)) {m x5 : Option Value} (kk : ∀ τ', FrK σ τ' → LM τ' T (.inl z) → Q none (mset M τ')) : Wp (d + 5) md_179 170 [some (.ref 287), some (.int (nI (11 * (40 + kh K 4)))), some (.int (nI n)), m, some (.int (bI w)), x5] [] (mset M τ) Q := by
  refine Wp.n (pc' := 173) 2 rfl ?_
  refine Wp.callV (len := 3) rfl rfl rfl (rfl) rfl (by decide) rfl (m_other (st := .inl z) (P := kh K 0) (ok := fun _ => true) (A0.tm hT) l0 (fun q => by cases q)) ?_
  rintro _ _ ⟨x, rfl, hx, τ1, rfl, f1, l1⟩
  have A1 := A0.b f1
  change LM τ1 T (.inl z) at l1
  have z1 := l1.2.1
  have z3 := l1.2.2.1
  refine Wp.n (pc' := 182) 3 rfl ?_
  refine Wp.top l1.1 ?_
  refine Wp.nz0 (x := z.1) (tgt := 186) (len := 3) rfl (by omega) (fun h182 => ?_) (fun h182 => ?_)
  · omega
  · skip
    refine Wp.retV (len := 1) rfl rfl ?_
    exact kk τ1 A1.1 l1
theorem m_walk_c {P s s' i j : Nat} {pl : Nat → Nat} (e : otS T P (wlo pl i) (.inr s) = .inr s') (hi : i = j + 1) : tk T s = 2 ∧ vl T s < P ∧ vl T s ≠ pl j := by
  subst hi
  have := ot_ok (T := T) (P := P) (ok := wlo pl (j + 1)) (st := .inr s) (by rw [e]; rfl)
  refine ⟨?_, this.1, of_decide_eq_true this.2⟩
  by_cases c : tk T s = 2
  · exact c
  · rw [show otS T P (wlo pl (j + 1)) (.inr s) = .inl (1, s) from if_neg c] at e; cases e
theorem m_walk_l (hT : TM σ T) (hB : BM σ K) (ok : KOK K) (hP : 2 ≤ kh K 0) (hr : kh K 4 < 10) {w0 w1 w2 : Nat} : ∀ (N n : Nat) {pl : Nat → Nat} {g : Nat → Int32} {τ : MS} {s : Nat} {x4 x5 : Option Value}, N + n = 7 → 1 ≤ n → ArF 11 (11 * (40 + kh K 4)) g σ τ → LM τ T (.inr s) → g 0 = nI w0 ∧ g 1 = nI w1 ∧ g 2 = nI w2 → (∀ j, j < n → g (4 + j) = nI (pl j)) → (∀ j, j < n → pl j < 7) → Wp (d + 5) md_179 99 [some (.ref 287), some (.int (nI (11 * (40 + kh K 4)))), some (.int (nI n)), some (.int (bI true)), x4, x5] [] (mset M τ) (RLn M σ T (wlk T (kh K 0) N pl n (.inr s)).1 (addW K (wkG w0 w1 w2 (wlk T (kh K 0) N pl n (.inr s)))))
  | 0, n, pl, g, τ, s, x4, x5, hN, h1, A0, l0, hw, hp, hq7 => by
    obtain rfl : n = 7 := by omega
    have b0 := (ok_h ok).1
    obtain ⟨h12, hL⟩ := id l0
    obtain ⟨r, h10, r1, r2⟩ := hL.2.2.2.1
    have t4 := tk_le (T := T) (s := s)
    have hp6 : τ.2.2.1 11 (11 * (40 + kh K 4) + 3 + 7) = nI (pl 6) := by rw [Nat.add_assoc, A0.2.2.2.2 (3 + 7)]; exact hp 6 (by decide)
    have hq6 := hq7 6 (by decide)
    have eb : ∀ z, otS T (kh K 0) (wlo pl 7) (.inr s) = .inl z → (wlk T (kh K 0) 0 pl 7 (.inr s)).1 = .inl z := fun z h => by
      show fl3 (.inr s) (otS T (kh K 0) (wlo pl 7) (.inr s)) = _
      rw [h]; rfl
    refine Wp.n (pc' := 100) 1 rfl ?_
    refine Wp.ecallV (len := 3) rfl rfl rfl (rfl) rfl (by decide) rfl (m_isGood l0) ?_
    refine Wp.ifb0 (tgt := 218) (len := 3) rfl (fun h103 => ?_) (fun h103 => ?_)
    · cases h103
    · skip
      refine Wp.n (pc' := 107) 1 rfl ?_
      refine Wp.ifb0 (tgt := 218) (len := 3) rfl (fun h107 => ?_) (fun h107 => ?_)
      · cases h107
      · skip
        refine Wp.n (pc' := 114) 2 rfl ?_
        refine Wp.top h10 ?_
        refine Wp.n (pc' := 120) 4 rfl ?_
        refine Wp.iaddN (x := 11 * (40 + kh K 4)) (y := 3) (len := 1) rfl ?_
        refine Wp.n (pc' := 122) 1 rfl ?_
        refine Wp.iaddN (x := (11 * (40 + kh K 4)) + 3) (y := 7) (len := 1) rfl ?_
        refine Wp.mialdN (j := ((11 * (40 + kh K 4)) + 3) + 7) (len := 1) rfl rfl rfl (by omega) ?_
        refine Wp.top hp6 ?_
        refine Wp.nc0 (x := r) (y := pl 6) (tgt := 131) (len := 3) rfl (by omega) (by omega) (fun h124 => ?_) (fun h124 => ?_)
        · skip
          refine Wp.n (pc' := 137) 4 rfl ?_
          refine Wp.nc1 (x := 7) (y := 7) (tgt := 170) (len := 3) rfl (by omega) (by omega) (fun h137 => ?_) (fun h137 => ?_)
          · omega
          · skip
            refine Wp.n (pc' := 144) 2 rfl ?_
            refine Wp.top hL.2.1 ?_
            refine Wp.n (pc' := 145) 1 rfl ?_
            refine Wp.nc1 (x := tk T s) (y := 2) (tgt := 170) (len := 3) rfl (by omega) (by omega) (fun h145 => ?_) (fun h145 => ?_)
            · skip
              first
                | (have l1' := l1
                   exact m_walk_f (w := true) hT A1 l1 (fun τ2 f2 l2 => by
                    have eo : otS T (kh K 0) (wlo pl 7) (.inr s) = .inr (nx T s) := (if_pos (by omega)).trans (if_pos ⟨by omega, decide_eq_true (fun e => by have : vl T s = pl 6 := e; omega)⟩)
                    have ew : (wlk T (kh K 0) 0 pl 7 (.inr s)).1 = .inl (3, s) := by
                      show fl3 (.inr s) (otS T (kh K 0) (wlo pl 7) (.inr s)) = _
                      rw [eo]; rfl
                    exact ⟨rfl, τ2, rfl, f2, by rw [ew]; exact l2, fun q => by rw [ew] at q; cases q⟩))
                | (have q0 : r ≠ pl 6 := h124
                   exact m_walk_o (is := true) (f := wlo pl 7) hT hB ok hP A0 l0 (fun r' e1 e2 => by
                    have : r' = r := (nI_eq (by omega) (by omega)).mp (e1.symm.trans h10)
                    subst this
                    exact (decide_eq_true h124).symm) (fun z τ' e f l => ⟨rfl, τ', rfl, f, by rw [eb z e]; exact l, fun q => by rw [eb z e] at q; cases q⟩) (fun s' τ' e _ _ => absurd (m_walk_c (j := 6) e rfl) (by omega)))
                | (have q0 : r = pl 6 := h124
                   exact m_walk_o (is := false) (f := wlo pl 7) hT hB ok hP A0 l0 (fun r' e1 e2 => by
                    have : r' = r := (nI_eq (by omega) (by omega)).mp (e1.symm.trans h10)
                    subst this
                    exact (decide_eq_false (fun e => e h124)).symm) (fun z τ' e f l => ⟨rfl, τ', rfl, f, by rw [eb z e]; exact l, fun q => by rw [eb z e] at q; cases q⟩) (fun s' τ' e _ _ => absurd (m_walk_c (j := 6) e rfl) (by omega)))
            · skip
              refine Wp.n (pc' := 152) 2 rfl ?_
              refine Wp.top h10 ?_
              refine Wp.n (pc' := 154) 2 rfl ?_
              refine Wp.ecallV (len := 3) rfl rfl rfl (rfl) rfl (by decide) rfl (m_hasRead (k := 0) (by decide)) ?_
              refine Wp.top (A0.h (j := 0) (by decide) hB (by decide)) ?_
              refine Wp.nc3 (x := r) (y := kh K 0) (tgt := 170) (len := 3) rfl (by omega) (by omega) (fun h157 => ?_) (fun h157 => ?_)
              · skip
                first
                  | (have l1' := l1
                     exact m_walk_f (w := true) hT A1 l1 (fun τ2 f2 l2 => by
                      have eo : otS T (kh K 0) (wlo pl 7) (.inr s) = .inr (nx T s) := (if_pos (by omega)).trans (if_pos ⟨by omega, decide_eq_true (fun e => by have : vl T s = pl 6 := e; omega)⟩)
                      have ew : (wlk T (kh K 0) 0 pl 7 (.inr s)).1 = .inl (3, s) := by
                        show fl3 (.inr s) (otS T (kh K 0) (wlo pl 7) (.inr s)) = _
                        rw [eo]; rfl
                      exact ⟨rfl, τ2, rfl, f2, by rw [ew]; exact l2, fun q => by rw [ew] at q; cases q⟩))
                  | (have q0 : r ≠ pl 6 := h124
                     exact m_walk_o (is := true) (f := wlo pl 7) hT hB ok hP A0 l0 (fun r' e1 e2 => by
                      have : r' = r := (nI_eq (by omega) (by omega)).mp (e1.symm.trans h10)
                      subst this
                      exact (decide_eq_true h124).symm) (fun z τ' e f l => ⟨rfl, τ', rfl, f, by rw [eb z e]; exact l, fun q => by rw [eb z e] at q; cases q⟩) (fun s' τ' e _ _ => absurd (m_walk_c (j := 6) e rfl) (by omega)))
                  | (have q0 : r = pl 6 := h124
                     exact m_walk_o (is := false) (f := wlo pl 7) hT hB ok hP A0 l0 (fun r' e1 e2 => by
                      have : r' = r := (nI_eq (by omega) (by omega)).mp (e1.symm.trans h10)
                      subst this
                      exact (decide_eq_false (fun e => e h124)).symm) (fun z τ' e f l => ⟨rfl, τ', rfl, f, by rw [eb z e]; exact l, fun q => by rw [eb z e] at q; cases q⟩) (fun s' τ' e _ _ => absurd (m_walk_c (j := 6) e rfl) (by omega)))
              · skip
                refine Wp.n (pc' := 162) 1 rfl ?_
                refine Wp.nz0 (x := 0) (tgt := 170) (len := 3) rfl (by omega) (fun h162 => ?_) (fun h162 => ?_)
                · skip
                  first
                    | (have l1' := l1
                       exact m_walk_f (w := true) hT A1 l1 (fun τ2 f2 l2 => by
                        have eo : otS T (kh K 0) (wlo pl 7) (.inr s) = .inr (nx T s) := (if_pos (by omega)).trans (if_pos ⟨by omega, decide_eq_true (fun e => by have : vl T s = pl 6 := e; omega)⟩)
                        have ew : (wlk T (kh K 0) 0 pl 7 (.inr s)).1 = .inl (3, s) := by
                          show fl3 (.inr s) (otS T (kh K 0) (wlo pl 7) (.inr s)) = _
                          rw [eo]; rfl
                        exact ⟨rfl, τ2, rfl, f2, by rw [ew]; exact l2, fun q => by rw [ew] at q; cases q⟩))
                    | (have q0 : r ≠ pl 6 := h124
                       exact m_walk_o (is := true) (f := wlo pl 7) hT hB ok hP A0 l0 (fun r' e1 e2 => by
                        have : r' = r := (nI_eq (by omega) (by omega)).mp (e1.symm.trans h10)
                        subst this
                        exact (decide_eq_true h124).symm) (fun z τ' e f l => ⟨rfl, τ', rfl, f, by rw [eb z e]; exact l, fun q => by rw [eb z e] at q; cases q⟩) (fun s' τ' e _ _ => absurd (m_walk_c (j := 6) e rfl) (by omega)))
                    | (have q0 : r = pl 6 := h124
                       exact m_walk_o (is := false) (f := wlo pl 7) hT hB ok hP A0 l0 (fun r' e1 e2 => by
                        have : r' = r := (nI_eq (by omega) (by omega)).mp (e1.symm.trans h10)
                        subst this
                        exact (decide_eq_false (fun e => e h124)).symm) (fun z τ' e f l => ⟨rfl, τ', rfl, f, by rw [eb z e]; exact l, fun q => by rw [eb z e] at q; cases q⟩) (fun s' τ' e _ _ => absurd (m_walk_c (j := 6) e rfl) (by omega)))
                · omega
        · skip
          refine Wp.n (pc' := 137) 5 rfl ?_
          refine Wp.nc1 (x := 7) (y := 7) (tgt := 170) (len := 3) rfl (by omega) (by omega) (fun h137 => ?_) (fun h137 => ?_)
          · omega
          · skip
            refine Wp.n (pc' := 144) 2 rfl ?_
            refine Wp.top hL.2.1 ?_
            refine Wp.n (pc' := 145) 1 rfl ?_
            refine Wp.nc1 (x := tk T s) (y := 2) (tgt := 170) (len := 3) rfl (by omega) (by omega) (fun h145 => ?_) (fun h145 => ?_)
            · skip
              first
                | (have l1' := l1
                   exact m_walk_f (w := true) hT A1 l1 (fun τ2 f2 l2 => by
                    have eo : otS T (kh K 0) (wlo pl 7) (.inr s) = .inr (nx T s) := (if_pos (by omega)).trans (if_pos ⟨by omega, decide_eq_true (fun e => by have : vl T s = pl 6 := e; omega)⟩)
                    have ew : (wlk T (kh K 0) 0 pl 7 (.inr s)).1 = .inl (3, s) := by
                      show fl3 (.inr s) (otS T (kh K 0) (wlo pl 7) (.inr s)) = _
                      rw [eo]; rfl
                    exact ⟨rfl, τ2, rfl, f2, by rw [ew]; exact l2, fun q => by rw [ew] at q; cases q⟩))
                | (have q0 : r ≠ pl 6 := h124
                   exact m_walk_o (is := true) (f := wlo pl 7) hT hB ok hP A0 l0 (fun r' e1 e2 => by
                    have : r' = r := (nI_eq (by omega) (by omega)).mp (e1.symm.trans h10)
                    subst this
                    exact (decide_eq_true h124).symm) (fun z τ' e f l => ⟨rfl, τ', rfl, f, by rw [eb z e]; exact l, fun q => by rw [eb z e] at q; cases q⟩) (fun s' τ' e _ _ => absurd (m_walk_c (j := 6) e rfl) (by omega)))
                | (have q0 : r = pl 6 := h124
                   exact m_walk_o (is := false) (f := wlo pl 7) hT hB ok hP A0 l0 (fun r' e1 e2 => by
                    have : r' = r := (nI_eq (by omega) (by omega)).mp (e1.symm.trans h10)
                    subst this
                    exact (decide_eq_false (fun e => e h124)).symm) (fun z τ' e f l => ⟨rfl, τ', rfl, f, by rw [eb z e]; exact l, fun q => by rw [eb z e] at q; cases q⟩) (fun s' τ' e _ _ => absurd (m_walk_c (j := 6) e rfl) (by omega)))
            · skip
              refine Wp.n (pc' := 152) 2 rfl ?_
              refine Wp.top h10 ?_
              refine Wp.n (pc' := 154) 2 rfl ?_
              refine Wp.ecallV (len := 3) rfl rfl rfl (rfl) rfl (by decide) rfl (m_hasRead (k := 0) (by decide)) ?_
              refine Wp.top (A0.h (j := 0) (by decide) hB (by decide)) ?_
              refine Wp.nc3 (x := r) (y := kh K 0) (tgt := 170) (len := 3) rfl (by omega) (by omega) (fun h157 => ?_) (fun h157 => ?_)
              · skip
                first
                  | (have l1' := l1
                     exact m_walk_f (w := true) hT A1 l1 (fun τ2 f2 l2 => by
                      have eo : otS T (kh K 0) (wlo pl 7) (.inr s) = .inr (nx T s) := (if_pos (by omega)).trans (if_pos ⟨by omega, decide_eq_true (fun e => by have : vl T s = pl 6 := e; omega)⟩)
                      have ew : (wlk T (kh K 0) 0 pl 7 (.inr s)).1 = .inl (3, s) := by
                        show fl3 (.inr s) (otS T (kh K 0) (wlo pl 7) (.inr s)) = _
                        rw [eo]; rfl
                      exact ⟨rfl, τ2, rfl, f2, by rw [ew]; exact l2, fun q => by rw [ew] at q; cases q⟩))
                  | (have q0 : r ≠ pl 6 := h124
                     exact m_walk_o (is := true) (f := wlo pl 7) hT hB ok hP A0 l0 (fun r' e1 e2 => by
                      have : r' = r := (nI_eq (by omega) (by omega)).mp (e1.symm.trans h10)
                      subst this
                      exact (decide_eq_true h124).symm) (fun z τ' e f l => ⟨rfl, τ', rfl, f, by rw [eb z e]; exact l, fun q => by rw [eb z e] at q; cases q⟩) (fun s' τ' e _ _ => absurd (m_walk_c (j := 6) e rfl) (by omega)))
                  | (have q0 : r = pl 6 := h124
                     exact m_walk_o (is := false) (f := wlo pl 7) hT hB ok hP A0 l0 (fun r' e1 e2 => by
                      have : r' = r := (nI_eq (by omega) (by omega)).mp (e1.symm.trans h10)
                      subst this
                      exact (decide_eq_false (fun e => e h124)).symm) (fun z τ' e f l => ⟨rfl, τ', rfl, f, by rw [eb z e]; exact l, fun q => by rw [eb z e] at q; cases q⟩) (fun s' τ' e _ _ => absurd (m_walk_c (j := 6) e rfl) (by omega)))
              · skip
                refine Wp.n (pc' := 162) 1 rfl ?_
                refine Wp.nz0 (x := 1) (tgt := 170) (len := 3) rfl (by omega) (fun h162 => ?_) (fun h162 => ?_)
                · omega
                · skip
                  refine Wp.n (pc' := 167) 2 rfl ?_
                  refine Wp.callV (len := 3) rfl rfl rfl (rfl) rfl (by decide) rfl (m_fails (A0.tm hT) l0 (k := 3) (by decide)) ?_
                  rintro _ _ ⟨rfl, τ1, rfl, f1, l1⟩
                  have A1 := A0.b f1
                  first
                    | (have l1' := l1
                       exact m_walk_f (w := true) hT A1 l1 (fun τ2 f2 l2 => by
                        have eo : otS T (kh K 0) (wlo pl 7) (.inr s) = .inr (nx T s) := (if_pos (by omega)).trans (if_pos ⟨by omega, decide_eq_true (fun e => by have : vl T s = pl 6 := e; omega)⟩)
                        have ew : (wlk T (kh K 0) 0 pl 7 (.inr s)).1 = .inl (3, s) := by
                          show fl3 (.inr s) (otS T (kh K 0) (wlo pl 7) (.inr s)) = _
                          rw [eo]; rfl
                        exact ⟨rfl, τ2, rfl, f2, by rw [ew]; exact l2, fun q => by rw [ew] at q; cases q⟩))
                    | (have q0 : r ≠ pl 6 := h124
                       exact m_walk_o (is := true) (f := wlo pl 7) hT hB ok hP A0 l0 (fun r' e1 e2 => by
                        have : r' = r := (nI_eq (by omega) (by omega)).mp (e1.symm.trans h10)
                        subst this
                        exact (decide_eq_true h124).symm) (fun z τ' e f l => ⟨rfl, τ', rfl, f, by rw [eb z e]; exact l, fun q => by rw [eb z e] at q; cases q⟩) (fun s' τ' e _ _ => absurd (m_walk_c (j := 6) e rfl) (by omega)))
                    | (have q0 : r = pl 6 := h124
                       exact m_walk_o (is := false) (f := wlo pl 7) hT hB ok hP A0 l0 (fun r' e1 e2 => by
                        have : r' = r := (nI_eq (by omega) (by omega)).mp (e1.symm.trans h10)
                        subst this
                        exact (decide_eq_false (fun e => e h124)).symm) (fun z τ' e f l => ⟨rfl, τ', rfl, f, by rw [eb z e]; exact l, fun q => by rw [eb z e] at q; cases q⟩) (fun s' τ' e _ _ => absurd (m_walk_c (j := 6) e rfl) (by omega)))
  | N + 1, n, pl, g, τ, s, x4, x5, hN, h1, A0, l0, hw, hp, hq7 => by
    have b0 := (ok_h ok).1
    obtain ⟨h12, hL⟩ := id l0
    obtain ⟨r, h10, r1, r2⟩ := hL.2.2.2.1
    have t4 := tk_le (T := T) (s := s)
    have hp6 : τ.2.2.1 11 (11 * (40 + kh K 4) + 3 + n) = nI (pl (n - 1)) := by rw [Nat.add_assoc, A0.2.2.2.2 (3 + n), show 3 + n = 4 + (n - 1) by omega]; exact hp (n - 1) (by omega)
    have hq6 := hq7 (n - 1) (by omega)
    have eb : ∀ z, otS T (kh K 0) (wlo pl n) (.inr s) = .inl z → wlk T (kh K 0) (N + 1) pl n (.inr s) = (.inl z, pl, n) := fun z h => by
      show (match otS T (kh K 0) (wlo pl n) (.inr s) with | .inl x => _ | .inr s' => _) = _
      rw [h]
    have eg : ∀ s', otS T (kh K 0) (wlo pl n) (.inr s) = .inr s' → wlk T (kh K 0) (N + 1) pl n (.inr s) = if tk T s' = 2 then wlk T (kh K 0) N (nup pl n (vl T s)) (n + 1) (.inr s') else (.inr s', nup pl n (vl T s), n + 1) := fun z h => by
      show (match otS T (kh K 0) (wlo pl n) (.inr s) with | .inl x => _ | .inr s' => _) = _
      rw [h]
      rfl
    have kk : ∀ s' τ' (x4 : Option Value), otS T (kh K 0) (wlo pl n) (.inr s) = .inr s' → ArF 11 (11 * (40 + kh K 4)) g σ τ' → LM τ' T (.inr s') → Wp (d + 5) md_179 186 [some (.ref 287), some (.int (nI (11 * (40 + kh K 4)))), some (.int (nI n)), some (.int (bI true)), x4, some (.int (nI (vl T s)))] [] (mset M τ') (RLn M σ T (wlk T (kh K 0) (N + 1) pl n (.inr s)).1 (addW K (wkG w0 w1 w2 (wlk T (kh K 0) (N + 1) pl n (.inr s))))) := by
      intro s' τ' x4 e A1 l1
      have o1 := ot_ok (st := .inr s) (by rw [e]; rfl)
      have o2 : vl T s < kh K 0 := o1.1
      have t4' := tk_le (T := T) (s := s')
      have hpn : ∀ j, j < n + 1 → upd g (3 + (n + 1)) (nI (vl T s)) (4 + j) = nI (nup pl n (vl T s) j) := fun j hj => by
        unfold nup
        by_cases c : j = n
        · rw [if_pos c, c, show 4 + n = 3 + (n + 1) by omega, pk_us]
        · rw [if_neg c, pk_un (by omega)]; exact hp j (by omega)
      have hq8 : ∀ j, j < n + 1 → nup pl n (vl T s) j < 7 := fun j hj => by
        unfold nup
        by_cases c : j = n
        · rw [if_pos c]; omega
        · rw [if_neg c]; exact hq7 j (by omega)
      have hw' : ∀ i, i < 3 → upd g (3 + (n + 1)) (nI (vl T s)) i = g i := fun i hi => pk_un (by omega)
      rw [eg s' e]
      refine Wp.incN (x := n) (len := 3) rfl rfl ?_
      refine Wp.n (pc' := 195) 4 rfl ?_
      refine Wp.iaddN (x := 11 * (40 + kh K 4)) (y := 3) (len := 1) rfl ?_
      refine Wp.n (pc' := 197) 1 rfl ?_
      refine Wp.iaddN (x := (11 * (40 + kh K 4)) + 3) (y := n + 1) (len := 1) rfl ?_
      refine Wp.n (pc' := 200) 1 rfl ?_
      refine Wp.rst (A := 11) (i := 11 * (40 + kh K 4) + 3 + (n + 1)) (j := 3 + (n + 1)) (len := 1) rfl A1 (by omega) rfl rfl (by omega) (by unfold dcl; omega) (fun τ2 A2 e2 j2 => ?_)
      have l2 := LM_e e2 j2 l1
      refine Wp.n (pc' := 205) 2 rfl ?_
      refine Wp.top l2.2.2.1 ?_
      refine Wp.n (pc' := 206) 1 rfl ?_
      refine Wp.nc1 (x := tk T s') (y := 2) (tgt := 213) (len := 3) rfl (by omega) (by omega) (fun h206 => ?_) (fun h206 => ?_)
      · skip
        refine Wp.n (pc' := 99) 3 rfl ?_
        first
          | (rw [if_pos h206]
             exact m_walk_l hT hB ok hP hr N (n + 1) (by omega) (by omega) A2 l2 ⟨(hw' 0 (by decide)).trans hw.1, (hw' 1 (by decide)).trans hw.2.1, (hw' 2 (by decide)).trans hw.2.2⟩ hpn hq8)
          | (rw [if_neg h206]
             refine Wp.n (pc' := 100) 1 rfl ?_
             refine Wp.ecallV (len := 3) rfl rfl rfl (rfl) rfl (by decide) rfl (m_isGood l2) ?_
             refine Wp.ifb0 (c := true) (tgt := 218) (len := 3) rfl (fun h => by cases h) (fun _ => ?_)
             refine Wp.n (pc' := 107) 1 rfl ?_
             refine Wp.ifb0 (c := false) (tgt := 218) (len := 3) rfl (fun _ => ?_) (fun h => by cases h)
             refine m_walk_e hT hB ok hr (n := n + 1) (by omega) A2 l2 (fun _ => ⟨fun j hj => ?_, rfl, fun j hj => by rw [wkG_4]; exact hpn j hj⟩)
             have jj : j = 0 ∨ j = 1 ∨ j = 2 := by omega
             rcases jj with rfl | rfl | rfl
             · exact (hw' 0 (by decide)).trans hw.1
             · exact (hw' 1 (by decide)).trans hw.2.1
             · exact (hw' 2 (by decide)).trans hw.2.2)
      · skip
        refine Wp.n (pc' := 99) 4 rfl ?_
        first
          | (rw [if_pos h206]
             exact m_walk_l hT hB ok hP hr N (n + 1) (by omega) (by omega) A2 l2 ⟨(hw' 0 (by decide)).trans hw.1, (hw' 1 (by decide)).trans hw.2.1, (hw' 2 (by decide)).trans hw.2.2⟩ hpn hq8)
          | (rw [if_neg h206]
             refine Wp.n (pc' := 100) 1 rfl ?_
             refine Wp.ecallV (len := 3) rfl rfl rfl (rfl) rfl (by decide) rfl (m_isGood l2) ?_
             refine Wp.ifb0 (c := true) (tgt := 218) (len := 3) rfl (fun h => by cases h) (fun _ => ?_)
             refine Wp.n (pc' := 107) 1 rfl ?_
             refine Wp.ifb0 (c := false) (tgt := 218) (len := 3) rfl (fun _ => ?_) (fun h => by cases h)
             refine m_walk_e hT hB ok hr (n := n + 1) (by omega) A2 l2 (fun _ => ⟨fun j hj => ?_, rfl, fun j hj => by rw [wkG_4]; exact hpn j hj⟩)
             have jj : j = 0 ∨ j = 1 ∨ j = 2 := by omega
             rcases jj with rfl | rfl | rfl
             · exact (hw' 0 (by decide)).trans hw.1
             · exact (hw' 1 (by decide)).trans hw.2.1
             · exact (hw' 2 (by decide)).trans hw.2.2)
    refine Wp.n (pc' := 100) 1 rfl ?_
    refine Wp.ecallV (len := 3) rfl rfl rfl (rfl) rfl (by decide) rfl (m_isGood l0) ?_
    refine Wp.ifb0 (tgt := 218) (len := 3) rfl (fun h103 => ?_) (fun h103 => ?_)
    · cases h103
    · skip
      refine Wp.n (pc' := 107) 1 rfl ?_
      refine Wp.ifb0 (tgt := 218) (len := 3) rfl (fun h107 => ?_) (fun h107 => ?_)
      · cases h107
      · skip
        refine Wp.n (pc' := 114) 2 rfl ?_
        refine Wp.top h10 ?_
        refine Wp.n (pc' := 120) 4 rfl ?_
        refine Wp.iaddN (x := 11 * (40 + kh K 4)) (y := 3) (len := 1) rfl ?_
        refine Wp.n (pc' := 122) 1 rfl ?_
        refine Wp.iaddN (x := (11 * (40 + kh K 4)) + 3) (y := n) (len := 1) rfl ?_
        refine Wp.mialdN (j := ((11 * (40 + kh K 4)) + 3) + n) (len := 1) rfl rfl rfl (by omega) ?_
        refine Wp.top hp6 ?_
        refine Wp.nc0 (x := r) (y := pl (n - 1)) (tgt := 131) (len := 3) rfl (by omega) (by omega) (fun h124 => ?_) (fun h124 => ?_)
        · skip
          refine Wp.n (pc' := 137) 4 rfl ?_
          refine Wp.nc1 (x := n) (y := 7) (tgt := 170) (len := 3) rfl (by omega) (by omega) (fun h137 => ?_) (fun h137 => ?_)
          · skip
            first
              | (have q0 : r ≠ pl (n - 1) := h124
                 exact m_walk_o (is := true) (f := wlo pl n) hT hB ok hP A0 l0 (fun r' e1 e2 => by
                  have : r' = r := (nI_eq (by omega) (by omega)).mp (e1.symm.trans h10)
                  subst this
                  exact (decide_eq_true h124).symm) (fun z τ' e f l => ⟨rfl, τ', rfl, f, by rw [eb z e]; exact l, fun q => by rw [eb z e] at q; cases q⟩) (fun s' τ' e A1 l1 => kk s' τ' _ e A1 l1))
              | (have q0 : r = pl (n - 1) := h124
                 exact m_walk_o (is := false) (f := wlo pl n) hT hB ok hP A0 l0 (fun r' e1 e2 => by
                  have : r' = r := (nI_eq (by omega) (by omega)).mp (e1.symm.trans h10)
                  subst this
                  exact (decide_eq_false (fun e => e h124)).symm) (fun z τ' e f l => ⟨rfl, τ', rfl, f, by rw [eb z e]; exact l, fun q => by rw [eb z e] at q; cases q⟩) (fun s' τ' e A1 l1 => kk s' τ' _ e A1 l1))
          · omega
        · skip
          refine Wp.n (pc' := 137) 5 rfl ?_
          refine Wp.nc1 (x := n) (y := 7) (tgt := 170) (len := 3) rfl (by omega) (by omega) (fun h137 => ?_) (fun h137 => ?_)
          · skip
            first
              | (have q0 : r ≠ pl (n - 1) := h124
                 exact m_walk_o (is := true) (f := wlo pl n) hT hB ok hP A0 l0 (fun r' e1 e2 => by
                  have : r' = r := (nI_eq (by omega) (by omega)).mp (e1.symm.trans h10)
                  subst this
                  exact (decide_eq_true h124).symm) (fun z τ' e f l => ⟨rfl, τ', rfl, f, by rw [eb z e]; exact l, fun q => by rw [eb z e] at q; cases q⟩) (fun s' τ' e A1 l1 => kk s' τ' _ e A1 l1))
              | (have q0 : r = pl (n - 1) := h124
                 exact m_walk_o (is := false) (f := wlo pl n) hT hB ok hP A0 l0 (fun r' e1 e2 => by
                  have : r' = r := (nI_eq (by omega) (by omega)).mp (e1.symm.trans h10)
                  subst this
                  exact (decide_eq_false (fun e => e h124)).symm) (fun z τ' e f l => ⟨rfl, τ', rfl, f, by rw [eb z e]; exact l, fun q => by rw [eb z e] at q; cases q⟩) (fun s' τ' e A1 l1 => kk s' τ' _ e A1 l1))
          · omega
end WKL
end
section
/-! LINES: the walk's line, the first line, laws, floods; the reference. -/
section WKL2
variable {d : Nat} {M : AM} {σ σ' τ τ' : MS} {T : TP} {st : St} {K : KD} {Q : Option Value → AM → Prop} {g : Nat → Int32}
theorem m_walkLine (hT : TM σ T) (hL : LM σ T st) (hB : BM σ K) (ok : KOK K) (hP : 2 ≤ kh K 0) (hD : 1 ≤ kh K 1) (hr : kh K 4 < 10) : Wp (d + 5) md_179 0 [some (.ref 287), none, none, none, none, none] [] (mset M σ) (RLn M σ T (wkr T K st).1 (wkK T K st)) := by
  have b0 := (ok_h ok).1
  have b1 := (ok_h ok).2.1
  have A0 : ArF 11 (11 * (40 + kh K 4)) _ σ σ := ArF.r
  refine Wp.n (pc' := 6) 4 rfl ?_
  refine Wp.ecallV (len := 3) rfl rfl rfl (rfl) rfl (by decide) rfl (m_hasRead (k := 4) (by decide)) ?_
  refine Wp.top (BM_h hB (by decide)) ?_
  refine Wp.iaddN (x := 40) (y := kh K 4) (len := 1) rfl ?_
  refine Wp.imulN (x := 11) (y := 40 + (kh K 4)) (len := 1) rfl ?_
  refine Wp.n (pc' := 20) 7 rfl ?_
  refine Wp.callV (len := 3) rfl rfl rfl (rfl) rfl (by decide) rfl (m_number (lo := 0) (hi := 4) hT hL (fun q => ⟨rfl, rfl, by omega, by omega⟩)) ?_
  rintro _ _ ⟨a, rfl, ha, τ1, rfl, f1, l1⟩
  have A1 := A0.b f1
  refine Wp.rst (A := 11) (i := 11 * (40 + kh K 4)) (j := 0) (len := 1) rfl A1 (by omega) rfl rfl (by omega) (by unfold dcl; omega) (fun τ2 A2 e2 j2 => ?_)
  have l2 := LM_e e2 j2 l1
  refine Wp.n (pc' := 30) 4 rfl ?_
  refine Wp.iaddN (x := 11 * (40 + (kh K 4))) (y := 1) (len := 1) rfl ?_
  refine Wp.n (pc' := 38) 4 rfl ?_
  refine Wp.callV (len := 3) rfl rfl rfl (rfl) rfl (by decide) rfl (m_numberW (h := 247162) (lo := 1) (hi := 9) (A2.tm hT) l2 (by decide) (fun q => ⟨rfl, rfl, by omega, by omega⟩)) ?_
  rintro _ _ ⟨b, rfl, hb, τ3, rfl, f3, l3⟩
  have A3 := A2.b f3
  refine Wp.rst (A := 11) (i := 11 * (40 + kh K 4) + 1) (j := 1) (len := 1) rfl A3 (by omega) rfl rfl (by omega) (by unfold dcl; omega) (fun τ4 A4 e4 j4 => ?_)
  have l4 := LM_e e4 j4 l3
  refine Wp.n (pc' := 48) 4 rfl ?_
  refine Wp.iaddN (x := 11 * (40 + (kh K 4))) (y := 2) (len := 1) rfl ?_
  refine Wp.n (pc' := 56) 5 rfl ?_
  refine Wp.ecallV (len := 3) rfl rfl rfl (rfl) rfl (by decide) rfl (m_hasRead (k := 1) (by decide)) ?_
  refine Wp.top (A4.h (j := 1) (by decide) hB (by decide)) ?_
  refine Wp.n (pc' := 60) 1 rfl ?_
  refine Wp.isubN (x := kh K 1) (y := 1) (len := 1) rfl (by omega) ?_
  refine Wp.callV (len := 3) rfl rfl rfl (rfl) rfl (by decide) rfl (m_numberW (h := 419) (lo := 0) (hi := kh K 1 - 1) (A4.tm hT) l4 (by decide) (fun q => ⟨rfl, rfl, by omega, by omega⟩)) ?_
  rintro _ _ ⟨c, rfl, hc, τ5, rfl, f5, l5⟩
  have A5 := A4.b f5
  refine Wp.rst (A := 11) (i := 11 * (40 + kh K 4) + 2) (j := 2) (len := 1) rfl A5 (by omega) rfl rfl (by omega) (by unfold dcl; omega) (fun τ6 A6 e6 j6 => ?_)
  have l6 := LM_e e6 j6 l5
  refine Wp.n (pc' := 71) 4 rfl ?_
  refine Wp.iaddN (x := 11 * (40 + (kh K 4))) (y := 4) (len := 1) rfl ?_
  refine Wp.n (pc' := 79) 5 rfl ?_
  refine Wp.ecallV (len := 3) rfl rfl rfl (rfl) rfl (by decide) rfl (m_hasRead (k := 0) (by decide)) ?_
  refine Wp.top (A6.h (j := 0) (by decide) hB (by decide)) ?_
  refine Wp.n (pc' := 83) 1 rfl ?_
  refine Wp.isubN (x := kh K 0) (y := 1) (len := 1) rfl (by omega) ?_
  refine Wp.callV (len := 3) rfl rfl rfl (rfl) rfl (by decide) rfl (m_numberW (h := 131638) (lo := 0) (hi := kh K 0 - 1) (A6.tm hT) l6 (by decide) (fun q => ⟨rfl, rfl, by omega, by omega⟩)) ?_
  rintro _ _ ⟨x, rfl, hx, τ7, rfl, f7, l7⟩
  have A7 := A6.b f7
  refine Wp.rst (A := 11) (i := 11 * (40 + kh K 4) + 4) (j := 4) (len := 1) rfl A7 (by omega) rfl rfl (by omega) (by unfold dcl; omega) (fun τ8 A8 e8 j8 => ?_)
  have l8 := LM_e e8 j8 l7
  refine Wp.n (pc' := 92) 2 rfl ?_
  refine Wp.callV (len := 3) rfl rfl rfl (rfl) rfl (by decide) rfl (m_asks (h := 79) (A8.tm hT) l8 (by decide)) ?_
  rintro _ _ ⟨rfl, τ9, rfl, f9, l9⟩
  have A9 := A8.b f9
  change LM τ9 T (wk5 T K st) at l9
  refine Wp.n (pc' := 99) 4 rfl ?_
  rcases hq : wk5 T K st with z | s
  · have ew : wkr T K st = (.inl z, fun _ => nmV T (wkc T K st), 1) := by unfold wkr; rw [hq]; rfl
    rw [hq] at l9
    refine Wp.n (pc' := 100) 1 rfl ?_
    refine Wp.ecallV (len := 3) rfl rfl rfl (rfl) rfl (by decide) rfl (m_isGood l9) ?_
    refine Wp.ifb0 (c := false) (tgt := 218) (len := 3) rfl (fun _ => ?_) (fun h => by cases h)
    have w := m_walk_e (d := d) (M := M) (n := 1) (m := some (.int 1)) (x4 := none) (x5 := none) hT hB ok hr (by decide) A9 l9 (G := wkG (nmV T st) (nmV T (wka T st)) (nmV T (wkb T st)) (wkr T K st)) (fun q => by cases q)
    unfold wkK
    rw [show (wkr T K st).1 = .inl z by rw [ew]]
    exact w
  · rw [hq] at l9
    have g5 : gd (wk5 T K st) = true := by rw [hq]; rfl
    have g4 : gd (wk4 T K st) = true := gd_wd g5
    have g3 : gd (wk3 T K st) = true := gd_wd (gd_nm g4)
    have g2 : gd (wk2 T st) = true := gd_wd (gd_nm g3)
    have g1 : gd (wk1 T st) = true := gd_wd (gd_nm g2)
    obtain rfl := ha g1
    obtain rfl := hb g2
    obtain rfl := hc g3
    obtain rfl := hx g4
    have h7 : 0 ≤ nmV T (wkc T K st) ∧ nmV T (wkc T K st) ≤ kh K 0 - 1 := nm_le g4
    have ew : wkr T K st = wlk T (kh K 0) 6 (fun _ => nmV T (wkc T K st)) 1 (.inr s) := by unfold wkr; rw [hq]
    unfold wkK
    rw [ew]
    refine m_walk_l hT hB ok hP hr 6 1 (by decide) (by decide) A9 l9 ⟨rfl, rfl, rfl⟩ (fun j hj => ?_) (fun j hj => by omega)
    obtain rfl : j = 0 := by omega
    rfl
theorem isW_x {s a b : Nat} (h : isW T s a = true) (hab : a ≠ b) : isW T s b = false := by
  have h1 := of_decide_eq_true h
  exact decide_eq_false (fun q => hab (h1.2.2.symm.trans q.2.2))
/-- which law is told -/
def lwk (T : TP) (s : Nat) : Nat := if isW T s 284068024 = true then 0 else if isW T s 131360 = true then 1 else if isW T s 247162 = true then 2 else if isW T s 6559778 = true then 3 else 4
def lawS (T : TP) : St → St
  | .inl x => .inl x
  | .inr s => if lwk T s < 4 then .inr (nx T s) else .inl (1, s)
def lwm (k : Nat) : Nat := if k < 2 then 3 else 4
def lwv (k : Nat) : Nat := if k = 0 ∨ k = 2 then 1 else 0
def lawH (K : KD) (k : Nat) : KD := (fun i => if i = 6 + lwm k then lwv k else kh K i, K.2)
def lwq (T : TP) : St → Nat
  | .inl _ => 0
  | .inr s => lwk T s
theorem BM_lw (hB : BM σ K) {k : Nat} (e : ∀ i, i ≠ 7 → τ.2.2.1 i = σ.2.2.1 i) (el : τ.2.2.2 = σ.2.2.2) (e7 : τ.2.2.1 7 = upd (σ.2.2.1 7) (20 + lwm k) (nI (lwv k))) : BM τ (lawH K k) := by
  obtain ⟨⟨h1, h2, h3, h4, h5, h6, h7⟩, hl, h11⟩ := hB
  have hm : lwm k = 3 ∨ lwm k = 4 := by unfold lwm; split <;> simp
  have ek : ∀ j, j ≠ 6 + lwm k → kh (lawH K k) j = kh K j := fun j hj => if_neg hj
  have en : kh (lawH K k) (6 + lwm k) = lwv k := if_pos rfl
  have hl' : ∀ j, j < 5 → τ.2.2.1 7 (20 + j) = nI (kh (lawH K k) (6 + j)) := fun j hj => by
    rw [e7]
    by_cases q : j = lwm k
    · rw [q, pk_us, en]
    · rw [pk_un (by omega), ek (6 + j) (by omega)]; exact hl j hj
  refine ⟨⟨fun j hj => ?_, fun _ => hl', ?_, ?_, ?_, ?_, ?_⟩, hl', (ek 11 (by omega)).trans h11⟩
  · rw [e 6 (by decide), ek j (by omega)]; exact h1 j hj
  · rw [e 5 (by decide), ek 5 (by omega)]; exact h3
  · rw [el, ek 12 (by omega)]; exact h4
  · rw [e 9 (by decide), ek 2 (by omega)]; exact h5
  · rw [e 10 (by decide), ek 3 (by omega), ek 11 (by omega)]; exact h6
  · rw [e 11 (by decide), ek 4 (by omega)]; exact h7
theorem m_law_2 (hT : TM σ T) {s k : Nat} (hL : LM σ T (.inr s)) (hB : BM σ K) (hk : k < 4) (ek : lwk T s = k) : Wp (d + 5) md_181 57 [some (.ref 287), none] [.int (nI k)] (mset M σ) (RLn M σ T (lawS T (.inr s)) (lawH K (lwk T s))) := by
  obtain ⟨h12, hN⟩ := id hL
  have es : lawS T (.inr s) = .inr (nx T s) := if_pos (by omega)
  rw [es, ek]
  refine Wp.n (pc' := 60) 3 rfl ?_
  refine Wp.ic1 (tgt := 68) (len := 3) rfl (fun h60 => ?_) (fun h60 => ?_)
  · skip
    refine Wp.n (pc' := 72) 2 rfl ?_
    refine Wp.top h12 ?_
    refine Wp.nz0 (x := 0) (tgt := 76) (len := 3) rfl (by omega) (fun h72 => ?_) (fun h72 => ?_)
    · skip
      refine Wp.n (pc' := 77) 1 rfl ?_
      refine Wp.callV (len := 3) rfl rfl rfl (rfl) rfl (by decide) rfl (LN_n hT h12 hN) ?_
      rintro _ _ ⟨rfl, τ, rfl, f, hτ⟩
      refine Wp.n (pc' := 88) 5 rfl ?_
      refine Wp.nc3 (x := k) (y := 2) (tgt := 95) (len := 3) rfl (by omega) (by omega) (fun h88 => ?_) (fun h88 => ?_)
      · skip
        refine Wp.n (pc' := 96) 1 rfl ?_
        refine Wp.iaddN (x := 20) (y := 4) (len := 1) rfl ?_
        refine Wp.n (pc' := 98) 1 rfl ?_
        refine Wp.nz0 (x := k) (tgt := 106) (len := 3) rfl (by omega) (fun h98 => ?_) (fun h98 => ?_)
        · skip
          refine Wp.n (pc' := 111) 2 rfl ?_
          refine Wp.miastN (j := 20 + 4) (len := 1) rfl rfl rfl (by omega) ?_
          refine Wp.retV (len := 1) rfl rfl ?_
          first
            | (exfalso; omega)
            | (refine ⟨rfl, _, rfl, f.k.t (FrK.a (by unfold dcl; omega)), LM_a (st := .inr (nx T s)) hτ, fun _ => BM_lw hB (fun i hi => ?_) ?_ ?_⟩
               · show va_up τ.2.2.1 7 _ i = _
                 rw [va_up_ne _ _ hi, f.2]
               · show τ.2.2.2 = _
                 rw [f.2]
               · show upd (τ.2.2.1 7) _ _ = _
                 rw [f.2]
                 unfold lwm lwv
                 first
                   | rw [if_pos (show k < 2 by omega), if_pos (show k = 0 ∨ k = 2 by omega)]
                   | rw [if_pos (show k < 2 by omega), if_neg (show ¬ (k = 0 ∨ k = 2) by omega)]
                   | rw [if_neg (show ¬ k < 2 by omega), if_pos (show k = 0 ∨ k = 2 by omega)]
                   | rw [if_neg (show ¬ k < 2 by omega), if_neg (show ¬ (k = 0 ∨ k = 2) by omega)]
                   | omega
                 first | rfl | skip)
        · skip
          refine Wp.n (pc' := 103) 2 rfl ?_
          refine Wp.nc1 (x := k) (y := 2) (tgt := 110) (len := 3) rfl (by omega) (by omega) (fun h103 => ?_) (fun h103 => ?_)
          · skip
            refine Wp.n (pc' := 111) 1 rfl ?_
            refine Wp.miastN (j := 20 + 4) (len := 1) rfl rfl rfl (by omega) ?_
            refine Wp.retV (len := 1) rfl rfl ?_
            first
              | (exfalso; omega)
              | (refine ⟨rfl, _, rfl, f.k.t (FrK.a (by unfold dcl; omega)), LM_a (st := .inr (nx T s)) hτ, fun _ => BM_lw hB (fun i hi => ?_) ?_ ?_⟩
                 · show va_up τ.2.2.1 7 _ i = _
                   rw [va_up_ne _ _ hi, f.2]
                 · show τ.2.2.2 = _
                   rw [f.2]
                 · show upd (τ.2.2.1 7) _ _ = _
                   rw [f.2]
                   unfold lwm lwv
                   first
                     | rw [if_pos (show k < 2 by omega), if_pos (show k = 0 ∨ k = 2 by omega)]
                     | rw [if_pos (show k < 2 by omega), if_neg (show ¬ (k = 0 ∨ k = 2) by omega)]
                     | rw [if_neg (show ¬ k < 2 by omega), if_pos (show k = 0 ∨ k = 2 by omega)]
                     | rw [if_neg (show ¬ k < 2 by omega), if_neg (show ¬ (k = 0 ∨ k = 2) by omega)]
                     | omega
                   first | rfl | skip)
          · skip
            refine Wp.n (pc' := 111) 2 rfl ?_
            refine Wp.miastN (j := 20 + 4) (len := 1) rfl rfl rfl (by omega) ?_
            refine Wp.retV (len := 1) rfl rfl ?_
            first
              | (exfalso; omega)
              | (refine ⟨rfl, _, rfl, f.k.t (FrK.a (by unfold dcl; omega)), LM_a (st := .inr (nx T s)) hτ, fun _ => BM_lw hB (fun i hi => ?_) ?_ ?_⟩
                 · show va_up τ.2.2.1 7 _ i = _
                   rw [va_up_ne _ _ hi, f.2]
                 · show τ.2.2.2 = _
                   rw [f.2]
                 · show upd (τ.2.2.1 7) _ _ = _
                   rw [f.2]
                   unfold lwm lwv
                   first
                     | rw [if_pos (show k < 2 by omega), if_pos (show k = 0 ∨ k = 2 by omega)]
                     | rw [if_pos (show k < 2 by omega), if_neg (show ¬ (k = 0 ∨ k = 2) by omega)]
                     | rw [if_neg (show ¬ k < 2 by omega), if_pos (show k = 0 ∨ k = 2 by omega)]
                     | rw [if_neg (show ¬ k < 2 by omega), if_neg (show ¬ (k = 0 ∨ k = 2) by omega)]
                     | omega
                   first | rfl | skip)
      · skip
        refine Wp.n (pc' := 96) 2 rfl ?_
        refine Wp.iaddN (x := 20) (y := 3) (len := 1) rfl ?_
        refine Wp.n (pc' := 98) 1 rfl ?_
        refine Wp.nz0 (x := k) (tgt := 106) (len := 3) rfl (by omega) (fun h98 => ?_) (fun h98 => ?_)
        · skip
          refine Wp.n (pc' := 111) 2 rfl ?_
          refine Wp.miastN (j := 20 + 3) (len := 1) rfl rfl rfl (by omega) ?_
          refine Wp.retV (len := 1) rfl rfl ?_
          first
            | (exfalso; omega)
            | (refine ⟨rfl, _, rfl, f.k.t (FrK.a (by unfold dcl; omega)), LM_a (st := .inr (nx T s)) hτ, fun _ => BM_lw hB (fun i hi => ?_) ?_ ?_⟩
               · show va_up τ.2.2.1 7 _ i = _
                 rw [va_up_ne _ _ hi, f.2]
               · show τ.2.2.2 = _
                 rw [f.2]
               · show upd (τ.2.2.1 7) _ _ = _
                 rw [f.2]
                 unfold lwm lwv
                 first
                   | rw [if_pos (show k < 2 by omega), if_pos (show k = 0 ∨ k = 2 by omega)]
                   | rw [if_pos (show k < 2 by omega), if_neg (show ¬ (k = 0 ∨ k = 2) by omega)]
                   | rw [if_neg (show ¬ k < 2 by omega), if_pos (show k = 0 ∨ k = 2 by omega)]
                   | rw [if_neg (show ¬ k < 2 by omega), if_neg (show ¬ (k = 0 ∨ k = 2) by omega)]
                   | omega
                 first | rfl | skip)
        · skip
          refine Wp.n (pc' := 103) 2 rfl ?_
          refine Wp.nc1 (x := k) (y := 2) (tgt := 110) (len := 3) rfl (by omega) (by omega) (fun h103 => ?_) (fun h103 => ?_)
          · skip
            refine Wp.n (pc' := 111) 1 rfl ?_
            refine Wp.miastN (j := 20 + 3) (len := 1) rfl rfl rfl (by omega) ?_
            refine Wp.retV (len := 1) rfl rfl ?_
            first
              | (exfalso; omega)
              | (refine ⟨rfl, _, rfl, f.k.t (FrK.a (by unfold dcl; omega)), LM_a (st := .inr (nx T s)) hτ, fun _ => BM_lw hB (fun i hi => ?_) ?_ ?_⟩
                 · show va_up τ.2.2.1 7 _ i = _
                   rw [va_up_ne _ _ hi, f.2]
                 · show τ.2.2.2 = _
                   rw [f.2]
                 · show upd (τ.2.2.1 7) _ _ = _
                   rw [f.2]
                   unfold lwm lwv
                   first
                     | rw [if_pos (show k < 2 by omega), if_pos (show k = 0 ∨ k = 2 by omega)]
                     | rw [if_pos (show k < 2 by omega), if_neg (show ¬ (k = 0 ∨ k = 2) by omega)]
                     | rw [if_neg (show ¬ k < 2 by omega), if_pos (show k = 0 ∨ k = 2 by omega)]
                     | rw [if_neg (show ¬ k < 2 by omega), if_neg (show ¬ (k = 0 ∨ k = 2) by omega)]
                     | omega
                   first | rfl | skip)
          · skip
            refine Wp.n (pc' := 111) 2 rfl ?_
            refine Wp.miastN (j := 20 + 3) (len := 1) rfl rfl rfl (by omega) ?_
            refine Wp.retV (len := 1) rfl rfl ?_
            first
              | (exfalso; omega)
              | (refine ⟨rfl, _, rfl, f.k.t (FrK.a (by unfold dcl; omega)), LM_a (st := .inr (nx T s)) hτ, fun _ => BM_lw hB (fun i hi => ?_) ?_ ?_⟩
                 · show va_up τ.2.2.1 7 _ i = _
                   rw [va_up_ne _ _ hi, f.2]
                 · show τ.2.2.2 = _
                   rw [f.2]
                 · show upd (τ.2.2.1 7) _ _ = _
                   rw [f.2]
                   unfold lwm lwv
                   first
                     | rw [if_pos (show k < 2 by omega), if_pos (show k = 0 ∨ k = 2 by omega)]
                     | rw [if_pos (show k < 2 by omega), if_neg (show ¬ (k = 0 ∨ k = 2) by omega)]
                     | rw [if_neg (show ¬ k < 2 by omega), if_pos (show k = 0 ∨ k = 2 by omega)]
                     | rw [if_neg (show ¬ k < 2 by omega), if_neg (show ¬ (k = 0 ∨ k = 2) by omega)]
                     | omega
                   first | rfl | skip)
    · omega
  · exact absurd h60 (oI_ne (by omega))
theorem m_law_3 (hT : TM σ T) {s : Nat} (hL : LM σ T (.inr s)) (ek : lwk T s = 4) : Wp (d + 5) md_181 57 [some (.ref 287), none] [.int (-1)] (mset M σ) (RLn M σ T (lawS T (.inr s)) (lawH K (lwk T s))) := by
  have es : lawS T (.inr s) = .inl (1, s) := if_neg (by omega)
  rw [es]
  refine Wp.n (pc' := 60) 3 rfl ?_
  refine Wp.ic1 (tgt := 68) (len := 3) rfl (fun h60 => ?_) (fun h60 => ?_)
  · exact absurd rfl h60
  · skip
    refine Wp.n (pc' := 65) 2 rfl ?_
    refine Wp.callV (len := 3) rfl rfl rfl (rfl) rfl (by decide) rfl (m_fails hT hL (k := 1) (by decide)) ?_
    rintro _ _ ⟨rfl, τ, rfl, f, hτ⟩
    change LM τ T (.inl (1, s)) at hτ
    refine Wp.n (pc' := 72) 2 rfl ?_
    refine Wp.top hτ.1 ?_
    refine Wp.nz0 (x := 1) (tgt := 76) (len := 3) rfl (by omega) (fun h72 => ?_) (fun h72 => ?_)
    · omega
    · skip
      refine Wp.retV (len := 1) rfl rfl ?_
      exact ⟨rfl, τ, rfl, f.k, hτ, fun q => by cases q⟩
theorem m_lawLine (hT : TM σ T) {s : Nat} (hL : LM σ T (.inr s)) (hB : BM σ K) : Wp (d + 5) md_181 0 [some (.ref 287), none] [] (mset M σ) (RLn M σ T (lawS T (.inr s)) (lawH K (lwk T s))) := by
  refine Wp.n (pc' := 4) 2 rfl ?_
  refine Wp.ecallV (len := 3) rfl rfl rfl (rfl) rfl (by decide) rfl (m_is (h := 284068024) hL (by decide)) ?_
  refine Wp.ifb0 (tgt := 14) (len := 3) rfl (fun h7 => ?_) (fun h7 => ?_)
  · have n7 : ¬ isW T s 284068024 = true := fun q => by rw [show isW T s 284068024 = false from h7] at q; cases q
    refine Wp.n (pc' := 18) 2 rfl ?_
    refine Wp.ecallV (len := 3) rfl rfl rfl (rfl) rfl (by decide) rfl (m_is (h := 131360) hL (by decide)) ?_
    refine Wp.ifb0 (tgt := 28) (len := 3) rfl (fun h21 => ?_) (fun h21 => ?_)
    · have n21 : ¬ isW T s 131360 = true := fun q => by rw [show isW T s 131360 = false from h21] at q; cases q
      refine Wp.n (pc' := 32) 2 rfl ?_
      refine Wp.ecallV (len := 3) rfl rfl rfl (rfl) rfl (by decide) rfl (m_is (h := 247162) hL (by decide)) ?_
      refine Wp.ifb0 (tgt := 42) (len := 3) rfl (fun h35 => ?_) (fun h35 => ?_)
      · have n35 : ¬ isW T s 247162 = true := fun q => by rw [show isW T s 247162 = false from h35] at q; cases q
        refine Wp.n (pc' := 46) 2 rfl ?_
        refine Wp.ecallV (len := 3) rfl rfl rfl (rfl) rfl (by decide) rfl (m_is (h := 6559778) hL (by decide)) ?_
        refine Wp.ifb0 (tgt := 56) (len := 3) rfl (fun h49 => ?_) (fun h49 => ?_)
        · have n49 : ¬ isW T s 6559778 = true := fun q => by rw [show isW T s 6559778 = false from h49] at q; cases q
          refine Wp.n (pc' := 57) 1 rfl ?_
          first
            | exact m_law_3 hT hL (by unfold lwk; rw [if_neg n7, if_neg n21, if_neg n35, if_neg n49])
            | exact m_law_2 (k := 3) hT hL hB (by decide) (by unfold lwk; rw [if_neg n7, if_neg n21, if_neg n35, if_pos p49])
            | exact m_law_2 (k := 2) hT hL hB (by decide) (by unfold lwk; rw [if_neg n7, if_neg n21, if_pos p35])
            | exact m_law_2 (k := 1) hT hL hB (by decide) (by unfold lwk; rw [if_neg n7, if_pos p21])
            | exact m_law_2 (k := 0) hT hL hB (by decide) (by unfold lwk; rw [if_pos p7])
        · have p49 : isW T s 6559778 = true := h49
          refine Wp.n (pc' := 57) 2 rfl ?_
          first
            | exact m_law_3 hT hL (by unfold lwk; rw [if_neg n7, if_neg n21, if_neg n35, if_neg n49])
            | exact m_law_2 (k := 3) hT hL hB (by decide) (by unfold lwk; rw [if_neg n7, if_neg n21, if_neg n35, if_pos p49])
            | exact m_law_2 (k := 2) hT hL hB (by decide) (by unfold lwk; rw [if_neg n7, if_neg n21, if_pos p35])
            | exact m_law_2 (k := 1) hT hL hB (by decide) (by unfold lwk; rw [if_neg n7, if_pos p21])
            | exact m_law_2 (k := 0) hT hL hB (by decide) (by unfold lwk; rw [if_pos p7])
      · have p35 : isW T s 247162 = true := h35
        refine Wp.n (pc' := 57) 2 rfl ?_
        first
          | exact m_law_3 hT hL (by unfold lwk; rw [if_neg n7, if_neg n21, if_neg n35, if_neg n49])
          | exact m_law_2 (k := 3) hT hL hB (by decide) (by unfold lwk; rw [if_neg n7, if_neg n21, if_neg n35, if_pos p49])
          | exact m_law_2 (k := 2) hT hL hB (by decide) (by unfold lwk; rw [if_neg n7, if_neg n21, if_pos p35])
          | exact m_law_2 (k := 1) hT hL hB (by decide) (by unfold lwk; rw [if_neg n7, if_pos p21])
          | exact m_law_2 (k := 0) hT hL hB (by decide) (by unfold lwk; rw [if_pos p7])
    · have p21 : isW T s 131360 = true := h21
      refine Wp.n (pc' := 57) 2 rfl ?_
      first
        | exact m_law_3 hT hL (by unfold lwk; rw [if_neg n7, if_neg n21, if_neg n35, if_neg n49])
        | exact m_law_2 (k := 3) hT hL hB (by decide) (by unfold lwk; rw [if_neg n7, if_neg n21, if_neg n35, if_pos p49])
        | exact m_law_2 (k := 2) hT hL hB (by decide) (by unfold lwk; rw [if_neg n7, if_neg n21, if_pos p35])
        | exact m_law_2 (k := 1) hT hL hB (by decide) (by unfold lwk; rw [if_neg n7, if_pos p21])
        | exact m_law_2 (k := 0) hT hL hB (by decide) (by unfold lwk; rw [if_pos p7])
  · have p7 : isW T s 284068024 = true := h7
    refine Wp.n (pc' := 57) 2 rfl ?_
    first
      | exact m_law_3 hT hL (by unfold lwk; rw [if_neg n7, if_neg n21, if_neg n35, if_neg n49])
      | exact m_law_2 (k := 3) hT hL hB (by decide) (by unfold lwk; rw [if_neg n7, if_neg n21, if_neg n35, if_pos p49])
      | exact m_law_2 (k := 2) hT hL hB (by decide) (by unfold lwk; rw [if_neg n7, if_neg n21, if_pos p35])
      | exact m_law_2 (k := 1) hT hL hB (by decide) (by unfold lwk; rw [if_neg n7, if_pos p21])
      | exact m_law_2 (k := 0) hT hL hB (by decide) (by unfold lwk; rw [if_pos p7])
end WKL2
end
section
/-! LINES: the first, any; the reference. -/
def endS (T : TP) : St → St
  | .inl x => .inl x
  | .inr s => if tk T s = 3 then .inr (nx T s) else .inl (1, s)
def srt (T : TP) (s : Nat) : Nat := if isW T s 365260 = true then 0 else if isW T s 237308 = true then 1 else if isW T s 129523 = true then 2 else if isW T s 50348 = true then 3 else if isW T s 3436186 = true then 4 else if isW T s 453773 = true then 5 else 6
def fd1 (T : TP) (st : St) : St := wdS T 419 st
def fd2 (T : TP) (K : KD) (st : St) : St := nmS T 0 (kh K 1 - 1) (fd1 T st)
def fdK (T : TP) (K : KD) (st : St) : KD := (fun i => if i = 12 then kh K 12 ||| 2 ^ nmV T (fd1 T st) else kh K i, K.2)
def lw1 (T : TP) (st : St) : St := wdS T 8798 st
def linS (T : TP) (K : KD) (s : Nat) : St := if srt T s = 0 then (if kh K 2 = 12 then .inl (3, s) else rd4 T K (.inr (nx T s))) else if srt T s < 4 then (if kh K 3 = 8 then .inl (3, s) else ln7 T K (srt T s - 1) (.inr (nx T s))) else if srt T s = 4 then fd2 T K (.inr (nx T s)) else if srt T s = 5 then (if kh K 4 = 10 then .inl (3, s) else (wkr T K (.inr (nx T s))).1) else lawS T (lw1 T (.inr s))
def linK (T : TP) (K : KD) (s : Nat) : KD := if srt T s = 0 then rdK T K (.inr (nx T s)) else if srt T s < 4 then lnK T K (srt T s - 1) (.inr (nx T s)) else if srt T s = 4 then fdK T K (.inr (nx T s)) else if srt T s = 5 then wkK T K (.inr (nx T s)) else lawH K (lwq T (lw1 T (.inr s)))
theorem lin_1 {T : TP} {K : KD} {s k : Nat} (h : srt T s = k + 1) (hk : k < 3) : linS T K s = (if kh K 3 = 8 then .inl (3, s) else ln7 T K k (.inr (nx T s))) ∧ linK T K s = lnK T K k (.inr (nx T s)) := by
  have e : srt T s - 1 = k := by omega
  refine ⟨?_, ?_⟩
  · unfold linS
    rw [if_neg (show ¬ srt T s = 0 by omega), if_pos (show srt T s < 4 by omega), e]
  · unfold linK
    rw [if_neg (show ¬ srt T s = 0 by omega), if_pos (show srt T s < 4 by omega), e]
theorem lin_4 {T : TP} {K : KD} {s : Nat} (h : srt T s = 4) : linS T K s = fd2 T K (.inr (nx T s)) ∧ linK T K s = fdK T K (.inr (nx T s)) := by
  refine ⟨?_, ?_⟩
  · unfold linS
    rw [if_neg (show ¬ srt T s = 0 by omega), if_neg (show ¬ srt T s < 4 by omega), if_pos h]
  · unfold linK
    rw [if_neg (show ¬ srt T s = 0 by omega), if_neg (show ¬ srt T s < 4 by omega), if_pos h]
theorem lin_5 {T : TP} {K : KD} {s : Nat} (h : srt T s = 5) : linS T K s = (if kh K 4 = 10 then .inl (3, s) else (wkr T K (.inr (nx T s))).1) ∧ linK T K s = wkK T K (.inr (nx T s)) := by
  refine ⟨?_, ?_⟩
  · unfold linS
    rw [if_neg (show ¬ srt T s = 0 by omega), if_neg (show ¬ srt T s < 4 by omega), if_neg (show ¬ srt T s = 4 by omega), if_pos h]
  · unfold linK
    rw [if_neg (show ¬ srt T s = 0 by omega), if_neg (show ¬ srt T s < 4 by omega), if_neg (show ¬ srt T s = 4 by omega), if_pos h]
theorem lin_6 {T : TP} {K : KD} {s : Nat} (h : srt T s = 6) : linS T K s = lawS T (lw1 T (.inr s)) ∧ linK T K s = lawH K (lwq T (lw1 T (.inr s))) := by
  refine ⟨?_, ?_⟩
  · unfold linS
    rw [if_neg (show ¬ srt T s = 0 by omega), if_neg (show ¬ srt T s < 4 by omega), if_neg (show ¬ srt T s = 4 by omega), if_neg (show ¬ srt T s = 5 by omega)]
  · unfold linK
    rw [if_neg (show ¬ srt T s = 0 by omega), if_neg (show ¬ srt T s < 4 by omega), if_neg (show ¬ srt T s = 4 by omega), if_neg (show ¬ srt T s = 5 by omega)]
/-- the first line is being read -/
def ArH (G6 G7 : Nat → Int32) (σ τ : MS) : Prop := FrK σ τ ∧ (∀ i, i ≠ 6 → i ≠ 7 → τ.2.2.1 i = σ.2.2.1 i) ∧ τ.2.2.2 = σ.2.2.2 ∧ τ.2.2.1 6 = G6 ∧ τ.2.2.1 7 = G7
section LNA
variable {d : Nat} {M : AM} {σ σ' τ τ' : MS} {T : TP} {st : St} {K : KD} {Q : Option Value → AM → Prop} {G6 G7 : Nat → Int32}
theorem ArH.r : ArH (σ.2.2.1 6) (σ.2.2.1 7) σ σ := ⟨FrK.r, fun _ _ _ => rfl, rfl, rfl, rfl⟩
theorem ArH.b (h : ArH G6 G7 σ τ) (f : FrB τ τ') : ArH G6 G7 σ τ' := ⟨h.1.t f.k, fun i h6 h7 => by rw [f.2]; exact h.2.1 i h6 h7, by rw [f.2]; exact h.2.2.1, by rw [f.2]; exact h.2.2.2.1, by rw [f.2]; exact h.2.2.2.2⟩
theorem Wp.h6 {X : MD} {pc len i : Nat} {l : AL} {sk : List Value} {x : Int32} (hc : cdx X pc = some (.inr (.inl .iastore), len)) (hA : ArH G6 G7 σ τ) (hi : 20 ≤ i ∧ i < 25) (kk : ∀ τ', ArH (upd G6 i x) G7 σ τ' → τ'.1 = τ.1 → τ'.2.1 = τ.2.1 → Wp d X (pc + len) l sk (mset M τ') Q) : Wp d X pc l (.int x :: .int (nI i) :: .ref 294 :: sk) (mset M τ) Q := by
  refine Wp.miastN (k := 6) (j := i) hc rfl rfl hi.2 ?_
  refine kk _ ⟨hA.1.t (FrK.a (by unfold dcl; omega)), fun q h6 h7 => ?_, hA.2.2.1, ?_, hA.2.2.2.2⟩ rfl rfl
  · show va_up τ.2.2.1 6 _ q = _
    rw [va_up_ne _ _ h6]; exact hA.2.1 q h6 h7
  · rw [aset_get, hA.2.2.2.1]
theorem Wp.h7 {X : MD} {pc len i : Nat} {l : AL} {sk : List Value} {x : Int32} (hc : cdx X pc = some (.inr (.inl .iastore), len)) (hA : ArH G6 G7 σ τ) (hi : 20 ≤ i ∧ i < 25) (kk : ∀ τ', ArH G6 (upd G7 i x) σ τ' → τ'.1 = τ.1 → τ'.2.1 = τ.2.1 → Wp d X (pc + len) l sk (mset M τ') Q) : Wp d X pc l (.int x :: .int (nI i) :: .ref 295 :: sk) (mset M τ) Q := by
  refine Wp.miastN (k := 7) (j := i) hc rfl rfl hi.2 ?_
  refine kk _ ⟨hA.1.t (FrK.a (by unfold dcl; omega)), fun q h6 h7 => ?_, hA.2.2.1, hA.2.2.2.1, ?_⟩ rfl rfl
  · show va_up τ.2.2.1 7 _ q = _
    rw [va_up_ne _ _ h7]; exact hA.2.1 q h6 h7
  · rw [aset_get, hA.2.2.2.2]
theorem m_first (hT : TM σ T) (hL : LM σ T st) (hB : BM σ K0) : Wp (d + 5) md_166 0 [some (.ref 287)] [] (mset M σ) (RLn M σ T (pf6 T st) (firK T st)) := by
  have A0 : ArH _ _ σ σ := ArH.r
  refine Wp.n (pc' := 4) 2 rfl ?_
  refine Wp.callV (len := 3) rfl rfl rfl (rfl) rfl (by decide) rfl (m_asks (h := 4398346831) hT hL (by decide)) ?_
  rintro _ _ ⟨rfl, τ1, rfl, f1, l1⟩
  have A1 := A0.b f1
  refine Wp.n (pc' := 20) 7 rfl ?_
  refine Wp.callV (len := 3) rfl rfl rfl (rfl) rfl (by decide) rfl (m_numberW (h := 235981828) (lo := 2) (hi := 7) (A1.1.T hT) l1 (by decide) (fun q => ⟨rfl, rfl, by omega, by omega⟩)) ?_
  rintro _ _ ⟨a, rfl, ha, τ2, rfl, f2, l2⟩
  have A2 := A1.b f2
  refine Wp.h6 (i := 20) (len := 1) rfl A2 (by decide) (fun τ3 A3 e3 j3 => ?_)
  have l3 := LM_e e3 j3 l2
  refine Wp.n (pc' := 37) 7 rfl ?_
  refine Wp.callV (len := 3) rfl rfl rfl (rfl) rfl (by decide) rfl (m_numberW (h := 80155) (lo := 1) (hi := 30) (A3.1.T hT) l3 (by decide) (fun q => ⟨rfl, rfl, by omega, by omega⟩)) ?_
  rintro _ _ ⟨b, rfl, hb, τ4, rfl, f4, l4⟩
  have A4 := A3.b f4
  refine Wp.h6 (i := 21) (len := 1) rfl A4 (by decide) (fun τ5 A5 e5 j5 => ?_)
  have l5 := LM_e e5 j5 l4
  refine Wp.n (pc' := 54) 7 rfl ?_
  refine Wp.callV (len := 3) rfl rfl rfl (rfl) rfl (by decide) rfl (m_numberW (h := 355568) (lo := 0) (hi := 99) (A5.1.T hT) l5 (by decide) (fun q => ⟨rfl, rfl, by omega, by omega⟩)) ?_
  rintro _ _ ⟨c, rfl, hc, τ6, rfl, f6, l6⟩
  have A6 := A5.b f6
  refine Wp.h7 (i := 20) (len := 1) rfl A6 (by decide) (fun τ7 A7 e7 j7 => ?_)
  have l7 := LM_e e7 j7 l6
  refine Wp.n (pc' := 71) 7 rfl ?_
  refine Wp.callV (len := 3) rfl rfl rfl (rfl) rfl (by decide) rfl (m_numberW (h := 131360) (lo := 0) (hi := 99) (A7.1.T hT) l7 (by decide) (fun q => ⟨rfl, rfl, by omega, by omega⟩)) ?_
  rintro _ _ ⟨x, rfl, hx, τ8, rfl, f8, l8⟩
  have A8 := A7.b f8
  refine Wp.h7 (i := 21) (len := 1) rfl A8 (by decide) (fun τ9 A9 e9 j9 => ?_)
  have l9 := LM_e e9 j9 l8
  refine Wp.n (pc' := 88) 7 rfl ?_
  refine Wp.callV (len := 3) rfl rfl rfl (rfl) rfl (by decide) rfl (m_numberW (h := 400577) (lo := 0) (hi := 99) (A9.1.T hT) l9 (by decide) (fun q => ⟨rfl, rfl, by omega, by omega⟩)) ?_
  rintro _ _ ⟨y, rfl, hy, τ10, rfl, f10, l10⟩
  have A10 := A9.b f10
  refine Wp.h7 (i := 22) (len := 1) rfl A10 (by decide) (fun τ11 A11 e11 j11 => ?_)
  have l11 := LM_e e11 j11 l10
  refine Wp.retV (len := 1) rfl rfl ?_
  refine ⟨rfl, τ11, rfl, A11.1, l11, fun g6 => ?_⟩
  have g5 : gd (pf5 T st) = true := gd_wd (gd_nm g6)
  have g4 : gd (pf4 T st) = true := gd_wd (gd_nm g5)
  have g3 : gd (pf3 T st) = true := gd_wd (gd_nm g4)
  have g2 : gd (pf2 T st) = true := gd_wd (gd_nm g3)
  obtain rfl := ha g2
  obtain rfl := hb g3
  obtain rfl := hc g4
  obtain rfl := hx g5
  obtain rfl := hy g6
  obtain ⟨⟨h1, h2, h3, h4, h5, h6, h7⟩, hl, h11⟩ := hB
  have hl' : ∀ j, j < 5 → τ11.2.2.1 7 (20 + j) = nI (kh (firK T st) (6 + j)) := fun j hj => by
    rw [A11.2.2.2.2]
    have jj : j = 0 ∨ j = 1 ∨ j = 2 ∨ j = 3 ∨ j = 4 := by omega
    rcases jj with rfl | rfl | rfl | rfl | rfl
    · rfl
    · rfl
    · rfl
    · exact hl 3 (by decide)
    · exact hl 4 (by decide)
  refine ⟨⟨fun j hj => ?_, fun _ => hl', ?_, ?_, fun i hi => ?_, fun i hi => ?_, fun i hi => ?_⟩, hl', rfl⟩
  · rw [A11.2.2.2.1]
    have jj : j = 0 ∨ j = 1 ∨ j = 2 ∨ j = 3 ∨ j = 4 := by omega
    rcases jj with rfl | rfl | rfl | rfl | rfl
    · rfl
    · rfl
    · exact h1 2 (by decide)
    · exact h1 3 (by decide)
    · exact h1 4 (by decide)
  · rw [A11.2.1 5 (by decide) (by decide)]; exact h3
  · rw [A11.2.2.1]; exact h4
  · exact absurd hi (Nat.not_lt_zero _)
  · rcases hi with hi | hi
    · exact absurd hi (Nat.not_lt_zero _)
    · exact absurd hi.2 (by show ¬ (0 : Nat) = 1; decide)
  · exact absurd hi (Nat.not_lt_zero _)
theorem m_ends (hT : TM σ T) {s : Nat} (hL : LM σ T (.inr s)) : Wp (d + 2) md_182 0 [some (.ref 287)] [] (mset M σ) (fun v M' => v = none ∧ RdB M σ T (endS T (.inr s)) M') := by
  obtain ⟨h12, hN⟩ := id hL
  have t4 := tk_le (T := T) (s := s)
  by_cases cc : tk T s = 3
  · have e : endS T (.inr s) = .inr (nx T s) := if_pos cc
    refine Wp.n (pc' := 4) 2 rfl ?_
    refine Wp.top hN.2.1 ?_
    refine Wp.n (pc' := 5) 1 rfl ?_
    refine Wp.nc0 (x := tk T s) (y := 3) (tgt := 13) (len := 3) rfl (by omega) (by omega) (fun h5 => ?_) (fun h5 => ?_)
    · skip
      refine Wp.n (pc' := 17) 2 rfl ?_
      refine Wp.top h12 ?_
      refine Wp.nz1 (x := 0) (tgt := 24) (len := 3) rfl (by omega) (fun h17 => ?_) (fun h17 => ?_)
      · omega
      · skip
        refine Wp.n (pc' := 21) 1 rfl ?_
        refine Wp.callV (len := 3) rfl rfl rfl (rfl) rfl (by decide) rfl (LN_n hT h12 hN) ?_
        rintro _ _ ⟨rfl, τ, rfl, f, hτ⟩
        refine Wp.retV (len := 1) rfl rfl ?_
        rw [e]
        exact ⟨rfl, τ, rfl, f, hτ⟩
    · omega
  · skip
    refine Wp.n (pc' := 4) 2 rfl ?_
    refine Wp.top hN.2.1 ?_
    refine Wp.n (pc' := 5) 1 rfl ?_
    refine Wp.nc0 (x := tk T s) (y := 3) (tgt := 13) (len := 3) rfl (by omega) (by omega) (fun h5 => ?_) (fun h5 => ?_)
    · omega
    · skip
      refine Wp.n (pc' := 10) 2 rfl ?_
      refine Wp.callV (len := 3) rfl rfl rfl (rfl) rfl (by decide) rfl (m_fails hT hL (k := 1) (by decide)) ?_
      rintro _ _ ⟨rfl, τ, rfl, f, hτ⟩
      have e : endS T (.inr s) = .inl (1, s) := if_neg h5
      change LM τ T (.inl (1, s)) at hτ
      refine Wp.n (pc' := 17) 2 rfl ?_
      refine Wp.top hτ.1 ?_
      refine Wp.nz1 (x := 1) (tgt := 24) (len := 3) rfl (by omega) (fun h17 => ?_) (fun h17 => ?_)
      · skip
        refine Wp.retV (len := 1) rfl rfl ?_
        rw [e]
        exact ⟨rfl, τ, rfl, f, hτ⟩
      · omega
theorem BM_fd (hB : BM σ K) {x : Nat} (e : τ.2.2.1 = σ.2.2.1) (e8 : τ.2.2.2 8 4 = lN (kh K 12 ||| x)) : BM τ (fun i => if i = 12 then kh K 12 ||| x else kh K i, K.2) := by
  obtain ⟨⟨h1, h2, h3, h4, h5, h6, h7⟩, hl, h11⟩ := hB
  have hl' : ∀ j, j < 5 → τ.2.2.1 7 (20 + j) = nI (if 6 + j = 12 then kh K 12 ||| x else kh K (6 + j)) := fun j hj => by
    rw [e, if_neg (by omega)]; exact hl j hj
  refine ⟨⟨fun j hj => ?_, fun _ => hl', ?_, e8, ?_, ?_, ?_⟩, hl', h11⟩
  · show _ = nI (if j = 12 then _ else kh K j)
    rw [if_neg (by omega), e]; exact h1 j hj
  · rw [e]; exact h3
  · rw [e]; exact h5
  · rw [e]; exact h6
  · rw [e]; exact h7
theorem FrK.l {x : Int64} : FrK σ (lset σ 8 (vp_updL (σ.2.2.2 8) 4 x)) := ⟨fun _ _ => rfl, fun _ _ => rfl, fun k hk => va_up_ne _ _ hk, fun q hq => ⟨by show va_up σ.2.2.2 8 _ 8 q = _; rw [va_up_self]; exact lu_n (by omega), rfl⟩, fun _ _ => ⟨rfl, rfl⟩, fun _ _ => rfl, fun _ _ => rfl, fun _ _ => rfl⟩
theorem LM_l {k : Nat} {g : Nat → Int64} (h : LM σ T st) : LM (lset σ k g) T st := by
  rcases st with x | s
  · exact h
  · exact h
theorem BM_b (hB : BM σ K) (f : FrB σ τ) : BM τ K := by
  unfold BM RepM at *
  rw [f.2]
  exact hB
theorem RLn_b {v : Option Value} {M' : AM} (f : FrB σ τ) (h : RLn M τ T st K v M') : RLn M σ T st K v M' := by
  obtain ⟨rfl, τ', rfl, h1, h2⟩ := h
  exact ⟨rfl, τ', rfl, f.k.t h1, h2⟩
theorem m_line (hT : TM σ T) {s : Nat} (hL : LM σ T (.inr s)) (hB : BM σ K) (ok : KOK K) (hP : 2 ≤ kh K 0) (hD : 1 ≤ kh K 1) : Wp (d + 6) md_173 0 [some (.ref 287), none, none, none, none] [] (mset M σ) (RLn M σ T (linS T K s) (linK T K s)) := by
  obtain ⟨h12, hN⟩ := id hL
  obtain ⟨b0, b1, b2, b3, b4, b5, b6, b7, b8, b9, b10, b11, b12⟩ := ok_h ok
  by_cases c0 : isW T s 365260 = true
  · have w365260 := c0
    have w237308 := isW_x (b := 237308) c0 (by decide)
    have w129523 := isW_x (b := 129523) c0 (by decide)
    have w50348 := isW_x (b := 50348) c0 (by decide)
    have w453773 := isW_x (b := 453773) c0 (by decide)
    have sr : srt T s = 0 := if_pos c0
    unfold linS linK
    rw [if_pos sr, if_pos sr]
    by_cases cc : kh K 2 = 12
    · rw [if_pos cc]
      refine Wp.n (pc' := 4) 2 rfl ?_
      refine Wp.ecallV (len := 3) rfl rfl rfl (rfl) rfl (by decide) rfl ((by have w := m_is (d := d + 5) (M := M) (h := 237308) hL (by decide); rw [show isS T 237308 (.inr s) = false from w237308] at w; exact w)) ?_
      refine Wp.ifb0 (tgt := 14) (len := 3) rfl (fun h7 => ?_) (fun h7 => ?_)
      · skip
        refine Wp.n (pc' := 18) 2 rfl ?_
        refine Wp.ecallV (len := 3) rfl rfl rfl (rfl) rfl (by decide) rfl ((by have w := m_is (d := d + 5) (M := M) (h := 129523) hL (by decide); rw [show isS T 129523 (.inr s) = false from w129523] at w; exact w)) ?_
        refine Wp.ifb0 (tgt := 28) (len := 3) rfl (fun h21 => ?_) (fun h21 => ?_)
        · skip
          refine Wp.n (pc' := 32) 2 rfl ?_
          refine Wp.ecallV (len := 3) rfl rfl rfl (rfl) rfl (by decide) rfl ((by have w := m_is (d := d + 5) (M := M) (h := 50348) hL (by decide); rw [show isS T 50348 (.inr s) = false from w50348] at w; exact w)) ?_
          refine Wp.ifb0 (tgt := 42) (len := 3) rfl (fun h35 => ?_) (fun h35 => ?_)
          · skip
            refine Wp.n (pc' := 48) 4 rfl ?_
            refine Wp.ecallV (len := 3) rfl rfl rfl (rfl) rfl (by decide) rfl ((by have w := m_is (d := d + 5) (M := M) (h := 365260) hL (by decide); rw [show isS T 365260 (.inr s) = true from w365260] at w; exact w)) ?_
            refine Wp.n (pc' := 56) 3 rfl ?_
            refine Wp.ecallV (len := 3) rfl rfl rfl (rfl) rfl (by decide) rfl ((by have w := m_is (d := d + 5) (M := M) (h := 453773) hL (by decide); rw [show isS T 453773 (.inr s) = false from w453773] at w; exact w)) ?_
            refine Wp.n (pc' := 61) 2 rfl ?_
            refine Wp.ifb0 (tgt := 74) (len := 3) rfl (fun h61 => ?_) (fun h61 => ?_)
            · cases h61
            · skip
              refine Wp.n (pc' := 66) 2 rfl ?_
              refine Wp.ecallV (len := 3) rfl rfl rfl (rfl) rfl (by decide) rfl (m_hasRead (k := 2) (by decide)) ?_
              refine Wp.top (BM_h hB (by decide)) ?_
              refine Wp.n (pc' := 71) 1 rfl ?_
              refine Wp.nc0 (x := kh K 2) (y := 12) (tgt := 103) (len := 3) rfl (by omega) (by omega) (fun h71 => ?_) (fun h71 => ?_)
              · skip
                refine Wp.n (pc' := 105) 2 rfl ?_
                refine Wp.callV (len := 3) rfl rfl rfl (rfl) rfl (by decide) rfl (m_fails hT hL (k := 3) (by decide)) ?_
                rintro _ _ ⟨rfl, τ, rfl, f, hτ⟩
                change LM τ T (.inl (3, s)) at hτ
                refine Wp.n (pc' := 112) 2 rfl ?_
                refine Wp.top hτ.1 ?_
                refine Wp.nz0 (x := 3) (tgt := 116) (len := 3) rfl (by omega) (fun h112 => ?_) (fun h112 => ?_)
                · omega
                · skip
                  refine Wp.retV (len := 1) rfl rfl ?_
                  exact ⟨rfl, τ, rfl, f.k, hτ, fun q => by cases q⟩
              · omega
          · cases h35
        · cases h21
      · cases h7
    · rw [if_neg cc]
      refine Wp.n (pc' := 4) 2 rfl ?_
      refine Wp.ecallV (len := 3) rfl rfl rfl (rfl) rfl (by decide) rfl ((by have w := m_is (d := d + 5) (M := M) (h := 237308) hL (by decide); rw [show isS T 237308 (.inr s) = false from w237308] at w; exact w)) ?_
      refine Wp.ifb0 (tgt := 14) (len := 3) rfl (fun h7 => ?_) (fun h7 => ?_)
      · skip
        refine Wp.n (pc' := 18) 2 rfl ?_
        refine Wp.ecallV (len := 3) rfl rfl rfl (rfl) rfl (by decide) rfl ((by have w := m_is (d := d + 5) (M := M) (h := 129523) hL (by decide); rw [show isS T 129523 (.inr s) = false from w129523] at w; exact w)) ?_
        refine Wp.ifb0 (tgt := 28) (len := 3) rfl (fun h21 => ?_) (fun h21 => ?_)
        · skip
          refine Wp.n (pc' := 32) 2 rfl ?_
          refine Wp.ecallV (len := 3) rfl rfl rfl (rfl) rfl (by decide) rfl ((by have w := m_is (d := d + 5) (M := M) (h := 50348) hL (by decide); rw [show isS T 50348 (.inr s) = false from w50348] at w; exact w)) ?_
          refine Wp.ifb0 (tgt := 42) (len := 3) rfl (fun h35 => ?_) (fun h35 => ?_)
          · skip
            refine Wp.n (pc' := 48) 4 rfl ?_
            refine Wp.ecallV (len := 3) rfl rfl rfl (rfl) rfl (by decide) rfl ((by have w := m_is (d := d + 5) (M := M) (h := 365260) hL (by decide); rw [show isS T 365260 (.inr s) = true from w365260] at w; exact w)) ?_
            refine Wp.n (pc' := 56) 3 rfl ?_
            refine Wp.ecallV (len := 3) rfl rfl rfl (rfl) rfl (by decide) rfl ((by have w := m_is (d := d + 5) (M := M) (h := 453773) hL (by decide); rw [show isS T 453773 (.inr s) = false from w453773] at w; exact w)) ?_
            refine Wp.n (pc' := 61) 2 rfl ?_
            refine Wp.ifb0 (tgt := 74) (len := 3) rfl (fun h61 => ?_) (fun h61 => ?_)
            · cases h61
            · skip
              refine Wp.n (pc' := 66) 2 rfl ?_
              refine Wp.ecallV (len := 3) rfl rfl rfl (rfl) rfl (by decide) rfl (m_hasRead (k := 2) (by decide)) ?_
              refine Wp.top (BM_h hB (by decide)) ?_
              refine Wp.n (pc' := 71) 1 rfl ?_
              refine Wp.nc0 (x := kh K 2) (y := 12) (tgt := 103) (len := 3) rfl (by omega) (by omega) (fun h71 => ?_) (fun h71 => ?_)
              · omega
              · skip
                refine Wp.n (pc' := 76) 2 rfl ?_
                refine Wp.ic0 (tgt := 89) (len := 3) rfl (fun h76 => ?_) (fun h76 => ?_)
                · skip
                  refine Wp.n (pc' := 90) 1 rfl ?_
                  refine Wp.ifb0 (tgt := 108) (len := 3) rfl (fun h90 => ?_) (fun h90 => ?_)
                  · skip
                    refine Wp.n (pc' := 112) 2 rfl ?_
                    refine Wp.top h12 ?_
                    refine Wp.nz0 (x := 0) (tgt := 116) (len := 3) rfl (by omega) (fun h112 => ?_) (fun h112 => ?_)
                    · skip
                      refine Wp.n (pc' := 117) 1 rfl ?_
                      refine Wp.ifb1 (tgt := 129) (len := 3) rfl (fun h117 => ?_) (fun h117 => ?_)
                      · skip
                        refine Wp.n (pc' := 130) 1 rfl ?_
                        refine Wp.callV (len := 3) rfl rfl rfl (rfl) rfl (by decide) rfl (LN_n hT h12 hN) ?_
                        rintro _ _ ⟨rfl, τ, rfl, f, hτ⟩
                        have hT1 := f.T hT
                        have hB1 := BM_b hB f
                        refine Wp.n (pc' := 134) 1 rfl ?_
                        refine Wp.ifb0 (tgt := 144) (len := 3) rfl (fun h134 => ?_) (fun h134 => ?_)
                        · cases h134
                        · skip
                          refine Wp.n (pc' := 138) 1 rfl ?_
                          refine Wp.callV (len := 3) rfl rfl rfl (rfl) rfl (by decide) rfl (m_roadLine (d := d) hT1 hτ hB1 ok hP (by omega)) ?_
                          rintro _ _ h0
                          obtain ⟨rfl, τ2, rfl, h⟩ := RLn_b f h0
                          refine Wp.n (pc' := 231) 1 rfl ?_
                          refine Wp.retV (len := 1) rfl rfl ?_
                          exact ⟨rfl, τ2, rfl, h⟩
                      · cases h117
                    · omega
                  · cases h90
                · exact absurd rfl h76
          · cases h35
        · cases h21
      · cases h7
  · have w365260 : isW T s 365260 = false := by simpa using c0
    by_cases c1 : isW T s 237308 = true
    · have w237308 := c1
      have w129523 := isW_x (b := 129523) c1 (by decide)
      have w50348 := isW_x (b := 50348) c1 (by decide)
      have w453773 := isW_x (b := 453773) c1 (by decide)
      have sr : srt T s = 1 := by unfold srt; rw [if_neg c0, if_pos c1]
      rw [(lin_1 (K := K) sr (by decide)).1, (lin_1 (K := K) sr (by decide)).2]
      by_cases cc : kh K 3 = 8
      · rw [if_pos cc]
        refine Wp.n (pc' := 4) 2 rfl ?_
        refine Wp.ecallV (len := 3) rfl rfl rfl (rfl) rfl (by decide) rfl ((by have w := m_is (d := d + 5) (M := M) (h := 237308) hL (by decide); rw [show isS T 237308 (.inr s) = true from w237308] at w; exact w)) ?_
        refine Wp.ifb0 (tgt := 14) (len := 3) rfl (fun h7 => ?_) (fun h7 => ?_)
        · cases h7
        · skip
          refine Wp.n (pc' := 48) 5 rfl ?_
          refine Wp.ecallV (len := 3) rfl rfl rfl (rfl) rfl (by decide) rfl ((by have w := m_is (d := d + 5) (M := M) (h := 365260) hL (by decide); rw [show isS T 365260 (.inr s) = false from w365260] at w; exact w)) ?_
          refine Wp.n (pc' := 56) 3 rfl ?_
          refine Wp.ecallV (len := 3) rfl rfl rfl (rfl) rfl (by decide) rfl ((by have w := m_is (d := d + 5) (M := M) (h := 453773) hL (by decide); rw [show isS T 453773 (.inr s) = false from w453773] at w; exact w)) ?_
          refine Wp.n (pc' := 61) 2 rfl ?_
          refine Wp.ifb0 (tgt := 74) (len := 3) rfl (fun h61 => ?_) (fun h61 => ?_)
          · skip
            refine Wp.n (pc' := 76) 2 rfl ?_
            refine Wp.ic0 (tgt := 89) (len := 3) rfl (fun h76 => ?_) (fun h76 => ?_)
            · exact absurd h76 (by decide)
            · skip
              refine Wp.n (pc' := 81) 2 rfl ?_
              refine Wp.ecallV (len := 3) rfl rfl rfl (rfl) rfl (by decide) rfl (m_hasRead (k := 3) (by decide)) ?_
              refine Wp.top (BM_h hB (by decide)) ?_
              refine Wp.n (pc' := 86) 1 rfl ?_
              refine Wp.nc0 (x := kh K 3) (y := 8) (tgt := 103) (len := 3) rfl (by omega) (by omega) (fun h86 => ?_) (fun h86 => ?_)
              · skip
                refine Wp.n (pc' := 105) 2 rfl ?_
                refine Wp.callV (len := 3) rfl rfl rfl (rfl) rfl (by decide) rfl (m_fails hT hL (k := 3) (by decide)) ?_
                rintro _ _ ⟨rfl, τ, rfl, f, hτ⟩
                change LM τ T (.inl (3, s)) at hτ
                refine Wp.n (pc' := 112) 2 rfl ?_
                refine Wp.top hτ.1 ?_
                refine Wp.nz0 (x := 3) (tgt := 116) (len := 3) rfl (by omega) (fun h112 => ?_) (fun h112 => ?_)
                · omega
                · skip
                  refine Wp.retV (len := 1) rfl rfl ?_
                  exact ⟨rfl, τ, rfl, f.k, hτ, fun q => by cases q⟩
              · omega
          · cases h61
      · rw [if_neg cc]
        refine Wp.n (pc' := 4) 2 rfl ?_
        refine Wp.ecallV (len := 3) rfl rfl rfl (rfl) rfl (by decide) rfl ((by have w := m_is (d := d + 5) (M := M) (h := 237308) hL (by decide); rw [show isS T 237308 (.inr s) = true from w237308] at w; exact w)) ?_
        refine Wp.ifb0 (tgt := 14) (len := 3) rfl (fun h7 => ?_) (fun h7 => ?_)
        · cases h7
        · skip
          refine Wp.n (pc' := 48) 5 rfl ?_
          refine Wp.ecallV (len := 3) rfl rfl rfl (rfl) rfl (by decide) rfl ((by have w := m_is (d := d + 5) (M := M) (h := 365260) hL (by decide); rw [show isS T 365260 (.inr s) = false from w365260] at w; exact w)) ?_
          refine Wp.n (pc' := 56) 3 rfl ?_
          refine Wp.ecallV (len := 3) rfl rfl rfl (rfl) rfl (by decide) rfl ((by have w := m_is (d := d + 5) (M := M) (h := 453773) hL (by decide); rw [show isS T 453773 (.inr s) = false from w453773] at w; exact w)) ?_
          refine Wp.n (pc' := 61) 2 rfl ?_
          refine Wp.ifb0 (tgt := 74) (len := 3) rfl (fun h61 => ?_) (fun h61 => ?_)
          · skip
            refine Wp.n (pc' := 76) 2 rfl ?_
            refine Wp.ic0 (tgt := 89) (len := 3) rfl (fun h76 => ?_) (fun h76 => ?_)
            · exact absurd h76 (by decide)
            · skip
              refine Wp.n (pc' := 81) 2 rfl ?_
              refine Wp.ecallV (len := 3) rfl rfl rfl (rfl) rfl (by decide) rfl (m_hasRead (k := 3) (by decide)) ?_
              refine Wp.top (BM_h hB (by decide)) ?_
              refine Wp.n (pc' := 86) 1 rfl ?_
              refine Wp.nc0 (x := kh K 3) (y := 8) (tgt := 103) (len := 3) rfl (by omega) (by omega) (fun h86 => ?_) (fun h86 => ?_)
              · omega
              · skip
                refine Wp.n (pc' := 90) 1 rfl ?_
                refine Wp.ifb0 (tgt := 108) (len := 3) rfl (fun h90 => ?_) (fun h90 => ?_)
                · skip
                  refine Wp.n (pc' := 112) 2 rfl ?_
                  refine Wp.top h12 ?_
                  refine Wp.nz0 (x := 0) (tgt := 116) (len := 3) rfl (by omega) (fun h112 => ?_) (fun h112 => ?_)
                  · skip
                    refine Wp.n (pc' := 117) 1 rfl ?_
                    refine Wp.ifb1 (tgt := 129) (len := 3) rfl (fun h117 => ?_) (fun h117 => ?_)
                    · cases h117
                    · skip
                      refine Wp.n (pc' := 122) 2 rfl ?_
                      refine Wp.ic1 (tgt := 129) (len := 3) rfl (fun h122 => ?_) (fun h122 => ?_)
                      · skip
                        refine Wp.n (pc' := 130) 1 rfl ?_
                        refine Wp.callV (len := 3) rfl rfl rfl (rfl) rfl (by decide) rfl (LN_n hT h12 hN) ?_
                        rintro _ _ ⟨rfl, τ, rfl, f, hτ⟩
                        have hT1 := f.T hT
                        have hB1 := BM_b hB f
                        refine Wp.n (pc' := 134) 1 rfl ?_
                        refine Wp.ifb0 (tgt := 144) (len := 3) rfl (fun h134 => ?_) (fun h134 => ?_)
                        · skip
                          refine Wp.n (pc' := 145) 1 rfl ?_
                          refine Wp.ifb0 (tgt := 155) (len := 3) rfl (fun h145 => ?_) (fun h145 => ?_)
                          · skip
                            refine Wp.n (pc' := 157) 2 rfl ?_
                            refine Wp.callV (len := 3) rfl rfl rfl (rfl) rfl (by decide) rfl (m_laneLine (d := d) (so := 0) hT1 hτ hB1 ok hP hD (by omega) (by decide)) ?_
                            rintro _ _ h0
                            obtain ⟨rfl, τ2, rfl, h⟩ := RLn_b f h0
                            refine Wp.n (pc' := 231) 1 rfl ?_
                            refine Wp.retV (len := 1) rfl rfl ?_
                            exact ⟨rfl, τ2, rfl, h⟩
                          · cases h145
                        · cases h134
                      · exact absurd h122 (by decide)
                  · omega
                · cases h90
          · cases h61
    have w237308 : isW T s 237308 = false := by simpa using c1
    by_cases c2 : isW T s 129523 = true
    · have w129523 := c2
      have w237308 := isW_x (b := 237308) c2 (by decide)
      have w50348 := isW_x (b := 50348) c2 (by decide)
      have w453773 := isW_x (b := 453773) c2 (by decide)
      have sr : srt T s = 2 := by unfold srt; rw [if_neg c0, if_neg c1, if_pos c2]
      rw [(lin_1 (K := K) sr (by decide)).1, (lin_1 (K := K) sr (by decide)).2]
      by_cases cc : kh K 3 = 8
      · rw [if_pos cc]
        refine Wp.n (pc' := 4) 2 rfl ?_
        refine Wp.ecallV (len := 3) rfl rfl rfl (rfl) rfl (by decide) rfl ((by have w := m_is (d := d + 5) (M := M) (h := 237308) hL (by decide); rw [show isS T 237308 (.inr s) = false from w237308] at w; exact w)) ?_
        refine Wp.ifb0 (tgt := 14) (len := 3) rfl (fun h7 => ?_) (fun h7 => ?_)
        · skip
          refine Wp.n (pc' := 18) 2 rfl ?_
          refine Wp.ecallV (len := 3) rfl rfl rfl (rfl) rfl (by decide) rfl ((by have w := m_is (d := d + 5) (M := M) (h := 129523) hL (by decide); rw [show isS T 129523 (.inr s) = true from w129523] at w; exact w)) ?_
          refine Wp.ifb0 (tgt := 28) (len := 3) rfl (fun h21 => ?_) (fun h21 => ?_)
          · cases h21
          · skip
            refine Wp.n (pc' := 48) 5 rfl ?_
            refine Wp.ecallV (len := 3) rfl rfl rfl (rfl) rfl (by decide) rfl ((by have w := m_is (d := d + 5) (M := M) (h := 365260) hL (by decide); rw [show isS T 365260 (.inr s) = false from w365260] at w; exact w)) ?_
            refine Wp.n (pc' := 56) 3 rfl ?_
            refine Wp.ecallV (len := 3) rfl rfl rfl (rfl) rfl (by decide) rfl ((by have w := m_is (d := d + 5) (M := M) (h := 453773) hL (by decide); rw [show isS T 453773 (.inr s) = false from w453773] at w; exact w)) ?_
            refine Wp.n (pc' := 61) 2 rfl ?_
            refine Wp.ifb0 (tgt := 74) (len := 3) rfl (fun h61 => ?_) (fun h61 => ?_)
            · skip
              refine Wp.n (pc' := 76) 2 rfl ?_
              refine Wp.ic0 (tgt := 89) (len := 3) rfl (fun h76 => ?_) (fun h76 => ?_)
              · exact absurd h76 (by decide)
              · skip
                refine Wp.n (pc' := 81) 2 rfl ?_
                refine Wp.ecallV (len := 3) rfl rfl rfl (rfl) rfl (by decide) rfl (m_hasRead (k := 3) (by decide)) ?_
                refine Wp.top (BM_h hB (by decide)) ?_
                refine Wp.n (pc' := 86) 1 rfl ?_
                refine Wp.nc0 (x := kh K 3) (y := 8) (tgt := 103) (len := 3) rfl (by omega) (by omega) (fun h86 => ?_) (fun h86 => ?_)
                · skip
                  refine Wp.n (pc' := 105) 2 rfl ?_
                  refine Wp.callV (len := 3) rfl rfl rfl (rfl) rfl (by decide) rfl (m_fails hT hL (k := 3) (by decide)) ?_
                  rintro _ _ ⟨rfl, τ, rfl, f, hτ⟩
                  change LM τ T (.inl (3, s)) at hτ
                  refine Wp.n (pc' := 112) 2 rfl ?_
                  refine Wp.top hτ.1 ?_
                  refine Wp.nz0 (x := 3) (tgt := 116) (len := 3) rfl (by omega) (fun h112 => ?_) (fun h112 => ?_)
                  · omega
                  · skip
                    refine Wp.retV (len := 1) rfl rfl ?_
                    exact ⟨rfl, τ, rfl, f.k, hτ, fun q => by cases q⟩
                · omega
            · cases h61
        · cases h7
      · rw [if_neg cc]
        refine Wp.n (pc' := 4) 2 rfl ?_
        refine Wp.ecallV (len := 3) rfl rfl rfl (rfl) rfl (by decide) rfl ((by have w := m_is (d := d + 5) (M := M) (h := 237308) hL (by decide); rw [show isS T 237308 (.inr s) = false from w237308] at w; exact w)) ?_
        refine Wp.ifb0 (tgt := 14) (len := 3) rfl (fun h7 => ?_) (fun h7 => ?_)
        · skip
          refine Wp.n (pc' := 18) 2 rfl ?_
          refine Wp.ecallV (len := 3) rfl rfl rfl (rfl) rfl (by decide) rfl ((by have w := m_is (d := d + 5) (M := M) (h := 129523) hL (by decide); rw [show isS T 129523 (.inr s) = true from w129523] at w; exact w)) ?_
          refine Wp.ifb0 (tgt := 28) (len := 3) rfl (fun h21 => ?_) (fun h21 => ?_)
          · cases h21
          · skip
            refine Wp.n (pc' := 48) 5 rfl ?_
            refine Wp.ecallV (len := 3) rfl rfl rfl (rfl) rfl (by decide) rfl ((by have w := m_is (d := d + 5) (M := M) (h := 365260) hL (by decide); rw [show isS T 365260 (.inr s) = false from w365260] at w; exact w)) ?_
            refine Wp.n (pc' := 56) 3 rfl ?_
            refine Wp.ecallV (len := 3) rfl rfl rfl (rfl) rfl (by decide) rfl ((by have w := m_is (d := d + 5) (M := M) (h := 453773) hL (by decide); rw [show isS T 453773 (.inr s) = false from w453773] at w; exact w)) ?_
            refine Wp.n (pc' := 61) 2 rfl ?_
            refine Wp.ifb0 (tgt := 74) (len := 3) rfl (fun h61 => ?_) (fun h61 => ?_)
            · skip
              refine Wp.n (pc' := 76) 2 rfl ?_
              refine Wp.ic0 (tgt := 89) (len := 3) rfl (fun h76 => ?_) (fun h76 => ?_)
              · exact absurd h76 (by decide)
              · skip
                refine Wp.n (pc' := 81) 2 rfl ?_
                refine Wp.ecallV (len := 3) rfl rfl rfl (rfl) rfl (by decide) rfl (m_hasRead (k := 3) (by decide)) ?_
                refine Wp.top (BM_h hB (by decide)) ?_
                refine Wp.n (pc' := 86) 1 rfl ?_
                refine Wp.nc0 (x := kh K 3) (y := 8) (tgt := 103) (len := 3) rfl (by omega) (by omega) (fun h86 => ?_) (fun h86 => ?_)
                · omega
                · skip
                  refine Wp.n (pc' := 90) 1 rfl ?_
                  refine Wp.ifb0 (tgt := 108) (len := 3) rfl (fun h90 => ?_) (fun h90 => ?_)
                  · skip
                    refine Wp.n (pc' := 112) 2 rfl ?_
                    refine Wp.top h12 ?_
                    refine Wp.nz0 (x := 0) (tgt := 116) (len := 3) rfl (by omega) (fun h112 => ?_) (fun h112 => ?_)
                    · skip
                      refine Wp.n (pc' := 117) 1 rfl ?_
                      refine Wp.ifb1 (tgt := 129) (len := 3) rfl (fun h117 => ?_) (fun h117 => ?_)
                      · cases h117
                      · skip
                        refine Wp.n (pc' := 122) 2 rfl ?_
                        refine Wp.ic1 (tgt := 129) (len := 3) rfl (fun h122 => ?_) (fun h122 => ?_)
                        · skip
                          refine Wp.n (pc' := 130) 1 rfl ?_
                          refine Wp.callV (len := 3) rfl rfl rfl (rfl) rfl (by decide) rfl (LN_n hT h12 hN) ?_
                          rintro _ _ ⟨rfl, τ, rfl, f, hτ⟩
                          have hT1 := f.T hT
                          have hB1 := BM_b hB f
                          refine Wp.n (pc' := 134) 1 rfl ?_
                          refine Wp.ifb0 (tgt := 144) (len := 3) rfl (fun h134 => ?_) (fun h134 => ?_)
                          · skip
                            refine Wp.n (pc' := 145) 1 rfl ?_
                            refine Wp.ifb0 (tgt := 155) (len := 3) rfl (fun h145 => ?_) (fun h145 => ?_)
                            · skip
                              refine Wp.n (pc' := 157) 2 rfl ?_
                              refine Wp.callV (len := 3) rfl rfl rfl (rfl) rfl (by decide) rfl (m_laneLine (d := d) (so := 1) hT1 hτ hB1 ok hP hD (by omega) (by decide)) ?_
                              rintro _ _ h0
                              obtain ⟨rfl, τ2, rfl, h⟩ := RLn_b f h0
                              refine Wp.n (pc' := 231) 1 rfl ?_
                              refine Wp.retV (len := 1) rfl rfl ?_
                              exact ⟨rfl, τ2, rfl, h⟩
                            · cases h145
                          · cases h134
                        · exact absurd h122 (by decide)
                    · omega
                  · cases h90
            · cases h61
        · cases h7
    have w129523 : isW T s 129523 = false := by simpa using c2
    by_cases c3 : isW T s 50348 = true
    · have w50348 := c3
      have w237308 := isW_x (b := 237308) c3 (by decide)
      have w129523 := isW_x (b := 129523) c3 (by decide)
      have w453773 := isW_x (b := 453773) c3 (by decide)
      have sr : srt T s = 3 := by unfold srt; rw [if_neg c0, if_neg c1, if_neg c2, if_pos c3]
      rw [(lin_1 (K := K) sr (by decide)).1, (lin_1 (K := K) sr (by decide)).2]
      by_cases cc : kh K 3 = 8
      · rw [if_pos cc]
        refine Wp.n (pc' := 4) 2 rfl ?_
        refine Wp.ecallV (len := 3) rfl rfl rfl (rfl) rfl (by decide) rfl ((by have w := m_is (d := d + 5) (M := M) (h := 237308) hL (by decide); rw [show isS T 237308 (.inr s) = false from w237308] at w; exact w)) ?_
        refine Wp.ifb0 (tgt := 14) (len := 3) rfl (fun h7 => ?_) (fun h7 => ?_)
        · skip
          refine Wp.n (pc' := 18) 2 rfl ?_
          refine Wp.ecallV (len := 3) rfl rfl rfl (rfl) rfl (by decide) rfl ((by have w := m_is (d := d + 5) (M := M) (h := 129523) hL (by decide); rw [show isS T 129523 (.inr s) = false from w129523] at w; exact w)) ?_
          refine Wp.ifb0 (tgt := 28) (len := 3) rfl (fun h21 => ?_) (fun h21 => ?_)
          · skip
            refine Wp.n (pc' := 32) 2 rfl ?_
            refine Wp.ecallV (len := 3) rfl rfl rfl (rfl) rfl (by decide) rfl ((by have w := m_is (d := d + 5) (M := M) (h := 50348) hL (by decide); rw [show isS T 50348 (.inr s) = true from w50348] at w; exact w)) ?_
            refine Wp.ifb0 (tgt := 42) (len := 3) rfl (fun h35 => ?_) (fun h35 => ?_)
            · cases h35
            · skip
              refine Wp.n (pc' := 48) 5 rfl ?_
              refine Wp.ecallV (len := 3) rfl rfl rfl (rfl) rfl (by decide) rfl ((by have w := m_is (d := d + 5) (M := M) (h := 365260) hL (by decide); rw [show isS T 365260 (.inr s) = false from w365260] at w; exact w)) ?_
              refine Wp.n (pc' := 56) 3 rfl ?_
              refine Wp.ecallV (len := 3) rfl rfl rfl (rfl) rfl (by decide) rfl ((by have w := m_is (d := d + 5) (M := M) (h := 453773) hL (by decide); rw [show isS T 453773 (.inr s) = false from w453773] at w; exact w)) ?_
              refine Wp.n (pc' := 61) 2 rfl ?_
              refine Wp.ifb0 (tgt := 74) (len := 3) rfl (fun h61 => ?_) (fun h61 => ?_)
              · skip
                refine Wp.n (pc' := 76) 2 rfl ?_
                refine Wp.ic0 (tgt := 89) (len := 3) rfl (fun h76 => ?_) (fun h76 => ?_)
                · exact absurd h76 (by decide)
                · skip
                  refine Wp.n (pc' := 81) 2 rfl ?_
                  refine Wp.ecallV (len := 3) rfl rfl rfl (rfl) rfl (by decide) rfl (m_hasRead (k := 3) (by decide)) ?_
                  refine Wp.top (BM_h hB (by decide)) ?_
                  refine Wp.n (pc' := 86) 1 rfl ?_
                  refine Wp.nc0 (x := kh K 3) (y := 8) (tgt := 103) (len := 3) rfl (by omega) (by omega) (fun h86 => ?_) (fun h86 => ?_)
                  · skip
                    refine Wp.n (pc' := 105) 2 rfl ?_
                    refine Wp.callV (len := 3) rfl rfl rfl (rfl) rfl (by decide) rfl (m_fails hT hL (k := 3) (by decide)) ?_
                    rintro _ _ ⟨rfl, τ, rfl, f, hτ⟩
                    change LM τ T (.inl (3, s)) at hτ
                    refine Wp.n (pc' := 112) 2 rfl ?_
                    refine Wp.top hτ.1 ?_
                    refine Wp.nz0 (x := 3) (tgt := 116) (len := 3) rfl (by omega) (fun h112 => ?_) (fun h112 => ?_)
                    · omega
                    · skip
                      refine Wp.retV (len := 1) rfl rfl ?_
                      exact ⟨rfl, τ, rfl, f.k, hτ, fun q => by cases q⟩
                  · omega
              · cases h61
          · cases h21
        · cases h7
      · rw [if_neg cc]
        refine Wp.n (pc' := 4) 2 rfl ?_
        refine Wp.ecallV (len := 3) rfl rfl rfl (rfl) rfl (by decide) rfl ((by have w := m_is (d := d + 5) (M := M) (h := 237308) hL (by decide); rw [show isS T 237308 (.inr s) = false from w237308] at w; exact w)) ?_
        refine Wp.ifb0 (tgt := 14) (len := 3) rfl (fun h7 => ?_) (fun h7 => ?_)
        · skip
          refine Wp.n (pc' := 18) 2 rfl ?_
          refine Wp.ecallV (len := 3) rfl rfl rfl (rfl) rfl (by decide) rfl ((by have w := m_is (d := d + 5) (M := M) (h := 129523) hL (by decide); rw [show isS T 129523 (.inr s) = false from w129523] at w; exact w)) ?_
          refine Wp.ifb0 (tgt := 28) (len := 3) rfl (fun h21 => ?_) (fun h21 => ?_)
          · skip
            refine Wp.n (pc' := 32) 2 rfl ?_
            refine Wp.ecallV (len := 3) rfl rfl rfl (rfl) rfl (by decide) rfl ((by have w := m_is (d := d + 5) (M := M) (h := 50348) hL (by decide); rw [show isS T 50348 (.inr s) = true from w50348] at w; exact w)) ?_
            refine Wp.ifb0 (tgt := 42) (len := 3) rfl (fun h35 => ?_) (fun h35 => ?_)
            · cases h35
            · skip
              refine Wp.n (pc' := 48) 5 rfl ?_
              refine Wp.ecallV (len := 3) rfl rfl rfl (rfl) rfl (by decide) rfl ((by have w := m_is (d := d + 5) (M := M) (h := 365260) hL (by decide); rw [show isS T 365260 (.inr s) = false from w365260] at w; exact w)) ?_
              refine Wp.n (pc' := 56) 3 rfl ?_
              refine Wp.ecallV (len := 3) rfl rfl rfl (rfl) rfl (by decide) rfl ((by have w := m_is (d := d + 5) (M := M) (h := 453773) hL (by decide); rw [show isS T 453773 (.inr s) = false from w453773] at w; exact w)) ?_
              refine Wp.n (pc' := 61) 2 rfl ?_
              refine Wp.ifb0 (tgt := 74) (len := 3) rfl (fun h61 => ?_) (fun h61 => ?_)
              · skip
                refine Wp.n (pc' := 76) 2 rfl ?_
                refine Wp.ic0 (tgt := 89) (len := 3) rfl (fun h76 => ?_) (fun h76 => ?_)
                · exact absurd h76 (by decide)
                · skip
                  refine Wp.n (pc' := 81) 2 rfl ?_
                  refine Wp.ecallV (len := 3) rfl rfl rfl (rfl) rfl (by decide) rfl (m_hasRead (k := 3) (by decide)) ?_
                  refine Wp.top (BM_h hB (by decide)) ?_
                  refine Wp.n (pc' := 86) 1 rfl ?_
                  refine Wp.nc0 (x := kh K 3) (y := 8) (tgt := 103) (len := 3) rfl (by omega) (by omega) (fun h86 => ?_) (fun h86 => ?_)
                  · omega
                  · skip
                    refine Wp.n (pc' := 90) 1 rfl ?_
                    refine Wp.ifb0 (tgt := 108) (len := 3) rfl (fun h90 => ?_) (fun h90 => ?_)
                    · skip
                      refine Wp.n (pc' := 112) 2 rfl ?_
                      refine Wp.top h12 ?_
                      refine Wp.nz0 (x := 0) (tgt := 116) (len := 3) rfl (by omega) (fun h112 => ?_) (fun h112 => ?_)
                      · skip
                        refine Wp.n (pc' := 117) 1 rfl ?_
                        refine Wp.ifb1 (tgt := 129) (len := 3) rfl (fun h117 => ?_) (fun h117 => ?_)
                        · cases h117
                        · skip
                          refine Wp.n (pc' := 122) 2 rfl ?_
                          refine Wp.ic1 (tgt := 129) (len := 3) rfl (fun h122 => ?_) (fun h122 => ?_)
                          · skip
                            refine Wp.n (pc' := 130) 1 rfl ?_
                            refine Wp.callV (len := 3) rfl rfl rfl (rfl) rfl (by decide) rfl (LN_n hT h12 hN) ?_
                            rintro _ _ ⟨rfl, τ, rfl, f, hτ⟩
                            have hT1 := f.T hT
                            have hB1 := BM_b hB f
                            refine Wp.n (pc' := 134) 1 rfl ?_
                            refine Wp.ifb0 (tgt := 144) (len := 3) rfl (fun h134 => ?_) (fun h134 => ?_)
                            · skip
                              refine Wp.n (pc' := 145) 1 rfl ?_
                              refine Wp.ifb0 (tgt := 155) (len := 3) rfl (fun h145 => ?_) (fun h145 => ?_)
                              · skip
                                refine Wp.n (pc' := 157) 2 rfl ?_
                                refine Wp.callV (len := 3) rfl rfl rfl (rfl) rfl (by decide) rfl (m_laneLine (d := d) (so := 2) hT1 hτ hB1 ok hP hD (by omega) (by decide)) ?_
                                rintro _ _ h0
                                obtain ⟨rfl, τ2, rfl, h⟩ := RLn_b f h0
                                refine Wp.n (pc' := 231) 1 rfl ?_
                                refine Wp.retV (len := 1) rfl rfl ?_
                                exact ⟨rfl, τ2, rfl, h⟩
                              · cases h145
                            · cases h134
                          · exact absurd h122 (by decide)
                      · omega
                    · cases h90
              · cases h61
          · cases h21
        · cases h7
    have w50348 : isW T s 50348 = false := by simpa using c3
    by_cases c5 : isW T s 453773 = true
    · have w453773 := c5
      have w3436186 := isW_x (b := 3436186) c5 (by decide)
      have c4 : ¬ isW T s 3436186 = true := by rw [w3436186]; decide
      have sr : srt T s = 5 := by unfold srt; rw [if_neg c0, if_neg c1, if_neg c2, if_neg c3, if_neg c4, if_pos c5]
      rw [(lin_5 (K := K) sr).1, (lin_5 (K := K) sr).2]
      by_cases cc : kh K 4 = 10
      · rw [if_pos cc]
        refine Wp.n (pc' := 4) 2 rfl ?_
        refine Wp.ecallV (len := 3) rfl rfl rfl (rfl) rfl (by decide) rfl ((by have w := m_is (d := d + 5) (M := M) (h := 237308) hL (by decide); rw [show isS T 237308 (.inr s) = false from w237308] at w; exact w)) ?_
        refine Wp.ifb0 (tgt := 14) (len := 3) rfl (fun h7 => ?_) (fun h7 => ?_)
        · skip
          refine Wp.n (pc' := 18) 2 rfl ?_
          refine Wp.ecallV (len := 3) rfl rfl rfl (rfl) rfl (by decide) rfl ((by have w := m_is (d := d + 5) (M := M) (h := 129523) hL (by decide); rw [show isS T 129523 (.inr s) = false from w129523] at w; exact w)) ?_
          refine Wp.ifb0 (tgt := 28) (len := 3) rfl (fun h21 => ?_) (fun h21 => ?_)
          · skip
            refine Wp.n (pc' := 32) 2 rfl ?_
            refine Wp.ecallV (len := 3) rfl rfl rfl (rfl) rfl (by decide) rfl ((by have w := m_is (d := d + 5) (M := M) (h := 50348) hL (by decide); rw [show isS T 50348 (.inr s) = false from w50348] at w; exact w)) ?_
            refine Wp.ifb0 (tgt := 42) (len := 3) rfl (fun h35 => ?_) (fun h35 => ?_)
            · skip
              refine Wp.n (pc' := 48) 4 rfl ?_
              refine Wp.ecallV (len := 3) rfl rfl rfl (rfl) rfl (by decide) rfl ((by have w := m_is (d := d + 5) (M := M) (h := 365260) hL (by decide); rw [show isS T 365260 (.inr s) = false from w365260] at w; exact w)) ?_
              refine Wp.n (pc' := 56) 3 rfl ?_
              refine Wp.ecallV (len := 3) rfl rfl rfl (rfl) rfl (by decide) rfl ((by have w := m_is (d := d + 5) (M := M) (h := 453773) hL (by decide); rw [show isS T 453773 (.inr s) = true from w453773] at w; exact w)) ?_
              refine Wp.n (pc' := 61) 2 rfl ?_
              refine Wp.ifb0 (tgt := 74) (len := 3) rfl (fun h61 => ?_) (fun h61 => ?_)
              · skip
                refine Wp.n (pc' := 76) 2 rfl ?_
                refine Wp.ic0 (tgt := 89) (len := 3) rfl (fun h76 => ?_) (fun h76 => ?_)
                · skip
                  refine Wp.n (pc' := 90) 1 rfl ?_
                  refine Wp.ifb0 (tgt := 108) (len := 3) rfl (fun h90 => ?_) (fun h90 => ?_)
                  · cases h90
                  · skip
                    refine Wp.n (pc' := 95) 2 rfl ?_
                    refine Wp.ecallV (len := 3) rfl rfl rfl (rfl) rfl (by decide) rfl (m_hasRead (k := 4) (by decide)) ?_
                    refine Wp.top (BM_h hB (by decide)) ?_
                    refine Wp.n (pc' := 100) 1 rfl ?_
                    refine Wp.nc1 (x := kh K 4) (y := 10) (tgt := 108) (len := 3) rfl (by omega) (by omega) (fun h100 => ?_) (fun h100 => ?_)
                    · omega
                    · skip
                      refine Wp.n (pc' := 105) 2 rfl ?_
                      refine Wp.callV (len := 3) rfl rfl rfl (rfl) rfl (by decide) rfl (m_fails hT hL (k := 3) (by decide)) ?_
                      rintro _ _ ⟨rfl, τ, rfl, f, hτ⟩
                      change LM τ T (.inl (3, s)) at hτ
                      refine Wp.n (pc' := 112) 2 rfl ?_
                      refine Wp.top hτ.1 ?_
                      refine Wp.nz0 (x := 3) (tgt := 116) (len := 3) rfl (by omega) (fun h112 => ?_) (fun h112 => ?_)
                      · omega
                      · skip
                        refine Wp.retV (len := 1) rfl rfl ?_
                        exact ⟨rfl, τ, rfl, f.k, hτ, fun q => by cases q⟩
                · exact absurd rfl h76
              · cases h61
            · cases h35
          · cases h21
        · cases h7
      · rw [if_neg cc]
        refine Wp.n (pc' := 4) 2 rfl ?_
        refine Wp.ecallV (len := 3) rfl rfl rfl (rfl) rfl (by decide) rfl ((by have w := m_is (d := d + 5) (M := M) (h := 237308) hL (by decide); rw [show isS T 237308 (.inr s) = false from w237308] at w; exact w)) ?_
        refine Wp.ifb0 (tgt := 14) (len := 3) rfl (fun h7 => ?_) (fun h7 => ?_)
        · skip
          refine Wp.n (pc' := 18) 2 rfl ?_
          refine Wp.ecallV (len := 3) rfl rfl rfl (rfl) rfl (by decide) rfl ((by have w := m_is (d := d + 5) (M := M) (h := 129523) hL (by decide); rw [show isS T 129523 (.inr s) = false from w129523] at w; exact w)) ?_
          refine Wp.ifb0 (tgt := 28) (len := 3) rfl (fun h21 => ?_) (fun h21 => ?_)
          · skip
            refine Wp.n (pc' := 32) 2 rfl ?_
            refine Wp.ecallV (len := 3) rfl rfl rfl (rfl) rfl (by decide) rfl ((by have w := m_is (d := d + 5) (M := M) (h := 50348) hL (by decide); rw [show isS T 50348 (.inr s) = false from w50348] at w; exact w)) ?_
            refine Wp.ifb0 (tgt := 42) (len := 3) rfl (fun h35 => ?_) (fun h35 => ?_)
            · skip
              refine Wp.n (pc' := 48) 4 rfl ?_
              refine Wp.ecallV (len := 3) rfl rfl rfl (rfl) rfl (by decide) rfl ((by have w := m_is (d := d + 5) (M := M) (h := 365260) hL (by decide); rw [show isS T 365260 (.inr s) = false from w365260] at w; exact w)) ?_
              refine Wp.n (pc' := 56) 3 rfl ?_
              refine Wp.ecallV (len := 3) rfl rfl rfl (rfl) rfl (by decide) rfl ((by have w := m_is (d := d + 5) (M := M) (h := 453773) hL (by decide); rw [show isS T 453773 (.inr s) = true from w453773] at w; exact w)) ?_
              refine Wp.n (pc' := 61) 2 rfl ?_
              refine Wp.ifb0 (tgt := 74) (len := 3) rfl (fun h61 => ?_) (fun h61 => ?_)
              · skip
                refine Wp.n (pc' := 76) 2 rfl ?_
                refine Wp.ic0 (tgt := 89) (len := 3) rfl (fun h76 => ?_) (fun h76 => ?_)
                · skip
                  refine Wp.n (pc' := 90) 1 rfl ?_
                  refine Wp.ifb0 (tgt := 108) (len := 3) rfl (fun h90 => ?_) (fun h90 => ?_)
                  · cases h90
                  · skip
                    refine Wp.n (pc' := 95) 2 rfl ?_
                    refine Wp.ecallV (len := 3) rfl rfl rfl (rfl) rfl (by decide) rfl (m_hasRead (k := 4) (by decide)) ?_
                    refine Wp.top (BM_h hB (by decide)) ?_
                    refine Wp.n (pc' := 100) 1 rfl ?_
                    refine Wp.nc1 (x := kh K 4) (y := 10) (tgt := 108) (len := 3) rfl (by omega) (by omega) (fun h100 => ?_) (fun h100 => ?_)
                    · skip
                      refine Wp.n (pc' := 112) 2 rfl ?_
                      refine Wp.top h12 ?_
                      refine Wp.nz0 (x := 0) (tgt := 116) (len := 3) rfl (by omega) (fun h112 => ?_) (fun h112 => ?_)
                      · skip
                        refine Wp.n (pc' := 117) 1 rfl ?_
                        refine Wp.ifb1 (tgt := 129) (len := 3) rfl (fun h117 => ?_) (fun h117 => ?_)
                        · cases h117
                        · skip
                          refine Wp.n (pc' := 122) 2 rfl ?_
                          refine Wp.ic1 (tgt := 129) (len := 3) rfl (fun h122 => ?_) (fun h122 => ?_)
                          · exact absurd rfl h122
                          · skip
                            refine Wp.n (pc' := 126) 1 rfl ?_
                            refine Wp.ifb0 (tgt := 163) (len := 3) rfl (fun h126 => ?_) (fun h126 => ?_)
                            · cases h126
                            · skip
                              refine Wp.n (pc' := 130) 1 rfl ?_
                              refine Wp.callV (len := 3) rfl rfl rfl (rfl) rfl (by decide) rfl (LN_n hT h12 hN) ?_
                              rintro _ _ ⟨rfl, τ, rfl, f, hτ⟩
                              have hT1 := f.T hT
                              have hB1 := BM_b hB f
                              refine Wp.n (pc' := 134) 1 rfl ?_
                              refine Wp.ifb0 (tgt := 144) (len := 3) rfl (fun h134 => ?_) (fun h134 => ?_)
                              · skip
                                refine Wp.n (pc' := 145) 1 rfl ?_
                                refine Wp.ifb0 (tgt := 155) (len := 3) rfl (fun h145 => ?_) (fun h145 => ?_)
                                · cases h145
                                · skip
                                  refine Wp.n (pc' := 149) 1 rfl ?_
                                  refine Wp.callV (len := 3) rfl rfl rfl (rfl) rfl (by decide) rfl (m_walkLine (d := d) hT1 hτ hB1 ok hP hD (by omega)) ?_
                                  rintro _ _ h0
                                  obtain ⟨rfl, τ2, rfl, h⟩ := RLn_b f h0
                                  refine Wp.n (pc' := 231) 1 rfl ?_
                                  refine Wp.retV (len := 1) rfl rfl ?_
                                  exact ⟨rfl, τ2, rfl, h⟩
                              · cases h134
                      · omega
                    · omega
                · exact absurd rfl h76
              · cases h61
            · cases h35
          · cases h21
        · cases h7
    have w453773 : isW T s 453773 = false := by simpa using c5
    by_cases c4 : isW T s 3436186 = true
    · have sr : srt T s = 4 := by unfold srt; rw [if_neg c0, if_neg c1, if_neg c2, if_neg c3, if_pos c4]
      rw [(lin_4 (K := K) sr).1, (lin_4 (K := K) sr).2]
      refine Wp.n (pc' := 4) 2 rfl ?_
      refine Wp.ecallV (len := 3) rfl rfl rfl (rfl) rfl (by decide) rfl ((by have w := m_is (d := d + 5) (M := M) (h := 237308) hL (by decide); rw [show isS T 237308 (.inr s) = false from w237308] at w; exact w)) ?_
      refine Wp.ifb0 (tgt := 14) (len := 3) rfl (fun h7 => ?_) (fun h7 => ?_)
      · skip
        refine Wp.n (pc' := 18) 2 rfl ?_
        refine Wp.ecallV (len := 3) rfl rfl rfl (rfl) rfl (by decide) rfl ((by have w := m_is (d := d + 5) (M := M) (h := 129523) hL (by decide); rw [show isS T 129523 (.inr s) = false from w129523] at w; exact w)) ?_
        refine Wp.ifb0 (tgt := 28) (len := 3) rfl (fun h21 => ?_) (fun h21 => ?_)
        · skip
          refine Wp.n (pc' := 32) 2 rfl ?_
          refine Wp.ecallV (len := 3) rfl rfl rfl (rfl) rfl (by decide) rfl ((by have w := m_is (d := d + 5) (M := M) (h := 50348) hL (by decide); rw [show isS T 50348 (.inr s) = false from w50348] at w; exact w)) ?_
          refine Wp.ifb0 (tgt := 42) (len := 3) rfl (fun h35 => ?_) (fun h35 => ?_)
          · skip
            refine Wp.n (pc' := 48) 4 rfl ?_
            refine Wp.ecallV (len := 3) rfl rfl rfl (rfl) rfl (by decide) rfl ((by have w := m_is (d := d + 5) (M := M) (h := 365260) hL (by decide); rw [show isS T 365260 (.inr s) = false from w365260] at w; exact w)) ?_
            refine Wp.n (pc' := 56) 3 rfl ?_
            refine Wp.ecallV (len := 3) rfl rfl rfl (rfl) rfl (by decide) rfl ((by have w := m_is (d := d + 5) (M := M) (h := 453773) hL (by decide); rw [show isS T 453773 (.inr s) = false from w453773] at w; exact w)) ?_
            refine Wp.n (pc' := 61) 2 rfl ?_
            refine Wp.ifb0 (tgt := 74) (len := 3) rfl (fun h61 => ?_) (fun h61 => ?_)
            · skip
              refine Wp.n (pc' := 76) 2 rfl ?_
              refine Wp.ic0 (tgt := 89) (len := 3) rfl (fun h76 => ?_) (fun h76 => ?_)
              · skip
                refine Wp.n (pc' := 90) 1 rfl ?_
                refine Wp.ifb0 (tgt := 108) (len := 3) rfl (fun h90 => ?_) (fun h90 => ?_)
                · skip
                  refine Wp.n (pc' := 112) 2 rfl ?_
                  refine Wp.top h12 ?_
                  refine Wp.nz0 (x := 0) (tgt := 116) (len := 3) rfl (by omega) (fun h112 => ?_) (fun h112 => ?_)
                  · skip
                    refine Wp.n (pc' := 117) 1 rfl ?_
                    refine Wp.ifb1 (tgt := 129) (len := 3) rfl (fun h117 => ?_) (fun h117 => ?_)
                    · cases h117
                    · skip
                      refine Wp.n (pc' := 122) 2 rfl ?_
                      refine Wp.ic1 (tgt := 129) (len := 3) rfl (fun h122 => ?_) (fun h122 => ?_)
                      · exact absurd rfl h122
                      · skip
                        refine Wp.n (pc' := 126) 1 rfl ?_
                        refine Wp.ifb0 (tgt := 163) (len := 3) rfl (fun h126 => ?_) (fun h126 => ?_)
                        · skip
                          refine Wp.n (pc' := 167) 2 rfl ?_
                          refine Wp.callV (len := 3) rfl rfl rfl (rfl) rfl (by decide) rfl (m_takes (d := d + 3) (h := 3436186) hT hL (by decide)) ?_
                          rintro _ _ ⟨rfl, τ, rfl, f, hτ⟩
                          rw [show isS T 3436186 (.inr s) = true from c4, if_pos rfl] at hτ
                          rw [show isS T 3436186 (.inr s) = true from c4]
                          change LM τ T (.inr (nx T s)) at hτ
                          have hT1 := f.T hT
                          have hB1 := BM_b hB f
                          refine Wp.ifb0 (tgt := 213) (len := 3) rfl (fun h170 => ?_) (fun h170 => ?_)
                          · cases h170
                          · skip
                            refine Wp.n (pc' := 180) 5 rfl ?_
                            refine Wp.ecallV (len := 3) rfl rfl rfl (rfl) rfl (by decide) rfl (m_hasRead (k := 1) (by decide)) ?_
                            refine Wp.top (BM_h hB1 (by decide)) ?_
                            refine Wp.n (pc' := 184) 1 rfl ?_
                            refine Wp.isubN (x := kh K 1) (y := 1) (len := 1) rfl (by omega) ?_
                            refine Wp.callV (len := 3) rfl rfl rfl (rfl) rfl (by decide) rfl (m_numberW (d := d + 1) (h := 419) (lo := 0) (hi := kh K 1 - 1) hT1 hτ (by decide) (fun q => ⟨rfl, rfl, by omega, by omega⟩)) ?_
                            rintro _ _ ⟨x, rfl, hx, τ2, rfl, f2, l2⟩
                            have hB2 := BM_b hB1 f2
                            change LM τ2 T (fd2 T K (.inr (nx T s))) at l2
                            refine Wp.n (pc' := 191) 2 rfl ?_
                            refine Wp.ecallV (len := 3) rfl rfl rfl (rfl) rfl (by decide) rfl (m_isGood l2) ?_
                            refine Wp.ifb0 (tgt := 210) (len := 3) rfl (fun h194 => ?_) (fun h194 => ?_)
                            · skip
                              refine Wp.n (pc' := 231) 1 rfl ?_
                              refine Wp.retV (len := 1) rfl rfl ?_
                              first
                                | (have q0 : gd (fd2 T K (.inr (nx T s))) = false := h194
                                   exact ⟨rfl, τ2, rfl, (f.t f2).k, l2, fun q => by rw [q0] at q; cases q⟩)
                                | skip
                              first
                                | done
                                | (refine ⟨rfl, _, rfl, (f.t f2).k.t FrK.l, LM_l l2, fun _ => BM_fd (x := 2 ^ nmV T (fd1 T (.inr (nx T s)))) hB2 rfl ?_⟩
                                   show vp_updL (τ2.2.2.2 8) 4 (τ2.2.2.2 8 4 ||| _) 4 = _
                                   have hb : nmV T (fd1 T (.inr (nx T s))) < 31 := by omega
                                   change nmV T (wdS T 419 (.inr (nx T s))) < 31 at hb
                                   rw [lu_s, show τ2.2.2.2 8 4 = lN (kh K 12) from hB2.1.2.2.2.1, l_sh1 _ hb, l_or]
                                   rfl)
                            · skip
                              obtain rfl := hx h194
                              have hx7 : 0 ≤ nmV T (fd1 T (.inr (nx T s))) ∧ nmV T (fd1 T (.inr (nx T s))) ≤ kh K 1 - 1 := nm_le h194
                              refine Wp.n (pc' := 203) 4 rfl ?_
                              refine Wp.mlaldN (j := 4) (len := 1) rfl rfl rfl (by omega) ?_
                              refine Wp.n (pc' := 209) 4 rfl ?_
                              refine Wp.mlastN (j := 4) (len := 1) rfl rfl rfl (by omega) ?_
                              refine Wp.n (pc' := 231) 1 rfl ?_
                              refine Wp.retV (len := 1) rfl rfl ?_
                              first
                                | (have q0 : gd (fd2 T K (.inr (nx T s))) = false := h194
                                   exact ⟨rfl, τ2, rfl, (f.t f2).k, l2, fun q => by rw [q0] at q; cases q⟩)
                                | skip
                              first
                                | done
                                | (refine ⟨rfl, _, rfl, (f.t f2).k.t FrK.l, LM_l l2, fun _ => BM_fd (x := 2 ^ nmV T (fd1 T (.inr (nx T s)))) hB2 rfl ?_⟩
                                   show vp_updL (τ2.2.2.2 8) 4 (τ2.2.2.2 8 4 ||| _) 4 = _
                                   have hb : nmV T (fd1 T (.inr (nx T s))) < 31 := by omega
                                   change nmV T (wdS T 419 (.inr (nx T s))) < 31 at hb
                                   rw [lu_s, show τ2.2.2.2 8 4 = lN (kh K 12) from hB2.1.2.2.2.1, l_sh1 _ hb, l_or]
                                   rfl)
                        · cases h126
                  · omega
                · cases h90
              · exact absurd rfl h76
            · cases h61
          · cases h35
        · cases h21
      · cases h7
    have w3436186 : isW T s 3436186 = false := by simpa using c4
    have sr : srt T s = 6 := by unfold srt; rw [if_neg c0, if_neg c1, if_neg c2, if_neg c3, if_neg c4, if_neg c5]
    rw [(lin_6 (K := K) sr).1, (lin_6 (K := K) sr).2]
    refine Wp.n (pc' := 4) 2 rfl ?_
    refine Wp.ecallV (len := 3) rfl rfl rfl (rfl) rfl (by decide) rfl ((by have w := m_is (d := d + 5) (M := M) (h := 237308) hL (by decide); rw [show isS T 237308 (.inr s) = false from w237308] at w; exact w)) ?_
    refine Wp.ifb0 (tgt := 14) (len := 3) rfl (fun h7 => ?_) (fun h7 => ?_)
    · skip
      refine Wp.n (pc' := 18) 2 rfl ?_
      refine Wp.ecallV (len := 3) rfl rfl rfl (rfl) rfl (by decide) rfl ((by have w := m_is (d := d + 5) (M := M) (h := 129523) hL (by decide); rw [show isS T 129523 (.inr s) = false from w129523] at w; exact w)) ?_
      refine Wp.ifb0 (tgt := 28) (len := 3) rfl (fun h21 => ?_) (fun h21 => ?_)
      · skip
        refine Wp.n (pc' := 32) 2 rfl ?_
        refine Wp.ecallV (len := 3) rfl rfl rfl (rfl) rfl (by decide) rfl ((by have w := m_is (d := d + 5) (M := M) (h := 50348) hL (by decide); rw [show isS T 50348 (.inr s) = false from w50348] at w; exact w)) ?_
        refine Wp.ifb0 (tgt := 42) (len := 3) rfl (fun h35 => ?_) (fun h35 => ?_)
        · skip
          refine Wp.n (pc' := 48) 4 rfl ?_
          refine Wp.ecallV (len := 3) rfl rfl rfl (rfl) rfl (by decide) rfl ((by have w := m_is (d := d + 5) (M := M) (h := 365260) hL (by decide); rw [show isS T 365260 (.inr s) = false from w365260] at w; exact w)) ?_
          refine Wp.n (pc' := 56) 3 rfl ?_
          refine Wp.ecallV (len := 3) rfl rfl rfl (rfl) rfl (by decide) rfl ((by have w := m_is (d := d + 5) (M := M) (h := 453773) hL (by decide); rw [show isS T 453773 (.inr s) = false from w453773] at w; exact w)) ?_
          refine Wp.n (pc' := 61) 2 rfl ?_
          refine Wp.ifb0 (tgt := 74) (len := 3) rfl (fun h61 => ?_) (fun h61 => ?_)
          · skip
            refine Wp.n (pc' := 76) 2 rfl ?_
            refine Wp.ic0 (tgt := 89) (len := 3) rfl (fun h76 => ?_) (fun h76 => ?_)
            · skip
              refine Wp.n (pc' := 90) 1 rfl ?_
              refine Wp.ifb0 (tgt := 108) (len := 3) rfl (fun h90 => ?_) (fun h90 => ?_)
              · skip
                refine Wp.n (pc' := 112) 2 rfl ?_
                refine Wp.top h12 ?_
                refine Wp.nz0 (x := 0) (tgt := 116) (len := 3) rfl (by omega) (fun h112 => ?_) (fun h112 => ?_)
                · skip
                  refine Wp.n (pc' := 117) 1 rfl ?_
                  refine Wp.ifb1 (tgt := 129) (len := 3) rfl (fun h117 => ?_) (fun h117 => ?_)
                  · cases h117
                  · skip
                    refine Wp.n (pc' := 122) 2 rfl ?_
                    refine Wp.ic1 (tgt := 129) (len := 3) rfl (fun h122 => ?_) (fun h122 => ?_)
                    · exact absurd rfl h122
                    · skip
                      refine Wp.n (pc' := 126) 1 rfl ?_
                      refine Wp.ifb0 (tgt := 163) (len := 3) rfl (fun h126 => ?_) (fun h126 => ?_)
                      · skip
                        refine Wp.n (pc' := 167) 2 rfl ?_
                        refine Wp.callV (len := 3) rfl rfl rfl (rfl) rfl (by decide) rfl (m_takes (d := d + 3) (h := 3436186) hT hL (by decide)) ?_
                        rintro _ _ ⟨rfl, τ, rfl, f, hτ⟩
                        rw [show isS T 3436186 (.inr s) = false from w3436186, if_neg (by decide)] at hτ
                        rw [show isS T 3436186 (.inr s) = false from w3436186]
                        have hT1 := f.T hT
                        refine Wp.ifb0 (tgt := 213) (len := 3) rfl (fun h170 => ?_) (fun h170 => ?_)
                        · skip
                          refine Wp.n (pc' := 217) 2 rfl ?_
                          refine Wp.callV (len := 3) rfl rfl rfl (rfl) rfl (by decide) rfl (m_asks (d := d + 2) (h := 8798) hT1 hτ (by decide)) ?_
                          rintro _ _ ⟨rfl, τ2, rfl, f2, l2⟩
                          have hT2 := f2.T hT1
                          have hB2 := BM_b hB (f.t f2)
                          change LM τ2 T (lw1 T (.inr s)) at l2
                          refine Wp.n (pc' := 221) 1 rfl ?_
                          refine Wp.ecallV (len := 3) rfl rfl rfl (rfl) rfl (by decide) rfl (m_isGood l2) ?_
                          refine Wp.ifb0 (tgt := 231) (len := 3) rfl (fun h224 => ?_) (fun h224 => ?_)
                          · skip
                            refine Wp.retV (len := 1) rfl rfl ?_
                            first
                              | exact ⟨rfl, τ3, rfl, h⟩
                              | (rcases hq : lw1 T (.inr s) with z | s2
                                 · rw [hq] at l2
                                   exact ⟨rfl, τ2, rfl, (f.t f2).k, l2, fun q => by cases q⟩
                                 · rw [hq] at h224; cases h224)
                          · skip
                            rcases hq : lw1 T (.inr s) with z | s2
                            · rw [hq] at h224; cases h224
                            rw [hq] at l2
                            refine Wp.n (pc' := 228) 1 rfl ?_
                            refine Wp.callV (len := 3) rfl rfl rfl (rfl) rfl (by decide) rfl (m_lawLine (d := d) hT2 l2 hB2) ?_
                            rintro _ _ h0
                            obtain ⟨rfl, τ3, rfl, h⟩ := RLn_b (f.t f2) h0
                            refine Wp.retV (len := 1) rfl rfl ?_
                            first
                              | exact ⟨rfl, τ3, rfl, h⟩
                              | (rcases hq : lw1 T (.inr s) with z | s2
                                 · rw [hq] at l2
                                   exact ⟨rfl, τ2, rfl, (f.t f2).k, l2, fun q => by cases q⟩
                                 · rw [hq] at h224; cases h224)
                        · cases h170
                      · cases h126
                · omega
              · cases h90
            · exact absurd rfl h76
          · cases h61
        · cases h35
      · cases h21
    · cases h7
end LNA
end
section
/-! THE TEXT: what it makes; it goes on; the kingdom stays one. -/
def bodS (T : TP) (K : KD) (s : Nat) : St := if kh K 5 = 0 then pf6 T (.inr s) else linS T K s
def bodK (T : TP) (K : KD) (s : Nat) : KD := if kh K 5 = 0 then firK T (.inr s) else linK T K s
def incL (K : KD) : KD := (fun i => if i = 5 then kh K 5 + 1 else kh K i, K.2)
def prsT (T : TP) : Nat → St → KD → St × KD
  | 0, st, K => (st, K)
  | _ + 1, .inl x, K => (.inl x, K)
  | n + 1, .inr s, K => if tk T s = 0 then (.inr s, K) else prsT T n (endS T (bodS T K s)) (incL (bodK T K s))
def Ge (T : TP) (s : Nat) (st : St) : Prop := ∀ s', st = .inr s' → s ≤ s' ∧ s' ≤ T.1
section GE
variable {T : TP} {s : Nat} {st : St} {K : KD}
theorem Ge_i {x : Nat × Nat} : Ge T s (.inl x) := fun s' h => by cases h
theorem Ge_s (h : s ≤ T.1) : Ge T s (.inr s) := fun s' e => by cases e; exact ⟨Nat.le_refl _, h⟩
theorem nx_ge (h : s ≤ T.1) : s ≤ nx T s ∧ nx T s ≤ T.1 := by
  have h1 := en_le h
  have h2 := nx_le h
  omega
theorem Ge_n {q : Nat} (h : Ge T s (.inr q)) : Ge T s (.inr (nx T q)) := fun s' e => by
  cases e
  have h1 := h q rfl
  have h2 := nx_ge h1.2
  omega
theorem Ge_nm {lo hi : Nat} (h : Ge T s st) : Ge T s (nmS T lo hi st) := by
  rcases st with x | q
  · exact Ge_i
  · show Ge T s (if _ then (if _ then _ else _) else _)
    split
    · split
      · exact Ge_n h
      · exact Ge_i
    · exact Ge_i
theorem Ge_wd {w : Nat} (h : Ge T s st) : Ge T s (wdS T w st) := by
  rcases st with x | q
  · exact Ge_i
  · show Ge T s (if _ then _ else _)
    split
    · exact Ge_n h
    · exact Ge_i
theorem Ge_ot {P : Nat} {ok : Nat → Bool} (h : Ge T s st) : Ge T s (otS T P ok st) := by
  rcases st with x | q
  · exact Ge_i
  · show Ge T s (if _ then (if _ then _ else _) else _)
    split
    · split
      · exact Ge_n h
      · exact Ge_i
    · exact Ge_i
theorem Ge_ad (h : Ge T s st) : Ge T s (adS T st) := by
  rcases st with x | q
  · exact Ge_i
  · exact Ge_n h
theorem Ge_lw (h : Ge T s st) : Ge T s (lawS T st) := by
  rcases st with x | q
  · exact Ge_i
  · show Ge T s (if _ then _ else _)
    split
    · exact Ge_n h
    · exact Ge_i
theorem Ge_wk {P : Nat} : ∀ (n : Nat) {pl : Nat → Nat} {i : Nat} {st : St}, Ge T s st → Ge T s (wlk T P n pl i st).1
  | 0, pl, i, st, h => by
    show Ge T s (fl3 st (otS T P (wlo pl i) st))
    rcases st with x | q
    · exact Ge_i
    · rcases otS T P (wlo pl i) (.inr q) with x | q2
      · exact Ge_i
      · exact Ge_i
  | n + 1, pl, i, st, h => by
    have h1 : Ge T s (otS T P (wlo pl i) st) := Ge_ot h
    rcases hq : otS T P (wlo pl i) st with x | q2
    · have e : wlk T P (n + 1) pl i st = (.inl x, pl, i) := by
        show (match otS T P (wlo pl i) st with | .inl x => _ | .inr s' => _) = _
        rw [hq]
      rw [e]; exact Ge_i
    · have e : wlk T P (n + 1) pl i st = if tk T q2 = 2 then wlk T P n (nup pl i (nmV T st)) (i + 1) (.inr q2) else (.inr q2, nup pl i (nmV T st), i + 1) := by
        show (match otS T P (wlo pl i) st with | .inl x => _ | .inr s' => _) = _
        rw [hq]
      rw [hq] at h1
      rw [e]
      split
      · exact Ge_wk n h1
      · exact h1
theorem Ge_bod (h : s ≤ T.1) : Ge T s (bodS T K s) := by
  have h0 := Ge_s h
  have h1 := Ge_n h0
  unfold bodS
  split
  · exact Ge_nm (Ge_wd (Ge_nm (Ge_wd (Ge_nm (Ge_wd (Ge_nm (Ge_wd (Ge_nm (Ge_wd (Ge_wd h0))))))))))
  · unfold linS
    split
    · split
      · exact Ge_i
      · exact Ge_nm (Ge_ot (Ge_wd (Ge_nm h1)))
    · split
      · split
        · exact Ge_i
        · have h4 : Ge T s (ln4 T K (.inr (nx T s))) := Ge_nm (Ge_ot (Ge_wd (Ge_nm h1)))
          have h6 : ∀ so, Ge T s (ln6 T K so (.inr (nx T s))) := fun so => by
            unfold ln6
            split
            · exact Ge_nm (Ge_wd (Ge_nm (Ge_wd h4)))
            · exact h4
          unfold ln7
          split
          · exact Ge_nm (Ge_ad (h6 _))
          · exact h6 _
      · split
        · exact Ge_nm (Ge_wd h1)
        · split
          · split
            · exact Ge_i
            · exact Ge_wk 6 (Ge_wd (Ge_nm (Ge_wd (Ge_nm (Ge_wd (Ge_nm (Ge_wd (Ge_nm h1))))))))
          · exact Ge_lw (Ge_wd h0)
/-- each line goes on -/
theorem step_lt {s' : Nat} (h : s ≤ T.1) (e : endS T (bodS T K s) = .inr s') : s < s' ∧ s' ≤ T.1 := by
  have h1 := Ge_bod (K := K) h
  rcases hq : bodS T K s with x | q
  · rw [hq] at e; cases e
  · rw [hq] at e h1
    have h2 := h1 q rfl
    by_cases c : tk T q = 3
    · rw [show endS T (.inr q) = .inr (nx T q) from if_pos c] at e
      cases e
      have h3 : q < T.1 := by
        by_cases cq : q < T.1
        · exact cq
        · rw [tk_0.mpr (by omega)] at c; cases c
      have h4 := en_lt h3
      have h5 := nx_le h2.2
      omega
    · rw [show endS T (.inr q) = .inl (1, q) from if_neg c] at e
      cases e
theorem gd_end (h : gd (endS T st) = true) : gd st = true := by
  rcases st with x | q
  · cases h
  · rfl
end GE
/-- a kingdom that is being read -/
def PK (K : KD) : Prop := KOK K ∧ kh K 11 = 0 ∧ R30 K ∧ (0 < kh K 5 → 2 ≤ kh K 0 ∧ 1 ≤ kh K 1) ∧ (kh K 5 = 0 → K = K0)
theorem KOK_K0 : KOK K0 := by
  refine ⟨?_, ?_, ?_, ?_, ?_, ?_, ?_, ?_, ?_, ?_, ?_, ?_, ?_, ?_, ?_, ?_, ?_, ?_⟩
  all_goals first
    | decide
    | (intro i hi; exact absurd hi (Nat.not_lt_zero _))
    | (intro i j hi; exact absurd hi (Nat.not_lt_zero _))
    | (intro i hi
       rcases hi with hi | hi
       · exact absurd hi (Nat.not_lt_zero _)
       · exact absurd hi.2 (by show ¬ (0 : Nat) = 1; decide))
theorem PK_K0 : PK K0 := ⟨KOK_K0, rfl, fun i hi => absurd hi (Nat.not_lt_zero _), fun h => absurd h (by decide), fun _ => rfl⟩
section PKS
variable {T : TP} {s : Nat} {st : St} {K : KD}
theorem btw_s (a b x y : Nat) : btw a b x y = btw x y a b := by
  unfold btw
  rw [Bool.eq_iff_iff]
  simp only [Bool.or_eq_true, Bool.and_eq_true, decide_eq_true_eq]
  omega
theorem PK_road (h : PK K) (h5 : 0 < kh K 5) (hl : kh K 5 < 2000) (hr : kh K 2 < 12) (g : gd (rd4 T K st) = true) : PK (incL (rdK T K st)) := by
  obtain ⟨ok, h11, h30, hpd, _⟩ := h
  obtain ⟨p1, p2⟩ := hpd h5
  have g3 : gd (rd3 T K st) = true := gd_nm g
  have g1 : gd (rd1 T K st) = true := gd_wd (gd_ot g3)
  have na : 0 ≤ nmV T st ∧ nmV T st ≤ kh K 0 - 1 := nm_le g1
  have nb : nmV T (rd2 T K st) < kh K 0 ∧ rdo T K st (nmV T (rd2 T K st)) = true := ot_ok g3
  have nc : 1 ≤ nmV T (rd3 T K st) ∧ nmV T (rd3 T K st) ≤ 30 := nm_le g
  unfold rdK
  generalize nmV T (rd3 T K st) = c at nc
  obtain ⟨nb1, nb2⟩ := nb
  unfold rdo at nb2
  generalize nmV T (rd2 T K st) = b at nb1 nb2
  generalize nmV T st = a at na nb2
  rw [Bool.and_eq_true] at nb2
  have nb3 : b ≠ a := of_decide_eq_true nb2.1
  have nb4 : roadK K a b = none := by
    cases e : roadK K a b with
    | none => rfl
    | some z => rw [e] at nb2; cases nb2.2
  have nb5 := fnd_none nb4
  obtain ⟨k0, k1, k2, k3, k4, k5, k6, k7, k8, k9, k10, k11, k12, kz, kR, kL, kW, kU⟩ := ok
  have er : ∀ i, kr (incL (addR K a b c)) i = if i = kh K 2 then (fun j => if j = 0 then a else if j = 1 then b else c) else kr K i := fun i => rfl
  have rn : kr (incL (addR K a b c)) (kh K 2) = (fun j => if j = 0 then a else if j = 1 then b else c) := if_pos rfl
  have ro : ∀ i, i ≠ kh K 2 → kr (incL (addR K a b c)) i = kr K i := fun i hi => if_neg hi
  refine ⟨⟨k0, k1, ?_, k3, k4, ?_, k6, k7, k8, k9, k10, k11, k12, ?_, fun i hi => ?_, kL, kW, fun i j hi hj hb => ?_⟩, h11, fun i hi => ?_, fun _ => ⟨p1, p2⟩, fun q => by cases q⟩
  · show kh K 2 + 1 ≤ 12; omega
  · show kh K 5 + 1 ≤ 2000; omega
  · show 0 < kh K 5 + 1 ↔ 0 < kh K 0; omega
  · have hi' : i < kh K 2 + 1 := hi
    by_cases q : i = kh K 2
    · subst q
      rw [rn]
      show a < kh K 0 ∧ b < kh K 0 ∧ a ≠ b ∧ 1 ≤ c ∧ c ≤ 129
      omega
    · rw [ro i q]; exact kR i (by omega)
  · have hi' : i < kh K 2 + 1 := hi
    have hj' : j < kh K 2 + 1 := hj
    by_cases qi : i = kh K 2
    · by_cases qj : j = kh K 2
      · omega
      · subst qi
        rw [rn, ro j qj] at hb
        have hb' : btw a b (kr K j 0) (kr K j 1) = true := hb
        rw [btw_s, nb5 j (by omega) (by omega)] at hb'
        cases hb'
    · by_cases qj : j = kh K 2
      · subst qj
        rw [rn, ro i qi] at hb
        have hb' : btw (kr K i 0) (kr K i 1) a b = true := hb
        rw [nb5 i (by omega) (by omega)] at hb'
        cases hb'
      · rw [ro i qi, ro j qj] at hb
        exact kU i j (by omega) (by omega) hb
  · have hi' : i < kh K 2 + 1 := hi
    by_cases q : i = kh K 2
    · subst q
      rw [rn]
      exact nc.2
    · rw [ro i q]; exact h30 i (by omega)
theorem PK_lane (h : PK K) (h5 : 0 < kh K 5) (hl : kh K 5 < 2000) (hr : kh K 3 < 8) {so : Nat} (hso : so ≤ 2) (g : gd (ln7 T K so st) = true) : PK (incL (lnK T K so st)) := by
  obtain ⟨ok, h11, h30, hpd, _⟩ := h
  obtain ⟨p1, p2⟩ := hpd h5
  have g6 : gd (ln6 T K so st) = true := by
    unfold ln7 at g
    split at g
    · exact gd_ad (gd_nm g)
    · exact g
  have hw : lnR T K so st 6 ≤ 100 := by
    show (if lnw T K so st = true then _ else _) ≤ 100
    unfold ln7 at g
    by_cases c : lnw T K so st = true
    · rw [if_pos c]; rw [if_pos c] at g; exact (nm_le g).2
    · rw [if_neg c]; omega
  have k1 := ok.2.1
  have g4 : gd (ln4 T K st) = true ∧ lnR T K so st 3 ≤ 30 ∧ lnR T K so st 4 ≤ 30 := by
    show _ ∧ (if so = 0 then _ else _) ≤ 30 ∧ (if so = 0 then _ else _) ≤ 30
    unfold ln6 at g6
    by_cases c : so = 0
    · rw [if_pos c] at g6
      rw [if_pos c, if_pos c]
      have g5 : gd (ln5 T K st) = true := gd_wd (gd_nm g6)
      have n1 := (nm_le g6).2
      have n2 : 0 ≤ nmV T (lnf T K st) ∧ nmV T (lnf T K st) ≤ kh K 1 - 1 := nm_le g5
      exact ⟨gd_wd (gd_nm g5), by omega, by omega⟩
    · rw [if_neg c] at g6
      rw [if_neg c, if_neg c]
      exact ⟨g6, by omega, by omega⟩
  have g3 : gd (ln3 T K st) = true := gd_nm g4.1
  have na : 0 ≤ nmV T st ∧ nmV T st ≤ kh K 0 - 1 := nm_le (gd_wd (gd_ot g3))
  have nb : nmV T (rd2 T K st) < kh K 0 ∧ lno T st (nmV T (rd2 T K st)) = true := ot_ok g3
  have nb3 : nmV T (rd2 T K st) ≠ nmV T st := of_decide_eq_true nb.2
  have nc : 1 ≤ nmV T (ln3 T K st) ∧ nmV T (ln3 T K st) ≤ 30 := nm_le g4.1
  have v0 : lnR T K so st 0 = nmV T st := rfl
  have v1 : lnR T K so st 1 = nmV T (rd2 T K st) := rfl
  have v2 : lnR T K so st 2 = nmV T (ln3 T K st) := rfl
  have v5 : lnR T K so st 5 = so := rfl
  unfold lnK
  obtain ⟨k0, k1, k2, k3, k4, k5, k6, k7, k8, k9, k10, k11, k12, kz, kR, kL, kW, kU⟩ := ok
  refine ⟨⟨k0, k1, k2, ?_, k4, ?_, k6, k7, k8, k9, k10, k11, k12, ?_, kR, fun i hi => ?_, kW, kU⟩, h11, h30, fun _ => ⟨p1, p2⟩, fun q => by cases q⟩
  · show kh K 3 + 1 ≤ 8; omega
  · show kh K 5 + 1 ≤ 2000; omega
  · show 0 < kh K 5 + 1 ↔ 0 < kh K 0; omega
  · have hi' : i < kh K 3 + 1 ∨ (i = 8 ∧ kh K 11 = 1) := hi
    have el : kl (incL (addL K (lnR T K so st))) i = if i = kh K 3 then lnR T K so st else kl K i := rfl
    rw [el]
    by_cases q : i = kh K 3
    · rw [if_pos q]
      show _ < kh K 0 ∧ _ < kh K 0 ∧ _
      omega
    · rw [if_neg q]; exact kL i (Or.inl (by omega))
theorem wlk_ok {P : Nat} : ∀ (n : Nat) {pl : Nat → Nat} {i : Nat} {st : St}, n + i = 7 → 1 ≤ i → (∀ j, j < i → pl j < P) → (∀ j, j + 1 < i → pl j ≠ pl (j + 1)) → gd (wlk T P n pl i st).1 = true → 2 ≤ (wlk T P n pl i st).2.2 ∧ (wlk T P n pl i st).2.2 ≤ 7 ∧ (∀ j, j < (wlk T P n pl i st).2.2 → (wlk T P n pl i st).2.1 j < P) ∧ ∀ j, j + 1 < (wlk T P n pl i st).2.2 → (wlk T P n pl i st).2.1 j ≠ (wlk T P n pl i st).2.1 (j + 1)
  | 0, pl, i, st, hn, hi, h1, h2, g => by
    have g' : gd (fl3 st (otS T P (wlo pl i) st)) = true := g
    rcases st with x | q
    · cases g'
    · rcases hq : otS T P (wlo pl i) (.inr q) with x | q2
      · rw [hq] at g'; cases g'
      · rw [hq] at g'; cases g'
  | n + 1, pl, i, st, hn, hi, h1, h2, g => by
    rcases hq : otS T P (wlo pl i) st with x | q2
    · have e : wlk T P (n + 1) pl i st = (.inl x, pl, i) := by
        show (match otS T P (wlo pl i) st with | .inl x => _ | .inr s' => _) = _
        rw [hq]
      rw [e] at g; cases g
    · have e : wlk T P (n + 1) pl i st = if tk T q2 = 2 then wlk T P n (nup pl i (nmV T st)) (i + 1) (.inr q2) else (.inr q2, nup pl i (nmV T st), i + 1) := by
        show (match otS T P (wlo pl i) st with | .inl x => _ | .inr s' => _) = _
        rw [hq]
      have o := ot_ok (st := st) (by rw [hq]; rfl)
      have o2 : nmV T st ≠ pl (i - 1) := of_decide_eq_true o.2
      have u1 : ∀ j, j < i + 1 → nup pl i (nmV T st) j < P := fun j hj => by
        unfold nup
        by_cases c : j = i
        · rw [if_pos c]; exact o.1
        · rw [if_neg c]; exact h1 j (by omega)
      have u2 : ∀ j, j + 1 < i + 1 → nup pl i (nmV T st) j ≠ nup pl i (nmV T st) (j + 1) := fun j hj => by
        unfold nup
        rw [if_neg (by omega)]
        by_cases c : j + 1 = i
        · rw [if_pos c]
          rw [show i - 1 = j by omega] at o2
          exact fun z => o2 z.symm
        · rw [if_neg c]; exact h2 j (by omega)
      rw [e] at g ⊢
      by_cases c : tk T q2 = 2
      · rw [if_pos c] at g ⊢
        exact wlk_ok n (by omega) (by omega) u1 u2 g
      · rw [if_neg c]
        exact ⟨by show 2 ≤ i + 1; omega, by show i + 1 ≤ 7; omega, u1, u2⟩
theorem gd_wk {P : Nat} : ∀ (n : Nat) {pl : Nat → Nat} {i : Nat} {st : St}, gd (wlk T P n pl i st).1 = true → gd st = true
  | 0, pl, i, st, g => by
    rcases st with x | q
    · cases (show gd (fl3 (.inl x) (otS T P (wlo pl i) (.inl x))) = true from g)
    · rfl
  | n + 1, pl, i, st, g => by
    rcases st with x | q
    · cases (show gd (.inl x) = true from g)
    · rfl
theorem PK_walk (h : PK K) (h5 : 0 < kh K 5) (hl : kh K 5 < 2000) (hr : kh K 4 < 10) (g : gd (wkr T K st).1 = true) : PK (incL (wkK T K st)) := by
  obtain ⟨ok, h11, h30, hpd, _⟩ := h
  obtain ⟨p1, p2⟩ := hpd h5
  have g5 : gd (wk5 T K st) = true := gd_wk 6 g
  have g4 : gd (wk4 T K st) = true := gd_wd g5
  have g3 : gd (wk3 T K st) = true := gd_wd (gd_nm g4)
  have g2 : gd (wk2 T st) = true := gd_wd (gd_nm g3)
  have g1 : gd (wk1 T st) = true := gd_wd (gd_nm g2)
  have n1 := (nm_le g1).2
  have n2 : 1 ≤ nmV T (wka T st) ∧ nmV T (wka T st) ≤ 9 := nm_le g2
  have n3 : 0 ≤ nmV T (wkb T st) ∧ nmV T (wkb T st) ≤ kh K 1 - 1 := nm_le g3
  have n4 : 0 ≤ nmV T (wkc T K st) ∧ nmV T (wkc T K st) ≤ kh K 0 - 1 := nm_le g4
  have w := wlk_ok (T := T) (P := kh K 0) 6 (pl := fun _ => nmV T (wkc T K st)) (i := 1) (st := wk5 T K st) (by decide) (by decide) (fun j hj => by omega) (fun j hj => by omega) g
  change 2 ≤ (wkr T K st).2.2 ∧ (wkr T K st).2.2 ≤ 7 ∧ (∀ j, j < (wkr T K st).2.2 → (wkr T K st).2.1 j < kh K 0) ∧ ∀ j, j + 1 < (wkr T K st).2.2 → (wkr T K st).2.1 j ≠ (wkr T K st).2.1 (j + 1) at w
  unfold wkK
  generalize wkr T K st = r at w
  obtain ⟨k0, k1, k2, k3, k4, k5, k6, k7, k8, k9, k10, k11, k12, kz, kR, kL, kW, kU⟩ := ok
  refine ⟨⟨k0, k1, k2, k3, ?_, ?_, k6, k7, k8, k9, k10, k11, k12, ?_, kR, kL, fun i hi => ?_, kU⟩, h11, h30, fun _ => ⟨p1, p2⟩, fun q => by cases q⟩
  · show kh K 4 + 1 ≤ 10; omega
  · show kh K 5 + 1 ≤ 2000; omega
  · show 0 < kh K 5 + 1 ↔ 0 < kh K 0; omega
  · have hi' : i < kh K 4 + 1 := hi
    have el : kw (incL (addW K (wkG (nmV T st) (nmV T (wka T st)) (nmV T (wkb T st)) r))) i = if i = kh K 4 then wkG (nmV T st) (nmV T (wka T st)) (nmV T (wkb T st)) r else kw K i := rfl
    rw [el]
    by_cases q : i = kh K 4
    · rw [if_pos q]
      refine ⟨n1, n2.1, n2.2, ?_, w.1, w.2.1, fun j hj => ?_, fun j hj => ?_⟩
      · show nmV T (wkb T st) < kh K 1; omega
      · rw [wkG_4]; exact w.2.2.1 j hj
      · rw [wkG_4, show 4 + j + 1 = 4 + (j + 1) by omega, wkG_4]; exact w.2.2.2 j hj
    · rw [if_neg q]; exact kW i (by omega)
theorem PK_flood (h : PK K) (h5 : 0 < kh K 5) (hl : kh K 5 < 2000) (g : gd (fd2 T K st) = true) : PK (incL (fdK T K st)) := by
  obtain ⟨ok, h11, h30, hpd, _⟩ := h
  obtain ⟨p1, p2⟩ := hpd h5
  have n3 : 0 ≤ nmV T (fd1 T st) ∧ nmV T (fd1 T st) ≤ kh K 1 - 1 := nm_le g
  obtain ⟨k0, k1, k2, k3, k4, k5, k6, k7, k8, k9, k10, k11, k12, kz, kR, kL, kW, kU⟩ := ok
  refine ⟨⟨k0, k1, k2, k3, k4, ?_, k6, k7, k8, k9, k10, k11, ?_, ?_, kR, kL, kW, kU⟩, h11, h30, fun _ => ⟨p1, p2⟩, fun q => by cases q⟩
  · show kh K 5 + 1 ≤ 2000; omega
  · show kh K 12 ||| 2 ^ nmV T (fd1 T st) < 2 ^ 30
    exact Nat.or_lt_two_pow k12 (Nat.pow_lt_pow_right (by decide) (by omega))
  · show 0 < kh K 5 + 1 ↔ 0 < kh K 0; omega
theorem PK_law (h : PK K) (h5 : 0 < kh K 5) (hl : kh K 5 < 2000) {k : Nat} : PK (incL (lawH K k)) := by
  obtain ⟨ok, h11, h30, hpd, _⟩ := h
  obtain ⟨p1, p2⟩ := hpd h5
  have hm : lwm k = 3 ∨ lwm k = 4 := by unfold lwm; split <;> simp
  have hv : lwv k ≤ 1 := by unfold lwv; split <;> omega
  have ek : ∀ j, j ≠ 5 → j ≠ 9 → j ≠ 10 → kh (incL (lawH K k)) j = kh K j := fun j h5 h9 h10 => by
    show (if j = 5 then _ else if j = 6 + lwm k then lwv k else kh K j) = _
    rw [if_neg h5, if_neg (by omega)]
  have e9 : ∀ j, j = 9 ∨ j = 10 → kh K j ≤ 1 → kh (incL (lawH K k)) j ≤ 1 := fun j hj hk => by
    show (if j = 5 then _ else if j = 6 + lwm k then lwv k else kh K j) ≤ 1
    rw [if_neg (by omega)]
    split
    · exact hv
    · exact hk
  have e5 : kh (incL (lawH K k)) 5 = kh K 5 + 1 := by
    show (if (5 : Nat) = 6 + lwm k then lwv k else kh K 5) + 1 = _
    rw [if_neg (by omega)]
  have eR : kr (incL (lawH K k)) = kr K := rfl
  have eL : kl (incL (lawH K k)) = kl K := rfl
  have eW : kw (incL (lawH K k)) = kw K := rfl
  obtain ⟨k0, k1, k2, k3, k4, k5, k6, k7, k8, k9, k10, k11, k12, kz, kR, kL, kW, kU⟩ := ok
  unfold PK KOK R30
  rw [eR, eL, eW, e5, ek 0 (by decide) (by decide) (by decide), ek 1 (by decide) (by decide) (by decide), ek 2 (by decide) (by decide) (by decide), ek 3 (by decide) (by decide) (by decide), ek 4 (by decide) (by decide) (by decide), ek 6 (by decide) (by decide) (by decide), ek 7 (by decide) (by decide) (by decide), ek 8 (by decide) (by decide) (by decide), ek 11 (by decide) (by decide) (by decide), ek 12 (by decide) (by decide) (by decide)]
  exact ⟨⟨k0, k1, k2, k3, k4, by omega, k6, k7, k8, e9 9 (by decide) k9, e9 10 (by decide) k10, k11, k12, by omega, kR, kL, kW, kU⟩, h11, h30, fun _ => ⟨p1, p2⟩, fun q => absurd q (by omega)⟩
theorem PK_first (g : gd (pf6 T st) = true) : PK (incL (firK T st)) := by
  have g5 : gd (pf5 T st) = true := gd_wd (gd_nm g)
  have g4 : gd (pf4 T st) = true := gd_wd (gd_nm g5)
  have g3 : gd (pf3 T st) = true := gd_wd (gd_nm g4)
  have g2 : gd (pf2 T st) = true := gd_wd (gd_nm g3)
  have n6 := (nm_le g).2
  have n5 := (nm_le g5).2
  have n4 := (nm_le g4).2
  have n3 := nm_le g3
  have n2 := nm_le g2
  refine ⟨⟨n2.2, n3.2, (show (0 : Nat) ≤ 12 by decide), (show (0 : Nat) ≤ 8 by decide), (show (0 : Nat) ≤ 10 by decide), (show (1 : Nat) ≤ 2000 by decide), n4, n5, n6, (show (1 : Nat) ≤ 1 by decide), (show (0 : Nat) ≤ 1 by decide), (show (0 : Nat) ≤ 1 by decide), (show (0 : Nat) < 2 ^ 30 by decide), ?_, fun i hi => absurd hi (Nat.not_lt_zero _), fun i hi => ?_, fun i hi => absurd hi (Nat.not_lt_zero _), fun i j hi => absurd hi (Nat.not_lt_zero _)⟩, rfl, fun i hi => absurd hi (Nat.not_lt_zero _), fun _ => ⟨n2.1, n3.1⟩, fun q => by cases q⟩
  · exact ⟨fun _ => Nat.lt_of_lt_of_le (by decide) n2.1, fun _ => show (0 : Nat) < 1 by decide⟩
  · rcases hi with hi | hi
    · exact absurd hi (Nat.not_lt_zero _)
    · exact absurd hi.2 (by show ¬ (0 : Nat) = 1; decide)
theorem srt_le : srt T s ≤ 6 := by
  unfold srt
  repeat' split
  all_goals omega
theorem PK_step (h : PK K) (hl : kh K 5 < 2000) (g : gd (endS T (bodS T K s)) = true) : PK (incL (bodK T K s)) := by
  have gb := gd_end g
  have hs := srt_le (T := T) (s := s)
  have k2 := h.1.2.2.1
  have k3 := h.1.2.2.2.1
  have k4 := h.1.2.2.2.2.1
  unfold bodS at gb
  unfold bodK
  by_cases c : kh K 5 = 0
  · rw [if_pos c] at gb ⊢
    exact PK_first gb
  · rw [if_neg c] at gb ⊢
    have h5 : 0 < kh K 5 := by omega
    by_cases c0 : srt T s = 0
    · rw [show linS T K s = _ from if_pos c0] at gb
      rw [show linK T K s = _ from if_pos c0]
      by_cases cc : kh K 2 = 12
      · rw [if_pos cc] at gb; cases gb
      · rw [if_neg cc] at gb
        exact PK_road h h5 hl (by omega) gb
    · by_cases c1 : srt T s < 4
      · obtain ⟨k, hk⟩ : ∃ k, srt T s = k + 1 := ⟨srt T s - 1, by omega⟩
        rw [(lin_1 hk (by omega)).1] at gb
        rw [(lin_1 hk (by omega)).2]
        by_cases cc : kh K 3 = 8
        · rw [if_pos cc] at gb; cases gb
        · rw [if_neg cc] at gb
          exact PK_lane h h5 hl (by omega) (by omega) gb
      · by_cases c4 : srt T s = 4
        · rw [(lin_4 c4).1] at gb
          rw [(lin_4 c4).2]
          exact PK_flood h h5 hl gb
        · by_cases c5 : srt T s = 5
          · rw [(lin_5 c5).1] at gb
            rw [(lin_5 c5).2]
            by_cases cc : kh K 4 = 10
            · rw [if_pos cc] at gb; cases gb
            · rw [if_neg cc] at gb
              exact PK_walk h h5 hl (by omega) gb
          · rw [(lin_6 (by omega)).2]
            exact PK_law h h5 hl
end PKS
end
section
/-! THE TEXT READ: the reference. -/
def flt : St → Nat × Option Nat
  | .inl x => (x.1, some x.2)
  | .inr _ => (0, none)
def kinR (T : TP) : St × KD := prsT T 2001 (.inr (bl T 0)) K0
def kinA (T : TP) : Int32 := if gd (kinR T).1 = true then nI (kh (kinR T).2 5) else -4
def kinN (T : TP) (K : KD) : KD := if gd (kinR T).1 = true then (kinR T).2 else K
def FrKin (σ σ' : MS) : Prop := (∀ j, List.elem j [6, 7, 8, 9, 10, 12, 13, 14, 15] = false → σ'.1 j = σ.1 j) ∧ (∀ k, List.elem k [5, 6, 7, 9, 10, 11] = false → σ'.2.2.1 k = σ.2.2.1 k) ∧ (∀ k, k ≠ 8 → σ'.2.2.2 k = σ.2.2.2 k) ∧ ∀ s K, 1 ≤ s → s < 4 → KOK K → RepM σ s K → RepM σ' s K
section KIN
variable {d : Nat} {M : AM} {σ σ' τ τ' : MS} {T : TP} {st : St} {K : KD} {Q : Option Value → AM → Prop}
theorem m_clears_l : ∀ (n i : Nat) {τ : MS}, i + n = 5 → FrK σ τ → τ.2.2.1 5 4 = nI 0 → (∀ j, j < i → τ.2.2.1 6 (20 + j) = nI 0 ∧ τ.2.2.1 7 (20 + j) = nI (if j = 3 then 1 else 0)) → Wp d md_161 9 [some (.ref 287), some (.int (nI i))] [] (mset M τ) (fun v M' => v = none ∧ ∃ σ', M' = mset M σ' ∧ FrK σ σ' ∧ BM σ' K0)
  | 0, i, τ, hn, f, h5, h => by
    refine Wp.n (pc' := 11) 2 rfl ?_
    refine Wp.nc3 (x := i) (y := 5) (tgt := 49) (len := 3) rfl (by omega) (by omega) (fun h11 => ?_) (fun h11 => ?_)
    · skip
      refine Wp.n (pc' := 55) 4 rfl ?_
      refine Wp.mlastN (j := 4) (len := 1) rfl rfl rfl (by omega) ?_
      refine Wp.retV (len := 1) rfl rfl ?_
      have hl : ∀ j, j < 5 → τ.2.2.1 7 (20 + j) = nI (kh K0 (6 + j)) := fun j hj => by
        rw [(h j (by omega)).2]
        show _ = nI (if 6 + j = 9 then 1 else 0)
        by_cases c : j = 3
        · rw [if_pos c, if_pos (by omega)]
        · rw [if_neg c, if_neg (by omega)]
      refine ⟨rfl, _, rfl, f.t FrK.l, ⟨fun j hj => ?_, fun h0 => absurd h0 (by decide), h5, ?_, fun i hi => absurd hi (Nat.not_lt_zero _), fun i hi => ?_, fun i hi => absurd hi (Nat.not_lt_zero _)⟩, hl, rfl⟩
      · show τ.2.2.1 6 (20 + j) = nI (if j = 9 then 1 else 0)
        rw [if_neg (by omega)]; exact (h j (by omega)).1
      · show vp_updL (τ.2.2.2 8) 4 _ 4 = _
        rw [lu_s]
        rfl
      · rcases hi with hi | hi
        · exact absurd hi (Nat.not_lt_zero _)
        · exact absurd hi.2 (by show ¬ (0 : Nat) = 1; decide)
    · omega
  | n + 1, i, τ, hn, f, h5, h => by
    have nx2 : ∀ (x : Int32), x = nI (if i = 3 then 1 else 0) → Wp d md_161 9 [some (.ref 287), some (.int (nI (i + 1)))] [] (mset M (aset (aset τ 6 (upd (τ.2.2.1 6) (20 + i) 0)) 7 (upd ((aset τ 6 (upd (τ.2.2.1 6) (20 + i) 0)).2.2.1 7) (20 + i) x))) (fun v M' => v = none ∧ ∃ σ', M' = mset M σ' ∧ FrK σ σ' ∧ BM σ' K0) := by
      intro x hx
      refine m_clears_l n (i + 1) (by omega) (f.t ((FrK.a (by unfold dcl; omega)).t (FrK.a (by unfold dcl; omega)))) h5 (fun j hj => ?_)
      refine ⟨?_, ?_⟩
      · show upd (τ.2.2.1 6) (20 + i) 0 (20 + j) = _
        by_cases c : j = i
        · rw [c, pk_us]; rfl
        · rw [pk_un (by omega)]; exact (h j (by omega)).1
      · show upd (τ.2.2.1 7) (20 + i) x (20 + j) = _
        by_cases c : j = i
        · rw [c, pk_us, hx]
        · rw [pk_un (by omega)]; exact (h j (by omega)).2
    refine Wp.n (pc' := 11) 2 rfl ?_
    refine Wp.nc3 (x := i) (y := 5) (tgt := 49) (len := 3) rfl (by omega) (by omega) (fun h11 => ?_) (fun h11 => ?_)
    · omega
    · skip
      refine Wp.n (pc' := 21) 4 rfl ?_
      refine Wp.iaddN (x := 20) (y := i) (len := 1) rfl ?_
      refine Wp.n (pc' := 23) 1 rfl ?_
      refine Wp.miastN (j := 20 + i) (len := 1) rfl rfl rfl (by omega) ?_
      refine Wp.n (pc' := 31) 4 rfl ?_
      refine Wp.iaddN (x := 20) (y := i) (len := 1) rfl ?_
      refine Wp.n (pc' := 34) 2 rfl ?_
      refine Wp.nc1 (x := i) (y := 3) (tgt := 41) (len := 3) rfl (by omega) (by omega) (fun h34 => ?_) (fun h34 => ?_)
      · skip
        refine Wp.n (pc' := 42) 1 rfl ?_
        refine Wp.miastN (j := 20 + i) (len := 1) rfl rfl rfl (by omega) ?_
        refine Wp.incN (x := i) (len := 3) rfl rfl ?_
        refine Wp.n (pc' := 9) 1 rfl ?_
        first
          | (have q : i = 3 := h34
             exact nx2 1 (by rw [if_pos q]; rfl))
          | (have q : ¬ i = 3 := h34
             exact nx2 0 (by rw [if_neg q]; rfl))
      · skip
        refine Wp.n (pc' := 42) 2 rfl ?_
        refine Wp.miastN (j := 20 + i) (len := 1) rfl rfl rfl (by omega) ?_
        refine Wp.incN (x := i) (len := 3) rfl rfl ?_
        refine Wp.n (pc' := 9) 1 rfl ?_
        first
          | (have q : i = 3 := h34
             exact nx2 1 (by rw [if_pos q]; rfl))
          | (have q : ¬ i = 3 := h34
             exact nx2 0 (by rw [if_neg q]; rfl))
theorem m_clears : Wp d md_161 0 [some (.ref 287), none] [] (mset M σ) (fun v M' => v = none ∧ ∃ σ', M' = mset M σ' ∧ FrK σ σ' ∧ BM σ' K0) := by
  refine Wp.n (pc' := 6) 4 rfl ?_
  refine Wp.miastN (j := 4) (len := 1) rfl rfl rfl (by omega) ?_
  refine Wp.n (pc' := 9) 2 rfl ?_
  exact m_clears_l 5 0 (by decide) (FrK.a (by unfold dcl; omega)) (show upd (σ.2.2.1 5) 4 0 4 = _ by rw [pk_us]; rfl) (fun j hj => by omega)
theorem m_begins (hT : TM σ T) : Wp (d + 2) md_162 0 [some (.ref 287)] [] (mset M σ) (fun v M' => v = none ∧ RdB M σ T (.inr (bl T 0)) M') := by
  refine Wp.n (pc' := 2) 2 rfl ?_
  refine Wp.mput (len := 3) rfl rfl ?_
  refine Wp.n (pc' := 7) 2 rfl ?_
  refine Wp.mput (len := 3) rfl rfl ?_
  refine Wp.n (pc' := 12) 2 rfl ?_
  refine Wp.mput (len := 3) rfl rfl ?_
  refine Wp.n (pc' := 16) 1 rfl ?_
  refine Wp.callV (len := 3) rfl rfl rfl (rfl) rfl (by decide) rfl (m_next (p := 0) (FrB.T ((FrB.f rfl).t ((FrB.f rfl).t (FrB.f rfl))) hT) (Nat.zero_le _) rfl) ?_
  rintro _ _ ⟨rfl, τ, rfl, f, h⟩
  refine Wp.retV (len := 1) rfl rfl ?_
  exact ⟨rfl, τ, rfl, ((FrB.f rfl).t ((FrB.f rfl).t (FrB.f rfl))).t f.b, f.1 12 rfl, h⟩
theorem m_isOver (hL : LM σ T st) (hT : TM σ T) : Wp d md_183 0 [some (.ref 287)] [] (mset M σ) (fun v M' => v = none ∧ ∃ σ', M' = mset M σ' ∧ (∀ j, List.elem j [6, 14, 15] = false → σ'.1 j = σ.1 j) ∧ σ'.2 = σ.2 ∧ FM σ' (flt st) ∧ TM σ' (0, T.2)) := by
  have e : ∀ (a b c : Int32) j, List.elem j [6, 14, 15] = false → (fset (fset (fset σ 6 a) 14 b) 15 c).1 j = σ.1 j := fun a b c j hj => (pk_un (fun q => by rw [q] at hj; cases hj)).trans ((pk_un (fun q => by rw [q] at hj; cases hj)).trans (pk_un (fun q => by rw [q] at hj; cases hj)))
  rcases st with x | s
  · have x1 := hL.2.1
    have x3 := hL.2.2.1
    refine Wp.n (pc' := 2) 2 rfl ?_
    refine Wp.mput (len := 3) rfl rfl ?_
    refine Wp.n (pc' := 10) 3 rfl ?_
    refine Wp.top hL.1 ?_
    refine Wp.mput (len := 3) rfl rfl ?_
    refine Wp.n (pc' := 18) 3 rfl ?_
    refine Wp.top hL.1 ?_
    refine Wp.nz1 (x := x.1) (tgt := 25) (len := 3) rfl (by omega) (fun h18 => ?_) (fun h18 => ?_)
    · skip
      refine Wp.n (pc' := 29) 2 rfl ?_
      refine Wp.top hL.2.2.2.1 ?_
      refine Wp.mput (len := 3) rfl rfl ?_
      refine Wp.retV (len := 1) rfl rfl ?_
      exact ⟨rfl, _, rfl, e _ _ _, rfl, ⟨rfl, rfl⟩, rfl, Nat.zero_le _, fun i hi => absurd hi (Nat.not_lt_zero _)⟩
    · omega
  · skip
    refine Wp.n (pc' := 2) 2 rfl ?_
    refine Wp.mput (len := 3) rfl rfl ?_
    refine Wp.n (pc' := 10) 3 rfl ?_
    refine Wp.top hL.1 ?_
    refine Wp.mput (len := 3) rfl rfl ?_
    refine Wp.n (pc' := 18) 3 rfl ?_
    refine Wp.top hL.1 ?_
    refine Wp.nz1 (x := 0) (tgt := 25) (len := 3) rfl (by omega) (fun h18 => ?_) (fun h18 => ?_)
    · omega
    · skip
      refine Wp.n (pc' := 29) 2 rfl ?_
      refine Wp.mput (len := 3) rfl rfl ?_
      refine Wp.retV (len := 1) rfl rfl ?_
      exact ⟨rfl, _, rfl, e _ _ _, rfl, ⟨rfl, rfl⟩, rfl, Nat.zero_le _, fun i hi => absurd hi (Nat.not_lt_zero _)⟩
theorem bod_5 {s : Nat} : kh (bodK T K s) 5 = kh K 5 := by
  unfold bodK
  by_cases c : kh K 5 = 0
  · rw [if_pos c, c]; rfl
  · rw [if_neg c]
    unfold linK
    split
    · rfl
    · split
      · rfl
      · split
        · rfl
        · split
          · rfl
          · have hm : ∀ k, lwm k = 3 ∨ lwm k = 4 := fun k => by unfold lwm; split <;> simp
            exact if_neg (by have := hm (lwq T (lw1 T (.inr s))); omega)
theorem BM_inc (hB : BM σ K) : BM (aset σ 5 (upd (σ.2.2.1 5) 4 (nI (kh K 5 + 1)))) (incL K) := by
  obtain ⟨⟨h1, h2, h3, h4, h5, h6, h7⟩, hl, h11⟩ := hB
  have ek : ∀ j, j ≠ 5 → kh (incL K) j = kh K j := fun j hj => if_neg hj
  have hl' : ∀ j, j < 5 → σ.2.2.1 7 (20 + j) = nI (kh (incL K) (6 + j)) := fun j hj => by rw [ek (6 + j) (by omega)]; exact hl j hj
  refine ⟨⟨fun j hj => ?_, fun _ => hl', ?_, h4, h5, h6, h7⟩, hl', h11⟩
  · rw [ek j (by omega)]; exact h1 j hj
  · show upd (σ.2.2.1 5) 4 _ 4 = _
    rw [pk_us]; rfl
theorem m_kin_l (hT : TM σ T) {r : St × KD} (kk : ∀ τ', FrK σ τ' → LM τ' T r.1 → (gd r.1 = true → BM τ' r.2 ∧ PK r.2) → Wp (d + 8) md_160 71 [some (.ref 287)] [] (mset M τ') Q) : ∀ (n : Nat) {st : St} {K : KD} {τ : MS}, FrK σ τ → LM τ T st → (gd st = true → BM τ K ∧ PK K) → (∀ s, st = .inr s → kh K 5 ≤ s ∧ T.1 - s < n) → prsT T n st K = r → Wp (d + 8) md_160 13 [some (.ref 287)] [] (mset M τ) Q
  | n, .inl x, K, τ, f, l, hB, hs, hr => by
    have e : r = (.inl x, K) := by
      rw [← hr]
      cases n <;> rfl
    subst e
    refine Wp.n (pc' := 14) 1 rfl ?_
    refine Wp.ecallV (len := 3) rfl rfl rfl (rfl) rfl (by decide) rfl (m_isGood l) ?_
    refine Wp.ifb0 (tgt := 71) (len := 3) rfl (fun h17 => ?_) (fun h17 => ?_)
    · skip
      exact kk τ f l (fun q => by cases q)
    · cases h17
  | 0, .inr s, K, τ, f, l, hB, hs, hr => absurd (hs s rfl).2 (Nat.not_lt_zero _)
  | n + 1, .inr s, K, τ, f, l, hB, hs, hr => by
    obtain ⟨hB1, hP⟩ := hB rfl
    obtain ⟨s5, sn⟩ := hs s rfl
    obtain ⟨l12, lN_⟩ := id l
    have sT := lN_.2.2.2.2.2
    have t20 := hT.2.1
    have t4 := tk_le (T := T) (s := s)
    have ok := hP.1
    have k5 := (ok_h ok).2.2.2.2.2.1
    by_cases c0 : tk T s = 0
    · have e : r = (.inr s, K) := by
        rw [← hr]
        exact if_pos c0
      subst e
      refine Wp.n (pc' := 14) 1 rfl ?_
      refine Wp.ecallV (len := 3) rfl rfl rfl (rfl) rfl (by decide) rfl (m_isGood l) ?_
      refine Wp.ifb0 (tgt := 71) (len := 3) rfl (fun h17 => ?_) (fun h17 => ?_)
      · cases h17
      · skip
        refine Wp.n (pc' := 24) 2 rfl ?_
        refine Wp.top lN_.2.1 ?_
        refine Wp.nz0 (x := tk T s) (tgt := 71) (len := 3) rfl (by omega) (fun h24 => ?_) (fun h24 => ?_)
        · skip
          exact kk τ f l (fun _ => ⟨hB1, hP⟩)
        · omega
    · have st0 : s < T.1 := by
        by_cases c : s < T.1
        · exact c
        · exact absurd (tk_0.mpr (by omega)) c0
      have e : r = prsT T n (endS T (bodS T K s)) (incL (bodK T K s)) := by
        rw [← hr]
        exact if_neg c0
      have tail : ∀ τ1, FrK τ τ1 → LM τ1 T (bodS T K s) → (gd (bodS T K s) = true → BM τ1 (bodK T K s)) → Wp (d + 8) md_160 47 [some (.ref 287)] [] (mset M τ1) Q := by
        intro τ1 f1 l1 b1
        have hT1 := (f.t f1).T hT
        rcases hq : bodS T K s with x | s1
        · rw [hq] at l1
          have es : endS T (bodS T K s) = .inl x := by rw [hq]; rfl
          rw [es] at e
          refine Wp.n (pc' := 48) 1 rfl ?_
          refine Wp.ecallV (len := 3) rfl rfl rfl (rfl) rfl (by decide) rfl (m_isGood l1) ?_
          refine Wp.ifb0 (tgt := 58) (len := 3) rfl (fun h51 => ?_) (fun h51 => ?_)
          · skip
            refine Wp.n (pc' := 64) 4 rfl ?_
            refine Wp.mialdN (j := 4) (len := 1) rfl rfl rfl (by omega) ?_
            refine Wp.n (pc' := 67) 2 rfl ?_
            refine Wp.miastN (j := 4) (len := 1) rfl rfl rfl (by omega) ?_
            refine Wp.n (pc' := 13) 1 rfl ?_
            exact m_kin_l hT kk n (f.t (f1.t (FrK.a (by unfold dcl; omega)))) (LM_a (st := .inl x) l1) (fun q => by cases q) (fun s q => by cases q) e.symm
          · cases h51
        · rw [hq] at l1 b1
          have b2 := b1 rfl
          refine Wp.n (pc' := 48) 1 rfl ?_
          refine Wp.ecallV (len := 3) rfl rfl rfl (rfl) rfl (by decide) rfl (m_isGood l1) ?_
          refine Wp.ifb0 (tgt := 58) (len := 3) rfl (fun h51 => ?_) (fun h51 => ?_)
          · cases h51
          · skip
            refine Wp.n (pc' := 55) 1 rfl ?_
            refine Wp.callV (len := 3) rfl rfl rfl (rfl) rfl (by decide) rfl (m_ends (d := d + 5) hT1 l1) ?_
            rintro _ _ ⟨rfl, τ2, rfl, f2, l2⟩
            have b3 := BM_b b2 f2
            refine Wp.n (pc' := 64) 4 rfl ?_
            refine Wp.mialdN (j := 4) (len := 1) rfl rfl rfl (by omega) ?_
            refine Wp.top (b3.1.2.2.1.trans (congrArg nI bod_5)) ?_
            refine Wp.n (pc' := 66) 1 rfl ?_
            refine Wp.iaddN (x := kh K 5) (y := 1) (len := 1) rfl ?_
            refine Wp.miastN (j := 4) (len := 1) rfl rfl rfl (by omega) ?_
            refine Wp.n (pc' := 13) 1 rfl ?_
            refine m_kin_l hT kk n (f.t (f1.t (f2.k.t (FrK.a (by unfold dcl; omega))))) (st := endS T (bodS T K s)) (by rw [hq]; exact LM_a l2) (fun g => ⟨?_, ?_⟩) (fun s' q => ?_) e.symm
            · have w := BM_inc b3
              rw [bod_5] at w
              exact w
            · exact PK_step hP (by omega) g
            · have h1 := step_lt sT q
              have h2 : kh (incL (bodK T K s)) 5 = kh K 5 + 1 := by
                show kh (bodK T K s) 5 + 1 = _
                rw [bod_5]
              omega
      by_cases c5 : kh K 5 = 0
      · have eK := hP.2.2.2.2 c5
        subst eK
        refine Wp.n (pc' := 14) 1 rfl ?_
        refine Wp.ecallV (len := 3) rfl rfl rfl (rfl) rfl (by decide) rfl (m_isGood l) ?_
        refine Wp.ifb0 (tgt := 71) (len := 3) rfl (fun h17 => ?_) (fun h17 => ?_)
        · cases h17
        · skip
          refine Wp.n (pc' := 24) 2 rfl ?_
          refine Wp.top lN_.2.1 ?_
          refine Wp.nz0 (x := tk T s) (tgt := 71) (len := 3) rfl (by omega) (fun h24 => ?_) (fun h24 => ?_)
          · omega
          · skip
            refine Wp.n (pc' := 32) 3 rfl ?_
            refine Wp.mialdN (j := 4) (len := 1) rfl rfl rfl (by omega) ?_
            refine Wp.top hB1.1.2.2.1 ?_
            refine Wp.nz1 (x := 0) (tgt := 43) (len := 3) rfl (by omega) (fun h33 => ?_) (fun h33 => ?_)
            · omega
            · skip
              refine Wp.n (pc' := 37) 1 rfl ?_
              refine Wp.callV (len := 3) rfl rfl rfl (rfl) rfl (by decide) rfl (m_first (d := d + 2) (f.T hT) l hB1) ?_
              rintro _ _ ⟨rfl, τ1, rfl, f1, l1, b1⟩
              refine Wp.n (pc' := 47) 1 rfl ?_
              exact tail τ1 f1 l1 b1
      · obtain ⟨p1, p2⟩ := hP.2.2.2.1 (by omega)
        have eS : bodS T K s = linS T K s := if_neg c5
        have eK : bodK T K s = linK T K s := if_neg c5
        refine Wp.n (pc' := 14) 1 rfl ?_
        refine Wp.ecallV (len := 3) rfl rfl rfl (rfl) rfl (by decide) rfl (m_isGood l) ?_
        refine Wp.ifb0 (tgt := 71) (len := 3) rfl (fun h17 => ?_) (fun h17 => ?_)
        · cases h17
        · skip
          refine Wp.n (pc' := 24) 2 rfl ?_
          refine Wp.top lN_.2.1 ?_
          refine Wp.nz0 (x := tk T s) (tgt := 71) (len := 3) rfl (by omega) (fun h24 => ?_) (fun h24 => ?_)
          · omega
          · skip
            refine Wp.n (pc' := 32) 3 rfl ?_
            refine Wp.mialdN (j := 4) (len := 1) rfl rfl rfl (by omega) ?_
            refine Wp.top hB1.1.2.2.1 ?_
            refine Wp.nz1 (x := kh K 5) (tgt := 43) (len := 3) rfl (by omega) (fun h33 => ?_) (fun h33 => ?_)
            · skip
              refine Wp.n (pc' := 44) 1 rfl ?_
              refine Wp.callV (len := 3) rfl rfl rfl (rfl) rfl (by decide) rfl (m_line (d := d + 1) (f.T hT) l hB1 ok p1 p2) ?_
              rintro _ _ ⟨rfl, τ1, rfl, f1, l1, b1⟩
              exact tail τ1 f1 (by rw [eS]; exact l1) (by rw [eS, eK]; exact b1)
            · omega
theorem m_kingdom (hM : MK σ K) (h11 : kh K 11 = 0) (hT : TM σ T) : Wp (d + 9) md_160 0 [some (.ref 287)] [] (mset M σ) (fun v M' => v = some (.int (kinA T)) ∧ ∃ σ', M' = mset M σ' ∧ FrKin σ σ' ∧ MK σ' (kinN T K) ∧ FM σ' (flt (kinR T).1) ∧ TM σ' (0, T.2)) := by
  obtain ⟨hR0, ok, h25, hσ0⟩ := hM
  have t20 := hT.2.1
  refine Wp.n (pc' := 2) 2 rfl ?_
  refine Wp.mput0 (len := 3) rfl hσ0 ?_
  refine Wp.n (pc' := 6) 1 rfl ?_
  refine Wp.callV (len := 3) rfl rfl rfl (rfl) rfl (by decide) rfl (m_clears (d := d + 8)) ?_
  rintro _ _ ⟨rfl, τ1, rfl, f1, b1⟩
  refine Wp.n (pc' := 10) 1 rfl ?_
  refine Wp.callV (len := 3) rfl rfl rfl (rfl) rfl (by decide) rfl (m_begins (d := d + 6) (f1.T hT)) ?_
  rintro _ _ ⟨rfl, τ2, rfl, f2, l2⟩
  have b2 := BM_b b1 f2
  have hbl : bl T 0 ≤ T.1 := (tn_le (T := T) (p := isBl) (Nat.zero_le _)).2
  refine m_kin_l (d := d + 1) (r := kinR T) hT (fun τ f l hB => ?_) 2001 (f1.t f2.k) l2 (fun _ => ⟨b2, PK_K0⟩) (fun s q => ⟨Nat.zero_le _, by omega⟩) rfl
  refine Wp.n (pc' := 72) 1 rfl ?_
  refine Wp.callV (len := 3) rfl rfl rfl (rfl) rfl (by decide) rfl (m_isOver (d := d + 8) l (f.T hT)) ?_
  rintro _ _ ⟨rfl, τ3, rfl, g1, g2, hF, hT3⟩
  have e1 : ∀ j, List.elem j [6, 7, 8, 9, 10, 12, 13, 14, 15] = false → τ3.1 j = σ.1 j := fun j hj => (g1 j (elem_sub (F' := [6, 7, 8, 9, 10, 12, 13, 14, 15]) rfl hj)).trans (f.1 j (elem_sub (F' := [6, 7, 8, 9, 10, 12, 13, 14, 15]) rfl hj))
  have g12 : τ3.1 12 = τ.1 12 := g1 12 rfl
  refine Wp.n (pc' := 76) 1 rfl ?_
  rcases hq : (kinR T).1 with x | s
  · rw [hq] at l
    have x1 := l.2.1
    have x3 := l.2.2.1
    have ng : ¬ gd (kinR T).1 = true := by rw [hq]; exact Bool.false_ne_true
    refine Wp.n (pc' := 79) 1 rfl ?_
    refine Wp.top (g12.trans l.1) ?_
    refine Wp.nz0 (x := x.1) (tgt := 85) (len := 3) rfl (by omega) (fun h79 => ?_) (fun h79 => ?_)
    · omega
    · skip
      refine Wp.n (pc' := 84) 1 rfl ?_
      refine Wp.retI (len := 1) rfl rfl ?_
      refine ⟨by unfold kinA; rw [if_neg ng], τ3, rfl, ⟨e1, fun k hk => by rw [g2]; exact f.2.1 k hk, fun k hk => by rw [g2]; exact f.2.2.1 k hk, fun s K' h1 h4 okk hR => ?_⟩, ?_, by rw [hq] at hF; exact hF, hT3⟩
      · have w := f.rep h4 okk hR
        unfold RepM at w ⊢
        rw [g2]
        exact w
      · unfold kinN
        rw [if_neg ng]
        have w := f.rep (s := 0) (by decide) ok hR0
        refine ⟨?_, ok, (e1 25 rfl).trans h25, (e1 0 rfl).trans hσ0⟩
        unfold RepM at w ⊢
        rw [g2]
        exact w
  · rw [hq] at l
    have yg : gd (kinR T).1 = true := by rw [hq]; rfl
    obtain ⟨bK, pK⟩ := hB yg
    refine Wp.n (pc' := 79) 1 rfl ?_
    refine Wp.top (g12.trans l.1) ?_
    refine Wp.nz0 (x := 0) (tgt := 85) (len := 3) rfl (by omega) (fun h79 => ?_) (fun h79 => ?_)
    · skip
      refine Wp.n (pc' := 88) 3 rfl ?_
      refine Wp.callV (len := 3) rfl rfl rfl (rfl) rfl (by decide) rfl (m_copyKingdom (d := d + 7) (a := 4) (b := 0) (by decide) (by decide) (by decide)) ?_
      rintro _ _ ⟨rfl, τ4, rfl, hC⟩
      have bK3 : RepM τ3 4 (kinR T).2 := by
        have w := bK.1
        unfold RepM at w ⊢
        rw [g2]
        exact w
      have bK4 : RepM τ4 0 (kinR T).2 := CK_t hC pK.1 bK3
      have hL5 : τ4.2.2.1 5 0 = nI (kh (kinR T).2 5) := bK4.2.2.1
      refine Wp.n (pc' := 96) 3 rfl ?_
      refine Wp.mialdN (j := 0) (len := 1) rfl rfl rfl (by omega) ?_
      refine Wp.top hL5 ?_
      refine Wp.retI (len := 1) rfl rfl ?_
      refine ⟨by unfold kinA; rw [if_pos yg], τ4, rfl, ⟨fun j hj => by rw [hC.1]; exact e1 j hj, fun k hk => (hC.2.2.1 k hk).trans (by rw [g2]; exact f.2.1 k hk), fun k hk => (hC.2.2.2.1 k hk).trans (by rw [g2]; exact f.2.2.1 k hk), fun s K' h1 h4 okk hR => ?_⟩, ?_, ?_, ?_⟩
      · have w := f.rep h4 okk hR
        have w3 : RepM τ3 s K' := by
          unfold RepM at w ⊢
          rw [g2]
          exact w
        exact CK_o hC okk (by omega) w3
      · unfold kinN
        rw [if_pos yg]
        exact ⟨bK4, pK.1, by rw [hC.1, pK.2.1, e1 25 rfl, h25, h11], by rw [hC.1]; exact (e1 0 rfl).trans hσ0⟩
      · rw [hq] at hF
        unfold FM at hF ⊢
        rw [hC.1]
        exact hF
      · exact ⟨by rw [hC.1]; exact hT3.1, Nat.zero_le _, fun i hi => absurd hi (Nat.not_lt_zero _)⟩
    · omega
end KIN
end
section
/-! TOKENS: the class's way to the next one. -/
def kdc (x : Int32) : Nat := if isBl x = true then 4 else if isLt x = true then 1 else if isDg x = true then 2 else if x = 59 then 3 else 5
def ck (t : Nat) : Nat := if t = 4 then 5 else t
/-- only the reader differs -/
def FA (κ κ' : CS) : Prop := (∀ s, s ≠ 2 → κ'.1 s = κ.1 s) ∧ κ'.2 = κ.2
theorem FA.r {κ : CS} : FA κ κ := ⟨fun _ _ => rfl, rfl⟩
theorem FA.t {κ κ' κ'' : CS} (h : FA κ κ') (h' : FA κ' κ'') : FA κ κ'' := ⟨fun s hs => (h'.1 s hs).trans (h.1 s hs), h'.2.trans h.2⟩
theorem FA.f {κ : CS} {j : Nat} {x : Int32} : FA κ (cf κ 2 j x) := ⟨fun s hs => va_up_ne _ _ hs, rfl⟩
theorem FA.tc {κ κ' : CS} {T : TP} (h : FA κ κ') (hT : TC κ T) : TC κ' T := ⟨by rw [h.1 0 (by decide)]; exact hT.1, hT.2.1, fun i hi => by rw [h.2]; exact hT.2.2 i hi⟩
section CLX
variable {d : Nat} {M : AM} {κ κ' : CS} {T : TP} {Q : Option Value → AM → Prop}
theorem k_kindOf (x : Int32) : Ev d md_12 0 [some (.int x)] [] M (some (.int (nI (kdc x))), M) := by
  refine Wp.toEv ?_
  have e97 : (97 : Int32).toInt = 97 := rfl
  have e122 : (122 : Int32).toInt = 122 := rfl
  have e48 : (48 : Int32).toInt = 48 := rfl
  have e57 : (57 : Int32).toInt = 57 := rfl
  refine Wp.n (pc' := 3) 2 rfl ?_
  refine Wp.ic0 (tgt := 12) (len := 3) rfl (fun h3 => ?_) (fun h3 => ?_)
  · skip
    refine Wp.n (pc' := 13) 1 rfl ?_
    refine Wp.retI (len := 1) rfl rfl ?_
    refine ⟨?_, rfl⟩
    unfold kdc
    first
      | (have q : isBl x = true := decide_eq_true (by first | exact Or.inl h3 | exact Or.inr h9)
         rw [if_pos q]; rfl)
      | skip
    first
      | done
      | (have q : ¬ isBl x = true := fun z => by rcases of_decide_eq_true z with z | z; exact h3 z; exact h9 z
         rw [if_neg q])
    first
      | done
      | (have q1 : isLt x = true := decide_eq_true (by rw [i_lt] at h17 h23; omega)
         rw [if_pos q1]; rfl)
      | (have q1 : ¬ isLt x = true := fun z => by have := of_decide_eq_true z; rw [i_lt] at h17; omega
         rw [if_neg q1])
      | (have q1 : ¬ isLt x = true := fun z => by have := of_decide_eq_true z; rw [i_lt] at h23; omega
         rw [if_neg q1])
    first
      | done
      | (have q2 : isDg x = true := decide_eq_true (by rw [i_lt] at h31 h37; omega)
         rw [if_pos q2]; rfl)
      | (have q2 : ¬ isDg x = true := fun z => by have := of_decide_eq_true z; rw [i_lt] at h31; omega
         rw [if_neg q2])
      | (have q2 : ¬ isDg x = true := fun z => by have := of_decide_eq_true z; rw [i_lt] at h37; omega
         rw [if_neg q2])
    first
      | done
      | (rw [if_pos h45]; rfl)
      | (rw [if_neg h45]; rfl)
      | rfl
  · skip
    refine Wp.n (pc' := 9) 2 rfl ?_
    refine Wp.ic1 (tgt := 14) (len := 3) rfl (fun h9 => ?_) (fun h9 => ?_)
    · skip
      refine Wp.n (pc' := 17) 2 rfl ?_
      refine Wp.ic2 (tgt := 28) (len := 3) rfl (fun h17 => ?_) (fun h17 => ?_)
      · skip
        refine Wp.n (pc' := 31) 2 rfl ?_
        refine Wp.ic2 (tgt := 42) (len := 3) rfl (fun h31 => ?_) (fun h31 => ?_)
        · skip
          refine Wp.n (pc' := 45) 2 rfl ?_
          refine Wp.ic1 (tgt := 52) (len := 3) rfl (fun h45 => ?_) (fun h45 => ?_)
          · skip
            refine Wp.n (pc' := 53) 1 rfl ?_
            refine Wp.retI (len := 1) rfl rfl ?_
            refine ⟨?_, rfl⟩
            unfold kdc
            first
              | (have q : isBl x = true := decide_eq_true (by first | exact Or.inl h3 | exact Or.inr h9)
                 rw [if_pos q]; rfl)
              | skip
            first
              | done
              | (have q : ¬ isBl x = true := fun z => by rcases of_decide_eq_true z with z | z; exact h3 z; exact h9 z
                 rw [if_neg q])
            first
              | done
              | (have q1 : isLt x = true := decide_eq_true (by rw [i_lt] at h17 h23; omega)
                 rw [if_pos q1]; rfl)
              | (have q1 : ¬ isLt x = true := fun z => by have := of_decide_eq_true z; rw [i_lt] at h17; omega
                 rw [if_neg q1])
              | (have q1 : ¬ isLt x = true := fun z => by have := of_decide_eq_true z; rw [i_lt] at h23; omega
                 rw [if_neg q1])
            first
              | done
              | (have q2 : isDg x = true := decide_eq_true (by rw [i_lt] at h31 h37; omega)
                 rw [if_pos q2]; rfl)
              | (have q2 : ¬ isDg x = true := fun z => by have := of_decide_eq_true z; rw [i_lt] at h31; omega
                 rw [if_neg q2])
              | (have q2 : ¬ isDg x = true := fun z => by have := of_decide_eq_true z; rw [i_lt] at h37; omega
                 rw [if_neg q2])
            first
              | done
              | (rw [if_pos h45]; rfl)
              | (rw [if_neg h45]; rfl)
              | rfl
          · skip
            refine Wp.n (pc' := 53) 2 rfl ?_
            refine Wp.retI (len := 1) rfl rfl ?_
            refine ⟨?_, rfl⟩
            unfold kdc
            first
              | (have q : isBl x = true := decide_eq_true (by first | exact Or.inl h3 | exact Or.inr h9)
                 rw [if_pos q]; rfl)
              | skip
            first
              | done
              | (have q : ¬ isBl x = true := fun z => by rcases of_decide_eq_true z with z | z; exact h3 z; exact h9 z
                 rw [if_neg q])
            first
              | done
              | (have q1 : isLt x = true := decide_eq_true (by rw [i_lt] at h17 h23; omega)
                 rw [if_pos q1]; rfl)
              | (have q1 : ¬ isLt x = true := fun z => by have := of_decide_eq_true z; rw [i_lt] at h17; omega
                 rw [if_neg q1])
              | (have q1 : ¬ isLt x = true := fun z => by have := of_decide_eq_true z; rw [i_lt] at h23; omega
                 rw [if_neg q1])
            first
              | done
              | (have q2 : isDg x = true := decide_eq_true (by rw [i_lt] at h31 h37; omega)
                 rw [if_pos q2]; rfl)
              | (have q2 : ¬ isDg x = true := fun z => by have := of_decide_eq_true z; rw [i_lt] at h31; omega
                 rw [if_neg q2])
              | (have q2 : ¬ isDg x = true := fun z => by have := of_decide_eq_true z; rw [i_lt] at h37; omega
                 rw [if_neg q2])
            first
              | done
              | (rw [if_pos h45]; rfl)
              | (rw [if_neg h45]; rfl)
              | rfl
        · skip
          refine Wp.n (pc' := 37) 2 rfl ?_
          refine Wp.ic4 (tgt := 42) (len := 3) rfl (fun h37 => ?_) (fun h37 => ?_)
          · skip
            refine Wp.n (pc' := 45) 2 rfl ?_
            refine Wp.ic1 (tgt := 52) (len := 3) rfl (fun h45 => ?_) (fun h45 => ?_)
            · skip
              refine Wp.n (pc' := 53) 1 rfl ?_
              refine Wp.retI (len := 1) rfl rfl ?_
              refine ⟨?_, rfl⟩
              unfold kdc
              first
                | (have q : isBl x = true := decide_eq_true (by first | exact Or.inl h3 | exact Or.inr h9)
                   rw [if_pos q]; rfl)
                | skip
              first
                | done
                | (have q : ¬ isBl x = true := fun z => by rcases of_decide_eq_true z with z | z; exact h3 z; exact h9 z
                   rw [if_neg q])
              first
                | done
                | (have q1 : isLt x = true := decide_eq_true (by rw [i_lt] at h17 h23; omega)
                   rw [if_pos q1]; rfl)
                | (have q1 : ¬ isLt x = true := fun z => by have := of_decide_eq_true z; rw [i_lt] at h17; omega
                   rw [if_neg q1])
                | (have q1 : ¬ isLt x = true := fun z => by have := of_decide_eq_true z; rw [i_lt] at h23; omega
                   rw [if_neg q1])
              first
                | done
                | (have q2 : isDg x = true := decide_eq_true (by rw [i_lt] at h31 h37; omega)
                   rw [if_pos q2]; rfl)
                | (have q2 : ¬ isDg x = true := fun z => by have := of_decide_eq_true z; rw [i_lt] at h31; omega
                   rw [if_neg q2])
                | (have q2 : ¬ isDg x = true := fun z => by have := of_decide_eq_true z; rw [i_lt] at h37; omega
                   rw [if_neg q2])
              first
                | done
                | (rw [if_pos h45]; rfl)
                | (rw [if_neg h45]; rfl)
                | rfl
            · skip
              refine Wp.n (pc' := 53) 2 rfl ?_
              refine Wp.retI (len := 1) rfl rfl ?_
              refine ⟨?_, rfl⟩
              unfold kdc
              first
                | (have q : isBl x = true := decide_eq_true (by first | exact Or.inl h3 | exact Or.inr h9)
                   rw [if_pos q]; rfl)
                | skip
              first
                | done
                | (have q : ¬ isBl x = true := fun z => by rcases of_decide_eq_true z with z | z; exact h3 z; exact h9 z
                   rw [if_neg q])
              first
                | done
                | (have q1 : isLt x = true := decide_eq_true (by rw [i_lt] at h17 h23; omega)
                   rw [if_pos q1]; rfl)
                | (have q1 : ¬ isLt x = true := fun z => by have := of_decide_eq_true z; rw [i_lt] at h17; omega
                   rw [if_neg q1])
                | (have q1 : ¬ isLt x = true := fun z => by have := of_decide_eq_true z; rw [i_lt] at h23; omega
                   rw [if_neg q1])
              first
                | done
                | (have q2 : isDg x = true := decide_eq_true (by rw [i_lt] at h31 h37; omega)
                   rw [if_pos q2]; rfl)
                | (have q2 : ¬ isDg x = true := fun z => by have := of_decide_eq_true z; rw [i_lt] at h31; omega
                   rw [if_neg q2])
                | (have q2 : ¬ isDg x = true := fun z => by have := of_decide_eq_true z; rw [i_lt] at h37; omega
                   rw [if_neg q2])
              first
                | done
                | (rw [if_pos h45]; rfl)
                | (rw [if_neg h45]; rfl)
                | rfl
          · skip
            refine Wp.n (pc' := 41) 1 rfl ?_
            refine Wp.retI (len := 1) rfl rfl ?_
            refine ⟨?_, rfl⟩
            unfold kdc
            first
              | (have q : isBl x = true := decide_eq_true (by first | exact Or.inl h3 | exact Or.inr h9)
                 rw [if_pos q]; rfl)
              | skip
            first
              | done
              | (have q : ¬ isBl x = true := fun z => by rcases of_decide_eq_true z with z | z; exact h3 z; exact h9 z
                 rw [if_neg q])
            first
              | done
              | (have q1 : isLt x = true := decide_eq_true (by rw [i_lt] at h17 h23; omega)
                 rw [if_pos q1]; rfl)
              | (have q1 : ¬ isLt x = true := fun z => by have := of_decide_eq_true z; rw [i_lt] at h17; omega
                 rw [if_neg q1])
              | (have q1 : ¬ isLt x = true := fun z => by have := of_decide_eq_true z; rw [i_lt] at h23; omega
                 rw [if_neg q1])
            first
              | done
              | (have q2 : isDg x = true := decide_eq_true (by rw [i_lt] at h31 h37; omega)
                 rw [if_pos q2]; rfl)
              | (have q2 : ¬ isDg x = true := fun z => by have := of_decide_eq_true z; rw [i_lt] at h31; omega
                 rw [if_neg q2])
              | (have q2 : ¬ isDg x = true := fun z => by have := of_decide_eq_true z; rw [i_lt] at h37; omega
                 rw [if_neg q2])
            first
              | done
              | (rw [if_pos h45]; rfl)
              | (rw [if_neg h45]; rfl)
              | rfl
      · skip
        refine Wp.n (pc' := 23) 2 rfl ?_
        refine Wp.ic4 (tgt := 28) (len := 3) rfl (fun h23 => ?_) (fun h23 => ?_)
        · skip
          refine Wp.n (pc' := 31) 2 rfl ?_
          refine Wp.ic2 (tgt := 42) (len := 3) rfl (fun h31 => ?_) (fun h31 => ?_)
          · skip
            refine Wp.n (pc' := 45) 2 rfl ?_
            refine Wp.ic1 (tgt := 52) (len := 3) rfl (fun h45 => ?_) (fun h45 => ?_)
            · skip
              refine Wp.n (pc' := 53) 1 rfl ?_
              refine Wp.retI (len := 1) rfl rfl ?_
              refine ⟨?_, rfl⟩
              unfold kdc
              first
                | (have q : isBl x = true := decide_eq_true (by first | exact Or.inl h3 | exact Or.inr h9)
                   rw [if_pos q]; rfl)
                | skip
              first
                | done
                | (have q : ¬ isBl x = true := fun z => by rcases of_decide_eq_true z with z | z; exact h3 z; exact h9 z
                   rw [if_neg q])
              first
                | done
                | (have q1 : isLt x = true := decide_eq_true (by rw [i_lt] at h17 h23; omega)
                   rw [if_pos q1]; rfl)
                | (have q1 : ¬ isLt x = true := fun z => by have := of_decide_eq_true z; rw [i_lt] at h17; omega
                   rw [if_neg q1])
                | (have q1 : ¬ isLt x = true := fun z => by have := of_decide_eq_true z; rw [i_lt] at h23; omega
                   rw [if_neg q1])
              first
                | done
                | (have q2 : isDg x = true := decide_eq_true (by rw [i_lt] at h31 h37; omega)
                   rw [if_pos q2]; rfl)
                | (have q2 : ¬ isDg x = true := fun z => by have := of_decide_eq_true z; rw [i_lt] at h31; omega
                   rw [if_neg q2])
                | (have q2 : ¬ isDg x = true := fun z => by have := of_decide_eq_true z; rw [i_lt] at h37; omega
                   rw [if_neg q2])
              first
                | done
                | (rw [if_pos h45]; rfl)
                | (rw [if_neg h45]; rfl)
                | rfl
            · skip
              refine Wp.n (pc' := 53) 2 rfl ?_
              refine Wp.retI (len := 1) rfl rfl ?_
              refine ⟨?_, rfl⟩
              unfold kdc
              first
                | (have q : isBl x = true := decide_eq_true (by first | exact Or.inl h3 | exact Or.inr h9)
                   rw [if_pos q]; rfl)
                | skip
              first
                | done
                | (have q : ¬ isBl x = true := fun z => by rcases of_decide_eq_true z with z | z; exact h3 z; exact h9 z
                   rw [if_neg q])
              first
                | done
                | (have q1 : isLt x = true := decide_eq_true (by rw [i_lt] at h17 h23; omega)
                   rw [if_pos q1]; rfl)
                | (have q1 : ¬ isLt x = true := fun z => by have := of_decide_eq_true z; rw [i_lt] at h17; omega
                   rw [if_neg q1])
                | (have q1 : ¬ isLt x = true := fun z => by have := of_decide_eq_true z; rw [i_lt] at h23; omega
                   rw [if_neg q1])
              first
                | done
                | (have q2 : isDg x = true := decide_eq_true (by rw [i_lt] at h31 h37; omega)
                   rw [if_pos q2]; rfl)
                | (have q2 : ¬ isDg x = true := fun z => by have := of_decide_eq_true z; rw [i_lt] at h31; omega
                   rw [if_neg q2])
                | (have q2 : ¬ isDg x = true := fun z => by have := of_decide_eq_true z; rw [i_lt] at h37; omega
                   rw [if_neg q2])
              first
                | done
                | (rw [if_pos h45]; rfl)
                | (rw [if_neg h45]; rfl)
                | rfl
          · skip
            refine Wp.n (pc' := 37) 2 rfl ?_
            refine Wp.ic4 (tgt := 42) (len := 3) rfl (fun h37 => ?_) (fun h37 => ?_)
            · skip
              refine Wp.n (pc' := 45) 2 rfl ?_
              refine Wp.ic1 (tgt := 52) (len := 3) rfl (fun h45 => ?_) (fun h45 => ?_)
              · skip
                refine Wp.n (pc' := 53) 1 rfl ?_
                refine Wp.retI (len := 1) rfl rfl ?_
                refine ⟨?_, rfl⟩
                unfold kdc
                first
                  | (have q : isBl x = true := decide_eq_true (by first | exact Or.inl h3 | exact Or.inr h9)
                     rw [if_pos q]; rfl)
                  | skip
                first
                  | done
                  | (have q : ¬ isBl x = true := fun z => by rcases of_decide_eq_true z with z | z; exact h3 z; exact h9 z
                     rw [if_neg q])
                first
                  | done
                  | (have q1 : isLt x = true := decide_eq_true (by rw [i_lt] at h17 h23; omega)
                     rw [if_pos q1]; rfl)
                  | (have q1 : ¬ isLt x = true := fun z => by have := of_decide_eq_true z; rw [i_lt] at h17; omega
                     rw [if_neg q1])
                  | (have q1 : ¬ isLt x = true := fun z => by have := of_decide_eq_true z; rw [i_lt] at h23; omega
                     rw [if_neg q1])
                first
                  | done
                  | (have q2 : isDg x = true := decide_eq_true (by rw [i_lt] at h31 h37; omega)
                     rw [if_pos q2]; rfl)
                  | (have q2 : ¬ isDg x = true := fun z => by have := of_decide_eq_true z; rw [i_lt] at h31; omega
                     rw [if_neg q2])
                  | (have q2 : ¬ isDg x = true := fun z => by have := of_decide_eq_true z; rw [i_lt] at h37; omega
                     rw [if_neg q2])
                first
                  | done
                  | (rw [if_pos h45]; rfl)
                  | (rw [if_neg h45]; rfl)
                  | rfl
              · skip
                refine Wp.n (pc' := 53) 2 rfl ?_
                refine Wp.retI (len := 1) rfl rfl ?_
                refine ⟨?_, rfl⟩
                unfold kdc
                first
                  | (have q : isBl x = true := decide_eq_true (by first | exact Or.inl h3 | exact Or.inr h9)
                     rw [if_pos q]; rfl)
                  | skip
                first
                  | done
                  | (have q : ¬ isBl x = true := fun z => by rcases of_decide_eq_true z with z | z; exact h3 z; exact h9 z
                     rw [if_neg q])
                first
                  | done
                  | (have q1 : isLt x = true := decide_eq_true (by rw [i_lt] at h17 h23; omega)
                     rw [if_pos q1]; rfl)
                  | (have q1 : ¬ isLt x = true := fun z => by have := of_decide_eq_true z; rw [i_lt] at h17; omega
                     rw [if_neg q1])
                  | (have q1 : ¬ isLt x = true := fun z => by have := of_decide_eq_true z; rw [i_lt] at h23; omega
                     rw [if_neg q1])
                first
                  | done
                  | (have q2 : isDg x = true := decide_eq_true (by rw [i_lt] at h31 h37; omega)
                     rw [if_pos q2]; rfl)
                  | (have q2 : ¬ isDg x = true := fun z => by have := of_decide_eq_true z; rw [i_lt] at h31; omega
                     rw [if_neg q2])
                  | (have q2 : ¬ isDg x = true := fun z => by have := of_decide_eq_true z; rw [i_lt] at h37; omega
                     rw [if_neg q2])
                first
                  | done
                  | (rw [if_pos h45]; rfl)
                  | (rw [if_neg h45]; rfl)
                  | rfl
            · skip
              refine Wp.n (pc' := 41) 1 rfl ?_
              refine Wp.retI (len := 1) rfl rfl ?_
              refine ⟨?_, rfl⟩
              unfold kdc
              first
                | (have q : isBl x = true := decide_eq_true (by first | exact Or.inl h3 | exact Or.inr h9)
                   rw [if_pos q]; rfl)
                | skip
              first
                | done
                | (have q : ¬ isBl x = true := fun z => by rcases of_decide_eq_true z with z | z; exact h3 z; exact h9 z
                   rw [if_neg q])
              first
                | done
                | (have q1 : isLt x = true := decide_eq_true (by rw [i_lt] at h17 h23; omega)
                   rw [if_pos q1]; rfl)
                | (have q1 : ¬ isLt x = true := fun z => by have := of_decide_eq_true z; rw [i_lt] at h17; omega
                   rw [if_neg q1])
                | (have q1 : ¬ isLt x = true := fun z => by have := of_decide_eq_true z; rw [i_lt] at h23; omega
                   rw [if_neg q1])
              first
                | done
                | (have q2 : isDg x = true := decide_eq_true (by rw [i_lt] at h31 h37; omega)
                   rw [if_pos q2]; rfl)
                | (have q2 : ¬ isDg x = true := fun z => by have := of_decide_eq_true z; rw [i_lt] at h31; omega
                   rw [if_neg q2])
                | (have q2 : ¬ isDg x = true := fun z => by have := of_decide_eq_true z; rw [i_lt] at h37; omega
                   rw [if_neg q2])
              first
                | done
                | (rw [if_pos h45]; rfl)
                | (rw [if_neg h45]; rfl)
                | rfl
        · skip
          refine Wp.n (pc' := 27) 1 rfl ?_
          refine Wp.retI (len := 1) rfl rfl ?_
          refine ⟨?_, rfl⟩
          unfold kdc
          first
            | (have q : isBl x = true := decide_eq_true (by first | exact Or.inl h3 | exact Or.inr h9)
               rw [if_pos q]; rfl)
            | skip
          first
            | done
            | (have q : ¬ isBl x = true := fun z => by rcases of_decide_eq_true z with z | z; exact h3 z; exact h9 z
               rw [if_neg q])
          first
            | done
            | (have q1 : isLt x = true := decide_eq_true (by rw [i_lt] at h17 h23; omega)
               rw [if_pos q1]; rfl)
            | (have q1 : ¬ isLt x = true := fun z => by have := of_decide_eq_true z; rw [i_lt] at h17; omega
               rw [if_neg q1])
            | (have q1 : ¬ isLt x = true := fun z => by have := of_decide_eq_true z; rw [i_lt] at h23; omega
               rw [if_neg q1])
          first
            | done
            | (have q2 : isDg x = true := decide_eq_true (by rw [i_lt] at h31 h37; omega)
               rw [if_pos q2]; rfl)
            | (have q2 : ¬ isDg x = true := fun z => by have := of_decide_eq_true z; rw [i_lt] at h31; omega
               rw [if_neg q2])
            | (have q2 : ¬ isDg x = true := fun z => by have := of_decide_eq_true z; rw [i_lt] at h37; omega
               rw [if_neg q2])
          first
            | done
            | (rw [if_pos h45]; rfl)
            | (rw [if_neg h45]; rfl)
            | rfl
    · skip
      refine Wp.n (pc' := 13) 1 rfl ?_
      refine Wp.retI (len := 1) rfl rfl ?_
      refine ⟨?_, rfl⟩
      unfold kdc
      first
        | (have q : isBl x = true := decide_eq_true (by first | exact Or.inl h3 | exact Or.inr h9)
           rw [if_pos q]; rfl)
        | skip
      first
        | done
        | (have q : ¬ isBl x = true := fun z => by rcases of_decide_eq_true z with z | z; exact h3 z; exact h9 z
           rw [if_neg q])
      first
        | done
        | (have q1 : isLt x = true := decide_eq_true (by rw [i_lt] at h17 h23; omega)
           rw [if_pos q1]; rfl)
        | (have q1 : ¬ isLt x = true := fun z => by have := of_decide_eq_true z; rw [i_lt] at h17; omega
           rw [if_neg q1])
        | (have q1 : ¬ isLt x = true := fun z => by have := of_decide_eq_true z; rw [i_lt] at h23; omega
           rw [if_neg q1])
      first
        | done
        | (have q2 : isDg x = true := decide_eq_true (by rw [i_lt] at h31 h37; omega)
           rw [if_pos q2]; rfl)
        | (have q2 : ¬ isDg x = true := fun z => by have := of_decide_eq_true z; rw [i_lt] at h31; omega
           rw [if_neg q2])
        | (have q2 : ¬ isDg x = true := fun z => by have := of_decide_eq_true z; rw [i_lt] at h37; omega
           rw [if_neg q2])
      first
        | done
        | (rw [if_pos h45]; rfl)
        | (rw [if_neg h45]; rfl)
        | rfl
theorem kdc_b {x : Int32} : kdc x = 4 ↔ isBl x = true := by
  unfold kdc
  constructor
  · intro h
    by_cases c : isBl x = true
    · exact c
    · rw [if_neg c] at h
      split at h
      · cases h
      · split at h
        · cases h
        · split at h <;> cases h
  · intro h
    rw [if_pos h]
theorem kdc_le {x : Int32} : kdc x ≤ 5 := by
  unfold kdc
  repeat' split
  all_goals omega
theorem kdc_tk {s : Nat} (h : s < T.1) (hb : ¬ isBl (T.2 s) = true) : kdc (T.2 s) = ck (tk T s) := by
  unfold kdc tk
  rw [if_neg hb, if_neg (show ¬ T.1 ≤ s by omega)]
  by_cases c1 : isLt (T.2 s) = true
  · rw [if_pos c1, if_pos c1]; rfl
  · rw [if_neg c1, if_neg c1]
    by_cases c2 : isDg (T.2 s) = true
    · rw [if_pos c2, if_pos c2]; rfl
    · rw [if_neg c2, if_neg c2]
      by_cases c3 : T.2 s = 59
      · rw [if_pos c3, if_pos c3]; rfl
      · rw [if_neg c3, if_neg c3]; rfl
theorem k_adv_1 : ∀ (n q : Nat) {κ : CS}, TC κ T → κ.2.2.2 0 = some 33 → q + n = T.1 → κ.1 2 5 = nI q → (∀ κ', FA κ κ' → κ'.1 2 2 = κ.1 2 2 → κ'.1 2 3 = κ.1 2 3 → κ'.1 2 5 = nI (bl T q) → Wp (d + 1) md_11 62 [some (.ref 35), none] [] (cset M κ') Q) → Wp (d + 1) md_11 16 [some (.ref 35), none] [] (cset M κ) Q
  | 0, q, κ, hT, hS, hn, h5, kk => by
    have t20 := hT.2.1
    have e : bl T q = q := tn_no (fun z => by omega)
    refine Wp.n (pc' := 17) 1 rfl ?_
    refine Wp.get (len := 3) rfl (rfl) rfl ?_
    refine Wp.top h5 ?_
    refine Wp.n (pc' := 21) 1 rfl ?_
    refine Wp.get (len := 3) rfl (rfl) rfl ?_
    refine Wp.topR hS ?_
    refine Wp.get (len := 3) rfl (rfl) rfl ?_
    refine Wp.top hT.1 ?_
    refine Wp.nc3 (x := q) (y := T.1) (tgt := 62) (len := 3) rfl (by omega) (by omega) (fun h27 => ?_) (fun h27 => ?_)
    · skip
      exact kk κ FA.r rfl rfl (by rw [e]; exact h5)
    · omega
  | n + 1, q, κ, hT, hS, hn, h5, kk => by
    have t20 := hT.2.1
    have hk := kdc_le (x := T.2 q)
    refine Wp.n (pc' := 17) 1 rfl ?_
    refine Wp.get (len := 3) rfl (rfl) rfl ?_
    refine Wp.top h5 ?_
    refine Wp.n (pc' := 21) 1 rfl ?_
    refine Wp.get (len := 3) rfl (rfl) rfl ?_
    refine Wp.topR hS ?_
    refine Wp.get (len := 3) rfl (rfl) rfl ?_
    refine Wp.top hT.1 ?_
    refine Wp.nc3 (x := q) (y := T.1) (tgt := 62) (len := 3) rfl (by omega) (by omega) (fun h27 => ?_) (fun h27 => ?_)
    · omega
    · skip
      refine Wp.n (pc' := 31) 1 rfl ?_
      refine Wp.get (len := 3) rfl (rfl) rfl ?_
      refine Wp.topR hS ?_
      refine Wp.get (len := 3) rfl (rfl) rfl ?_
      refine Wp.n (pc' := 38) 1 rfl ?_
      refine Wp.get (len := 3) rfl (rfl) rfl ?_
      refine Wp.top h5 ?_
      refine Wp.baldN (j := q) (len := 1) rfl (rfl) rfl (by omega) (by decide) ?_
      refine Wp.top (hT.2.2 q (by omega)) ?_
      refine Wp.ecallS (len := 3) rfl rfl rfl rfl (k_kindOf _) ?_
      refine Wp.n (pc' := 46) 1 rfl ?_
      refine Wp.nc1 (x := kdc (T.2 q)) (y := 4) (tgt := 62) (len := 3) rfl (by omega) (by omega) (fun h46 => ?_) (fun h46 => ?_)
      · skip
        exact kk κ FA.r rfl rfl (by rw [show bl T q = q from tn_no (fun z => h46 (kdc_b.mpr z.2))]; exact h5)
      · skip
        refine Wp.n (pc' := 51) 2 rfl ?_
        refine Wp.get (len := 3) rfl (rfl) rfl ?_
        refine Wp.top h5 ?_
        refine Wp.n (pc' := 55) 1 rfl ?_
        refine Wp.iaddN (x := q) (y := 1) (len := 1) rfl ?_
        refine Wp.cput2 (len := 3) 5 rfl rfl ?_
        refine Wp.n (pc' := 16) 1 rfl ?_
        refine k_adv_1 n (q + 1) (κ := cf κ 2 5 (nI (q + 1))) (FA.f.tc hT) hS (by omega) rfl (fun κ' f a b h => kk κ' (FA.f.t f) a b ?_)
        rw [show bl T q = bl T (q + 1) from tn_go (by omega) (kdc_b.mp (by omega))]
        exact h
theorem rn_end {p : Nat → Bool} : ∀ (m i : Nat), rn p m i < i + m → p (rn p m i) = false
  | 0, i, h => by have : i < i + 0 := h; omega
  | m + 1, i, h => by
    unfold rn at h ⊢
    by_cases c : p i = true
    · rw [if_pos c] at h ⊢
      exact rn_end m (i + 1) (by omega)
    · rw [if_neg c]
      simpa using c
theorem bl_end {q : Nat} (hq : q ≤ T.1) (h : bl T q < T.1) : ¬ isBl (T.2 (bl T q)) = true := by
  have w := rn_end (p := fun i => isBl (T.2 i)) (T.1 - q) q (by unfold bl tn at h; omega)
  intro z
  have w' : isBl (T.2 (bl T q)) = false := w
  rw [w'] at z
  cases z
theorem rn_cg {p p' : Nat → Bool} (e : ∀ i, p i = p' i) : ∀ (m i : Nat), rn p m i = rn p' m i
  | 0, i => rfl
  | m + 1, i => by
    unfold rn
    rw [e i, rn_cg e m (i + 1)]
def kdp (T : TP) (k i : Nat) : Bool := decide (kdc (T.2 i) = k)
theorem kdc_1 {x : Int32} : decide (kdc x = 1) = isLt x := by
  by_cases c : isLt x = true
  · rw [c]
    refine decide_eq_true ?_
    unfold kdc
    have hb : ¬ isBl x = true := fun z => by
      have h1 := of_decide_eq_true c
      rcases of_decide_eq_true z with z | z
      · rw [z] at h1; revert h1; decide
      · rw [z] at h1; revert h1; decide
    rw [if_neg hb, if_pos c]
  · rw [show isLt x = false by simpa using c]
    refine decide_eq_false ?_
    unfold kdc
    rw [if_neg c]
    split
    · decide
    · split
      · decide
      · split <;> decide
theorem kdc_2 {x : Int32} : decide (kdc x = 2) = isDg x := by
  by_cases c : isDg x = true
  · rw [c]
    refine decide_eq_true ?_
    have h1 := of_decide_eq_true c
    unfold kdc
    have hb : ¬ isBl x = true := fun z => by
      rcases of_decide_eq_true z with z | z
      · rw [z] at h1; revert h1; decide
      · rw [z] at h1; revert h1; decide
    have hl : ¬ isLt x = true := fun z => by
      have h2 := of_decide_eq_true z
      omega
    rw [if_neg hb, if_neg hl, if_pos c]
  · rw [show isDg x = false by simpa using c]
    refine decide_eq_false ?_
    unfold kdc
    rw [if_neg c]
    split
    · decide
    · split
      · decide
      · split <;> decide
def vlk (T : TP) (k s m : Nat) : Nat := if k = 2 then min 1000000 (vdN T s m) else 0
theorem k_adv_2 {L s k : Nat} (hL : L ≤ T.1) (hk5 : k ≤ 5) (kk : ∀ κ', FA κ κ' → κ'.1 2 2 = κ.1 2 2 → κ'.1 2 3 = κ.1 2 3 → κ'.1 2 4 = nI k → κ'.1 2 5 = κ.1 2 5 → κ'.1 2 6 = nI (rn (kdp T k) (L - s) s) → κ'.1 2 7 = nI (vlk T k s (rn (kdp T k) (L - s) s - s)) → Wp (d + 9) md_11 242 [some (.ref 35), some (.int (nI L))] [] (cset M κ') Q) : ∀ (n m : Nat) {κ1 : CS}, TC κ1 T → κ1.2.2.2 0 = some 33 → s + m + n = L → FA κ κ1 → κ1.1 2 2 = κ.1 2 2 → κ1.1 2 3 = κ.1 2 3 → κ1.1 2 4 = nI k → κ1.1 2 5 = κ.1 2 5 → κ1.1 2 6 = nI (s + m) → κ1.1 2 7 = nI (vlk T k s m) → rn (kdp T k) (L - s) s = rn (kdp T k) n (s + m) → Wp (d + 9) md_11 155 [some (.ref 35), some (.int (nI L))] [] (cset M κ1) Q
  | 0, m, κ1, hT, hS, hn, f, e2, e3, e4, e5, e6, e7, er => by
    have t20 := hT.2.1
    have er' : rn (kdp T k) (L - s) s = s + m := er
    refine Wp.n (pc' := 156) 1 rfl ?_
    refine Wp.get (len := 3) rfl (rfl) rfl ?_
    refine Wp.top e6 ?_
    refine Wp.n (pc' := 160) 1 rfl ?_
    refine Wp.nc3 (x := s + m) (y := L) (tgt := 242) (len := 3) rfl (by omega) (by omega) (fun h160 => ?_) (fun h160 => ?_)
    · skip
      exact kk κ1 f e2 e3 e4 e5 (by rw [er']; exact e6) (by rw [er', show s + m - s = m by omega]; exact e7)
    · omega
  | n + 1, m, κ1, hT, hS, hn, f, e2, e3, e4, e5, e6, e7, er => by
    have t20 := hT.2.1
    have hk := kdc_le (x := T.2 (s + m))
    have hv : vlk T k s m ≤ 1000000 := by unfold vlk; split <;> omega
    have es : rn (kdp T k) (n + 1) (s + m) = if kdp T k (s + m) = true then rn (kdp T k) n (s + m + 1) else s + m := rfl
    refine Wp.n (pc' := 156) 1 rfl ?_
    refine Wp.get (len := 3) rfl (rfl) rfl ?_
    refine Wp.top e6 ?_
    refine Wp.n (pc' := 160) 1 rfl ?_
    refine Wp.nc3 (x := s + m) (y := L) (tgt := 242) (len := 3) rfl (by omega) (by omega) (fun h160 => ?_) (fun h160 => ?_)
    · omega
    · skip
      refine Wp.n (pc' := 164) 1 rfl ?_
      refine Wp.get (len := 3) rfl (rfl) rfl ?_
      refine Wp.topR hS ?_
      refine Wp.get (len := 3) rfl (rfl) rfl ?_
      refine Wp.n (pc' := 171) 1 rfl ?_
      refine Wp.get (len := 3) rfl (rfl) rfl ?_
      refine Wp.top e6 ?_
      refine Wp.baldN (j := s + m) (len := 1) rfl (rfl) rfl (by omega) (by decide) ?_
      refine Wp.top (hT.2.2 (s + m) (by omega)) ?_
      refine Wp.ecallS (len := 3) rfl rfl rfl rfl (k_kindOf _) ?_
      refine Wp.n (pc' := 179) 1 rfl ?_
      refine Wp.get (len := 3) rfl (rfl) rfl ?_
      refine Wp.top e4 ?_
      refine Wp.nc1 (x := kdc (T.2 (s + m))) (y := k) (tgt := 242) (len := 3) rfl (by omega) (by omega) (fun h182 => ?_) (fun h182 => ?_)
      · skip
        have kp : ¬ kdp T k (s + m) = true := fun z => h182 (of_decide_eq_true z)
        rw [es, if_neg kp] at er
        exact kk κ1 f e2 e3 e4 e5 (by rw [er]; exact e6) (by rw [er, show s + m - s = m by omega]; exact e7)
      · skip
        have kp : kdp T k (s + m) = true := decide_eq_true h182
        rw [es, if_pos kp] at er
        refine Wp.n (pc' := 187) 2 rfl ?_
        refine Wp.get (len := 3) rfl (rfl) rfl ?_
        refine Wp.top e4 ?_
        refine Wp.n (pc' := 191) 1 rfl ?_
        refine Wp.nc1 (x := k) (y := 2) (tgt := 225) (len := 3) rfl (by omega) (by omega) (fun h191 => ?_) (fun h191 => ?_)
        · skip
          refine Wp.n (pc' := 226) 1 rfl ?_
          refine Wp.cput2 (len := 3) 7 rfl rfl ?_
          refine Wp.n (pc' := 231) 2 rfl ?_
          refine Wp.get (len := 3) rfl (rfl) rfl ?_
          refine Wp.top e6 ?_
          refine Wp.n (pc' := 235) 1 rfl ?_
          refine Wp.iaddN (x := s + m) (y := 1) (len := 1) rfl ?_
          refine Wp.cput2 (len := 3) 6 rfl rfl ?_
          refine Wp.n (pc' := 155) 1 rfl ?_
          first
            | (have q : k = 2 := h191
               have ev : vlk T k s (m + 1) = min 1000000 (vlk T k s m * 10 + c - 48) := by
                 unfold vlk
                 rw [if_pos q, if_pos q]
                 show min 1000000 (10 * vdN T s m + ((T.2 (s + m)).toNatClampNeg - 48)) = _
                 rw [hc, nI_clamp (by omega)]
                 omega
               exact k_adv_2 hL hk5 kk n (m + 1) (κ1 := cf (cf κ1 2 7 _) 2 6 _) ((FA.f.t FA.f).tc hT) hS (by omega) (f.t (FA.f.t FA.f)) e2 e3 e4 e5 rfl (by rw [ev]; rfl) er)
            | (have q : ¬ k = 2 := h191
               exact k_adv_2 hL hk5 kk n (m + 1) (κ1 := cf (cf κ1 2 7 _) 2 6 _) ((FA.f.t FA.f).tc hT) hS (by omega) (f.t (FA.f.t FA.f)) e2 e3 e4 e5 rfl (by unfold vlk; rw [if_neg q]; rfl) er)
        · skip
          have hg : isDg (T.2 (s + m)) = true := by rw [← kdc_2]; exact decide_eq_true (by omega)
          obtain ⟨c, hc, c1, c2⟩ := dg_of hg
          refine Wp.n (pc' := 197) 2 rfl ?_
          refine Wp.get (len := 3) rfl (rfl) rfl ?_
          refine Wp.top e7 ?_
          refine Wp.n (pc' := 202) 1 rfl ?_
          refine Wp.imulN (x := vlk T k s m) (y := 10) (len := 1) rfl ?_
          refine Wp.n (pc' := 204) 1 rfl ?_
          refine Wp.get (len := 3) rfl (rfl) rfl ?_
          refine Wp.topR hS ?_
          refine Wp.get (len := 3) rfl (rfl) rfl ?_
          refine Wp.n (pc' := 211) 1 rfl ?_
          refine Wp.get (len := 3) rfl (rfl) rfl ?_
          refine Wp.top e6 ?_
          refine Wp.baldN (j := s + m) (len := 1) rfl (rfl) rfl (by omega) (by decide) ?_
          refine Wp.top ((hT.2.2 (s + m) (by omega)).trans hc) ?_
          refine Wp.iaddN (x := (vlk T k s m) * 10) (y := c) (len := 1) rfl ?_
          refine Wp.n (pc' := 218) 1 rfl ?_
          refine Wp.isubN (x := ((vlk T k s m) * 10) + c) (y := 48) (len := 1) rfl (by omega) ?_
          refine Wp.bi (len := 3) rfl (by decide) rfl (by omega) ?_
          refine Wp.top (n_min (x := 1000000) (y := vlk T k s m * 10 + c - 48) (by decide) (by omega)) ?_
          refine Wp.n (pc' := 226) 1 rfl ?_
          refine Wp.cput2 (len := 3) 7 rfl rfl ?_
          refine Wp.n (pc' := 231) 2 rfl ?_
          refine Wp.get (len := 3) rfl (rfl) rfl ?_
          refine Wp.top e6 ?_
          refine Wp.n (pc' := 235) 1 rfl ?_
          refine Wp.iaddN (x := s + m) (y := 1) (len := 1) rfl ?_
          refine Wp.cput2 (len := 3) 6 rfl rfl ?_
          refine Wp.n (pc' := 155) 1 rfl ?_
          first
            | (have q : k = 2 := h191
               have ev : vlk T k s (m + 1) = min 1000000 (vlk T k s m * 10 + c - 48) := by
                 unfold vlk
                 rw [if_pos q, if_pos q]
                 show min 1000000 (10 * vdN T s m + ((T.2 (s + m)).toNatClampNeg - 48)) = _
                 rw [hc, nI_clamp (by omega)]
                 omega
               exact k_adv_2 hL hk5 kk n (m + 1) (κ1 := cf (cf κ1 2 7 _) 2 6 _) ((FA.f.t FA.f).tc hT) hS (by omega) (f.t (FA.f.t FA.f)) e2 e3 e4 e5 rfl (by rw [ev]; rfl) er)
            | (have q : ¬ k = 2 := h191
               exact k_adv_2 hL hk5 kk n (m + 1) (κ1 := cf (cf κ1 2 7 _) 2 6 _) ((FA.f.t FA.f).tc hT) hS (by omega) (f.t (FA.f.t FA.f)) e2 e3 e4 e5 rfl (by unfold vlk; rw [if_neg q]; rfl) er)
end CLX
end
section
/-! READING, the class: on to the next token; words, numbers, faults. -/
def LC (κ : CS) (T : TP) : St → Prop
  | .inl x => κ.1 2 2 = nI x.1 ∧ 1 ≤ x.1 ∧ x.1 ≤ 3 ∧ κ.1 2 3 = nI x.2 ∧ ∃ a e k, κ.1 2 5 = nI a ∧ κ.1 2 6 = nI e ∧ a ≤ e ∧ e ≤ T.1 ∧ κ.1 2 4 = nI k ∧ k ≤ 5
  | .inr s => κ.1 2 2 = nI 0 ∧ κ.1 2 3 = -1 ∧ κ.1 2 4 = nI (ck (tk T s)) ∧ κ.1 2 5 = nI s ∧ κ.1 2 6 = nI (en T s) ∧ κ.1 2 7 = nI (min 1000000 (vl T s)) ∧ s ≤ T.1
def hlS (T : TP) : St → Bool
  | .inl _ => false
  | .inr s => decide (tk T s ≠ 0)
def RdC (M : AM) (κ : CS) (T : TP) (st : St) : AM → Prop := fun M' => ∃ κ', M' = cset M κ' ∧ FA κ κ' ∧ LC κ' T st
theorem tk_2 {T : TP} {s : Nat} (h : tk T s = 2) : en T s = tn T isDg s ∧ s < T.1 := by
  unfold tk at h
  by_cases c : T.1 ≤ s
  · rw [if_pos c] at h; cases h
  · rw [if_neg c] at h
    by_cases c2 : isLt (T.2 s) = true
    · rw [if_pos c2] at h; cases h
    · rw [if_neg c2] at h
      by_cases c3 : isDg (T.2 s) = true
      · unfold en
        rw [if_neg c, if_neg c2, if_pos c3]
        exact ⟨rfl, by omega⟩
      · rw [if_neg c3] at h
        split at h <;> cases h
theorem tk_3 {T : TP} {s : Nat} (h : 3 ≤ tk T s) : en T s = s + 1 ∧ s < T.1 := by
  unfold tk at h
  by_cases c : T.1 ≤ s
  · rw [if_pos c] at h; omega
  · rw [if_neg c] at h
    by_cases c2 : isLt (T.2 s) = true
    · rw [if_pos c2] at h; omega
    · rw [if_neg c2] at h
      by_cases c3 : isDg (T.2 s) = true
      · rw [if_pos c3] at h; omega
      · unfold en
        rw [if_neg c, if_neg c2, if_neg c3]
        exact ⟨rfl, by omega⟩
theorem adv_fin {T : TP} {s k L : Nat} (hs : s ≤ T.1) (hb : s < T.1 → ¬ isBl (T.2 s) = true) (hk : k = ck (tk T s)) (hL : L = if tk T s = 1 ∨ tk T s = 2 then T.1 else min (s + 1) T.1) : rn (kdp T k) (L - s) s = en T s ∧ vlk T k s (en T s - s) = min 1000000 (vl T s) := by
  have t4 := tk_le (T := T) (s := s)
  by_cases c1 : tk T s = 1
  · rw [if_pos (Or.inl c1)] at hL
    rw [c1] at hk
    have k1 : k = 1 := hk
    subst k1 hL
    refine ⟨?_, ?_⟩
    · rw [(tk_1 c1).1]
      exact rn_cg (fun i => kdc_1) _ _
    · unfold vlk vl
      rw [if_neg (by decide), if_neg (by omega)]
      rfl
  · by_cases c2 : tk T s = 2
    · rw [if_pos (Or.inr c2)] at hL
      rw [c2] at hk
      have k1 : k = 2 := hk
      subst k1 hL
      refine ⟨?_, ?_⟩
      · rw [(tk_2 c2).1]
        exact rn_cg (fun i => kdc_2) _ _
      · unfold vlk vl
        rw [if_pos rfl, if_pos c2]
    · rw [if_neg (by omega)] at hL
      have hv : vlk T k s (en T s - s) = min 1000000 (vl T s) := by
        unfold vlk vl ck at *
        rw [if_neg (by split at hk <;> omega), if_neg c2]
        rfl
      refine ⟨?_, hv⟩
      by_cases c0 : tk T s = 0
      · have h0 := tk_0.mp c0
        rw [show L - s = 0 by omega]
        show s = en T s
        unfold en
        rw [if_pos h0]
      · have h3 := tk_3 (T := T) (s := s) (by omega)
        rw [show L - s = 1 by omega, h3.1]
        show (if kdp T k s = true then s + 1 else s) = s + 1
        have kp : kdp T k s = true := decide_eq_true (by rw [hk]; exact kdc_tk h3.2 (hb h3.2))
        rw [if_pos kp]
section CRD
variable {d : Nat} {M : AM} {κ κ' : CS} {T : TP} {st : St} {Q : Option Value → AM → Prop}
theorem k_adv (hT : TC κ T) (hS : κ.2.2.2 0 = some 33) {p : Nat} (hF : κ.1 2 2 = nI 0) (h3 : κ.1 2 3 = -1) (h6 : κ.1 2 6 = nI p) (hp : p ≤ T.1) : Wp (d + 9) md_11 0 [some (.ref 35), none] [] (cset M κ) (fun v M' => v = none ∧ RdC M κ T (.inr (bl T p)) M') := by
  have t20 := hT.2.1
  refine Wp.n (pc' := 1) 1 rfl ?_
  refine Wp.get (len := 3) rfl (rfl) rfl ?_
  refine Wp.top hF ?_
  refine Wp.nz0 (x := 0) (tgt := 8) (len := 3) rfl (by omega) (fun h4 => ?_) (fun h4 => ?_)
  · skip
    refine Wp.n (pc' := 10) 2 rfl ?_
    refine Wp.get (len := 3) rfl (rfl) rfl ?_
    refine Wp.top h6 ?_
    refine Wp.cput2 (len := 3) 5 rfl rfl ?_
    have hs := tn_le (T := T) (p := isBl) hp
    change p ≤ bl T p ∧ bl T p ≤ T.1 at hs
    have hbe := bl_end (T := T) hp
    refine k_adv_1 (T.1 - p) p (FA.f.tc hT) hS (by omega) rfl (fun κ1 f1 a2 a3 a5 => ?_)
    have hT1 := f1.tc (FA.f.tc hT)
    have hS1 : κ1.2.2.2 0 = some 33 := by rw [f1.2]; exact hS
    have b2 : κ1.1 2 2 = nI 0 := a2.trans hF
    have b3 : κ1.1 2 3 = -1 := a3.trans h3
    have fin : ∀ k L κ2, FA κ1 κ2 → κ2.1 2 2 = nI 0 → κ2.1 2 3 = -1 → κ2.1 2 4 = nI k → κ2.1 2 5 = nI (bl T p) → κ2.1 2 6 = nI (bl T p) → κ2.1 2 7 = nI 0 → k = ck (tk T (bl T p)) → L = (if tk T (bl T p) = 1 ∨ tk T (bl T p) = 2 then T.1 else min (bl T p + 1) T.1) → Wp (d + 9) md_11 155 [some (.ref 35), some (.int (nI L))] [] (cset M κ2) (fun v M' => v = none ∧ RdC M κ T (.inr (bl T p)) M') := by
      intro k L κ2 f2 g2 g3 g4 g5 g6 g7 hk hL
      have hF := adv_fin hs.2 hbe hk hL
      have hL1 : L ≤ T.1 ∧ bl T p ≤ L := by
        rw [hL]
        split <;> omega
      have hk5 : k ≤ 5 := by
        rw [hk]
        have := tk_le (T := T) (s := bl T p)
        unfold ck
        split <;> omega
      refine k_adv_2 (κ := κ2) (s := bl T p) hL1.1 hk5 (fun κ3 f3 c2 c3 c4 c5 c6 c7 => ?_) (L - bl T p) 0 (f2.tc hT1) (by rw [f2.2]; exact hS1) (by omega) FA.r rfl rfl g4 rfl g6 (by rw [g7]; unfold vlk; split <;> rfl) rfl
      refine Wp.retV (len := 1) rfl rfl ?_
      refine ⟨rfl, κ3, rfl, ((FA.f.t f1).t f2).t f3, c2.trans g2, c3.trans g3, by rw [c4, hk], c5.trans g5, by rw [c6, hF.1], ?_, hs.2⟩
      rw [c7, hF.1, hF.2]
    refine Wp.n (pc' := 64) 2 rfl ?_
    refine Wp.get (len := 3) rfl (rfl) rfl ?_
    refine Wp.top a5 ?_
    refine Wp.n (pc' := 68) 1 rfl ?_
    refine Wp.get (len := 3) rfl (rfl) rfl ?_
    refine Wp.topR hS1 ?_
    refine Wp.get (len := 3) rfl (rfl) rfl ?_
    refine Wp.top hT1.1 ?_
    refine Wp.nc3 (x := bl T p) (y := T.1) (tgt := 95) (len := 3) rfl (by omega) (by omega) (fun h74 => ?_) (fun h74 => ?_)
    · have ek : tk T (bl T p) = 0 := tk_0.mpr h74
      refine Wp.n (pc' := 96) 1 rfl ?_
      refine Wp.cput2 (len := 3) 4 rfl rfl ?_
      refine Wp.n (pc' := 101) 2 rfl ?_
      refine Wp.cput2 (len := 3) 7 rfl rfl ?_
      refine Wp.n (pc' := 105) 1 rfl ?_
      refine Wp.get (len := 3) rfl (rfl) rfl ?_
      refine Wp.top rfl ?_
      refine Wp.n (pc' := 109) 1 rfl ?_
      refine Wp.nc0 (x := 0) (y := 1) (tgt := 120) (len := 3) rfl (by omega) (by omega) (fun h109 => ?_) (fun h109 => ?_)
      · omega
      · skip
        refine Wp.n (pc' := 113) 1 rfl ?_
        refine Wp.get (len := 3) rfl (rfl) rfl ?_
        refine Wp.top rfl ?_
        refine Wp.n (pc' := 117) 1 rfl ?_
        refine Wp.nc1 (x := 0) (y := 2) (tgt := 130) (len := 3) rfl (by omega) (by omega) (fun h117 => ?_) (fun h117 => ?_)
        · skip
          refine Wp.n (pc' := 131) 1 rfl ?_
          refine Wp.get (len := 3) rfl (rfl) rfl ?_
          refine Wp.top a5 ?_
          refine Wp.n (pc' := 135) 1 rfl ?_
          refine Wp.iaddN (x := bl T p) (y := 1) (len := 1) rfl ?_
          refine Wp.n (pc' := 137) 1 rfl ?_
          refine Wp.get (len := 3) rfl (rfl) rfl ?_
          refine Wp.topR hS1 ?_
          refine Wp.get (len := 3) rfl (rfl) rfl ?_
          refine Wp.top hT1.1 ?_
          refine Wp.bi (len := 3) rfl (by decide) rfl (by omega) ?_
          refine Wp.top (n_min (x := bl T p + 1) (y := T.1) (by omega) (by omega)) ?_
          refine Wp.n (pc' := 149) 3 rfl ?_
          refine Wp.get (len := 3) rfl (rfl) rfl ?_
          refine Wp.top a5 ?_
          refine Wp.cput2 (len := 3) 6 rfl rfl ?_
          exact fin 0 _ _ (FA.f.t (FA.f.t FA.f)) b2 b3 rfl a5 rfl rfl (by rw [ek]; rfl) (by rw [ek]; rfl)
        · omega
    · have ek := kdc_tk h74 (hbe h74)
      have t4 := tk_le (T := T) (s := bl T p)
      have kl5 := kdc_le (x := T.2 (bl T p))
      refine Wp.n (pc' := 78) 1 rfl ?_
      refine Wp.get (len := 3) rfl (rfl) rfl ?_
      refine Wp.topR hS1 ?_
      refine Wp.get (len := 3) rfl (rfl) rfl ?_
      refine Wp.n (pc' := 85) 1 rfl ?_
      refine Wp.get (len := 3) rfl (rfl) rfl ?_
      refine Wp.top a5 ?_
      refine Wp.baldN (j := bl T p) (len := 1) rfl (rfl) rfl (by omega) (by decide) ?_
      refine Wp.top (hT1.2.2 (bl T p) (by omega)) ?_
      refine Wp.ecallS (len := 3) rfl rfl rfl rfl (k_kindOf _) ?_
      refine Wp.n (pc' := 96) 1 rfl ?_
      refine Wp.cput2 (len := 3) 4 rfl rfl ?_
      refine Wp.n (pc' := 101) 2 rfl ?_
      refine Wp.cput2 (len := 3) 7 rfl rfl ?_
      refine Wp.n (pc' := 105) 1 rfl ?_
      refine Wp.get (len := 3) rfl (rfl) rfl ?_
      refine Wp.top rfl ?_
      refine Wp.n (pc' := 109) 1 rfl ?_
      refine Wp.nc0 (x := kdc (T.2 (bl T p))) (y := 1) (tgt := 120) (len := 3) rfl (by omega) (by omega) (fun h109 => ?_) (fun h109 => ?_)
      · skip
        refine Wp.n (pc' := 121) 1 rfl ?_
        refine Wp.get (len := 3) rfl (rfl) rfl ?_
        refine Wp.topR hS1 ?_
        refine Wp.get (len := 3) rfl (rfl) rfl ?_
        refine Wp.top hT1.1 ?_
        refine Wp.n (pc' := 149) 4 rfl ?_
        refine Wp.get (len := 3) rfl (rfl) rfl ?_
        refine Wp.top a5 ?_
        refine Wp.cput2 (len := 3) 6 rfl rfl ?_
        have cke : ck (tk T (bl T p)) = kdc (T.2 (bl T p)) := ek.symm
        unfold ck at cke
        first
          | (have q12 : tk T (bl T p) = 1 ∨ tk T (bl T p) = 2 := by split at cke <;> omega
             exact fin _ _ _ (FA.f.t (FA.f.t FA.f)) b2 b3 rfl a5 rfl rfl ek (if_pos q12).symm)
          | (have q12 : ¬ (tk T (bl T p) = 1 ∨ tk T (bl T p) = 2) := by split at cke <;> omega
             exact fin _ _ _ (FA.f.t (FA.f.t FA.f)) b2 b3 rfl a5 rfl rfl ek (if_neg q12).symm)
      · skip
        refine Wp.n (pc' := 113) 1 rfl ?_
        refine Wp.get (len := 3) rfl (rfl) rfl ?_
        refine Wp.top rfl ?_
        refine Wp.n (pc' := 117) 1 rfl ?_
        refine Wp.nc1 (x := kdc (T.2 (bl T p))) (y := 2) (tgt := 130) (len := 3) rfl (by omega) (by omega) (fun h117 => ?_) (fun h117 => ?_)
        · skip
          refine Wp.n (pc' := 131) 1 rfl ?_
          refine Wp.get (len := 3) rfl (rfl) rfl ?_
          refine Wp.top a5 ?_
          refine Wp.n (pc' := 135) 1 rfl ?_
          refine Wp.iaddN (x := bl T p) (y := 1) (len := 1) rfl ?_
          refine Wp.n (pc' := 137) 1 rfl ?_
          refine Wp.get (len := 3) rfl (rfl) rfl ?_
          refine Wp.topR hS1 ?_
          refine Wp.get (len := 3) rfl (rfl) rfl ?_
          refine Wp.top hT1.1 ?_
          refine Wp.bi (len := 3) rfl (by decide) rfl (by omega) ?_
          refine Wp.top (n_min (x := bl T p + 1) (y := T.1) (by omega) (by omega)) ?_
          refine Wp.n (pc' := 149) 3 rfl ?_
          refine Wp.get (len := 3) rfl (rfl) rfl ?_
          refine Wp.top a5 ?_
          refine Wp.cput2 (len := 3) 6 rfl rfl ?_
          have cke : ck (tk T (bl T p)) = kdc (T.2 (bl T p)) := ek.symm
          unfold ck at cke
          first
            | (have q12 : tk T (bl T p) = 1 ∨ tk T (bl T p) = 2 := by split at cke <;> omega
               exact fin _ _ _ (FA.f.t (FA.f.t FA.f)) b2 b3 rfl a5 rfl rfl ek (if_pos q12).symm)
            | (have q12 : ¬ (tk T (bl T p) = 1 ∨ tk T (bl T p) = 2) := by split at cke <;> omega
               exact fin _ _ _ (FA.f.t (FA.f.t FA.f)) b2 b3 rfl a5 rfl rfl ek (if_neg q12).symm)
        · skip
          refine Wp.n (pc' := 121) 1 rfl ?_
          refine Wp.get (len := 3) rfl (rfl) rfl ?_
          refine Wp.topR hS1 ?_
          refine Wp.get (len := 3) rfl (rfl) rfl ?_
          refine Wp.top hT1.1 ?_
          refine Wp.n (pc' := 149) 4 rfl ?_
          refine Wp.get (len := 3) rfl (rfl) rfl ?_
          refine Wp.top a5 ?_
          refine Wp.cput2 (len := 3) 6 rfl rfl ?_
          have cke : ck (tk T (bl T p)) = kdc (T.2 (bl T p)) := ek.symm
          unfold ck at cke
          first
            | (have q12 : tk T (bl T p) = 1 ∨ tk T (bl T p) = 2 := by split at cke <;> omega
               exact fin _ _ _ (FA.f.t (FA.f.t FA.f)) b2 b3 rfl a5 rfl rfl ek (if_pos q12).symm)
            | (have q12 : ¬ (tk T (bl T p) = 1 ∨ tk T (bl T p) = 2) := by split at cke <;> omega
               exact fin _ _ _ (FA.f.t (FA.f.t FA.f)) b2 b3 rfl a5 rfl rfl ek (if_neg q12).symm)
  · omega
theorem k_advance (hT : TC κ T) (hS : κ.2.2.2 0 = some 33) (hL : LC κ T st) : Wp (d + 9) md_11 0 [some (.ref 35), none] [] (cset M κ) (fun v M' => v = none ∧ RdC M κ T (adS T st) M') := by
  rcases st with x | s
  · have x1 := hL.2.1
    have x3 := hL.2.2.1
    refine Wp.n (pc' := 1) 1 rfl ?_
    refine Wp.get (len := 3) rfl (rfl) rfl ?_
    refine Wp.top hL.1 ?_
    refine Wp.nz0 (x := x.1) (tgt := 8) (len := 3) rfl (by omega) (fun h4 => ?_) (fun h4 => ?_)
    · omega
    · skip
      refine Wp.retV (len := 1) rfl rfl ?_
      exact ⟨rfl, κ, rfl, FA.r, hL⟩
  · exact k_adv hT hS hL.1 hL.2.1 hL.2.2.2.2.1 (en_le hL.2.2.2.2.2.2).2
theorem k_fail (hT : TC κ T) (hL : LC κ T st) {k p : Nat} (hk : 1 ≤ k ∧ k ≤ 3) (y : Int32) (hy : gd st = true → y = nI p) : Wp d md_18 0 [some (.ref 35), some (.int (nI k)), some (.int y)] [] (cset M κ) (fun v M' => v = none ∧ RdC M κ T (if gd st = true then .inl (k, p) else st) M') := by
  rcases st with x | s
  · have x1 := hL.2.1
    have x3 := hL.2.2.1
    refine Wp.n (pc' := 1) 1 rfl ?_
    refine Wp.get (len := 3) rfl (rfl) rfl ?_
    refine Wp.top hL.1 ?_
    refine Wp.nz1 (x := x.1) (tgt := 17) (len := 3) rfl (by omega) (fun h4 => ?_) (fun h4 => ?_)
    · skip
      refine Wp.retV (len := 1) rfl rfl ?_
      exact ⟨rfl, κ, rfl, FA.r, hL⟩
    · omega
  · obtain rfl := hy rfl
    have t4 := tk_le (T := T) (s := s)
    have e := en_le hL.2.2.2.2.2.2
    refine Wp.n (pc' := 1) 1 rfl ?_
    refine Wp.get (len := 3) rfl (rfl) rfl ?_
    refine Wp.top hL.1 ?_
    refine Wp.nz1 (x := 0) (tgt := 17) (len := 3) rfl (by omega) (fun h4 => ?_) (fun h4 => ?_)
    · omega
    · skip
      refine Wp.n (pc' := 9) 2 rfl ?_
      refine Wp.cput2 (len := 3) 2 rfl rfl ?_
      refine Wp.n (pc' := 14) 2 rfl ?_
      refine Wp.cput2 (len := 3) 3 rfl rfl ?_
      refine Wp.retV (len := 1) rfl rfl ?_
      exact ⟨rfl, _, rfl, FA.f.t FA.f, rfl, hk.1, hk.2, rfl, s, en T s, ck (tk T s), hL.2.2.2.1, hL.2.2.2.2.1, e.1, e.2, hL.2.2.1, by unfold ck; split <;> omega⟩
theorem k_hasLine (hL : LC κ T st) : Ev d md_13 0 [some (.ref 35)] [] (cset M κ) (some (.int (bI (hlS T st))), cset M κ) := by
  refine Wp.toEv ?_
  rcases st with x | s
  · have x1 := hL.2.1
    have x3 := hL.2.2.1
    refine Wp.n (pc' := 1) 1 rfl ?_
    refine Wp.get (len := 3) rfl (rfl) rfl ?_
    refine Wp.top hL.1 ?_
    refine Wp.nz1 (x := x.1) (tgt := 18) (len := 3) rfl (by omega) (fun h4 => ?_) (fun h4 => ?_)
    · skip
      refine Wp.n (pc' := 19) 1 rfl ?_
      refine Wp.retZ (len := 1) (c := false) rfl rfl rfl ?_
      exact ⟨rfl, rfl⟩
    · omega
  · have t4 := tk_le (T := T) (s := s)
    have c0 : ck (tk T s) = 0 ↔ tk T s = 0 := by unfold ck; split <;> omega
    have c5 : ck (tk T s) ≤ 5 := by unfold ck; split <;> omega
    refine Wp.n (pc' := 1) 1 rfl ?_
    refine Wp.get (len := 3) rfl (rfl) rfl ?_
    refine Wp.top hL.1 ?_
    refine Wp.nz1 (x := 0) (tgt := 18) (len := 3) rfl (by omega) (fun h4 => ?_) (fun h4 => ?_)
    · omega
    · skip
      refine Wp.n (pc' := 8) 1 rfl ?_
      refine Wp.get (len := 3) rfl (rfl) rfl ?_
      refine Wp.top hL.2.2.1 ?_
      refine Wp.nz0 (x := ck (tk T s)) (tgt := 18) (len := 3) rfl (by omega) (fun h11 => ?_) (fun h11 => ?_)
      · skip
        refine Wp.n (pc' := 19) 1 rfl ?_
        refine Wp.retZ (len := 1) (c := false) rfl rfl rfl ?_
        first
          | exact ⟨by rw [show hlS T (.inr s) = true from decide_eq_true (fun q => h11 (c0.mpr q))], rfl⟩
          | exact ⟨by rw [show hlS T (.inr s) = false from decide_eq_false (fun q => q (c0.mp h11))], rfl⟩
      · skip
        refine Wp.n (pc' := 19) 2 rfl ?_
        refine Wp.retZ (len := 1) (c := true) rfl rfl rfl ?_
        first
          | exact ⟨by rw [show hlS T (.inr s) = true from decide_eq_true (fun q => h11 (c0.mpr q))], rfl⟩
          | exact ⟨by rw [show hlS T (.inr s) = false from decide_eq_false (fun q => q (c0.mp h11))], rfl⟩
end CRD
end
section
/-! WORDS and NUMBERS, the class. -/
/-- the letters of word i, and its number -/
def wch (i j : Nat) : Int32 := (sbyt.getD i []).getD j 0
def wln (i : Nat) : Nat := slen.getD i 0
def whN (f : Nat → Int32) : Nat → Nat
  | 0 => 0
  | m + 1 => 27 * whN f m + ((f m).toNatClampNeg - 96)
def wno (i : Nat) : Nat := whN (wch i) (wln i)
theorem wch_ok : ∀ i, i < 21 → wln i ≤ 12 ∧ ∀ j, j < wln i → isLt (wch i j) = true := by decide +kernel
theorem whN_inj {f g : Nat → Int32} : ∀ (m n : Nat), (∀ j, j < m → isLt (f j) = true) → (∀ j, j < n → isLt (g j) = true) → whN f m = whN g n → m = n ∧ ∀ j, j < m → f j = g j
  | 0, 0, _, _, _ => ⟨rfl, fun j hj => absurd hj (Nat.not_lt_zero _)⟩
  | 0, n + 1, _, hg, h => by
    obtain ⟨c, hc, c1, c2⟩ := lt_of (hg n (by omega))
    have h' : 0 = 27 * whN g n + ((g n).toNatClampNeg - 96) := h
    rw [hc, nI_clamp (by omega)] at h'
    omega
  | m + 1, 0, hf, _, h => by
    obtain ⟨c, hc, c1, c2⟩ := lt_of (hf m (by omega))
    have h' : 27 * whN f m + ((f m).toNatClampNeg - 96) = 0 := h
    rw [hc, nI_clamp (by omega)] at h'
    omega
  | m + 1, n + 1, hf, hg, h => by
    obtain ⟨c, hc, c1, c2⟩ := lt_of (hf m (by omega))
    obtain ⟨e, he, e1, e2⟩ := lt_of (hg n (by omega))
    have h' : 27 * whN f m + ((f m).toNatClampNeg - 96) = 27 * whN g n + ((g n).toNatClampNeg - 96) := h
    rw [hc, nI_clamp (by omega), he, nI_clamp (by omega)] at h'
    obtain ⟨q1, q2⟩ := whN_inj m n (fun j hj => hf j (by omega)) (fun j hj => hg j (by omega)) (by omega)
    subst q1
    refine ⟨rfl, fun j hj => ?_⟩
    by_cases q : j = m
    · rw [q, hc, he, show c = e by omega]
    · exact q2 j (by omega)
theorem whN_eq {f g : Nat → Int32} : ∀ (m : Nat), (∀ j, j < m → f j = g j) → whN f m = whN g m
  | 0, _ => rfl
  | m + 1, h => by
    show 27 * whN f m + ((f m).toNatClampNeg - 96) = 27 * whN g m + ((g m).toNatClampNeg - 96)
    rw [whN_eq m (fun j hj => h j (by omega)), h m (by omega)]
theorem hsN_wh {T : TP} {s : Nat} : ∀ m, hsN T s m = whN (fun j => T.2 (s + j)) m
  | 0 => rfl
  | m + 1 => by
    show 27 * hsN T s m + _ = 27 * whN (fun j => T.2 (s + j)) m + _
    rw [hsN_wh m]
/-- word i stands from a on to e -/
def wdAt (T : TP) (a e i : Nat) : Bool := decide (e - a = wln i ∧ ∀ j, j < wln i → T.2 (a + j) = wch i j)
theorem wdAt_is {T : TP} {s i : Nat} (hi : i < 21) : isW T s (wno i) = (decide (tk T s = 1) && wdAt T s (en T s) i) := by
  obtain ⟨w1, w2⟩ := wch_ok i hi
  rw [Bool.eq_iff_iff, Bool.and_eq_true]
  unfold isW wdAt
  rw [decide_eq_true_iff, decide_eq_true_iff, decide_eq_true_iff]
  constructor
  · rintro ⟨h1, h2, h3⟩
    refine ⟨h1, ?_⟩
    have e := (tk_1 h1).1
    have le := en_le (Nat.le_of_lt (tk_1 h1).2)
    rw [hsN_wh] at h3
    have hl : ∀ j, j < en T s - s → isLt ((fun j => T.2 (s + j)) j) = true := fun j hj => tn_all (p := isLt) (T := T) (s := s) (q := s + j) (by omega) (by rw [← e]; omega)
    obtain ⟨q1, q2⟩ := whN_inj _ _ hl w2 h3
    exact ⟨q1, fun j hj => q2 j (by omega)⟩
  · rintro ⟨h1, h2, h3⟩
    refine ⟨h1, by omega, ?_⟩
    rw [hsN_wh, h2]
    exact whN_eq _ h3
theorem bs7 {M : AM} {q n : Nat} {x : _} {r : List Value} (hM : M q = .inl (8, n, x)) (hr : Nat.ble r.length 4 = true) : bstep 7 (.ref q :: r) M = some (.int (nI n) :: r, M) := by
  show (match M q with | .inl (t, n, _) => bif Nat.beq t 8 && Nat.ble r.length 4 then some (Value.int (Int32.ofNat n) :: r, M) else none | .inr _ => none) = _
  rw [hM]
  show (bif Nat.beq 8 8 && Nat.ble r.length 4 then _ else none) = _
  rw [hr]
  rfl
theorem bs8 {M : AM} {q n j : Nat} {w : Nat → Int32} {r : List Value} (hM : M q = .inl (8, n, .inl w)) (hj : j < n) (hn : n < 2 ^ 31) (hr : Nat.ble r.length 4 = true) : bstep 8 (.int (nI j) :: .ref q :: r) M = some (.int (w j) :: r, M) := by
  show (match M q with | .inl (t, n, .inl f) => bif Nat.beq t 8 && ain (nI j) n && Nat.ble r.length 4 then some (Value.int (f (nI j).toNatClampNeg) :: r, M) else none | _ => none) = _
  rw [hM]
  show (bif Nat.beq 8 8 && ain (nI j) n && Nat.ble r.length 4 then _ else none) = _
  rw [hr, ain_of (vp_in_nI hj hn), nI_clamp (by omega)]
  rfl
/-- the words of the class's text -/
def HW (M : AM) : Prop := ∀ i, i < 21 → M (3 + i) = .inl (8, wln i, .inl (wch i))
section CWD
variable {d : Nat} {M : AM} {κ κ' : CS} {T : TP} {st : St} {Q : Option Value → AM → Prop}
theorem k_isW_l (hT : TC κ T) (hS : κ.2.2.2 0 = some 33) {i a e : Nat} (hi : i < 21) (hM : cset M κ (3 + i) = .inl (8, wln i, .inl (wch i))) (h5 : κ.1 2 5 = nI a) (h6 : κ.1 2 6 = nI e) (he : e ≤ T.1) (hl : e - a = wln i) (hae : a ≤ e) : ∀ (n m : Nat), a + m + n = e → (∀ j, j < m → T.2 (a + j) = wch i j) → Wp (d + 9) md_17 31 [some (.ref 35), some (.ref (3 + i)), some (.int (nI (a + m)))] [] (cset M κ) (IsR (some (.int (bI (wdAt T a e i)))) (cset M κ))
  | 0, m, hn, hp => by
    have t20 := hT.2.1
    have w : wdAt T a e i = true := decide_eq_true ⟨hl, fun j hj => hp j (by omega)⟩
    rw [w]
    refine Wp.n (pc' := 33) 2 rfl ?_
    refine Wp.get (len := 3) rfl (rfl) rfl ?_
    refine Wp.top h6 ?_
    refine Wp.nc3 (x := a + m) (y := e) (tgt := 69) (len := 3) rfl (by omega) (by omega) (fun h36 => ?_) (fun h36 => ?_)
    · skip
      refine Wp.n (pc' := 70) 1 rfl ?_
      refine Wp.retZ (len := 1) (c := true) rfl rfl rfl ?_
      exact ⟨rfl, rfl⟩
    · omega
  | n + 1, m, hn, hp => by
    have t20 := hT.2.1
    have w12 := (wch_ok i hi).1
    refine Wp.n (pc' := 33) 2 rfl ?_
    refine Wp.get (len := 3) rfl (rfl) rfl ?_
    refine Wp.top h6 ?_
    refine Wp.nc3 (x := a + m) (y := e) (tgt := 69) (len := 3) rfl (by omega) (by omega) (fun h36 => ?_) (fun h36 => ?_)
    · omega
    · skip
      refine Wp.n (pc' := 40) 1 rfl ?_
      refine Wp.get (len := 3) rfl (rfl) rfl ?_
      refine Wp.topR hS ?_
      refine Wp.get (len := 3) rfl (rfl) rfl ?_
      refine Wp.n (pc' := 47) 1 rfl ?_
      refine Wp.baldN (j := a + m) (len := 1) rfl (rfl) rfl (by omega) (by decide) ?_
      refine Wp.top (hT.2.2 (a + m) (by omega)) ?_
      refine Wp.n (pc' := 51) 3 rfl ?_
      refine Wp.get (len := 3) rfl (rfl) rfl ?_
      refine Wp.top h5 ?_
      refine Wp.isubN (x := a + m) (y := a) (len := 1) rfl (by omega) ?_
      refine Wp.bi (len := 3) rfl (by decide) (bs8 (n := wln i) (j := a + m - a) hM (by omega) (by omega) rfl) (by omega) ?_
      refine Wp.ic0 (tgt := 63) (len := 3) rfl (fun h58 => ?_) (fun h58 => ?_)
      · skip
        refine Wp.incN (x := a + m) (len := 3) rfl rfl ?_
        refine Wp.n (pc' := 31) 1 rfl ?_
        have w := k_isW_l hT hS hi hM h5 h6 he hl hae n (m + 1) (by omega) (fun j hj => by
          by_cases q : j = m
          · rw [q, h58, show a + m - a = m by omega]
          · exact hp j (by omega))
        exact w
      · skip
        refine Wp.n (pc' := 62) 1 rfl ?_
        refine Wp.retZ (len := 1) (c := false) rfl rfl rfl ?_
        have w : wdAt T a e i = false := decide_eq_false (fun z => h58 (by have := z.2 m (by omega); rw [this, show a + m - a = m by omega]))
        rw [w]
        exact ⟨rfl, rfl⟩
theorem k_isW0 (hT : TC κ T) (hS : κ.2.2.2 0 = some 33) (hW : HW M) {i a e k : Nat} (hi : i < 21) (x4 : κ.1 2 4 = nI k) (hk : k ≤ 5) (x5 : κ.1 2 5 = nI a) (x6 : κ.1 2 6 = nI e) (he : e ≤ T.1) (hae : a ≤ e) : Ev (d + 9) md_17 0 [some (.ref 35), some (.ref (3 + i)), none] [] (cset M κ) (some (.int (bI (decide (k = 1) && wdAt T a e i))), cset M κ) := by
  refine Wp.toEv ?_
  have t20 := hT.2.1
  have w12 := (wch_ok i hi).1
  have hM : cset M κ (3 + i) = .inl (8, wln i, .inl (wch i)) := (cset_o (by omega)).trans (hW i hi)
  refine Wp.n (pc' := 1) 1 rfl ?_
  refine Wp.get (len := 3) rfl (rfl) rfl ?_
  refine Wp.top x4 ?_
  refine Wp.n (pc' := 5) 1 rfl ?_
  refine Wp.nc1 (x := k) (y := 1) (tgt := 24) (len := 3) rfl (by omega) (by omega) (fun h5 => ?_) (fun h5 => ?_)
  · skip
    refine Wp.n (pc' := 25) 1 rfl ?_
    refine Wp.retZ (len := 1) (c := false) rfl rfl rfl ?_
    first
      | (rw [show decide (k = 1) = false from decide_eq_false (by omega)]; exact ⟨rfl, rfl⟩)
      | (rw [show wdAt T a e i = false from decide_eq_false (fun z => by omega), Bool.and_false]; exact ⟨rfl, rfl⟩)
  · skip
    refine Wp.n (pc' := 9) 1 rfl ?_
    refine Wp.get (len := 3) rfl (rfl) rfl ?_
    refine Wp.top x6 ?_
    refine Wp.n (pc' := 13) 1 rfl ?_
    refine Wp.get (len := 3) rfl (rfl) rfl ?_
    refine Wp.top x5 ?_
    refine Wp.isubN (x := e) (y := a) (len := 1) rfl (by omega) ?_
    refine Wp.n (pc' := 18) 1 rfl ?_
    refine Wp.bi (len := 3) rfl (by decide) (bs7 (n := wln i) hM rfl) (by omega) ?_
    refine Wp.nc0 (x := e - a) (y := wln i) (tgt := 26) (len := 3) rfl (by omega) (by omega) (fun h21 => ?_) (fun h21 => ?_)
    · skip
      refine Wp.n (pc' := 27) 1 rfl ?_
      refine Wp.get (len := 3) rfl (rfl) rfl ?_
      refine Wp.top x5 ?_
      refine Wp.n (pc' := 31) 1 rfl ?_
      rw [show decide (k = 1) = true from decide_eq_true (by omega), Bool.true_and]
      exact k_isW_l hT hS hi hM x5 x6 he (by omega) hae (e - a) 0 (by omega) (fun j hj => absurd hj (Nat.not_lt_zero _))
    · skip
      refine Wp.n (pc' := 25) 1 rfl ?_
      refine Wp.retZ (len := 1) (c := false) rfl rfl rfl ?_
      first
        | (rw [show decide (k = 1) = false from decide_eq_false (by omega)]; exact ⟨rfl, rfl⟩)
        | (rw [show wdAt T a e i = false from decide_eq_false (fun z => by omega), Bool.and_false]; exact ⟨rfl, rfl⟩)
theorem k_isWord (hT : TC κ T) (hS : κ.2.2.2 0 = some 33) (hW : HW M) (hL : LC κ T st) {i : Nat} (hi : i < 21) : ∃ c, Ev (d + 9) md_17 0 [some (.ref 35), some (.ref (3 + i)), none] [] (cset M κ) (some (.int (bI c)), cset M κ) ∧ ∀ s, st = .inr s → c = isW T s (wno i) := by
  rcases st with x | s
  · obtain ⟨_, _, _, _, a, e, k, h5, h6, hae, he, h4, hk⟩ := hL
    exact ⟨_, k_isW0 hT hS hW hi h4 hk h5 h6 he hae, fun s q => by cases q⟩
  · obtain ⟨h2, h3, h4, h5, h6, h7, hs⟩ := hL
    have t4 := tk_le (T := T) (s := s)
    have e := en_le hs
    refine ⟨_, k_isW0 hT hS hW hi h4 (by unfold ck; split <;> omega) h5 h6 e.2 e.1, fun s' q => ?_⟩
    cases q
    rw [wdAt_is hi]
    have c1 : decide (ck (tk T s) = 1) = decide (tk T s = 1) := by
      unfold ck
      by_cases c : tk T s = 4
      · rw [if_pos c, c]; rfl
      · rw [if_neg c]
    rw [c1]
theorem k_takeWord (hT : TC κ T) (hS : κ.2.2.2 0 = some 33) (hW : HW M) (hL : LC κ T st) {i : Nat} (hi : i < 21) : Wp (d + 10) md_16 0 [some (.ref 35), some (.ref (3 + i))] [] (cset M κ) (fun v M' => v = none ∧ RdC M κ T (wdS T (wno i) st) M') := by
  obtain ⟨c, hc, hs⟩ := k_isWord (d := d) hT hS hW hL hi
  refine Wp.n (pc' := 2) 2 rfl ?_
  refine Wp.ecallV (len := 3) rfl rfl rfl (rfl) rfl (by decide) rfl (hc) ?_
  refine Wp.ifb1 (tgt := 17) (len := 3) rfl (fun h5 => ?_) (fun h5 => ?_)
  · have e0 : adS T st = wdS T (wno i) st := by
      rcases st with x | s
      · rfl
      · exact (if_pos ((hs s rfl).symm.trans h5)).symm
    refine Wp.n (pc' := 18) 1 rfl ?_
    refine Wp.callV (len := 3) rfl rfl rfl (rfl) rfl (by decide) rfl (k_advance hT hS hL) ?_
    rintro _ _ ⟨rfl, κ2, rfl, f2, l2⟩
    refine Wp.retV (len := 1) rfl rfl ?_
    exact ⟨rfl, κ2, rfl, f2, e0 ▸ l2⟩
  · obtain ⟨p, hp, hy⟩ : ∃ p, p ≤ 2000 ∧ (gd st = true → κ.1 2 5 = nI p) := by
      rcases st with x | s
      · exact ⟨0, by decide, fun q => by cases q⟩
      · exact ⟨s, by have := hL.2.2.2.2.2.2; have := hT.2.1; omega, fun _ => hL.2.2.2.1⟩
    refine Wp.n (pc' := 11) 3 rfl ?_
    refine Wp.get (len := 3) rfl (rfl) rfl ?_
    refine Wp.callV (len := 3) rfl rfl rfl (rfl) rfl (by decide) rfl (k_fail (k := 1) hT hL (by decide) _ hy) ?_
    rintro _ _ ⟨rfl, κ1, rfl, f1, l1⟩
    refine Wp.n (pc' := 18) 1 rfl ?_
    have e1 : adS T (if gd st = true then .inl (1, p) else st) = wdS T (wno i) st := by
      rcases st with x | s
      · rfl
      · have ep : p = s := (nI_eq (by have := hp; omega) (by have := hL.2.2.2.2.2.2; have := hT.2.1; omega)).mp ((hy rfl).symm.trans hL.2.2.2.1)
        have nw : ¬ isW T s (wno i) = true := fun q => by rw [← hs s rfl, h5] at q; cases q
        rw [ep]
        exact (if_neg nw).symm
    refine Wp.callV (len := 3) rfl rfl rfl (rfl) rfl (by decide) rfl (k_advance (f1.tc hT) (by rw [f1.2]; exact hS) l1) ?_
    rintro _ _ ⟨rfl, κ2, rfl, f2, l2⟩
    refine Wp.retV (len := 1) rfl rfl ?_
    exact ⟨rfl, κ2, rfl, f1.t f2, e1 ▸ l2⟩
end CWD
end
section
/-! NUMBERS, the class. -/
section CNM
variable {d : Nat} {M : AM} {κ κ' : CS} {T : TP} {st : St} {Q : Option Value → AM → Prop}
theorem k_tn_b {x : Nat × Nat} {l32 h32 : Int32} (hL : LC κ T (.inl x)) (kk : ∀ y, Q (some (.int y)) (cset M κ)) : Wp (d + 10) md_20 45 [some (.ref 35), some (.int l32), some (.int h32), none] [] (cset M κ) Q := by
  have x1 := hL.2.1
  have x3 := hL.2.2.1
  refine Wp.n (pc' := 46) 1 rfl ?_
  refine Wp.get (len := 3) rfl (rfl) rfl ?_
  refine Wp.top hL.1 ?_
  refine Wp.nz0 (x := x.1) (tgt := 54) (len := 3) rfl (by omega) (fun h49 => ?_) (fun h49 => ?_)
  · omega
  · skip
    refine Wp.n (pc' := 53) 1 rfl ?_
    refine Wp.retI (len := 1) rfl rfl ?_
    exact kk _
theorem k_tn_g {s lo hi : Nat} (hT : TC κ T) (hS : κ.2.2.2 0 = some 33) (hL : LC κ T (.inr s)) (hv : vl T s ≤ 1000) : Wp (d + 10) md_20 45 [some (.ref 35), some (.int (nI lo)), some (.int (nI hi)), none] [] (cset M κ) (fun v M' => ∃ x, v = some (.int x) ∧ (gd (.inr (nx T s)) = true → x = nI (vl T s)) ∧ RdC M κ T (.inr (nx T s)) M') := by
  obtain ⟨z2, z3, z4, z5, z6, z7, zs⟩ := id hL
  refine Wp.n (pc' := 46) 1 rfl ?_
  refine Wp.get (len := 3) rfl (rfl) rfl ?_
  refine Wp.top z2 ?_
  refine Wp.nz0 (x := 0) (tgt := 54) (len := 3) rfl (by omega) (fun h49 => ?_) (fun h49 => ?_)
  · skip
    refine Wp.n (pc' := 55) 1 rfl ?_
    refine Wp.get (len := 3) rfl (rfl) rfl ?_
    refine Wp.top z7 ?_
    refine Wp.n (pc' := 60) 2 rfl ?_
    refine Wp.callV (len := 3) rfl rfl rfl (rfl) rfl (by decide) rfl (k_advance hT hS hL) ?_
    rintro _ _ ⟨rfl, κ2, rfl, f2, l2⟩
    refine Wp.n (pc' := 64) 1 rfl ?_
    refine Wp.retI (len := 1) rfl rfl ?_
    exact ⟨_, rfl, fun _ => congrArg nI (by omega), κ2, rfl, f2, l2⟩
  · omega
theorem k_takeNumber (hT : TC κ T) (hS : κ.2.2.2 0 = some 33) (hL : LC κ T st) {l32 h32 : Int32} {lo hi : Nat} (hg : gd st = true → l32 = nI lo ∧ h32 = nI hi ∧ hi ≤ 1000 ∧ lo ≤ 1000) : Wp (d + 10) md_20 0 [some (.ref 35), some (.int l32), some (.int h32), none] [] (cset M κ) (fun v M' => ∃ x, v = some (.int x) ∧ (gd (nmS T lo hi st) = true → x = nI (nmV T st)) ∧ RdC M κ T (nmS T lo hi st) M') := by
  rcases st with x | s
  · obtain ⟨z1, z2, z3, z4, a, e, k, z5, z6, z7, z8, z9, z10⟩ := id hL
    refine Wp.n (pc' := 1) 1 rfl ?_
    refine Wp.get (len := 3) rfl (rfl) rfl ?_
    refine Wp.top z9 ?_
    refine Wp.n (pc' := 5) 1 rfl ?_
    refine Wp.nc0 (x := k) (y := 2) (tgt := 20) (len := 3) rfl (by omega) (by omega) (fun h5 => ?_) (fun h5 => ?_)
    · skip
      refine Wp.n (pc' := 21) 1 rfl ?_
      refine Wp.get (len := 3) rfl (rfl) rfl ?_
      refine Wp.n (pc' := 25) 1 rfl ?_
      refine Wp.ic2 (tgt := 36) (len := 3) rfl (fun h25 => ?_) (fun h25 => ?_)
      · skip
        refine Wp.n (pc' := 39) 3 rfl ?_
        refine Wp.get (len := 3) rfl (rfl) rfl ?_
        refine Wp.callV (len := 3) rfl rfl rfl (rfl) rfl (by decide) rfl (k_fail (p := 0) (k := 2) hT hL (by decide) _ (fun q => by cases q)) ?_
        rintro _ _ ⟨rfl, κ1, rfl, f1, l1⟩
        change LC κ1 T (.inl x) at l1
        first
          | exact k_tn_b l1 (fun y => ⟨y, rfl, fun q => (by cases q), κ1, rfl, f1, l1⟩)
          | exact k_tn_b hL (fun y => ⟨y, rfl, fun q => (by cases q), κ, rfl, FA.r, hL⟩)
      · skip
        refine Wp.n (pc' := 29) 1 rfl ?_
        refine Wp.get (len := 3) rfl (rfl) rfl ?_
        refine Wp.n (pc' := 33) 1 rfl ?_
        refine Wp.ic5 (tgt := 45) (len := 3) rfl (fun h33 => ?_) (fun h33 => ?_)
        · skip
          first
            | exact k_tn_b l1 (fun y => ⟨y, rfl, fun q => (by cases q), κ1, rfl, f1, l1⟩)
            | exact k_tn_b hL (fun y => ⟨y, rfl, fun q => (by cases q), κ, rfl, FA.r, hL⟩)
        · skip
          refine Wp.n (pc' := 39) 3 rfl ?_
          refine Wp.get (len := 3) rfl (rfl) rfl ?_
          refine Wp.callV (len := 3) rfl rfl rfl (rfl) rfl (by decide) rfl (k_fail (p := 0) (k := 2) hT hL (by decide) _ (fun q => by cases q)) ?_
          rintro _ _ ⟨rfl, κ1, rfl, f1, l1⟩
          change LC κ1 T (.inl x) at l1
          first
            | exact k_tn_b l1 (fun y => ⟨y, rfl, fun q => (by cases q), κ1, rfl, f1, l1⟩)
            | exact k_tn_b hL (fun y => ⟨y, rfl, fun q => (by cases q), κ, rfl, FA.r, hL⟩)
    · skip
      refine Wp.n (pc' := 11) 3 rfl ?_
      refine Wp.get (len := 3) rfl (rfl) rfl ?_
      refine Wp.callV (len := 3) rfl rfl rfl (rfl) rfl (by decide) rfl (k_fail (p := 0) (k := 1) hT hL (by decide) _ (fun q => by cases q)) ?_
      rintro _ _ ⟨rfl, κ1, rfl, f1, l1⟩
      change LC κ1 T (.inl x) at l1
      refine Wp.n (pc' := 45) 1 rfl ?_
      first
        | exact k_tn_b l1 (fun y => ⟨y, rfl, fun q => (by cases q), κ1, rfl, f1, l1⟩)
        | exact k_tn_b hL (fun y => ⟨y, rfl, fun q => (by cases q), κ, rfl, FA.r, hL⟩)
  · obtain ⟨rfl, rfl, hi1, lo1⟩ := hg rfl
    obtain ⟨z2, z3, z4, z5, z6, z7, zs⟩ := id hL
    have t4 := tk_le (T := T) (s := s)
    have c2 : ck (tk T s) = 2 ↔ tk T s = 2 := by unfold ck; split <;> omega
    have c5 : ck (tk T s) ≤ 5 := by unfold ck; split <;> omega
    have mv : min 1000000 (vl T s) ≤ 1000000 := by omega
    refine Wp.n (pc' := 1) 1 rfl ?_
    refine Wp.get (len := 3) rfl (rfl) rfl ?_
    refine Wp.top z4 ?_
    refine Wp.n (pc' := 5) 1 rfl ?_
    refine Wp.nc0 (x := ck (tk T s)) (y := 2) (tgt := 20) (len := 3) rfl (by omega) (by omega) (fun h5 => ?_) (fun h5 => ?_)
    · skip
      refine Wp.n (pc' := 21) 1 rfl ?_
      refine Wp.get (len := 3) rfl (rfl) rfl ?_
      refine Wp.top z7 ?_
      refine Wp.n (pc' := 25) 1 rfl ?_
      refine Wp.nc2 (x := min 1000000 (vl T s)) (y := lo) (tgt := 36) (len := 3) rfl (by omega) (by omega) (fun h25 => ?_) (fun h25 => ?_)
      · skip
        refine Wp.n (pc' := 39) 3 rfl ?_
        refine Wp.get (len := 3) rfl (rfl) rfl ?_
        refine Wp.callV (len := 3) rfl rfl rfl (rfl) rfl (by decide) rfl (k_fail (p := s) (k := 2) hT hL (by decide) _ (fun _ => z5)) ?_
        rintro _ _ ⟨rfl, κ1, rfl, f1, l1⟩
        change LC κ1 T (.inl (2, s)) at l1
        first
          | (have e : nmS T lo hi (.inr s) = .inl (1, s) := if_neg (fun q => h5 (c2.mpr q))
             rw [e]
             exact k_tn_b (x := (1, s)) l1 (fun y => ⟨y, rfl, fun q => (by cases q), κ1, rfl, f1, l1⟩))
          | (have e : nmS T lo hi (.inr s) = .inl (2, s) := (if_pos (c2.mp h5)).trans (if_neg (by omega))
             rw [e]
             exact k_tn_b (x := (2, s)) l1 (fun y => ⟨y, rfl, fun q => (by cases q), κ1, rfl, f1, l1⟩))
          | (have e : nmS T lo hi (.inr s) = .inr (nx T s) := (if_pos (c2.mp h5)).trans (if_pos (by omega))
             rw [e]
             exact k_tn_g hT hS hL (by omega))
      · skip
        refine Wp.n (pc' := 29) 1 rfl ?_
        refine Wp.get (len := 3) rfl (rfl) rfl ?_
        refine Wp.top z7 ?_
        refine Wp.n (pc' := 33) 1 rfl ?_
        refine Wp.nc5 (x := min 1000000 (vl T s)) (y := hi) (tgt := 45) (len := 3) rfl (by omega) (by omega) (fun h33 => ?_) (fun h33 => ?_)
        · skip
          first
            | (have e : nmS T lo hi (.inr s) = .inl (1, s) := if_neg (fun q => h5 (c2.mpr q))
               rw [e]
               exact k_tn_b (x := (1, s)) l1 (fun y => ⟨y, rfl, fun q => (by cases q), κ1, rfl, f1, l1⟩))
            | (have e : nmS T lo hi (.inr s) = .inl (2, s) := (if_pos (c2.mp h5)).trans (if_neg (by omega))
               rw [e]
               exact k_tn_b (x := (2, s)) l1 (fun y => ⟨y, rfl, fun q => (by cases q), κ1, rfl, f1, l1⟩))
            | (have e : nmS T lo hi (.inr s) = .inr (nx T s) := (if_pos (c2.mp h5)).trans (if_pos (by omega))
               rw [e]
               exact k_tn_g hT hS hL (by omega))
        · skip
          refine Wp.n (pc' := 39) 3 rfl ?_
          refine Wp.get (len := 3) rfl (rfl) rfl ?_
          refine Wp.callV (len := 3) rfl rfl rfl (rfl) rfl (by decide) rfl (k_fail (p := s) (k := 2) hT hL (by decide) _ (fun _ => z5)) ?_
          rintro _ _ ⟨rfl, κ1, rfl, f1, l1⟩
          change LC κ1 T (.inl (2, s)) at l1
          first
            | (have e : nmS T lo hi (.inr s) = .inl (1, s) := if_neg (fun q => h5 (c2.mpr q))
               rw [e]
               exact k_tn_b (x := (1, s)) l1 (fun y => ⟨y, rfl, fun q => (by cases q), κ1, rfl, f1, l1⟩))
            | (have e : nmS T lo hi (.inr s) = .inl (2, s) := (if_pos (c2.mp h5)).trans (if_neg (by omega))
               rw [e]
               exact k_tn_b (x := (2, s)) l1 (fun y => ⟨y, rfl, fun q => (by cases q), κ1, rfl, f1, l1⟩))
            | (have e : nmS T lo hi (.inr s) = .inr (nx T s) := (if_pos (c2.mp h5)).trans (if_pos (by omega))
               rw [e]
               exact k_tn_g hT hS hL (by omega))
    · skip
      refine Wp.n (pc' := 11) 3 rfl ?_
      refine Wp.get (len := 3) rfl (rfl) rfl ?_
      refine Wp.callV (len := 3) rfl rfl rfl (rfl) rfl (by decide) rfl (k_fail (p := s) (k := 1) hT hL (by decide) _ (fun _ => z5)) ?_
      rintro _ _ ⟨rfl, κ1, rfl, f1, l1⟩
      change LC κ1 T (.inl (1, s)) at l1
      refine Wp.n (pc' := 45) 1 rfl ?_
      first
        | (have e : nmS T lo hi (.inr s) = .inl (1, s) := if_neg (fun q => h5 (c2.mpr q))
           rw [e]
           exact k_tn_b (x := (1, s)) l1 (fun y => ⟨y, rfl, fun q => (by cases q), κ1, rfl, f1, l1⟩))
        | (have e : nmS T lo hi (.inr s) = .inl (2, s) := (if_pos (c2.mp h5)).trans (if_neg (by omega))
           rw [e]
           exact k_tn_b (x := (2, s)) l1 (fun y => ⟨y, rfl, fun q => (by cases q), κ1, rfl, f1, l1⟩))
        | (have e : nmS T lo hi (.inr s) = .inr (nx T s) := (if_pos (c2.mp h5)).trans (if_pos (by omega))
           rw [e]
           exact k_tn_g hT hS hL (by omega))
theorem k_takeNamed (hT : TC κ T) (hS : κ.2.2.2 0 = some 33) (hW : HW M) (hL : LC κ T st) {i : Nat} (hi : i < 21) {l32 h32 : Int32} {lo hh : Nat} (hg : gd (wdS T (wno i) st) = true → l32 = nI lo ∧ h32 = nI hh ∧ hh ≤ 1000 ∧ lo ≤ 1000) : Wp (d + 11) md_19 0 [some (.ref 35), some (.ref (3 + i)), some (.int l32), some (.int h32)] [] (cset M κ) (fun v M' => ∃ x, v = some (.int x) ∧ (gd (nmS T lo hh (wdS T (wno i) st)) = true → x = nI (nmV T (wdS T (wno i) st))) ∧ RdC M κ T (nmS T lo hh (wdS T (wno i) st)) M') := by
  refine Wp.n (pc' := 2) 2 rfl ?_
  refine Wp.callV (len := 3) rfl rfl rfl (rfl) rfl (by decide) rfl (k_takeWord hT hS hW hL hi) ?_
  rintro _ _ ⟨rfl, κ1, rfl, f1, l1⟩
  refine Wp.n (pc' := 8) 3 rfl ?_
  refine Wp.callV (len := 3) rfl rfl rfl (rfl) rfl (by decide) rfl (k_takeNumber (f1.tc hT) (by rw [f1.2]; exact hS) l1 hg) ?_
  rintro _ _ ⟨x, rfl, hx, κ2, rfl, f2, l2⟩
  refine Wp.retI (len := 1) rfl rfl ?_
  exact ⟨_, rfl, hx, κ2, rfl, f1.t f2, l2⟩
end CNM
end
section
/-! THE CLASS'S DRAFT: rules, its beginning, the first line. -/
def BdC (ρ : RC) (K : KD) : Prop := RepC ρ K ∧ (∀ j, j < 5 → rlw ρ j = nI (kh K (6 + j))) ∧ kh K 11 = 0
/-- a line read by the class -/
def RCn (M : AM) (κ : CS) (T : TP) (st : St) (K : KD) : Option Value → AM → Prop := fun v M' => v = none ∧ ∃ ρ' κ', M' = cset (rset M 83 ρ') κ' ∧ FA κ κ' ∧ LC κ' T st ∧ (gd st = true → BdC ρ' K)
section DRF
variable {d : Nat} {X : MD} {pc len : Nat} {l : AL} {sk : List Value} {M : AM} {κ κ' : CS} {T : TP} {st : St} {K : KD} {ρ ρ' : RC} {b r : Nat} {v : Value} {Q : Option Value → AM → Prop}
theorem dobj : cset (rset M 83 ρ) κ 83 = .inr (3, rfs 83 ρ) := (cset_o (by omega)).trans rs_obj
theorem dlaw : cset (rset M 83 ρ) κ 84 = .inr (0, lfs (rlw ρ)) := (cset_o (by omega)).trans (rs_law (r := 83))
theorem droads : cset (rset M 83 ρ) κ 85 = .inl (4, 12, .inr (.inr (.inr (.inr (fun i => if i < 12 then some (83 + 3 + i) else none))))) := (cset_o (by omega)).trans (rs_roads (r := 83))
theorem droad {i : Nat} (h : i < 12) : cset (rset M 83 ρ) κ (83 + 3 + i) = .inr (1, kfs i (rlk ρ i)) := (cset_o (by omega)).trans (rs_road h)
theorem dlanes : cset (rset M 83 ρ) κ 98 = .inl (4, 9, .inr (.inr (.inr (.inr (fun i => if i < 9 then some (83 + 16 + i) else none))))) := (cset_o (by omega)).trans (rs_lanes (r := 83))
theorem dlane {i : Nat} (h : i < 9) : cset (rset M 83 ρ) κ (83 + 16 + i) = .inr (1, kfs i (rlk ρ (12 + i))) := (cset_o (by omega)).trans (rs_lane h)
theorem Wp.dput {x : Int32} (j : Nat) (hj : (Nat.ble j 3 || Nat.beq j 6 || Nat.beq j 8 || Nat.beq j 10) = true) (hc : cdx X pc = some (.inr (.inr (1, 3, j, v)), len)) (h : Wp d X (pc + len) l sk (cset (rset M 83 (hset ρ j x)) κ) Q) : Wp d X pc l (.int x :: .ref 83 :: sk) (cset (rset M 83 ρ) κ) Q := by
  rw [← rset_c (by decide) (by decide)] at h ⊢
  exact Wp.rput j hj hc h
theorem Wp.dlput {x : Int32} (j : Nat) (hj : Nat.ble j 4 = true) (hc : cdx X pc = some (.inr (.inr (1, 0, j, v)), len)) (h : Wp d X (pc + len) l sk (cset (rset M 83 (wset ρ j x)) κ) Q) : Wp d X pc l (.int x :: .ref 84 :: sk) (cset (rset M 83 ρ) κ) Q := by
  rw [← rset_c (by decide) (by decide)] at h ⊢
  exact Wp.wput (r := 83) j hj hc h
theorem Wp.dkR {x : Int32} {i : Nat} (j : Nat) (hj : (Nat.ble 1 j && Nat.ble j 6) = true) (hi : i < 12) (hc : cdx X pc = some (.inr (.inr (1, 1, j, v)), len)) (h : Wp d X (pc + len) l sk (cset (rset M 83 (kset ρ i j x)) κ) Q) : Wp d X pc l (.int x :: .ref (83 + 3 + i) :: sk) (cset (rset M 83 ρ) κ) Q := by
  rw [← rset_c (by decide) (by decide)] at h ⊢
  exact Wp.kputR j hj hi hc h
theorem Wp.dkL {x : Int32} {i : Nat} (j : Nat) (hj : (Nat.ble 1 j && Nat.ble j 6) = true) (hi : i < 9) (hc : cdx X pc = some (.inr (.inr (1, 1, j, v)), len)) (h : Wp d X (pc + len) l sk (cset (rset M 83 (kset ρ (12 + i) j x)) κ) Q) : Wp d X pc l (.int x :: .ref (83 + 16 + i) :: sk) (cset (rset M 83 ρ) κ) Q := by
  rw [← rset_c (by decide) (by decide)] at h ⊢
  exact Wp.kputL j hj hi hc h
theorem Wp.dgp {x : Int32} {i : Nat} (j : Nat) (hj : Nat.ble j 3 = true) (hi : i < 10) (hc : cdx X pc = some (.inr (.inr (1, 7, j, v)), len)) (h : Wp d X (pc + len) l sk (cset (rset M 83 (gset ρ i j x)) κ) Q) : Wp d X pc l (.int x :: .ref (83 + 26 + 2 * i) :: sk) (cset (rset M 83 ρ) κ) Q := by
  rw [← rset_c (by decide) (by decide)] at h ⊢
  exact Wp.gput j hj hi hc h
theorem k_lawBegin : Ev d md_1 0 [some (.ref 84)] [] (cset (rset M 83 ρ) κ) (none, cset (rset M 83 (wset (wset (wset (wset (wset ρ 0 0) 1 0) 2 0) 3 1) 4 0)) κ) := by
  refine Wp.toEv ?_
  refine Wp.n (pc' := 2) 2 rfl ?_
  refine Wp.dlput (len := 3) 0 rfl rfl ?_
  refine Wp.n (pc' := 7) 2 rfl ?_
  refine Wp.dlput (len := 3) 1 rfl rfl ?_
  refine Wp.n (pc' := 12) 2 rfl ?_
  refine Wp.dlput (len := 3) 2 rfl rfl ?_
  refine Wp.n (pc' := 17) 2 rfl ?_
  refine Wp.dlput (len := 3) 3 rfl rfl ?_
  refine Wp.n (pc' := 22) 2 rfl ?_
  refine Wp.dlput (len := 3) 4 rfl rfl ?_
  refine Wp.retV (len := 1) rfl rfl ?_
  exact ⟨rfl, rfl⟩
theorem k_realmBegin : Wp (d + 1) md_27 0 [some (.ref 83)] [] (cset (rset M 83 ρ) κ) (fun v M' => v = none ∧ ∃ ρ', M' = cset (rset M 83 ρ') κ ∧ BdC ρ' K0) := by
  refine Wp.n (pc' := 2) 2 rfl ?_
  refine Wp.dput (len := 3) 0 rfl rfl ?_
  refine Wp.n (pc' := 7) 2 rfl ?_
  refine Wp.dput (len := 3) 1 rfl rfl ?_
  refine Wp.n (pc' := 12) 2 rfl ?_
  refine Wp.dput (len := 3) 2 rfl rfl ?_
  refine Wp.n (pc' := 17) 2 rfl ?_
  refine Wp.dput (len := 3) 3 rfl rfl ?_
  refine Wp.n (pc' := 21) 1 rfl ?_
  refine Wp.get (len := 3) rfl (dobj) rfl ?_
  refine Wp.ecallV (len := 3) rfl rfl rfl (dlaw) rfl (by decide) rfl (k_lawBegin) ?_
  refine Wp.n (pc' := 29) 2 rfl ?_
  refine Wp.dput (len := 3) 6 rfl rfl ?_
  refine Wp.n (pc' := 34) 2 rfl ?_
  refine Wp.dput (len := 3) 8 rfl rfl ?_
  refine Wp.n (pc' := 39) 2 rfl ?_
  refine Wp.dput (len := 3) 10 rfl rfl ?_
  refine Wp.retV (len := 1) rfl rfl ?_
  have hl : ∀ (ρ2 : RC), (∀ j, j < 5 → rlw ρ2 j = if j = 3 then 1 else 0) → ∀ j, j < 5 → rlw ρ2 j = nI (kh K0 (6 + j)) := fun ρ2 h j hj => by
    rw [h j hj]
    show _ = nI (if 6 + j = 9 then 1 else 0)
    by_cases c : j = 3
    · rw [if_pos c, if_pos (by omega)]; rfl
    · rw [if_neg c, if_neg (by omega)]; rfl
  refine ⟨rfl, _, rfl, ⟨rfl, rfl, rfl, rfl, rfl, rfl, rfl, fun h => absurd h (by decide), fun i hi => absurd hi (Nat.not_lt_zero _), fun i hi => ?_, fun i hi => absurd hi (Nat.not_lt_zero _)⟩, hl _ (fun j hj => ?_), rfl⟩
  · rcases hi with hi | hi
    · exact absurd hi (Nat.not_lt_zero _)
    · exact absurd hi.2 (by show ¬ (0 : Nat) = 1; decide)
  · have jj : j = 0 ∨ j = 1 ∨ j = 2 ∨ j = 3 ∨ j = 4 := by omega
    rcases jj with rfl | rfl | rfl | rfl | rfl <;> rfl
theorem HW_r (hW : HW M) : HW (rset M 83 ρ) := fun i hi => (rset_ne (by omega)).trans (hW i hi)
theorem k_readerBegin (hT : TC κ T) : Wp (d + 10) md_10 0 [some (.ref 35), some (.ref 33), some (.ref 83)] [] (cset (rset M 83 ρ) κ) (fun v M' => v = none ∧ ∃ ρ' κ', M' = cset (rset M 83 ρ') κ' ∧ FA (cr (cr κ 0 (some 33)) 1 (some 83)) κ' ∧ LC κ' T (.inr (bl T 0)) ∧ BdC ρ' K0) := by
  refine Wp.n (pc' := 2) 2 rfl ?_
  refine Wp.cputS (len := 3) rfl ?_
  refine Wp.n (pc' := 7) 2 rfl ?_
  refine Wp.cputT (len := 3) rfl ?_
  refine Wp.n (pc' := 11) 1 rfl ?_
  refine Wp.get (len := 3) rfl (rfl) rfl ?_
  refine Wp.topR (k := 83) rfl ?_
  refine Wp.callV (len := 3) rfl rfl rfl (dobj) rfl (by decide) rfl (k_realmBegin) ?_
  rintro _ _ ⟨rfl, ρ1, rfl, hB⟩
  refine Wp.n (pc' := 19) 2 rfl ?_
  refine Wp.cput2 (len := 3) 2 rfl rfl ?_
  refine Wp.n (pc' := 24) 2 rfl ?_
  refine Wp.cput2 (len := 3) 3 rfl rfl ?_
  refine Wp.n (pc' := 29) 2 rfl ?_
  refine Wp.cput2 (len := 3) 6 rfl rfl ?_
  refine Wp.n (pc' := 33) 1 rfl ?_
  refine Wp.callV (len := 3) rfl rfl rfl (rfl) rfl (by decide) rfl (k_adv (T := T) (p := 0) ((FA.f.t (FA.f.t FA.f)).tc (κ := cr (cr κ 0 (some 33)) 1 (some 83)) hT) rfl rfl rfl rfl (Nat.zero_le _)) ?_
  rintro _ _ ⟨rfl, κ2, rfl, f2, l2⟩
  refine Wp.retV (len := 1) rfl rfl ?_
  exact ⟨rfl, ρ1, κ2, rfl, (FA.f.t (FA.f.t FA.f)).t f2, l2, hB⟩
end DRF
end
section
/-! LINES, the class: the first, floods, laws. -/
theorem wno_0 : wno 0 = 4398346831 := by decide +kernel
theorem wno_1 : wno 1 = 235981828 := by decide +kernel
theorem wno_2 : wno 2 = 80155 := by decide +kernel
theorem wno_3 : wno 3 = 355568 := by decide +kernel
theorem wno_4 : wno 4 = 131360 := by decide +kernel
theorem wno_5 : wno 5 = 400577 := by decide +kernel
theorem wno_6 : wno 6 = 365260 := by decide +kernel
theorem wno_7 : wno 7 = 555 := by decide +kernel
theorem wno_8 : wno 8 = 131638 := by decide +kernel
theorem wno_9 : wno 9 = 8935713994 := by decide +kernel
theorem wno_10 : wno 10 = 237308 := by decide +kernel
theorem wno_11 : wno 11 = 129523 := by decide +kernel
theorem wno_12 : wno 12 = 50348 := by decide +kernel
theorem wno_13 : wno 13 = 3436186 := by decide +kernel
theorem wno_14 : wno 14 = 419 := by decide +kernel
theorem wno_15 : wno 15 = 453773 := by decide +kernel
theorem wno_16 : wno 16 = 247162 := by decide +kernel
theorem wno_17 : wno 17 = 79 := by decide +kernel
theorem wno_18 : wno 18 = 8798 := by decide +kernel
theorem wno_19 : wno 19 = 284068024 := by decide +kernel
theorem wno_20 : wno 20 = 6559778 := by decide +kernel
section CLN
variable {d : Nat} {M : AM} {κ κ' : CS} {T : TP} {st : St} {K : KD} {ρ ρ' : RC} {Q : Option Value → AM → Prop}
theorem k_tW (i : Nat) {h : Nat} (hh : wno i = h) (hi : i < 21) (hT : TC κ T) (hS : κ.2.2.2 0 = some 33) (hW : HW M) (hL : LC κ T st) : Wp (d + 10) md_16 0 [some (.ref 35), some (.ref (3 + i))] [] (cset M κ) (fun v M' => v = none ∧ RdC M κ T (wdS T h st) M') := hh ▸ k_takeWord hT hS hW hL hi
theorem k_tN (i : Nat) {h : Nat} (hh : wno i = h) (hi : i < 21) (hT : TC κ T) (hS : κ.2.2.2 0 = some 33) (hW : HW M) (hL : LC κ T st) {l32 h32 : Int32} {lo hb : Nat} (hg : gd (wdS T h st) = true → l32 = nI lo ∧ h32 = nI hb ∧ hb ≤ 1000 ∧ lo ≤ 1000) : Wp (d + 11) md_19 0 [some (.ref 35), some (.ref (3 + i)), some (.int l32), some (.int h32)] [] (cset M κ) (fun v M' => ∃ x, v = some (.int x) ∧ (gd (nmS T lo hb (wdS T h st)) = true → x = nI (nmV T (wdS T h st))) ∧ RdC M κ T (nmS T lo hb (wdS T h st)) M') := by
  subst hh
  exact k_takeNamed hT hS hW hL hi hg
theorem k_iW (i : Nat) {h : Nat} (hh : wno i = h) (hi : i < 21) (hT : TC κ T) (hS : κ.2.2.2 0 = some 33) (hW : HW M) (hL : LC κ T st) : ∃ c, Ev (d + 9) md_17 0 [some (.ref 35), some (.ref (3 + i)), none] [] (cset M κ) (some (.int (bI c)), cset M κ) ∧ ∀ s, st = .inr s → c = isW T s h := by
  subst hh
  exact k_isWord hT hS hW hL hi
theorem k_readKingdom (hT : TC κ T) (hS : κ.2.2.2 0 = some 33) (hG : κ.2.2.2 1 = some 83) (hW : HW M) (hL : LC κ T st) (hB : BdC ρ K0) : Wp (d + 12) md_15 0 [some (.ref 35)] [] (cset (rset M 83 ρ) κ) (RCn M κ T (pf6 T st) (firK T st)) := by
  refine Wp.n (pc' := 3) 2 rfl ?_
  refine Wp.callV (len := 3) rfl rfl rfl (rfl) rfl (by decide) rfl (k_tW 0 wno_0 (by decide) hT hS (HW_r hW) hL) ?_
  rintro _ _ ⟨rfl, κ1, rfl, f1, l1⟩
  have F1 := f1
  have hG1 : κ1.2.2.2 1 = some 83 := by rw [F1.2]; exact hG
  have hS1 : κ1.2.2.2 0 = some 33 := by rw [F1.2]; exact hS
  have hT1 := F1.tc hT
  refine Wp.n (pc' := 7) 1 rfl ?_
  refine Wp.get (len := 3) rfl (rfl) rfl ?_
  refine Wp.topR hG1 ?_
  refine Wp.n (pc' := 16) 4 rfl ?_
  refine Wp.callV (len := 3) rfl rfl rfl (rfl) rfl (by decide) rfl (k_tN 1 wno_1 (by decide) hT1 hS1 (HW_r hW) l1 (lo := 2) (hb := 7) (fun q => ⟨rfl, rfl, by decide, by decide⟩)) ?_
  rintro _ _ ⟨a, rfl, ha, κ2, rfl, f2, l2⟩
  have F2 := F1.t f2
  have hG2 : κ2.2.2.2 1 = some 83 := by rw [F2.2]; exact hG
  have hS2 : κ2.2.2.2 0 = some 33 := by rw [F2.2]; exact hS
  have hT2 := F2.tc hT
  refine Wp.dput (len := 3) 0 rfl rfl ?_
  refine Wp.n (pc' := 23) 1 rfl ?_
  refine Wp.get (len := 3) rfl (rfl) rfl ?_
  refine Wp.topR hG2 ?_
  refine Wp.n (pc' := 32) 4 rfl ?_
  refine Wp.callV (len := 3) rfl rfl rfl (rfl) rfl (by decide) rfl (k_tN 2 wno_2 (by decide) hT2 hS2 (HW_r hW) l2 (lo := 1) (hb := 30) (fun q => ⟨rfl, rfl, by decide, by decide⟩)) ?_
  rintro _ _ ⟨b, rfl, hb, κ3, rfl, f3, l3⟩
  have F3 := F2.t f3
  have hG3 : κ3.2.2.2 1 = some 83 := by rw [F3.2]; exact hG
  have hS3 : κ3.2.2.2 0 = some 33 := by rw [F3.2]; exact hS
  have hT3 := F3.tc hT
  refine Wp.dput (len := 3) 1 rfl rfl ?_
  refine Wp.n (pc' := 39) 1 rfl ?_
  refine Wp.get (len := 3) rfl (rfl) rfl ?_
  refine Wp.topR hG3 ?_
  refine Wp.get (len := 3) rfl (dobj) rfl ?_
  refine Wp.n (pc' := 51) 4 rfl ?_
  refine Wp.callV (len := 3) rfl rfl rfl (rfl) rfl (by decide) rfl (k_tN 3 wno_3 (by decide) hT3 hS3 (HW_r hW) l3 (lo := 0) (hb := 99) (fun q => ⟨rfl, rfl, by decide, by decide⟩)) ?_
  rintro _ _ ⟨c, rfl, hc, κ4, rfl, f4, l4⟩
  have F4 := F3.t f4
  have hG4 : κ4.2.2.2 1 = some 83 := by rw [F4.2]; exact hG
  have hS4 : κ4.2.2.2 0 = some 33 := by rw [F4.2]; exact hS
  have hT4 := F4.tc hT
  refine Wp.dlput (len := 3) 0 rfl rfl ?_
  refine Wp.n (pc' := 58) 1 rfl ?_
  refine Wp.get (len := 3) rfl (rfl) rfl ?_
  refine Wp.topR hG4 ?_
  refine Wp.get (len := 3) rfl (dobj) rfl ?_
  refine Wp.n (pc' := 70) 4 rfl ?_
  refine Wp.callV (len := 3) rfl rfl rfl (rfl) rfl (by decide) rfl (k_tN 4 wno_4 (by decide) hT4 hS4 (HW_r hW) l4 (lo := 0) (hb := 99) (fun q => ⟨rfl, rfl, by decide, by decide⟩)) ?_
  rintro _ _ ⟨x, rfl, hx, κ5, rfl, f5, l5⟩
  have F5 := F4.t f5
  have hG5 : κ5.2.2.2 1 = some 83 := by rw [F5.2]; exact hG
  have hS5 : κ5.2.2.2 0 = some 33 := by rw [F5.2]; exact hS
  have hT5 := F5.tc hT
  refine Wp.dlput (len := 3) 1 rfl rfl ?_
  refine Wp.n (pc' := 77) 1 rfl ?_
  refine Wp.get (len := 3) rfl (rfl) rfl ?_
  refine Wp.topR hG5 ?_
  refine Wp.get (len := 3) rfl (dobj) rfl ?_
  refine Wp.n (pc' := 89) 4 rfl ?_
  refine Wp.callV (len := 3) rfl rfl rfl (rfl) rfl (by decide) rfl (k_tN 5 wno_5 (by decide) hT5 hS5 (HW_r hW) l5 (lo := 0) (hb := 99) (fun q => ⟨rfl, rfl, by decide, by decide⟩)) ?_
  rintro _ _ ⟨y, rfl, hy, κ6, rfl, f6, l6⟩
  have F6 := F5.t f6
  have hG6 : κ6.2.2.2 1 = some 83 := by rw [F6.2]; exact hG
  have hS6 : κ6.2.2.2 0 = some 33 := by rw [F6.2]; exact hS
  have hT6 := F6.tc hT
  refine Wp.dlput (len := 3) 2 rfl rfl ?_
  refine Wp.retV (len := 1) rfl rfl ?_
  refine ⟨rfl, _, κ6, rfl, F6, l6, fun g6 => ?_⟩
  have g5 : gd (pf5 T st) = true := gd_wd (gd_nm g6)
  have g4 : gd (pf4 T st) = true := gd_wd (gd_nm g5)
  have g3 : gd (pf3 T st) = true := gd_wd (gd_nm g4)
  have g2 : gd (pf2 T st) = true := gd_wd (gd_nm g3)
  obtain rfl := ha g2
  obtain rfl := hb g3
  obtain rfl := hc g4
  obtain rfl := hx g5
  obtain rfl := hy g6
  obtain ⟨⟨r0, r1, r2, r3, r6, r8, r10, rl, rr, rn_, rw_⟩, hl, h11⟩ := hB
  have hl' : ∀ j, j < 5 → rlw (wset (wset (wset (hset (hset ρ 0 (nI (nmV T (wdS T 235981828 (wdS T 4398346831 st))))) 1 (nI (nmV T (wdS T 80155 (nmS T 2 7 (wdS T 235981828 (wdS T 4398346831 st))))))) 0 (nI (nmV T (wdS T 355568 (nmS T 1 30 (wdS T 80155 (nmS T 2 7 (wdS T 235981828 (wdS T 4398346831 st))))))))) 1 (nI (nmV T (wdS T 131360 (pf4 T st))))) 2 (nI (nmV T (wdS T 400577 (pf5 T st))))) j = nI (kh (firK T st) (6 + j)) := fun j hj => by
    have jj : j = 0 ∨ j = 1 ∨ j = 2 ∨ j = 3 ∨ j = 4 := by omega
    rcases jj with rfl | rfl | rfl | rfl | rfl
    · rfl
    · rfl
    · rfl
    · exact hl 3 (by decide)
    · exact hl 4 (by decide)
  refine ⟨⟨rfl, rfl, r2, r3, r6, r8, r10, fun _ => hl', fun i hi => absurd hi (Nat.not_lt_zero _), fun i hi => ?_, fun i hi => absurd hi (Nat.not_lt_zero _)⟩, hl', rfl⟩
  rcases hi with hi | hi
  · exact absurd hi (Nat.not_lt_zero _)
  · exact absurd hi.2 (by show ¬ (0 : Nat) = 1; decide)
end CLN
end
section
/-! LINES, the class: floods. -/
section CLF
variable {d : Nat} {M : AM} {κ κ' : CS} {T : TP} {st : St} {K : KD} {ρ ρ' : RC} {Q : Option Value → AM → Prop}
theorem k_readFlood {s : Nat} (hT : TC κ T) (hS : κ.2.2.2 0 = some 33) (hG : κ.2.2.2 1 = some 83) (hW : HW M) (hL : LC κ T (.inr s)) (hB : BdC ρ K) (ok : KOK K) (hD : 1 ≤ kh K 1) : Wp (d + 12) md_23 0 [some (.ref 35)] [] (cset (rset M 83 ρ) κ) (RCn M κ T (fd2 T K (.inr (nx T s))) (fdK T K (.inr (nx T s)))) := by
  have b1 := (ok_h ok).2.1
  have F0 : FA κ κ := FA.r
  refine Wp.n (pc' := 1) 1 rfl ?_
  refine Wp.callV (len := 3) rfl rfl rfl (rfl) rfl (by decide) rfl (k_advance hT hS hL) ?_
  rintro _ _ ⟨rfl, κ1, rfl, f1, l1⟩
  have F1 := F0.t f1
  have hG1 : κ1.2.2.2 1 = some 83 := by rw [F1.2]; exact hG
  have hS1 : κ1.2.2.2 0 = some 33 := by rw [F1.2]; exact hS
  have hT1 := F1.tc hT
  refine Wp.n (pc' := 7) 2 rfl ?_
  refine Wp.callV (len := 3) rfl rfl rfl (rfl) rfl (by decide) rfl (k_tW 14 wno_14 (by decide) hT1 hS1 (HW_r hW) l1) ?_
  rintro _ _ ⟨rfl, κ2, rfl, f2, l2⟩
  have F2 := F1.t f2
  have hG2 : κ2.2.2.2 1 = some 83 := by rw [F2.2]; exact hG
  have hS2 : κ2.2.2.2 0 = some 33 := by rw [F2.2]; exact hS
  have hT2 := F2.tc hT
  refine Wp.n (pc' := 11) 1 rfl ?_
  refine Wp.get (len := 3) rfl (rfl) rfl ?_
  refine Wp.topR hG2 ?_
  refine Wp.n (pc' := 15) 1 rfl ?_
  refine Wp.get (len := 3) rfl (dobj) rfl ?_
  refine Wp.top hB.1.2.2.2.1 ?_
  refine Wp.n (pc' := 22) 4 rfl ?_
  refine Wp.get (len := 3) rfl (rfl) rfl ?_
  refine Wp.topR hG2 ?_
  refine Wp.get (len := 3) rfl (dobj) rfl ?_
  refine Wp.top hB.1.2.1 ?_
  refine Wp.n (pc' := 29) 1 rfl ?_
  refine Wp.isubN (x := kh K 1) (y := 1) (len := 1) rfl (by omega) ?_
  refine Wp.callV (len := 3) rfl rfl rfl (rfl) rfl (by decide) rfl (k_takeNumber (lo := 0) (hi := kh K 1 - 1) hT2 hS2 l2 (fun q => ⟨rfl, rfl, by omega, by omega⟩)) ?_
  rintro _ _ ⟨x, rfl, hx, κ3, rfl, f3, l3⟩
  have F3 := F2.t f3
  have hG3 : κ3.2.2.2 1 = some 83 := by rw [F3.2]; exact hG
  have hS3 : κ3.2.2.2 0 = some 33 := by rw [F3.2]; exact hS
  have hT3 := F3.tc hT
  refine Wp.n (pc' := 35) 2 rfl ?_
  refine Wp.dput (len := 3) 3 rfl rfl ?_
  refine Wp.retV (len := 1) rfl rfl ?_
  refine ⟨rfl, _, κ3, rfl, F3, l3, fun g => ?_⟩
  obtain rfl := hx g
  have n3 : 0 ≤ nmV T (fd1 T (.inr (nx T s))) ∧ nmV T (fd1 T (.inr (nx T s))) ≤ kh K 1 - 1 := nm_le g
  have hb : nmV T (fd1 T (.inr (nx T s))) < 31 := by omega
  obtain ⟨⟨r0, r1, r2, r3, r6, r8, r10, rl, rr, rn_, rw_⟩, hl, h11⟩ := hB
  have hl' : ∀ j, j < 5 → rlw ρ j = nI (kh (fdK T K (.inr (nx T s))) (6 + j)) := fun j hj => (hl j hj).trans (congrArg nI (if_neg (by omega)).symm)
  refine ⟨⟨r0, r1, r2, ?_, r6, r8, r10, fun _ => hl', rr, rn_, rw_⟩, hl', h11⟩
  show nI (kh K 12) ||| ((1 : Int32) <<< (nI (nmV T (fd1 T (.inr (nx T s)))) &&& 31)) = nI (kh K 12 ||| 2 ^ nmV T (fd1 T (.inr (nx T s))))
  rw [n_sh1 _ hb, n_or]
theorem k_law_e {K' : KD} {κ1 : CS} (hT : TC κ T) (hS : κ.2.2.2 0 = some 33) (F : FA κ κ1) (l1 : LC κ1 T st) (hb : gd (adS T st) = true → BdC ρ K') : Wp (d + 12) md_25 107 [some (.ref 35)] [] (cset (rset M 83 ρ) κ1) (RCn M κ T (adS T st) K') := by
  refine Wp.n (pc' := 108) 1 rfl ?_
  refine Wp.callV (len := 3) rfl rfl rfl (rfl) rfl (by decide) rfl (k_advance (F.tc hT) (by rw [F.2]; exact hS) l1) ?_
  rintro _ _ ⟨rfl, κ2, rfl, f2, l2⟩
  refine Wp.retV (len := 1) rfl rfl ?_
  exact ⟨rfl, ρ, κ2, rfl, F.t f2, l2, hb⟩
theorem BdC_lw (hB : BdC ρ K) {k : Nat} : BdC (wset ρ (lwm k) (nI (lwv k))) (lawH K k) := by
  obtain ⟨⟨r0, r1, r2, r3, r6, r8, r10, rl, rr, rn_, rw_⟩, hl, h11⟩ := hB
  have hm : lwm k = 3 ∨ lwm k = 4 := by unfold lwm; split <;> simp
  have ek : ∀ j, j ≠ 6 + lwm k → kh (lawH K k) j = kh K j := fun j hj => if_neg hj
  have en : kh (lawH K k) (6 + lwm k) = lwv k := if_pos rfl
  have hl' : ∀ j, j < 5 → rlw (wset ρ (lwm k) (nI (lwv k))) j = nI (kh (lawH K k) (6 + j)) := fun j hj => by
    show upd (rlw ρ) (lwm k) _ j = _
    by_cases q : j = lwm k
    · rw [q, pk_us, en]
    · rw [pk_un q, ek (6 + j) (by omega)]; exact hl j hj
  refine ⟨⟨?_, ?_, ?_, ?_, ?_, ?_, ?_, fun _ => hl', ?_, ?_, ?_⟩, hl', (ek 11 (by omega)).trans h11⟩
  · rw [ek 0 (by omega)]; exact r0
  · rw [ek 1 (by omega)]; exact r1
  · rw [ek 5 (by omega)]; exact r2
  · rw [ek 12 (by omega)]; exact r3
  · rw [ek 2 (by omega)]; exact r6
  · rw [ek 3 (by omega), ek 11 (by omega)]; exact r8
  · rw [ek 4 (by omega)]; exact r10
  · rw [ek 2 (by omega)]; exact rr
  · have ep : ∀ l, phL (lawH K k) l = phL K l := fun l => by unfold phL; rw [ek 3 (by omega)]
    rw [ek 3 (by omega), ek 11 (by omega)]
    intro l hl2
    rw [ep]
    exact rn_ l hl2
  · rw [ek 4 (by omega)]; exact rw_
theorem k_readLaw {s : Nat} (hT : TC κ T) (hS : κ.2.2.2 0 = some 33) (hG : κ.2.2.2 1 = some 83) (hW : HW M) (hL : LC κ T (.inr s)) (hB : BdC ρ K) : Wp (d + 12) md_25 0 [some (.ref 35)] [] (cset (rset M 83 ρ) κ) (RCn M κ T (lawS T (lw1 T (.inr s))) (lawH K (lwq T (lw1 T (.inr s))))) := by
  refine Wp.n (pc' := 3) 2 rfl ?_
  refine Wp.callV (len := 3) rfl rfl rfl (rfl) rfl (by decide) rfl (k_tW (d := d + 1) 18 wno_18 (by decide) hT hS (HW_r hW) hL) ?_
  rintro _ _ ⟨rfl, κ1, rfl, f1, l1⟩
  have hG1 : κ1.2.2.2 1 = some 83 := by rw [f1.2]; exact hG
  have hS1 : κ1.2.2.2 0 = some 33 := by rw [f1.2]; exact hS
  have hT1 := f1.tc hT
  change LC κ1 T (lw1 T (.inr s)) at l1
  obtain ⟨c1, e1, i1⟩ := k_iW (d := d + 2) 19 wno_19 (by decide) hT1 hS1 (HW_r (ρ := ρ) hW) l1
  obtain ⟨c2, e2, i2⟩ := k_iW (d := d + 2) 4 wno_4 (by decide) hT1 hS1 (HW_r (ρ := ρ) hW) l1
  obtain ⟨c3, e3, i3⟩ := k_iW (d := d + 2) 16 wno_16 (by decide) hT1 hS1 (HW_r (ρ := ρ) hW) l1
  obtain ⟨c4, e4, i4⟩ := k_iW (d := d + 2) 20 wno_20 (by decide) hT1 hS1 (HW_r (ρ := ρ) hW) l1
  rcases hq : lw1 T (.inr s) with x | s1
  · rw [hq] at l1
    refine Wp.n (pc' := 9) 2 rfl ?_
    refine Wp.ecallV (len := 3) rfl rfl rfl (rfl) rfl (by decide) rfl (e1) ?_
    refine Wp.ifb0 (tgt := 29) (len := 3) rfl (fun h12 => ?_) (fun h12 => ?_)
    · skip
      refine Wp.n (pc' := 32) 2 rfl ?_
      refine Wp.ecallV (len := 3) rfl rfl rfl (rfl) rfl (by decide) rfl (e2) ?_
      refine Wp.ifb0 (tgt := 52) (len := 3) rfl (fun h35 => ?_) (fun h35 => ?_)
      · skip
        refine Wp.n (pc' := 55) 2 rfl ?_
        refine Wp.ecallV (len := 3) rfl rfl rfl (rfl) rfl (by decide) rfl (e3) ?_
        refine Wp.ifb0 (tgt := 75) (len := 3) rfl (fun h58 => ?_) (fun h58 => ?_)
        · skip
          refine Wp.n (pc' := 78) 2 rfl ?_
          refine Wp.ecallV (len := 3) rfl rfl rfl (rfl) rfl (by decide) rfl (e4) ?_
          refine Wp.ifb0 (tgt := 98) (len := 3) rfl (fun h81 => ?_) (fun h81 => ?_)
          · skip
            refine Wp.n (pc' := 101) 3 rfl ?_
            refine Wp.get (len := 3) rfl (rfl) rfl ?_
            refine Wp.callV (len := 3) rfl rfl rfl (rfl) rfl (by decide) rfl (k_fail (p := 0) (k := 1) hT1 l1 (by decide) _ (fun q => by cases q)) ?_
            rintro _ _ ⟨rfl, κ2, rfl, f2, l2⟩
            change LC κ2 T (.inl x) at l2
            first
              | exact k_law_e (st := .inl x) hT hS (f1.t f2) l2 (fun q => by cases q)
              | exact k_law_e (st := .inl x) hT hS f1 l1 (fun q => by cases q)
          · skip
            refine Wp.n (pc' := 85) 1 rfl ?_
            refine Wp.get (len := 3) rfl (rfl) rfl ?_
            refine Wp.topR hG1 ?_
            refine Wp.get (len := 3) rfl (dobj) rfl ?_
            refine Wp.n (pc' := 92) 1 rfl ?_
            refine Wp.dlput (len := 3) 4 rfl rfl ?_
            refine Wp.n (pc' := 107) 1 rfl ?_
            first
              | exact k_law_e (st := .inl x) hT hS (f1.t f2) l2 (fun q => by cases q)
              | exact k_law_e (st := .inl x) hT hS f1 l1 (fun q => by cases q)
        · skip
          refine Wp.n (pc' := 62) 1 rfl ?_
          refine Wp.get (len := 3) rfl (rfl) rfl ?_
          refine Wp.topR hG1 ?_
          refine Wp.get (len := 3) rfl (dobj) rfl ?_
          refine Wp.n (pc' := 69) 1 rfl ?_
          refine Wp.dlput (len := 3) 4 rfl rfl ?_
          refine Wp.n (pc' := 107) 1 rfl ?_
          first
            | exact k_law_e (st := .inl x) hT hS (f1.t f2) l2 (fun q => by cases q)
            | exact k_law_e (st := .inl x) hT hS f1 l1 (fun q => by cases q)
      · skip
        refine Wp.n (pc' := 39) 1 rfl ?_
        refine Wp.get (len := 3) rfl (rfl) rfl ?_
        refine Wp.topR hG1 ?_
        refine Wp.get (len := 3) rfl (dobj) rfl ?_
        refine Wp.n (pc' := 46) 1 rfl ?_
        refine Wp.dlput (len := 3) 3 rfl rfl ?_
        refine Wp.n (pc' := 107) 1 rfl ?_
        first
          | exact k_law_e (st := .inl x) hT hS (f1.t f2) l2 (fun q => by cases q)
          | exact k_law_e (st := .inl x) hT hS f1 l1 (fun q => by cases q)
    · skip
      refine Wp.n (pc' := 16) 1 rfl ?_
      refine Wp.get (len := 3) rfl (rfl) rfl ?_
      refine Wp.topR hG1 ?_
      refine Wp.get (len := 3) rfl (dobj) rfl ?_
      refine Wp.n (pc' := 23) 1 rfl ?_
      refine Wp.dlput (len := 3) 3 rfl rfl ?_
      refine Wp.n (pc' := 107) 1 rfl ?_
      first
        | exact k_law_e (st := .inl x) hT hS (f1.t f2) l2 (fun q => by cases q)
        | exact k_law_e (st := .inl x) hT hS f1 l1 (fun q => by cases q)
  · rw [hq] at l1
    have w1 : c1 = isW T s1 284068024 := i1 s1 hq
    have w2 : c2 = isW T s1 131360 := i2 s1 hq
    have w3 : c3 = isW T s1 247162 := i3 s1 hq
    have w4 : c4 = isW T s1 6559778 := i4 s1 hq
    have go : ∀ k, lwk T s1 = k → k < 4 → Wp (d + 12) md_25 107 [some (.ref 35)] [] (cset (rset M 83 (wset ρ (lwm k) (nI (lwv k)))) κ1) (RCn M κ T (lawS T (.inr s1)) (lawH K (lwq T (.inr s1)))) := by
      intro k ek hk
      have es : lawS T (.inr s1) = adS T (.inr s1) := if_pos (by omega)
      rw [es, show lwq T (.inr s1) = k from ek]
      exact k_law_e hT hS f1 l1 (fun _ => BdC_lw hB)
    refine Wp.n (pc' := 9) 2 rfl ?_
    refine Wp.ecallV (len := 3) rfl rfl rfl (rfl) rfl (by decide) rfl (e1) ?_
    refine Wp.ifb0 (tgt := 29) (len := 3) rfl (fun h12 => ?_) (fun h12 => ?_)
    · have n12 : ¬ isW T s1 284068024 = true := by rw [← w1, h12]; decide
      refine Wp.n (pc' := 32) 2 rfl ?_
      refine Wp.ecallV (len := 3) rfl rfl rfl (rfl) rfl (by decide) rfl (e2) ?_
      refine Wp.ifb0 (tgt := 52) (len := 3) rfl (fun h35 => ?_) (fun h35 => ?_)
      · have n35 : ¬ isW T s1 131360 = true := by rw [← w2, h35]; decide
        refine Wp.n (pc' := 55) 2 rfl ?_
        refine Wp.ecallV (len := 3) rfl rfl rfl (rfl) rfl (by decide) rfl (e3) ?_
        refine Wp.ifb0 (tgt := 75) (len := 3) rfl (fun h58 => ?_) (fun h58 => ?_)
        · have n58 : ¬ isW T s1 247162 = true := by rw [← w3, h58]; decide
          refine Wp.n (pc' := 78) 2 rfl ?_
          refine Wp.ecallV (len := 3) rfl rfl rfl (rfl) rfl (by decide) rfl (e4) ?_
          refine Wp.ifb0 (tgt := 98) (len := 3) rfl (fun h81 => ?_) (fun h81 => ?_)
          · have n81 : ¬ isW T s1 6559778 = true := by rw [← w4, h81]; decide
            refine Wp.n (pc' := 101) 3 rfl ?_
            refine Wp.get (len := 3) rfl (rfl) rfl ?_
            refine Wp.callV (len := 3) rfl rfl rfl (rfl) rfl (by decide) rfl (k_fail (p := s1) (k := 1) hT1 l1 (by decide) _ (fun _ => l1.2.2.2.1)) ?_
            rintro _ _ ⟨rfl, κ2, rfl, f2, l2⟩
            change LC κ2 T (.inl (1, s1)) at l2
            first
              | (have ek : lwk T s1 = 4 := by unfold lwk; rw [if_neg n12, if_neg n35, if_neg n58, if_neg n81]
                 have es : lawS T (.inr s1) = .inl (1, s1) := if_neg (by omega)
                 rw [es]
                 exact k_law_e (st := .inl (1, s1)) hT hS (f1.t f2) l2 (fun q => by cases q))
              | (have ek : lwk T s1 = 3 := by unfold lwk; rw [if_neg n12, if_neg n35, if_neg n58, if_pos p81]
                 exact go 3 ek (by decide))
              | (have ek : lwk T s1 = 2 := by unfold lwk; rw [if_neg n12, if_neg n35, if_pos p58]
                 exact go 2 ek (by decide))
              | (have ek : lwk T s1 = 1 := by unfold lwk; rw [if_neg n12, if_pos p35]
                 exact go 1 ek (by decide))
              | (have ek : lwk T s1 = 0 := by unfold lwk; rw [if_pos p12]
                 exact go 0 ek (by decide))
          · have p81 : isW T s1 6559778 = true := by rw [← w4, h81]
            refine Wp.n (pc' := 85) 1 rfl ?_
            refine Wp.get (len := 3) rfl (rfl) rfl ?_
            refine Wp.topR hG1 ?_
            refine Wp.get (len := 3) rfl (dobj) rfl ?_
            refine Wp.n (pc' := 92) 1 rfl ?_
            refine Wp.dlput (len := 3) 4 rfl rfl ?_
            refine Wp.n (pc' := 107) 1 rfl ?_
            first
              | (have ek : lwk T s1 = 4 := by unfold lwk; rw [if_neg n12, if_neg n35, if_neg n58, if_neg n81]
                 have es : lawS T (.inr s1) = .inl (1, s1) := if_neg (by omega)
                 rw [es]
                 exact k_law_e (st := .inl (1, s1)) hT hS (f1.t f2) l2 (fun q => by cases q))
              | (have ek : lwk T s1 = 3 := by unfold lwk; rw [if_neg n12, if_neg n35, if_neg n58, if_pos p81]
                 exact go 3 ek (by decide))
              | (have ek : lwk T s1 = 2 := by unfold lwk; rw [if_neg n12, if_neg n35, if_pos p58]
                 exact go 2 ek (by decide))
              | (have ek : lwk T s1 = 1 := by unfold lwk; rw [if_neg n12, if_pos p35]
                 exact go 1 ek (by decide))
              | (have ek : lwk T s1 = 0 := by unfold lwk; rw [if_pos p12]
                 exact go 0 ek (by decide))
        · have p58 : isW T s1 247162 = true := by rw [← w3, h58]
          refine Wp.n (pc' := 62) 1 rfl ?_
          refine Wp.get (len := 3) rfl (rfl) rfl ?_
          refine Wp.topR hG1 ?_
          refine Wp.get (len := 3) rfl (dobj) rfl ?_
          refine Wp.n (pc' := 69) 1 rfl ?_
          refine Wp.dlput (len := 3) 4 rfl rfl ?_
          refine Wp.n (pc' := 107) 1 rfl ?_
          first
            | (have ek : lwk T s1 = 4 := by unfold lwk; rw [if_neg n12, if_neg n35, if_neg n58, if_neg n81]
               have es : lawS T (.inr s1) = .inl (1, s1) := if_neg (by omega)
               rw [es]
               exact k_law_e (st := .inl (1, s1)) hT hS (f1.t f2) l2 (fun q => by cases q))
            | (have ek : lwk T s1 = 3 := by unfold lwk; rw [if_neg n12, if_neg n35, if_neg n58, if_pos p81]
               exact go 3 ek (by decide))
            | (have ek : lwk T s1 = 2 := by unfold lwk; rw [if_neg n12, if_neg n35, if_pos p58]
               exact go 2 ek (by decide))
            | (have ek : lwk T s1 = 1 := by unfold lwk; rw [if_neg n12, if_pos p35]
               exact go 1 ek (by decide))
            | (have ek : lwk T s1 = 0 := by unfold lwk; rw [if_pos p12]
               exact go 0 ek (by decide))
      · have p35 : isW T s1 131360 = true := by rw [← w2, h35]
        refine Wp.n (pc' := 39) 1 rfl ?_
        refine Wp.get (len := 3) rfl (rfl) rfl ?_
        refine Wp.topR hG1 ?_
        refine Wp.get (len := 3) rfl (dobj) rfl ?_
        refine Wp.n (pc' := 46) 1 rfl ?_
        refine Wp.dlput (len := 3) 3 rfl rfl ?_
        refine Wp.n (pc' := 107) 1 rfl ?_
        first
          | (have ek : lwk T s1 = 4 := by unfold lwk; rw [if_neg n12, if_neg n35, if_neg n58, if_neg n81]
             have es : lawS T (.inr s1) = .inl (1, s1) := if_neg (by omega)
             rw [es]
             exact k_law_e (st := .inl (1, s1)) hT hS (f1.t f2) l2 (fun q => by cases q))
          | (have ek : lwk T s1 = 3 := by unfold lwk; rw [if_neg n12, if_neg n35, if_neg n58, if_pos p81]
             exact go 3 ek (by decide))
          | (have ek : lwk T s1 = 2 := by unfold lwk; rw [if_neg n12, if_neg n35, if_pos p58]
             exact go 2 ek (by decide))
          | (have ek : lwk T s1 = 1 := by unfold lwk; rw [if_neg n12, if_pos p35]
             exact go 1 ek (by decide))
          | (have ek : lwk T s1 = 0 := by unfold lwk; rw [if_pos p12]
             exact go 0 ek (by decide))
    · have p12 : isW T s1 284068024 = true := by rw [← w1, h12]
      refine Wp.n (pc' := 16) 1 rfl ?_
      refine Wp.get (len := 3) rfl (rfl) rfl ?_
      refine Wp.topR hG1 ?_
      refine Wp.get (len := 3) rfl (dobj) rfl ?_
      refine Wp.n (pc' := 23) 1 rfl ?_
      refine Wp.dlput (len := 3) 3 rfl rfl ?_
      refine Wp.n (pc' := 107) 1 rfl ?_
      first
        | (have ek : lwk T s1 = 4 := by unfold lwk; rw [if_neg n12, if_neg n35, if_neg n58, if_neg n81]
           have es : lawS T (.inr s1) = .inl (1, s1) := if_neg (by omega)
           rw [es]
           exact k_law_e (st := .inl (1, s1)) hT hS (f1.t f2) l2 (fun q => by cases q))
        | (have ek : lwk T s1 = 3 := by unfold lwk; rw [if_neg n12, if_neg n35, if_neg n58, if_pos p81]
           exact go 3 ek (by decide))
        | (have ek : lwk T s1 = 2 := by unfold lwk; rw [if_neg n12, if_neg n35, if_pos p58]
           exact go 2 ek (by decide))
        | (have ek : lwk T s1 = 1 := by unfold lwk; rw [if_neg n12, if_pos p35]
           exact go 1 ek (by decide))
        | (have ek : lwk T s1 = 0 := by unfold lwk; rw [if_pos p12]
           exact go 0 ek (by decide))
end CLF
end
