/-! TOKENS: what a token is; the reference's way to the next one. -/
def isBl (x : Int32) : Bool := decide (x = 32 ∨ x = 10)
def isLt (x : Int32) : Bool := decide (97 ≤ x.toInt ∧ x.toInt ≤ 122)
def isDg (x : Int32) : Bool := decide (48 ≤ x.toInt ∧ x.toInt ≤ 57)
def rn (p : Nat → Bool) : Nat → Nat → Nat
  | 0, i => i
  | m + 1, i => if p i = true then rn p m (i + 1) else i
def tn (T : TP) (p : Int32 → Bool) (s : Nat) : Nat := rn (fun i => p (T.2 i)) (T.1 - s) s
/-- the kind of the token that begins at s -/
def tk (T : TP) (s : Nat) : Nat := if T.1 ≤ s then 0 else if isLt (T.2 s) = true then 1 else if isDg (T.2 s) = true then 2 else if T.2 s = 59 then 3 else 4
/-- its end -/
def en (T : TP) (s : Nat) : Nat := if T.1 ≤ s then s else if isLt (T.2 s) = true then tn T isLt s else if isDg (T.2 s) = true then tn T isDg s else s + 1
def bl (T : TP) (s : Nat) : Nat := tn T isBl s
def nx (T : TP) (s : Nat) : Nat := bl T (en T s)
def hsN (T : TP) (s : Nat) : Nat → Nat
  | 0 => 0
  | m + 1 => 27 * hsN T s m + ((T.2 (s + m)).toNatClampNeg - 96)
def vdN (T : TP) (s : Nat) : Nat → Nat
  | 0 => 0
  | m + 1 => 10 * vdN T s m + ((T.2 (s + m)).toNatClampNeg - 48)
def vl (T : TP) (s : Nat) : Nat := if tk T s = 2 then vdN T s (en T s - s) else 0
def wv (T : TP) (s m : Nat) : Int64 := if m ≤ 12 then lN (hsN T s m) else -1
def wl (T : TP) (s : Nat) : Int64 := if tk T s = 1 then wv T s (en T s - s) else 0
def isW (T : TP) (s h : Nat) : Bool := decide (tk T s = 1 ∧ en T s - s ≤ 12 ∧ hsN T s (en T s - s) = h)
def VR (r v : Nat) : Prop := r ≤ 1000009 ∧ (r = v ∨ (100000 < r ∧ 100000 < v))
theorem rn_le {p : Nat → Bool} : ∀ (m i : Nat), i ≤ rn p m i ∧ rn p m i ≤ i + m
  | 0, i => ⟨Nat.le_refl _, Nat.le_refl _⟩
  | m + 1, i => by
    unfold rn
    have h := rn_le (p := p) m (i + 1)
    by_cases c : p i = true
    · rw [if_pos c]; omega
    · rw [if_neg c]; omega
section TN
variable {T : TP} {p : Int32 → Bool} {s : Nat}
theorem tn_go (h : s < T.1) (hp : p (T.2 s) = true) : tn T p s = tn T p (s + 1) := by
  unfold tn
  rw [show T.1 - s = (T.1 - (s + 1)) + 1 by omega]
  show (if p (T.2 s) = true then _ else _) = _
  rw [if_pos hp]
theorem tn_no (h : ¬ (s < T.1 ∧ p (T.2 s) = true)) : tn T p s = s := by
  unfold tn
  by_cases c : s < T.1
  · rw [show T.1 - s = (T.1 - (s + 1)) + 1 by omega]
    show (if p (T.2 s) = true then _ else _) = _
    rw [if_neg (fun q => h ⟨c, q⟩)]
  · rw [show T.1 - s = 0 by omega]
    rfl
theorem tn_le (h : s ≤ T.1) : s ≤ tn T p s ∧ tn T p s ≤ T.1 := by
  have := rn_le (p := fun i => p (T.2 i)) (T.1 - s) s
  unfold tn
  omega
theorem en_le (h : s ≤ T.1) : s ≤ en T s ∧ en T s ≤ T.1 := by
  have h1 := tn_le (p := isLt) h
  have h2 := tn_le (p := isDg) h
  unfold en
  split
  · omega
  · split
    · exact h1
    · split
      · exact h2
      · omega
theorem en_lt (h : s < T.1) : s < en T s := by
  unfold en
  rw [if_neg (by omega)]
  split
  · rename_i c
    have h1 := tn_le (T := T) (p := isLt) (s := s + 1) h
    rw [tn_go h c]; omega
  · split
    · rename_i c
      have h1 := tn_le (T := T) (p := isDg) (s := s + 1) h
      rw [tn_go h c]; omega
    · omega
theorem nx_le (h : s ≤ T.1) : nx T s ≤ T.1 ∧ en T s ≤ nx T s := by
  have h1 := en_le h
  have h2 := tn_le (T := T) (p := isBl) h1.2
  unfold nx bl
  omega
theorem tk_0 : tk T s = 0 ↔ T.1 ≤ s := by
  unfold tk
  constructor
  · intro h
    by_cases c : T.1 ≤ s
    · exact c
    · rw [if_neg c] at h
      split at h
      · cases h
      · split at h
        · cases h
        · split at h <;> cases h
  · intro h
    rw [if_pos h]
theorem lt_of {x : Int32} (h : isLt x = true) : ∃ c, x = nI c ∧ 97 ≤ c ∧ c ≤ 122 := by
  have h1 := of_decide_eq_true h
  obtain ⟨c, hc, rfl⟩ := nI_of (x := x) (by rw [i_lt]; intro q; have : x.toInt < 0 := q; omega)
  rw [nI_toInt hc] at h1
  exact ⟨c, rfl, by omega, by omega⟩
theorem dg_of {x : Int32} (h : isDg x = true) : ∃ c, x = nI c ∧ 48 ≤ c ∧ c ≤ 57 := by
  have h1 := of_decide_eq_true h
  obtain ⟨c, hc, rfl⟩ := nI_of (x := x) (by rw [i_lt]; intro q; have : x.toInt < 0 := q; omega)
  rw [nI_toInt hc] at h1
  exact ⟨c, rfl, by omega, by omega⟩
end TN
def iby (T : TP) (k : Nat) (lo hi : Int32) : Bool := decide (k < T.1 ∧ lo.toInt ≤ (T.2 k).toInt ∧ (T.2 k).toInt ≤ hi.toInt)
theorem iby_lt {T : TP} {k : Nat} : iby T k 97 122 = true ↔ k < T.1 ∧ isLt (T.2 k) = true := by
  unfold iby isLt
  rw [decide_eq_true_iff, decide_eq_true_iff]
  exact Iff.rfl
theorem iby_dg {T : TP} {k : Nat} : iby T k 48 57 = true ↔ k < T.1 ∧ isDg (T.2 k) = true := by
  unfold iby isDg
  rw [decide_eq_true_iff, decide_eq_true_iff]
  exact Iff.rfl
theorem eq_toInt {x y : Int32} : x = y ↔ x.toInt = y.toInt := ⟨fun h => by rw [h], fun h => Int32.toInt_inj.mp h⟩
theorem iby_bl {T : TP} {k : Nat} : (iby T k 32 32 = true ∨ iby T k 10 10 = true) ↔ k < T.1 ∧ isBl (T.2 k) = true := by
  unfold iby isBl
  rw [decide_eq_true_iff, decide_eq_true_iff, decide_eq_true_iff, eq_toInt, eq_toInt]
  have e1 : (32 : Int32).toInt = 32 := rfl
  have e2 : (10 : Int32).toInt = 10 := rfl
  rw [e1, e2]
  omega
/-- only the token differs -/
def FrN (σ σ' : MS) : Prop := (∀ j, List.elem j [7, 8, 9, 10] = false → σ'.1 j = σ.1 j) ∧ σ'.2.2 = σ.2.2
theorem FrN.r {σ : MS} : FrN σ σ := ⟨fun _ _ => rfl, rfl⟩
theorem FrN.t {σ σ' σ'' : MS} (h : FrN σ σ') (h' : FrN σ' σ'') : FrN σ σ'' := ⟨fun j hj => (h'.1 j hj).trans (h.1 j hj), h'.2.trans h.2⟩
theorem FrN.f {σ : MS} {j : Nat} {x : Int32} (hj : List.elem j [7, 8, 9, 10] = true) : FrN σ (fset σ j x) := ⟨fun i hi => pk_un (fun e => by rw [e, hj] at hi; cases hi), rfl⟩
theorem FrN.j {σ : MS} {x : Int64} : FrN σ (jset σ x) := ⟨fun _ _ => rfl, rfl⟩
theorem FrN.T {σ σ' : MS} {T : TP} (h : FrN σ σ') (hT : TM σ T) : TM σ' T := ⟨(h.1 6 rfl).trans hT.1, hT.2.1, fun i hi => by rw [h.2]; exact hT.2.2 i hi⟩
/-- the token that begins at s is the present one -/
def LN (σ : MS) (T : TP) (s : Nat) : Prop := σ.1 7 = nI (en T s) ∧ σ.1 8 = nI (tk T s) ∧ σ.1 9 = nI s ∧ (∃ r, σ.1 10 = nI r ∧ VR r (vl T s)) ∧ σ.2.1 = wl T s ∧ s ≤ T.1
section NEXT
variable {d : Nat} {M : AM} {σ σ' : MS} {T : TP} {Q : Option Value → AM → Prop}
theorem m_isByte (hT : TM σ T) {k : Nat} (hk : k ≤ T.1) (lo hi : Int32) : Ev d md_164 0 [some (.ref 287), some (.int (nI k)), some (.int lo), some (.int hi)] [] (mset M σ) (some (.int (bI (iby T k lo hi))), mset M σ) := by
  refine Wp.toEv ?_
  have t20 := hT.2.1
  refine Wp.n (pc' := 5) 3 rfl ?_
  refine Wp.top hT.1 ?_
  refine Wp.nc3 (x := k) (y := T.1) (tgt := 32) (len := 3) rfl (by omega) (by omega) (fun h5 => ?_) (fun h5 => ?_)
  · skip
    refine Wp.n (pc' := 33) 1 rfl ?_
    refine Wp.retZ (len := 1) (c := false) rfl rfl rfl ?_
    first
      | exact ⟨by rw [show iby T k lo hi = true from decide_eq_true ⟨by omega, by rw [i_lt] at h15; omega, by rw [i_lt] at h25; omega⟩], rfl⟩
      | exact ⟨by rw [show iby T k lo hi = false from decide_eq_false (fun q => by rw [i_lt] at h25; omega)], rfl⟩
      | exact ⟨by rw [show iby T k lo hi = false from decide_eq_false (fun q => by rw [i_lt] at h15; omega)], rfl⟩
      | exact ⟨by rw [show iby T k lo hi = false from decide_eq_false (fun q => by omega)], rfl⟩
  · skip
    refine Wp.n (pc' := 13) 3 rfl ?_
    refine Wp.baldN (j := k) (len := 1) rfl rfl rfl (by omega) (by decide) ?_
    refine Wp.top (hT.2.2 k (by omega)) ?_
    refine Wp.n (pc' := 15) 1 rfl ?_
    refine Wp.ic2 (tgt := 32) (len := 3) rfl (fun h15 => ?_) (fun h15 => ?_)
    · skip
      refine Wp.n (pc' := 33) 1 rfl ?_
      refine Wp.retZ (len := 1) (c := false) rfl rfl rfl ?_
      first
        | exact ⟨by rw [show iby T k lo hi = true from decide_eq_true ⟨by omega, by rw [i_lt] at h15; omega, by rw [i_lt] at h25; omega⟩], rfl⟩
        | exact ⟨by rw [show iby T k lo hi = false from decide_eq_false (fun q => by rw [i_lt] at h25; omega)], rfl⟩
        | exact ⟨by rw [show iby T k lo hi = false from decide_eq_false (fun q => by rw [i_lt] at h15; omega)], rfl⟩
        | exact ⟨by rw [show iby T k lo hi = false from decide_eq_false (fun q => by omega)], rfl⟩
    · skip
      refine Wp.n (pc' := 23) 3 rfl ?_
      refine Wp.baldN (j := k) (len := 1) rfl rfl rfl (by omega) (by decide) ?_
      refine Wp.top (hT.2.2 k (by omega)) ?_
      refine Wp.n (pc' := 25) 1 rfl ?_
      refine Wp.ic4 (tgt := 32) (len := 3) rfl (fun h25 => ?_) (fun h25 => ?_)
      · skip
        refine Wp.n (pc' := 33) 1 rfl ?_
        refine Wp.retZ (len := 1) (c := false) rfl rfl rfl ?_
        first
          | exact ⟨by rw [show iby T k lo hi = true from decide_eq_true ⟨by omega, by rw [i_lt] at h15; omega, by rw [i_lt] at h25; omega⟩], rfl⟩
          | exact ⟨by rw [show iby T k lo hi = false from decide_eq_false (fun q => by rw [i_lt] at h25; omega)], rfl⟩
          | exact ⟨by rw [show iby T k lo hi = false from decide_eq_false (fun q => by rw [i_lt] at h15; omega)], rfl⟩
          | exact ⟨by rw [show iby T k lo hi = false from decide_eq_false (fun q => by omega)], rfl⟩
      · skip
        refine Wp.n (pc' := 33) 2 rfl ?_
        refine Wp.retZ (len := 1) (c := true) rfl rfl rfl ?_
        first
          | exact ⟨by rw [show iby T k lo hi = true from decide_eq_true ⟨by omega, by rw [i_lt] at h15; omega, by rw [i_lt] at h25; omega⟩], rfl⟩
          | exact ⟨by rw [show iby T k lo hi = false from decide_eq_false (fun q => by rw [i_lt] at h25; omega)], rfl⟩
          | exact ⟨by rw [show iby T k lo hi = false from decide_eq_false (fun q => by rw [i_lt] at h15; omega)], rfl⟩
          | exact ⟨by rw [show iby T k lo hi = false from decide_eq_false (fun q => by omega)], rfl⟩
theorem m_next_1 : ∀ (n p : Nat) {σ : MS}, TM σ T → p + n = T.1 → σ.1 7 = nI p → (∀ σ', FrN σ σ' → σ'.1 7 = nI (bl T p) → Wp (d + 1) md_163 43 [some (.ref 287), none] [] (mset M σ') Q) → Wp (d + 1) md_163 0 [some (.ref 287), none] [] (mset M σ) Q
  | 0, p, σ, hT, hn, h7, kk => by
    have t20 := hT.2.1
    have e : bl T p = p := tn_no (fun q => by omega)
    refine Wp.n (pc' := 5) 3 rfl ?_
    refine Wp.top h7 ?_
    refine Wp.n (pc' := 9) 2 rfl ?_
    refine Wp.ecallV (len := 3) rfl rfl rfl (rfl) rfl (by decide) rfl (m_isByte hT (k := p) (by omega) _ _) ?_
    refine Wp.ifb1 (tgt := 30) (len := 3) rfl (fun h12 => ?_) (fun h12 => ?_)
    · exact absurd (iby_bl.mp (Or.inl h12)).1 (by omega)
    · skip
      refine Wp.n (pc' := 20) 3 rfl ?_
      refine Wp.top h7 ?_
      refine Wp.n (pc' := 24) 2 rfl ?_
      refine Wp.ecallV (len := 3) rfl rfl rfl (rfl) rfl (by decide) rfl (m_isByte hT (k := p) (by omega) _ _) ?_
      refine Wp.ifb0 (tgt := 43) (len := 3) rfl (fun h27 => ?_) (fun h27 => ?_)
      · skip
        exact kk σ FrN.r (by rw [e]; exact h7)
      · exact absurd (iby_bl.mp (Or.inr h27)).1 (by omega)
  | n + 1, p, σ, hT, hn, h7, kk => by
    have t20 := hT.2.1
    refine Wp.n (pc' := 5) 3 rfl ?_
    refine Wp.top h7 ?_
    refine Wp.n (pc' := 9) 2 rfl ?_
    refine Wp.ecallV (len := 3) rfl rfl rfl (rfl) rfl (by decide) rfl (m_isByte hT (k := p) (by omega) _ _) ?_
    refine Wp.ifb1 (tgt := 30) (len := 3) rfl (fun h12 => ?_) (fun h12 => ?_)
    · skip
      refine Wp.n (pc' := 35) 3 rfl ?_
      refine Wp.top h7 ?_
      refine Wp.n (pc' := 36) 1 rfl ?_
      refine Wp.iaddN (x := p) (y := 1) (len := 1) rfl ?_
      refine Wp.mput (len := 3) rfl rfl ?_
      refine Wp.n (pc' := 0) 1 rfl ?_
      have hb : isBl (T.2 p) = true := (iby_bl.mp (by first | exact Or.inl h12 | exact Or.inr h27)).2
      have w := m_next_1 n (p + 1) (σ := fset σ 7 (nI (p + 1))) (FrN.T (FrN.f rfl) hT) (by omega) rfl (fun σ' f h => kk σ' ((FrN.f rfl).t f) (by rw [show bl T p = bl T (p + 1) from tn_go (by omega) hb]; exact h))
      exact w
    · skip
      refine Wp.n (pc' := 20) 3 rfl ?_
      refine Wp.top h7 ?_
      refine Wp.n (pc' := 24) 2 rfl ?_
      refine Wp.ecallV (len := 3) rfl rfl rfl (rfl) rfl (by decide) rfl (m_isByte hT (k := p) (by omega) _ _) ?_
      refine Wp.ifb0 (tgt := 43) (len := 3) rfl (fun h27 => ?_) (fun h27 => ?_)
      · skip
        have hb : bl T p = p := tn_no (fun q => by
          rcases iby_bl.mpr q with c | c
          · rw [h12] at c; cases c
          · rw [h27] at c; cases c)
        exact kk σ FrN.r (by rw [hb]; exact h7)
      · skip
        refine Wp.n (pc' := 35) 3 rfl ?_
        refine Wp.top h7 ?_
        refine Wp.n (pc' := 36) 1 rfl ?_
        refine Wp.iaddN (x := p) (y := 1) (len := 1) rfl ?_
        refine Wp.mput (len := 3) rfl rfl ?_
        refine Wp.n (pc' := 0) 1 rfl ?_
        have hb : isBl (T.2 p) = true := (iby_bl.mp (by first | exact Or.inl h12 | exact Or.inr h27)).2
        have w := m_next_1 n (p + 1) (σ := fset σ 7 (nI (p + 1))) (FrN.T (FrN.f rfl) hT) (by omega) rfl (fun σ' f h => kk σ' ((FrN.f rfl).t f) (by rw [show bl T p = bl T (p + 1) from tn_go (by omega) hb]; exact h))
        exact w
/-- letters -/
theorem m_next_2 {s : Nat} (kk : ∀ σ' n', FrN σ σ' → σ'.1 7 = nI (tn T isLt s) → σ'.1 8 = σ.1 8 → σ'.1 9 = σ.1 9 → σ'.1 10 = σ.1 10 → σ'.2.1 = wv T s (tn T isLt s - s) → Wp (d + 1) md_163 307 [some (.ref 287), some (.int n')] [] (mset M σ') Q) : ∀ (n m : Nat) {σ1 : MS}, TM σ1 T → s + m + n = T.1 → σ1.1 7 = nI (s + m) → FrN σ σ1 → σ1.1 8 = σ.1 8 → σ1.1 9 = σ.1 9 → σ1.1 10 = σ.1 10 → σ1.2.1 = wv T s m → tn T isLt s = tn T isLt (s + m) → Wp (d + 1) md_163 102 [some (.ref 287), some (.int (nI m))] [] (mset M σ1) Q
  | 0, m, σ1, hT, hn, h7, f, e8, e9, e10, hw, et => by
    have t20 := hT.2.1
    have e0 : tn T isLt (s + m) = s + m := tn_no (fun q => by omega)
    refine Wp.n (pc' := 107) 3 rfl ?_
    refine Wp.top h7 ?_
    refine Wp.n (pc' := 111) 2 rfl ?_
    refine Wp.ecallV (len := 3) rfl rfl rfl (rfl) rfl (by decide) rfl (m_isByte hT (k := s + m) (by omega) _ _) ?_
    refine Wp.ifb0 (tgt := 185) (len := 3) rfl (fun h114 => ?_) (fun h114 => ?_)
    · skip
      refine Wp.n (pc' := 307) 1 rfl ?_
      refine kk σ1 _ f (by rw [et, e0]; exact h7) e8 e9 e10 ?_
      rw [et, e0, show s + m - s = m by omega]
      exact hw
    · exact absurd (iby_lt.mp h114).1 (by omega)
  | n + 1, m, σ1, hT, hn, h7, f, e8, e9, e10, hw, et => by
    have t20 := hT.2.1
    refine Wp.n (pc' := 107) 3 rfl ?_
    refine Wp.top h7 ?_
    refine Wp.n (pc' := 111) 2 rfl ?_
    refine Wp.ecallV (len := 3) rfl rfl rfl (rfl) rfl (by decide) rfl (m_isByte hT (k := s + m) (by omega) _ _) ?_
    refine Wp.ifb0 (tgt := 185) (len := 3) rfl (fun h114 => ?_) (fun h114 => ?_)
    · skip
      refine Wp.n (pc' := 307) 1 rfl ?_
      refine kk σ1 _ f (by rw [et, tn_no (fun q => by rw [iby_lt.mpr q] at h114; cases h114)]; exact h7) e8 e9 e10 ?_
      rw [et, tn_no (fun q => by rw [iby_lt.mpr q] at h114; cases h114), show s + m - s = m by omega]
      exact hw
    · skip
      have hl := (iby_lt.mp h114).2
      obtain ⟨c, hc, c1, c2⟩ := lt_of hl
      refine Wp.n (pc' := 121) 3 rfl ?_
      refine Wp.nc5 (x := m) (y := 11) (tgt := 130) (len := 3) rfl (by omega) (by omega) (fun h121 => ?_) (fun h121 => ?_)
      · skip
        refine Wp.n (pc' := 137) 3 rfl ?_
        refine Wp.topL (hw.trans (if_pos (by omega))) ?_
        refine Wp.lmulM (x := 27) (y := hsN T s m) (len := 1) rfl ?_
        refine Wp.n (pc' := 146) 4 rfl ?_
        refine Wp.top h7 ?_
        refine Wp.baldN (j := s + m) (len := 1) rfl rfl rfl (by omega) (by decide) ?_
        refine Wp.top ((hT.2.2 (s + m) (by omega)).trans hc) ?_
        refine Wp.i2lM (x := c) (len := 1) rfl (by omega) ?_
        refine Wp.laddM (x := 27 * (hsN T s m)) (y := c) (len := 1) rfl ?_
        refine Wp.n (pc' := 152) 1 rfl ?_
        refine Wp.lsubM (x := (27 * (hsN T s m)) + c) (y := 96) (len := 1) rfl (by omega) ?_
        refine Wp.mputJ (len := 3) rfl ?_
        refine Wp.n (pc' := 159) 2 rfl ?_
        refine Wp.nc5 (x := m) (y := 11) (tgt := 169) (len := 3) rfl (by omega) (by omega) (fun h159 => ?_) (fun h159 => ?_)
        · skip
          refine Wp.n (pc' := 174) 3 rfl ?_
          refine Wp.top h7 ?_
          refine Wp.n (pc' := 175) 1 rfl ?_
          refine Wp.iaddN (x := s + m) (y := 1) (len := 1) rfl ?_
          refine Wp.mput (len := 3) rfl rfl ?_
          refine Wp.incN (x := m) (len := 3) rfl rfl ?_
          refine Wp.n (pc' := 102) 1 rfl ?_
          have hw1 : wv T s (m + 1) = if m ≤ 11 then lN (27 * hsN T s m + c - 96) else -1 := by
            unfold wv
            by_cases q : m ≤ 11
            · rw [if_pos q, if_pos (by omega)]
              show lN (27 * hsN T s m + ((T.2 (s + m)).toNatClampNeg - 96)) = _
              rw [hc, nI_clamp (by omega)]
              exact congrArg lN (by omega)
            · rw [if_neg q, if_neg (by omega)]
          first
            | omega
            | exact m_next_2 kk n (m + 1) (FrN.T (FrN.t FrN.j (FrN.f rfl)) hT) (by omega) rfl (f.t (FrN.t FrN.j (FrN.f rfl))) e8 e9 e10 (by rw [hw1, if_pos (by omega)]; rfl) (by rw [et]; exact tn_go (by omega) hl)
            | exact m_next_2 kk n (m + 1) (FrN.T (FrN.t FrN.j (FrN.t FrN.j (FrN.f rfl))) hT) (by omega) rfl (f.t (FrN.t FrN.j (FrN.t FrN.j (FrN.f rfl)))) e8 e9 e10 (by rw [hw1, if_neg (by omega)]; rfl) (by rw [et]; exact tn_go (by omega) hl)
        · skip
          refine Wp.n (pc' := 166) 2 rfl ?_
          refine Wp.mputJ (len := 3) rfl ?_
          refine Wp.n (pc' := 174) 3 rfl ?_
          refine Wp.top h7 ?_
          refine Wp.n (pc' := 175) 1 rfl ?_
          refine Wp.iaddN (x := s + m) (y := 1) (len := 1) rfl ?_
          refine Wp.mput (len := 3) rfl rfl ?_
          refine Wp.incN (x := m) (len := 3) rfl rfl ?_
          refine Wp.n (pc' := 102) 1 rfl ?_
          have hw1 : wv T s (m + 1) = if m ≤ 11 then lN (27 * hsN T s m + c - 96) else -1 := by
            unfold wv
            by_cases q : m ≤ 11
            · rw [if_pos q, if_pos (by omega)]
              show lN (27 * hsN T s m + ((T.2 (s + m)).toNatClampNeg - 96)) = _
              rw [hc, nI_clamp (by omega)]
              exact congrArg lN (by omega)
            · rw [if_neg q, if_neg (by omega)]
          first
            | omega
            | exact m_next_2 kk n (m + 1) (FrN.T (FrN.t FrN.j (FrN.f rfl)) hT) (by omega) rfl (f.t (FrN.t FrN.j (FrN.f rfl))) e8 e9 e10 (by rw [hw1, if_pos (by omega)]; rfl) (by rw [et]; exact tn_go (by omega) hl)
            | exact m_next_2 kk n (m + 1) (FrN.T (FrN.t FrN.j (FrN.t FrN.j (FrN.f rfl))) hT) (by omega) rfl (f.t (FrN.t FrN.j (FrN.t FrN.j (FrN.f rfl)))) e8 e9 e10 (by rw [hw1, if_neg (by omega)]; rfl) (by rw [et]; exact tn_go (by omega) hl)
      · skip
        refine Wp.n (pc' := 153) 2 rfl ?_
        refine Wp.mputJ (len := 3) rfl ?_
        refine Wp.n (pc' := 159) 2 rfl ?_
        refine Wp.nc5 (x := m) (y := 11) (tgt := 169) (len := 3) rfl (by omega) (by omega) (fun h159 => ?_) (fun h159 => ?_)
        · skip
          refine Wp.n (pc' := 174) 3 rfl ?_
          refine Wp.top h7 ?_
          refine Wp.n (pc' := 175) 1 rfl ?_
          refine Wp.iaddN (x := s + m) (y := 1) (len := 1) rfl ?_
          refine Wp.mput (len := 3) rfl rfl ?_
          refine Wp.incN (x := m) (len := 3) rfl rfl ?_
          refine Wp.n (pc' := 102) 1 rfl ?_
          have hw1 : wv T s (m + 1) = if m ≤ 11 then lN (27 * hsN T s m + c - 96) else -1 := by
            unfold wv
            by_cases q : m ≤ 11
            · rw [if_pos q, if_pos (by omega)]
              show lN (27 * hsN T s m + ((T.2 (s + m)).toNatClampNeg - 96)) = _
              rw [hc, nI_clamp (by omega)]
              exact congrArg lN (by omega)
            · rw [if_neg q, if_neg (by omega)]
          first
            | omega
            | exact m_next_2 kk n (m + 1) (FrN.T (FrN.t FrN.j (FrN.f rfl)) hT) (by omega) rfl (f.t (FrN.t FrN.j (FrN.f rfl))) e8 e9 e10 (by rw [hw1, if_pos (by omega)]; rfl) (by rw [et]; exact tn_go (by omega) hl)
            | exact m_next_2 kk n (m + 1) (FrN.T (FrN.t FrN.j (FrN.t FrN.j (FrN.f rfl))) hT) (by omega) rfl (f.t (FrN.t FrN.j (FrN.t FrN.j (FrN.f rfl)))) e8 e9 e10 (by rw [hw1, if_neg (by omega)]; rfl) (by rw [et]; exact tn_go (by omega) hl)
        · skip
          refine Wp.n (pc' := 166) 2 rfl ?_
          refine Wp.mputJ (len := 3) rfl ?_
          refine Wp.n (pc' := 174) 3 rfl ?_
          refine Wp.top h7 ?_
          refine Wp.n (pc' := 175) 1 rfl ?_
          refine Wp.iaddN (x := s + m) (y := 1) (len := 1) rfl ?_
          refine Wp.mput (len := 3) rfl rfl ?_
          refine Wp.incN (x := m) (len := 3) rfl rfl ?_
          refine Wp.n (pc' := 102) 1 rfl ?_
          have hw1 : wv T s (m + 1) = if m ≤ 11 then lN (27 * hsN T s m + c - 96) else -1 := by
            unfold wv
            by_cases q : m ≤ 11
            · rw [if_pos q, if_pos (by omega)]
              show lN (27 * hsN T s m + ((T.2 (s + m)).toNatClampNeg - 96)) = _
              rw [hc, nI_clamp (by omega)]
              exact congrArg lN (by omega)
            · rw [if_neg q, if_neg (by omega)]
          first
            | omega
            | exact m_next_2 kk n (m + 1) (FrN.T (FrN.t FrN.j (FrN.f rfl)) hT) (by omega) rfl (f.t (FrN.t FrN.j (FrN.f rfl))) e8 e9 e10 (by rw [hw1, if_pos (by omega)]; rfl) (by rw [et]; exact tn_go (by omega) hl)
            | exact m_next_2 kk n (m + 1) (FrN.T (FrN.t FrN.j (FrN.t FrN.j (FrN.f rfl))) hT) (by omega) rfl (f.t (FrN.t FrN.j (FrN.t FrN.j (FrN.f rfl)))) e8 e9 e10 (by rw [hw1, if_neg (by omega)]; rfl) (by rw [et]; exact tn_go (by omega) hl)
/-- digits -/
theorem m_next_3 {s : Nat} (kk : ∀ σ', FrN σ σ' → σ'.1 7 = nI (tn T isDg s) → σ'.1 8 = σ.1 8 → σ'.1 9 = σ.1 9 → σ'.2.1 = σ.2.1 → (∃ r, σ'.1 10 = nI r ∧ VR r (vdN T s (tn T isDg s - s))) → Wp (d + 1) md_163 307 [some (.ref 287), none] [] (mset M σ') Q) : ∀ (n m : Nat) {σ1 : MS}, TM σ1 T → s + m + n = T.1 → σ1.1 7 = nI (s + m) → FrN σ σ1 → σ1.1 8 = σ.1 8 → σ1.1 9 = σ.1 9 → σ1.2.1 = σ.2.1 → (∃ r, σ1.1 10 = nI r ∧ VR r (vdN T s m)) → tn T isDg s = tn T isDg (s + m) → Wp (d + 1) md_163 208 [some (.ref 287), none] [] (mset M σ1) Q
  | 0, m, σ1, hT, hn, h7, f, e8, e9, e11, hv, et => by
    have t20 := hT.2.1
    have e0 : tn T isDg (s + m) = s + m := tn_no (fun q => by omega)
    refine Wp.n (pc' := 213) 3 rfl ?_
    refine Wp.top h7 ?_
    refine Wp.n (pc' := 217) 2 rfl ?_
    refine Wp.ecallV (len := 3) rfl rfl rfl (rfl) rfl (by decide) rfl (m_isByte hT (k := s + m) (by omega) _ _) ?_
    refine Wp.ifb0 (tgt := 307) (len := 3) rfl (fun h220 => ?_) (fun h220 => ?_)
    · skip
      refine kk σ1 f (by rw [et, e0]; exact h7) e8 e9 e11 ?_
      rw [et, e0, show s + m - s = m by omega]
      exact hv
    · exact absurd (iby_dg.mp h220).1 (by omega)
  | n + 1, m, σ1, hT, hn, h7, f, e8, e9, e11, hv, et => by
    have t20 := hT.2.1
    obtain ⟨r, h10, r1, r2⟩ := id hv
    refine Wp.n (pc' := 213) 3 rfl ?_
    refine Wp.top h7 ?_
    refine Wp.n (pc' := 217) 2 rfl ?_
    refine Wp.ecallV (len := 3) rfl rfl rfl (rfl) rfl (by decide) rfl (m_isByte hT (k := s + m) (by omega) _ _) ?_
    refine Wp.ifb0 (tgt := 307) (len := 3) rfl (fun h220 => ?_) (fun h220 => ?_)
    · skip
      refine kk σ1 f (by rw [et, tn_no (fun q => by rw [iby_dg.mpr q] at h220; cases h220)]; exact h7) e8 e9 e11 ?_
      rw [et, tn_no (fun q => by rw [iby_dg.mpr q] at h220; cases h220), show s + m - s = m by omega]
      exact hv
    · skip
      have hl := (iby_dg.mp h220).2
      obtain ⟨c, hc, c1, c2⟩ := dg_of hl
      have hvd : vdN T s (m + 1) = 10 * vdN T s m + (c - 48) := by
        show 10 * vdN T s m + ((T.2 (s + m)).toNatClampNeg - 48) = _
        rw [hc, nI_clamp (by omega)]
      refine Wp.n (pc' := 228) 3 rfl ?_
      refine Wp.top h10 ?_
      refine Wp.n (pc' := 230) 1 rfl ?_
      refine Wp.nc5 (x := r) (y := 100000) (tgt := 238) (len := 3) rfl (by omega) (by omega) (fun h230 => ?_) (fun h230 => ?_)
      · skip
        refine Wp.n (pc' := 244) 3 rfl ?_
        refine Wp.top h10 ?_
        refine Wp.imulN (x := 10) (y := r) (len := 1) rfl ?_
        refine Wp.n (pc' := 253) 4 rfl ?_
        refine Wp.top h7 ?_
        refine Wp.baldN (j := s + m) (len := 1) rfl rfl rfl (by omega) (by decide) ?_
        refine Wp.top ((hT.2.2 (s + m) (by omega)).trans hc) ?_
        refine Wp.iaddN (x := 10 * r) (y := c) (len := 1) rfl ?_
        refine Wp.n (pc' := 257) 1 rfl ?_
        refine Wp.isubN (x := (10 * r) + c) (y := 48) (len := 1) rfl (by omega) ?_
        refine Wp.mput (len := 3) rfl rfl ?_
        refine Wp.n (pc' := 266) 3 rfl ?_
        refine Wp.top h7 ?_
        refine Wp.n (pc' := 267) 1 rfl ?_
        refine Wp.iaddN (x := s + m) (y := 1) (len := 1) rfl ?_
        refine Wp.mput (len := 3) rfl rfl ?_
        refine Wp.n (pc' := 208) 1 rfl ?_
        first
          | exact m_next_3 kk n (m + 1) (FrN.T (FrN.t (FrN.f rfl) (FrN.f rfl)) hT) (by omega) rfl (f.t (FrN.t (FrN.f rfl) (FrN.f rfl))) e8 e9 e11 ⟨1000000, rfl, by decide, Or.inr ⟨by decide, by omega⟩⟩ (by rw [et]; exact tn_go (by omega) hl)
          | exact m_next_3 kk n (m + 1) (FrN.T (FrN.t (FrN.f rfl) (FrN.f rfl)) hT) (by omega) rfl (f.t (FrN.t (FrN.f rfl) (FrN.f rfl))) e8 e9 e11 ⟨10 * r + c - 48, rfl, by omega, by omega⟩ (by rw [et]; exact tn_go (by omega) hl)
      · skip
        refine Wp.n (pc' := 258) 2 rfl ?_
        refine Wp.mput (len := 3) rfl rfl ?_
        refine Wp.n (pc' := 266) 3 rfl ?_
        refine Wp.top h7 ?_
        refine Wp.n (pc' := 267) 1 rfl ?_
        refine Wp.iaddN (x := s + m) (y := 1) (len := 1) rfl ?_
        refine Wp.mput (len := 3) rfl rfl ?_
        refine Wp.n (pc' := 208) 1 rfl ?_
        first
          | exact m_next_3 kk n (m + 1) (FrN.T (FrN.t (FrN.f rfl) (FrN.f rfl)) hT) (by omega) rfl (f.t (FrN.t (FrN.f rfl) (FrN.f rfl))) e8 e9 e11 ⟨1000000, rfl, by decide, Or.inr ⟨by decide, by omega⟩⟩ (by rw [et]; exact tn_go (by omega) hl)
          | exact m_next_3 kk n (m + 1) (FrN.T (FrN.t (FrN.f rfl) (FrN.f rfl)) hT) (by omega) rfl (f.t (FrN.t (FrN.f rfl) (FrN.f rfl))) e8 e9 e11 ⟨10 * r + c - 48, rfl, by omega, by omega⟩ (by rw [et]; exact tn_go (by omega) hl)
theorem m_next (hT : TM σ T) {p : Nat} (hp : p ≤ T.1) (h7 : σ.1 7 = nI p) : Wp (d + 1) md_163 0 [some (.ref 287), none] [] (mset M σ) (fun v M' => v = none ∧ ∃ σ', M' = mset M σ' ∧ FrN σ σ' ∧ LN σ' T (bl T p)) := by
  have t20 := hT.2.1
  refine m_next_1 (T.1 - p) p hT (by omega) h7 (fun σ1 f1 e7 => ?_)
  have hs := tn_le (T := T) (p := isBl) hp
  change p ≤ bl T p ∧ bl T p ≤ T.1 at hs
  have hT1 := f1.T hT
  generalize bl T p = s at e7 hs ⊢
  refine Wp.n (pc' := 48) 3 rfl ?_
  refine Wp.top e7 ?_
  refine Wp.mput (len := 3) rfl rfl ?_
  refine Wp.n (pc' := 53) 2 rfl ?_
  refine Wp.mput (len := 3) rfl rfl ?_
  refine Wp.n (pc' := 58) 2 rfl ?_
  refine Wp.mputJ (len := 3) rfl ?_
  refine Wp.n (pc' := 65) 2 rfl ?_
  refine Wp.top e7 ?_
  refine Wp.n (pc' := 69) 2 rfl ?_
  refine Wp.top hT1.1 ?_
  refine Wp.nc1 (x := s) (y := T.1) (tgt := 80) (len := 3) rfl (by omega) (by omega) (fun h69 => ?_) (fun h69 => ?_)
  · skip
    refine Wp.n (pc' := 85) 3 rfl ?_
    refine Wp.top e7 ?_
    refine Wp.n (pc' := 89) 2 rfl ?_
    refine Wp.ecallV (len := 3) rfl rfl rfl (rfl) rfl (by decide) rfl (m_isByte (FrN.T (FrN.t (FrN.f rfl) (FrN.t (FrN.f rfl) FrN.j)) hT1) (k := s) (by omega) _ _) ?_
    refine Wp.ifb0 (tgt := 188) (len := 3) rfl (fun h92 => ?_) (fun h92 => ?_)
    · have nl : ¬ isLt (T.2 s) = true := fun q => by rw [iby_lt.mpr ⟨by omega, q⟩] at h92; cases h92
      refine Wp.n (pc' := 193) 3 rfl ?_
      refine Wp.top e7 ?_
      refine Wp.n (pc' := 197) 2 rfl ?_
      refine Wp.ecallV (len := 3) rfl rfl rfl (rfl) rfl (by decide) rfl (m_isByte (FrN.T (FrN.t (FrN.f rfl) (FrN.t (FrN.f rfl) FrN.j)) hT1) (k := s) (by omega) _ _) ?_
      refine Wp.ifb0 (tgt := 274) (len := 3) rfl (fun h200 => ?_) (fun h200 => ?_)
      · have ng : ¬ isDg (T.2 s) = true := fun q => by rw [iby_dg.mpr ⟨by omega, q⟩] at h200; cases h200
        refine Wp.n (pc' := 283) 5 rfl ?_
        refine Wp.top e7 ?_
        refine Wp.baldN (j := s) (len := 1) rfl rfl rfl (by omega) (by decide) ?_
        refine Wp.top (hT1.2.2 s (by omega)) ?_
        refine Wp.n (pc' := 286) 1 rfl ?_
        refine Wp.ic1 (tgt := 293) (len := 3) rfl (fun h286 => ?_) (fun h286 => ?_)
        · skip
          refine Wp.n (pc' := 294) 1 rfl ?_
          refine Wp.mput (len := 3) rfl rfl ?_
          refine Wp.n (pc' := 302) 3 rfl ?_
          refine Wp.top e7 ?_
          refine Wp.n (pc' := 303) 1 rfl ?_
          refine Wp.iaddN (x := s) (y := 1) (len := 1) rfl ?_
          refine Wp.mput (len := 3) rfl rfl ?_
          refine Wp.retV (len := 1) rfl rfl ?_
          have f9 : ∀ (τ : MS) (a : Int32) (x : Int64) (y z : Int32), FrN τ (fset (jset (fset (fset τ 9 a) 10 y) x) 8 z) := fun τ a x y z => FrN.t (FrN.f rfl) (FrN.t (FrN.f rfl) (FrN.t FrN.j (FrN.f rfl)))
          first
            | (have t1 : tk T s = 0 := tk_0.mpr (by omega)
               have t2 : en T s = s := if_pos (by omega)
               exact ⟨rfl, _, rfl, f1.t (f9 _ _ _ _ _), by rw [t2]; exact e7, by rw [t1]; rfl, rfl, ⟨0, rfl, by decide, Or.inl (by unfold vl; rw [t1]; rfl)⟩, by unfold wl; rw [t1]; rfl, hs.2⟩)
            | (have t1 : tk T s = 3 := by unfold tk; rw [if_neg (by omega), if_neg nl, if_neg ng, if_pos h286]
               have t2 : en T s = s + 1 := by unfold en; rw [if_neg (by omega), if_neg nl, if_neg ng]
               exact ⟨rfl, _, rfl, f1.t ((f9 _ _ _ _ _).t (FrN.f rfl)), by rw [t2]; rfl, by rw [t1]; rfl, rfl, ⟨0, rfl, by decide, Or.inl (by unfold vl; rw [t1]; rfl)⟩, by unfold wl; rw [t1]; rfl, hs.2⟩)
            | (have t1 : tk T s = 4 := by unfold tk; rw [if_neg (by omega), if_neg nl, if_neg ng, if_neg h286]
               have t2 : en T s = s + 1 := by unfold en; rw [if_neg (by omega), if_neg nl, if_neg ng]
               exact ⟨rfl, _, rfl, f1.t ((f9 _ _ _ _ _).t (FrN.f rfl)), by rw [t2]; rfl, by rw [t1]; rfl, rfl, ⟨0, rfl, by decide, Or.inl (by unfold vl; rw [t1]; rfl)⟩, by unfold wl; rw [t1]; rfl, hs.2⟩)
        · skip
          refine Wp.n (pc' := 294) 2 rfl ?_
          refine Wp.mput (len := 3) rfl rfl ?_
          refine Wp.n (pc' := 302) 3 rfl ?_
          refine Wp.top e7 ?_
          refine Wp.n (pc' := 303) 1 rfl ?_
          refine Wp.iaddN (x := s) (y := 1) (len := 1) rfl ?_
          refine Wp.mput (len := 3) rfl rfl ?_
          refine Wp.retV (len := 1) rfl rfl ?_
          have f9 : ∀ (τ : MS) (a : Int32) (x : Int64) (y z : Int32), FrN τ (fset (jset (fset (fset τ 9 a) 10 y) x) 8 z) := fun τ a x y z => FrN.t (FrN.f rfl) (FrN.t (FrN.f rfl) (FrN.t FrN.j (FrN.f rfl)))
          first
            | (have t1 : tk T s = 0 := tk_0.mpr (by omega)
               have t2 : en T s = s := if_pos (by omega)
               exact ⟨rfl, _, rfl, f1.t (f9 _ _ _ _ _), by rw [t2]; exact e7, by rw [t1]; rfl, rfl, ⟨0, rfl, by decide, Or.inl (by unfold vl; rw [t1]; rfl)⟩, by unfold wl; rw [t1]; rfl, hs.2⟩)
            | (have t1 : tk T s = 3 := by unfold tk; rw [if_neg (by omega), if_neg nl, if_neg ng, if_pos h286]
               have t2 : en T s = s + 1 := by unfold en; rw [if_neg (by omega), if_neg nl, if_neg ng]
               exact ⟨rfl, _, rfl, f1.t ((f9 _ _ _ _ _).t (FrN.f rfl)), by rw [t2]; rfl, by rw [t1]; rfl, rfl, ⟨0, rfl, by decide, Or.inl (by unfold vl; rw [t1]; rfl)⟩, by unfold wl; rw [t1]; rfl, hs.2⟩)
            | (have t1 : tk T s = 4 := by unfold tk; rw [if_neg (by omega), if_neg nl, if_neg ng, if_neg h286]
               have t2 : en T s = s + 1 := by unfold en; rw [if_neg (by omega), if_neg nl, if_neg ng]
               exact ⟨rfl, _, rfl, f1.t ((f9 _ _ _ _ _).t (FrN.f rfl)), by rw [t2]; rfl, by rw [t1]; rfl, rfl, ⟨0, rfl, by decide, Or.inl (by unfold vl; rw [t1]; rfl)⟩, by unfold wl; rw [t1]; rfl, hs.2⟩)
      · have hg := (iby_dg.mp h200).2
        refine Wp.n (pc' := 205) 2 rfl ?_
        refine Wp.mput (len := 3) rfl rfl ?_
        have t1 : tk T s = 2 := by unfold tk; rw [if_neg (by omega), if_neg nl, if_pos hg]
        have t2 : en T s = tn T isDg s := by unfold en; rw [if_neg (by omega), if_neg nl, if_pos hg]
        refine m_next_3 (s := s) (fun σ' f g7 g8 g9 gw g10 => ?_) (T.1 - s) 0 (FrN.T (FrN.t (FrN.f rfl) (FrN.t (FrN.f rfl) (FrN.t FrN.j (FrN.f rfl)))) hT1) (by omega) e7 FrN.r rfl rfl rfl ⟨0, rfl, by decide, Or.inl rfl⟩ rfl
        refine Wp.retV (len := 1) rfl rfl ?_
        refine ⟨rfl, σ', rfl, (f1.t (FrN.t (FrN.f rfl) (FrN.t (FrN.f rfl) (FrN.t FrN.j (FrN.f rfl))))).t f, ?_, ?_, ?_, ?_, ?_, hs.2⟩
        · rw [t2]; exact g7
        · rw [t1]; exact g8
        · exact g9
        · unfold vl; rw [t1, if_pos rfl, t2]; exact g10
        · unfold wl; rw [t1]; exact gw
    · have hl := (iby_lt.mp h92).2
      refine Wp.n (pc' := 97) 2 rfl ?_
      refine Wp.mput (len := 3) rfl rfl ?_
      refine Wp.n (pc' := 102) 2 rfl ?_
      have t1 : tk T s = 1 := by unfold tk; rw [if_neg (by omega), if_pos hl]
      have t2 : en T s = tn T isLt s := by unfold en; rw [if_neg (by omega), if_pos hl]
      refine m_next_2 (s := s) (fun σ' n' f g7 g8 g9 g10 gw => ?_) (T.1 - s) 0 (FrN.T (FrN.t (FrN.f rfl) (FrN.t (FrN.f rfl) (FrN.t FrN.j (FrN.f rfl)))) hT1) (by omega) e7 FrN.r rfl rfl rfl rfl rfl
      refine Wp.retV (len := 1) rfl rfl ?_
      refine ⟨rfl, σ', rfl, (f1.t (FrN.t (FrN.f rfl) (FrN.t (FrN.f rfl) (FrN.t FrN.j (FrN.f rfl))))).t f, ?_, ?_, ?_, ⟨0, g10, by decide, Or.inl ?_⟩, ?_, hs.2⟩
      · rw [t2]; exact g7
      · rw [t1]; exact g8
      · exact g9
      · unfold vl; rw [t1]; rfl
      · unfold wl; rw [t1, if_pos rfl, t2]; exact gw
  · skip
    refine Wp.n (pc' := 74) 2 rfl ?_
    refine Wp.mput (len := 3) rfl rfl ?_
    refine Wp.n (pc' := 307) 1 rfl ?_
    refine Wp.retV (len := 1) rfl rfl ?_
    have f9 : ∀ (τ : MS) (a : Int32) (x : Int64) (y z : Int32), FrN τ (fset (jset (fset (fset τ 9 a) 10 y) x) 8 z) := fun τ a x y z => FrN.t (FrN.f rfl) (FrN.t (FrN.f rfl) (FrN.t FrN.j (FrN.f rfl)))
    first
      | (have t1 : tk T s = 0 := tk_0.mpr (by omega)
         have t2 : en T s = s := if_pos (by omega)
         exact ⟨rfl, _, rfl, f1.t (f9 _ _ _ _ _), by rw [t2]; exact e7, by rw [t1]; rfl, rfl, ⟨0, rfl, by decide, Or.inl (by unfold vl; rw [t1]; rfl)⟩, by unfold wl; rw [t1]; rfl, hs.2⟩)
      | (have t1 : tk T s = 3 := by unfold tk; rw [if_neg (by omega), if_neg nl, if_neg ng, if_pos h286]
         have t2 : en T s = s + 1 := by unfold en; rw [if_neg (by omega), if_neg nl, if_neg ng]
         exact ⟨rfl, _, rfl, f1.t ((f9 _ _ _ _ _).t (FrN.f rfl)), by rw [t2]; rfl, by rw [t1]; rfl, rfl, ⟨0, rfl, by decide, Or.inl (by unfold vl; rw [t1]; rfl)⟩, by unfold wl; rw [t1]; rfl, hs.2⟩)
      | (have t1 : tk T s = 4 := by unfold tk; rw [if_neg (by omega), if_neg nl, if_neg ng, if_neg h286]
         have t2 : en T s = s + 1 := by unfold en; rw [if_neg (by omega), if_neg nl, if_neg ng]
         exact ⟨rfl, _, rfl, f1.t ((f9 _ _ _ _ _).t (FrN.f rfl)), by rw [t2]; rfl, by rw [t1]; rfl, rfl, ⟨0, rfl, by decide, Or.inl (by unfold vl; rw [t1]; rfl)⟩, by unfold wl; rw [t1]; rfl, hs.2⟩)
end NEXT
