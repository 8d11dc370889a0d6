/-! THE REFERENCE'S QUESTIONS: what may change, bounds, the way by road. -/
/-- only fields of F and rows of A may differ -/
def Fr (F A : List Nat) (σ σ' : MS) : Prop := (∀ j, List.elem j F = false → σ'.1 j = σ.1 j) ∧ (∀ k, List.elem k A = false → σ'.2.2.1 k = σ.2.2.1 k) ∧ σ'.2.1 = σ.2.1 ∧ σ'.2.2.2 = σ.2.2.2
theorem upd_ne {f : Nat → Int32} {k j : Nat} {x : Int32} (h : j ≠ k) : upd f k x j = f j := pk_un h
section FR
variable {F A : List Nat} {σ σ' σ'' : MS}
theorem Fr.rfl' : Fr F A σ σ := ⟨fun _ _ => rfl, fun _ _ => rfl, rfl, rfl⟩
theorem Fr.trans (h : Fr F A σ σ') (h' : Fr F A σ' σ'') : Fr F A σ σ'' := ⟨fun j hj => (h'.1 j hj).trans (h.1 j hj), fun k hk => (h'.2.1 k hk).trans (h.2.1 k hk), h'.2.2.1.trans h.2.2.1, h'.2.2.2.trans h.2.2.2⟩
theorem Fr.fset {j : Nat} {x : Int32} (h : Fr F A σ σ') (hj : List.elem j F = true) : Fr F A σ (fset σ' j x) := ⟨fun i hi => (upd_ne (fun e => by rw [e, hj] at hi; cases hi)).trans (h.1 i hi), h.2.1, h.2.2.1, h.2.2.2⟩
theorem Fr.aset {k : Nat} {f : Nat → Int32} (h : Fr F A σ σ') (hk : List.elem k A = true) : Fr F A σ (aset σ' k f) := ⟨h.1, fun i hi => (va_up_ne _ _ (fun e => by rw [e, hk] at hi; cases hi)).trans (h.2.1 i hi), h.2.2.1, h.2.2.2⟩
theorem Fr.mono {F' A' : List Nat} (h : Fr F A σ σ') (hF : F.all (fun j => List.elem j F') = true) (hA : A.all (fun j => List.elem j A') = true) : Fr F' A' σ σ' := by
  refine ⟨fun j hj => h.1 j ?_, fun k hk => h.2.1 k ?_, h.2.2.1, h.2.2.2⟩
  · cases e : List.elem j F with
    | false => rfl
    | true =>
      have := List.all_eq_true.mp hF j (List.elem_iff.mp e)
      rw [hj] at this
      cases this
  · cases e : List.elem k A with
    | false => rfl
    | true =>
      have := List.all_eq_true.mp hA k (List.elem_iff.mp e)
      rw [hk] at this
      cases this
end FR
/-- scratch -/
abbrev SF : List Nat := [27, 28, 29, 30, 32, 33, 34, 35, 36, 37, 38, 39, 40, 41, 42]
abbrev SA : List Nat := [13, 14, 15, 16, 17]
def Scr (σ σ' : MS) : Prop := Fr SF SA σ σ'
def MK (σ : MS) (K : KD) : Prop := RepM σ 0 K ∧ KOK K ∧ σ.1 25 = nI (kh K 11) ∧ σ.1 0 = 0
theorem RepM_fr {σ σ' : MS} {s : Nat} {K : KD} (h : RepM σ s K) (e5 : σ'.2.2.1 5 = σ.2.2.1 5) (e6 : σ'.2.2.1 6 = σ.2.2.1 6) (e7 : σ'.2.2.1 7 = σ.2.2.1 7) (e9 : σ'.2.2.1 9 = σ.2.2.1 9) (e10 : σ'.2.2.1 10 = σ.2.2.1 10) (e11 : σ'.2.2.1 11 = σ.2.2.1 11) (e8 : σ'.2.2.2 8 = σ.2.2.2 8) : RepM σ' s K := by
  unfold RepM at *
  rw [e5, e6, e7, e8, e9, e10, e11]
  exact h
theorem RepM_scr {σ σ' : MS} {s : Nat} {K : KD} (h : RepM σ s K) (e : Scr σ σ') : RepM σ' s K := RepM_fr h (e.2.1 5 rfl) (e.2.1 6 rfl) (e.2.1 7 rfl) (e.2.1 9 rfl) (e.2.1 10 rfl) (e.2.1 11 rfl) (by rw [e.2.2.2])
theorem MK_scr {σ σ' : MS} {K : KD} (h : MK σ K) (e : Scr σ σ') : MK σ' K := ⟨RepM_scr h.1 e, h.2.1, (e.1 25 rfl).trans h.2.2.1, (e.1 0 rfl).trans h.2.2.2⟩
/-- a number below n -/
def isN (n : Nat) (x : Int32) : Bool := decide (0 ≤ x.toInt ∧ x.toInt < (n : Int))
theorem isN_of {n : Nat} {x : Int32} (h : isN n x = true) : ∃ a : Nat, a < n ∧ x = nI a := by
  have h1 := of_decide_eq_true h
  obtain ⟨a, ha, rfl⟩ := nI_of (x := x) (by rw [i_lt]; intro q; have : x.toInt < 0 := q; omega)
  refine ⟨a, ?_, rfl⟩
  rw [nI_toInt ha] at h1
  omega
theorem isN_nI {n a : Nat} (ha : a < 2 ^ 31) : isN n (nI a) = decide (a < n) := by
  unfold isN
  rw [nI_toInt ha]
  by_cases h : a < n
  · rw [decide_eq_true h, decide_eq_true (by omega)]
  · rw [decide_eq_false h, decide_eq_false (by omega)]
theorem isN_le {n : Nat} {x y : Int32} (hn : n < 2 ^ 30) (hy : y = nI n) : decide (0 ≤ x.toInt ∧ x.toInt ≤ (y - 1).toInt) = isN n x := by
  unfold isN
  rw [hy, show (nI n - 1).toInt = (n : Int) - 1 from pk_sub_toInt (a := n) (b := 1) hn (by decide)]
  by_cases h : 0 ≤ x.toInt ∧ x.toInt < (n : Int)
  · rw [decide_eq_true h, decide_eq_true (by omega)]
  · rw [decide_eq_false h, decide_eq_false (by omega)]
section RQ
variable {d : Nat} {M : AM} {σ : MS} {K : KD} {Q : Option Value → AM → Prop}
theorem m_isPlaceK (hM : RepM σ 0 K) (ok : KOK K) (x : Int32) : Ev (d + 1) md_187 0 [some (.ref 287), some (.int x)] [] (mset M σ) (some (.int (bI (isN (kh K 0) x))), mset M σ) := by
  obtain ⟨b0, b1, b2, b3, b4, b5, b6, b7, b8, b9, b10, b11, b12⟩ := ok_h ok
  rw [← isN_le (n := kh K 0) (by omega) (r0_has hM (j := 0) (by decide))]
  exact m_isPlace σ x
theorem m_isDayK (hM : RepM σ 0 K) (ok : KOK K) (x : Int32) : Ev (d + 1) md_193 0 [some (.ref 287), some (.int x)] [] (mset M σ) (some (.int (bI (isN (kh K 1) x))), mset M σ) := by
  obtain ⟨b0, b1, b2, b3, b4, b5, b6, b7, b8, b9, b10, b11, b12⟩ := ok_h ok
  rw [← isN_le (n := kh K 1) (by omega) (r0_has hM (j := 1) (by decide))]
  exact m_isDay σ x
theorem m_isWalkK (hM : RepM σ 0 K) (ok : KOK K) (x : Int32) : Ev (d + 1) md_199 0 [some (.ref 287), some (.int x)] [] (mset M σ) (some (.int (bI (isN (kh K 4) x))), mset M σ) := by
  obtain ⟨b0, b1, b2, b3, b4, b5, b6, b7, b8, b9, b10, b11, b12⟩ := ok_h ok
  rw [← isN_le (n := kh K 4) (by omega) (r0_has hM (j := 4) (by decide))]
  exact m_isWalk σ x
def areT (K : KD) (x y : Int32) : Bool := isN (kh K 0) x && isN (kh K 0) y && !(decide (x = y))
theorem m_areTwo (hM : RepM σ 0 K) (ok : KOK K) (x y : Int32) : Ev (d + 2) md_196 0 [some (.ref 287), some (.int x), some (.int y)] [] (mset M σ) (some (.int (bI (areT K x y))), mset M σ) := by
  refine Wp.toEv ?_
  unfold areT
  refine Wp.n (pc' := 2) 2 rfl ?_
  refine Wp.ecallV (len := 3) rfl rfl rfl (rfl) rfl (by decide) rfl (m_isPlaceK hM ok _) ?_
  refine Wp.ifb0 (tgt := 25) (len := 3) rfl (fun h5 => ?_) (fun h5 => ?_)
  · skip
    refine Wp.n (pc' := 26) 1 rfl ?_
    refine Wp.retZ (len := 1) (c := false) rfl rfl rfl ?_
    exact ⟨by simp_all, rfl⟩
  · skip
    refine Wp.n (pc' := 10) 2 rfl ?_
    refine Wp.ecallV (len := 3) rfl rfl rfl (rfl) rfl (by decide) rfl (m_isPlaceK hM ok _) ?_
    refine Wp.ifb0 (tgt := 25) (len := 3) rfl (fun h13 => ?_) (fun h13 => ?_)
    · skip
      refine Wp.n (pc' := 26) 1 rfl ?_
      refine Wp.retZ (len := 1) (c := false) rfl rfl rfl ?_
      exact ⟨by simp_all, rfl⟩
    · skip
      refine Wp.n (pc' := 18) 2 rfl ?_
      refine Wp.ic0 (tgt := 25) (len := 3) rfl (fun h18 => ?_) (fun h18 => ?_)
      · skip
        refine Wp.n (pc' := 26) 1 rfl ?_
        refine Wp.retZ (len := 1) (c := false) rfl rfl rfl ?_
        exact ⟨by simp_all, rfl⟩
      · skip
        refine Wp.n (pc' := 26) 2 rfl ?_
        refine Wp.retZ (len := 1) (c := true) rfl rfl rfl ?_
        exact ⟨by simp_all, rfl⟩

def isT (K : KD) (x y z : Int32) : Bool := areT K x y && isN (kh K 1) z
theorem m_isTrip (hM : RepM σ 0 K) (ok : KOK K) (x y z : Int32) : Ev (d + 3) md_226 0 [some (.ref 287), some (.int x), some (.int y), some (.int z)] [] (mset M σ) (some (.int (bI (isT K x y z))), mset M σ) := by
  refine Wp.toEv ?_
  unfold isT
  refine Wp.n (pc' := 3) 3 rfl ?_
  refine Wp.ecallV (len := 3) rfl rfl rfl (rfl) rfl (by decide) rfl (m_areTwo hM ok _ _) ?_
  refine Wp.ifb0 (tgt := 21) (len := 3) rfl (fun h6 => ?_) (fun h6 => ?_)
  · skip
    refine Wp.n (pc' := 22) 1 rfl ?_
    refine Wp.retZ (len := 1) (c := false) rfl rfl rfl ?_
    exact ⟨by simp_all, rfl⟩
  · skip
    refine Wp.n (pc' := 11) 2 rfl ?_
    refine Wp.ecallV (len := 3) rfl rfl rfl (rfl) rfl (by decide) rfl (m_isDayK hM ok _) ?_
    refine Wp.ifb0 (tgt := 21) (len := 3) rfl (fun h14 => ?_) (fun h14 => ?_)
    · skip
      refine Wp.n (pc' := 22) 1 rfl ?_
      refine Wp.retZ (len := 1) (c := false) rfl rfl rfl ?_
      exact ⟨by simp_all, rfl⟩
    · skip
      refine Wp.n (pc' := 22) 2 rfl ?_
      refine Wp.retZ (len := 1) (c := true) rfl rfl rfl ?_
      exact ⟨by simp_all, rfl⟩

theorem m_isKingdom (hM : RepM σ 0 K) (ok : KOK K) : Ev d md_205 0 [some (.ref 287)] [] (mset M σ) (some (.int (bI (decide (0 < kh K 0)))), mset M σ) := by
  refine Wp.toEv ?_
  obtain ⟨b0, b1, b2, b3, b4, b5, b6, b7, b8, b9, b10, b11, b12⟩ := ok_h ok
  have hl := ok_ln ok
  refine Wp.n (pc' := 5) 3 rfl ?_
  refine Wp.mialdN (j := 0) (len := 1) rfl rfl rfl (by omega) ?_
  refine Wp.top (rm_ln hM) ?_
  refine Wp.nz5 (x := kh K 5) (tgt := 13) (len := 3) rfl (by omega) (fun h6 => ?_) (fun h6 => ?_)
  · skip
    refine Wp.n (pc' := 14) 1 rfl ?_
    refine Wp.retZ (len := 1) (c := false) rfl rfl rfl ?_
    exact ⟨by first | rw [decide_eq_true (by omega)] | rw [decide_eq_false (by omega)], rfl⟩
  · skip
    refine Wp.n (pc' := 14) 2 rfl ?_
    refine Wp.retZ (len := 1) (c := true) rfl rfl rfl ?_
    exact ⟨by first | rw [decide_eq_true (by omega)] | rw [decide_eq_false (by omega)], rfl⟩

theorem m_many0 (hM : RepM σ 0 K) (ok : KOK K) {w : Nat} (hw : w < kh K 4) : Ev (d + 1) md_203 0 [some (.ref 287), some (.int (nI w))] [] (mset M σ) (some (.int (nI (kw K w 3))), mset M σ) := by
  refine Wp.toEv ?_
  obtain ⟨b0, b1, b2, b3, b4, b5, b6, b7, b8, b9, b10, b11, b12⟩ := ok_h ok
  refine Wp.n (pc' := 3) 3 rfl ?_
  refine Wp.ecallV (len := 3) rfl rfl rfl (rfl) rfl (by decide) rfl (m_of σ w 3 (by omega)) ?_
  refine Wp.top (r0_walk hM hw (j := 3) (by decide) (by omega)) ?_
  refine Wp.retI (len := 1) rfl rfl ?_
  exact ⟨rfl, rfl⟩

theorem m_from (hM : RepM σ 0 K) (ok : KOK K) {w : Nat} (hw : w < kh K 4) : Ev (d + 1) md_201 0 [some (.ref 287), some (.int (nI w))] [] (mset M σ) (some (.int (nI (kw K w 4))), mset M σ) := by
  refine Wp.toEv ?_
  obtain ⟨b0, b1, b2, b3, b4, b5, b6, b7, b8, b9, b10, b11, b12⟩ := ok_h ok
  have t := ok_walk ok hw
  refine Wp.n (pc' := 3) 3 rfl ?_
  refine Wp.ecallV (len := 3) rfl rfl rfl (rfl) rfl (by decide) rfl (m_of σ w 4 (by omega)) ?_
  refine Wp.top (r0_stop hM hw (j := 0) (by omega) (by omega)) ?_
  refine Wp.retI (len := 1) rfl rfl ?_
  exact ⟨rfl, rfl⟩

theorem m_to (hM : RepM σ 0 K) (ok : KOK K) {w : Nat} (hw : w < kh K 4) : Ev (d + 2) md_202 0 [some (.ref 287), some (.int (nI w))] [] (mset M σ) (some (.int (nI (kw K w (3 + kw K w 3)))), mset M σ) := by
  refine Wp.toEv ?_
  obtain ⟨b0, b1, b2, b3, b4, b5, b6, b7, b8, b9, b10, b11, b12⟩ := ok_h ok
  have t := ok_walk ok hw
  have e := r0_stop hM hw (j := kw K w 3 - 1) (q := 11 * w + (3 + kw K w 3)) (by omega) (by omega)
  rw [show 4 + (kw K w 3 - 1) = 3 + kw K w 3 by omega] at e
  refine Wp.n (pc' := 5) 5 rfl ?_
  refine Wp.ecallV (len := 3) rfl rfl rfl (rfl) rfl (by decide) rfl (m_many0 hM ok hw) ?_
  refine Wp.iaddN (x := 3) (y := kw K w 3) (len := 1) rfl ?_
  refine Wp.ecallV (len := 3) rfl rfl rfl (rfl) rfl (by decide) rfl (m_of σ w (3 + kw K w 3) (by omega)) ?_
  refine Wp.top e ?_
  refine Wp.retI (len := 1) rfl rfl ?_
  exact ⟨rfl, rfl⟩


theorem m_way_o (hM : RepM σ 0 K) (ok : KOK K) {h : Nat → Int32} {f t p i k q : Nat} (hq : q < 7) (kk : ∀ z, Wp (d + 2) md_190 140 [some (.ref 287), some (.int (nI f)), some (.int (nI t)), some (.int (nI i)), some (.int (nI p)), some (.int (nI k)), some (.int (nI q)), z] [] (mset M (aset σ 13 h)) Q) : Wp (d + 2) md_190 66 [some (.ref 287), some (.int (nI f)), some (.int (nI t)), some (.int (nI i)), some (.int (nI p)), some (.int (nI k)), some (.int (nI q)), some (.int (nI (q + 1)))] [] (mset M (aset σ 13 h)) Q := by
  obtain ⟨b0, b1, b2, b3, b4, b5, b6, b7, b8, b9, b10, b11, b12⟩ := ok_h ok
  refine Wp.n (pc' := 73) 4 rfl ?_
  refine Wp.mialdN (j := 0) (len := 1) rfl rfl rfl (by omega) ?_
  refine Wp.top (r0_has hM (by decide)) ?_
  refine Wp.nc3 (x := q + 1) (y := kh K 0) (tgt := 140) (len := 3) rfl (by omega) (by omega) (fun h74 => ?_) (fun h74 => ?_)
  · skip
    exact kk _
  · skip
    refine Wp.n (pc' := 80) 2 rfl ?_
    refine Wp.ic1 (tgt := 140) (len := 3) rfl (fun h80 => ?_) (fun h80 => ?_)
    · skip
      exact kk _
    · exact absurd h80 (oI_ne (by omega))
theorem m_way_q (hM : RepM σ 0 K) (ok : KOK K) {h : Nat → Int32} {f t p i k : Nat} (hh : FarOf h K t) (hp : p < kh K 0) (hpt : distK K p t < 1000000) : ∀ (n q : Nat), q + n = kh K 0 → (∀ z, Wp (d + 2) md_190 140 [some (.ref 287), some (.int (nI f)), some (.int (nI t)), some (.int (nI i)), some (.int (nI p)), some (.int (nI k)), some (.int (oI (fnd (nxtP K t p) n q))), z] [] (mset M (aset σ 13 h)) Q) → Wp (d + 2) md_190 66 [some (.ref 287), some (.int (nI f)), some (.int (nI t)), some (.int (nI i)), some (.int (nI p)), some (.int (nI k)), some (.int (-1)), some (.int (nI q))] [] (mset M (aset σ 13 h)) Q := by
  intro n
  obtain ⟨b0, b1, b2, b3, b4, b5, b6, b7, b8, b9, b10, b11, b12⟩ := ok_h ok
  have dp := hh p hp
  induction n with
  | zero =>
    intro q hq kk
    refine Wp.n (pc' := 73) 4 rfl ?_
    refine Wp.mialdN (j := 0) (len := 1) rfl rfl rfl (by omega) ?_
    refine Wp.top (r0_has hM (by decide)) ?_
    refine Wp.nc3 (x := q) (y := kh K 0) (tgt := 140) (len := 3) rfl (by omega) (by omega) (fun h74 => ?_) (fun h74 => ?_)
    · skip
      exact kk _
    · omega
  | succ n ih =>
    intro q hq kk
    have dq := hh q (by omega)
    have dl := dist_le ok q t
    unfold fnd at kk
    refine Wp.n (pc' := 73) 4 rfl ?_
    refine Wp.mialdN (j := 0) (len := 1) rfl rfl rfl (by omega) ?_
    refine Wp.top (r0_has hM (by decide)) ?_
    refine Wp.nc3 (x := q) (y := kh K 0) (tgt := 140) (len := 3) rfl (by omega) (by omega) (fun h74 => ?_) (fun h74 => ?_)
    · omega
    · skip
      refine Wp.n (pc' := 80) 2 rfl ?_
      refine Wp.ic1 (tgt := 140) (len := 3) rfl (fun h80 => ?_) (fun h80 => ?_)
      · exact absurd rfl h80
      · skip
        refine Wp.n (pc' := 88) 3 rfl ?_
        refine Wp.ecallV (len := 3) rfl rfl rfl (rfl) rfl (by decide) rfl (m_roadOf (show RepM (aset σ 13 h) 0 K from hM) ok (by omega) (by omega)) ?_
        rcases hrd : roadK K p q with _ | j
        · have hx : nxtP K t p q = false := by
            unfold nxtP
            rw [hrd]
          rw [if_neg (by rw [hx]; decide)] at kk
          refine Wp.n (pc' := 92) 1 rfl ?_
          refine Wp.ic0 (tgt := 134) (len := 3) rfl (fun h92 => ?_) (fun h92 => ?_)
          · skip
            refine Wp.incN (x := q) (len := 3) rfl rfl ?_
            refine Wp.n (pc' := 66) 1 rfl ?_
            first
              | exact ih (q + 1) (by omega) kk
              | (rw [if_neg (by rw [hx, decide_eq_false (by omega)]; decide)] at kk; exact ih (q + 1) (by omega) kk)
              | (rw [if_pos (by rw [hx]; exact decide_eq_true (by omega))] at kk
                 exact m_way_o hM ok (by omega) kk)
          · exact absurd rfl h92
        · have hj := (roadK_v hrd).1
          have ho := ok_road ok hj
          have hx : nxtP K t p q = decide (kr K j 2 + distK K q t = distK K p t) := by
            unfold nxtP
            rw [hrd]
          refine Wp.n (pc' := 92) 1 rfl ?_
          refine Wp.ic0 (tgt := 134) (len := 3) rfl (fun h92 => ?_) (fun h92 => ?_)
          · exact absurd h92 (oI_ne (by omega))
          · skip
            refine Wp.n (pc' := 101) 3 rfl ?_
            refine Wp.mialdN (j := q) (len := 1) rfl rfl rfl (by omega) ?_
            refine Wp.top dq ?_
            refine Wp.n (pc' := 112) 6 rfl ?_
            refine Wp.ecallV (len := 3) rfl rfl rfl (rfl) rfl (by decide) rfl (m_roadOf (show RepM (aset σ 13 h) 0 K from hM) ok (by omega) (by omega)) ?_
            refine Wp.top (congrArg oI hrd) ?_
            refine Wp.imulN (x := 3) (y := j) (len := 1) rfl ?_
            refine Wp.n (pc' := 117) 1 rfl ?_
            refine Wp.iaddN (x := 3 * j) (y := 2) (len := 1) rfl ?_
            refine Wp.mialdN (j := (3 * j) + 2) (len := 1) rfl rfl rfl (by omega) ?_
            refine Wp.top (r0_road hM hj (j := 2) (by decide) (by omega)) ?_
            refine Wp.iaddN (x := distK K q t) (y := kr K j 2) (len := 1) rfl ?_
            refine Wp.n (pc' := 126) 3 rfl ?_
            refine Wp.mialdN (j := p) (len := 1) rfl rfl rfl (by omega) ?_
            refine Wp.top dp ?_
            refine Wp.nc1 (x := (distK K q t) + (kr K j 2)) (y := distK K p t) (tgt := 134) (len := 3) rfl (by omega) (by omega) (fun h127 => ?_) (fun h127 => ?_)
            · skip
              refine Wp.incN (x := q) (len := 3) rfl rfl ?_
              refine Wp.n (pc' := 66) 1 rfl ?_
              first
                | exact ih (q + 1) (by omega) kk
                | (rw [if_neg (by rw [hx, decide_eq_false (by omega)]; decide)] at kk; exact ih (q + 1) (by omega) kk)
                | (rw [if_pos (by rw [hx]; exact decide_eq_true (by omega))] at kk
                   exact m_way_o hM ok (by omega) kk)
            · skip
              refine Wp.n (pc' := 134) 2 rfl ?_
              refine Wp.incN (x := q) (len := 3) rfl rfl ?_
              refine Wp.n (pc' := 66) 1 rfl ?_
              first
                | exact ih (q + 1) (by omega) kk
                | (rw [if_neg (by rw [hx, decide_eq_false (by omega)]; decide)] at kk; exact ih (q + 1) (by omega) kk)
                | (rw [if_pos (by rw [hx]; exact decide_eq_true (by omega))] at kk
                   exact m_way_o hM ok (by omega) kk)


theorem m_way_l (hM : RepM σ 0 K) (ok : KOK K) {h : Nat → Int32} {f t i : Nat} (hh : FarOf h K t) (hf : f < kh K 0) (ht : t < kh K 0) (hft : distK K f t < 1000000) (hi : i < 2 ^ 31) : ∀ (n k p : Nat) (z6 z7 : Option Value), k + n = i → wayK K f t k = some p → Wp (d + 2) md_190 46 [some (.ref 287), some (.int (nI f)), some (.int (nI t)), some (.int (nI i)), some (.int (nI p)), some (.int (nI k)), z6, z7] [] (mset M (aset σ 13 h)) (IsR (some (.int (oI (wayK K f t i)))) (mset M (aset σ 13 h))) := by
  intro n
  obtain ⟨b0, b1, b2, b3, b4, b5, b6, b7, b8, b9, b10, b11, b12⟩ := ok_h ok
  induction n with
  | zero =>
    intro k p z6 z7 hk hw
    rw [show i = k by omega, hw]
    refine Wp.n (pc' := 49) 2 rfl ?_
    refine Wp.nc3 (x := k) (y := k) (tgt := 150) (len := 3) rfl (by omega) (by omega) (fun h49 => ?_) (fun h49 => ?_)
    · skip
      refine Wp.n (pc' := 152) 1 rfl ?_
      refine Wp.retI (len := 1) rfl rfl ?_
      exact ⟨rfl, rfl⟩
    · omega
  | succ n ih =>
    intro k p z6 z7 hk hw
    obtain ⟨p1, p2, _⟩ := wayK_v ok hf hw
    refine Wp.n (pc' := 49) 2 rfl ?_
    refine Wp.nc3 (x := k) (y := i) (tgt := 150) (len := 3) rfl (by omega) (by omega) (fun h49 => ?_) (fun h49 => ?_)
    · omega
    · skip
      refine Wp.n (pc' := 55) 2 rfl ?_
      refine Wp.nc1 (x := p) (y := t) (tgt := 60) (len := 3) rfl (by omega) (by omega) (fun h55 => ?_) (fun h55 => ?_)
      · skip
        refine Wp.n (pc' := 66) 4 rfl ?_
        obtain ⟨q, hq⟩ := nxt_s ok (t := t) (p := p) (by omega) h55
        refine m_way_q hM ok hh p1 (by omega) (kh K 0) 0 (by omega) (fun z => ?_)
        rw [show fnd (nxtP K t p) (kh K 0) 0 = some q from hq]
        refine Wp.n (pc' := 144) 2 rfl ?_
        refine Wp.incN (x := k) (len := 3) rfl rfl ?_
        refine Wp.n (pc' := 46) 1 rfl ?_
        exact ih (k + 1) q _ _ (by omega) (by show (wayK K f t k).bind (nxt K t) = some q; rw [hw]; exact hq)
        
      · skip
        refine Wp.n (pc' := 59) 1 rfl ?_
        refine Wp.retI (len := 1) rfl rfl ?_
        refine ⟨?_, rfl⟩
        have e : wayK K f t (k + 1) = none := by
          show (wayK K f t k).bind (nxt K t) = none
          rw [hw, h55]
          exact nxt_t ok
        have e2 := wayK_n e n
        rw [show k + 1 + n = i by omega] at e2
        rw [e2]
        rfl

theorem m_way (hM : RepM σ 0 K) (ok : KOK K) (hσ0 : σ.1 0 = 0) (x y i : Int32) : Wp (d + 3) md_190 0 [some (.ref 287), some (.int x), some (.int y), some (.int i), none, none, none, none] [] (mset M σ) (fun v M' => v = some (.int (if (isN (kh K 0) x && isN (kh K 0) y) = true then wayA K x.toNatClampNeg y.toNatClampNeg i else -2)) ∧ ∃ h, M' = mset M (aset σ 13 h)) := by
  obtain ⟨b0, b1, b2, b3, b4, b5, b6, b7, b8, b9, b10, b11, b12⟩ := ok_h ok
  have e0 : mset M σ = mset M (aset σ 13 (σ.2.2.1 13)) := by rw [aset_same]
  refine Wp.n (pc' := 2) 2 rfl ?_
  refine Wp.mput0 (len := 3) rfl hσ0 ?_
  refine Wp.n (pc' := 7) 2 rfl ?_
  refine Wp.ecallV (len := 3) rfl rfl rfl (rfl) rfl (by decide) rfl (m_isPlaceK hM ok _) ?_
  refine Wp.ifb0 (tgt := 21) (len := 3) rfl (fun h10 => ?_) (fun h10 => ?_)
  · skip
    refine Wp.n (pc' := 23) 1 rfl ?_
    refine Wp.retI (len := 1) rfl rfl ?_
    refine ⟨?_, σ.2.2.1 13, e0⟩
    first | (rw [h10]; rfl) | (rw [h10, h18]; rfl)
  · skip
    refine Wp.n (pc' := 15) 2 rfl ?_
    refine Wp.ecallV (len := 3) rfl rfl rfl (rfl) rfl (by decide) rfl (m_isPlaceK hM ok _) ?_
    refine Wp.ifb1 (tgt := 24) (len := 3) rfl (fun h18 => ?_) (fun h18 => ?_)
    · skip
      rw [h10, h18]
      obtain ⟨a, ha, rfl⟩ := isN_of h10
      obtain ⟨b, hb, rfl⟩ := isN_of h18
      rw [nI_clamp (by omega), nI_clamp (by omega)]
      have hd := dist_le ok a b
      refine Wp.n (pc' := 27) 3 rfl ?_
      refine Wp.callV (len := 3) rfl rfl rfl (rfl) rfl (by decide) rfl (m_byRoad hM ok ha (by omega)) ?_
      rintro _ _ ⟨rfl, h, rfl, hh⟩
      refine Wp.n (pc' := 31) 1 rfl ?_
      refine Wp.ic0 (tgt := 38) (len := 3) rfl (fun h31 => ?_) (fun h31 => ?_)
      · skip
        refine Wp.n (pc' := 39) 1 rfl ?_
        refine Wp.retI (len := 1) rfl rfl ?_
        refine ⟨?_, h, rfl⟩
        unfold wayA
        first
          | (rw [if_pos (show (true && true) = true from rfl), if_pos (Or.inl (by rw [i_lt]; rw [i_le] at h35; exact Int.not_le.mp h35))]; done)
          | (rw [if_pos (show (true && true) = true from rfl), if_pos (Or.inr (fun c => by rw [show dI (distK K a b) = nI (distK K a b) from if_pos c] at h31; exact oI_ne (by omega) h31))]; done)
      · skip
        refine Wp.n (pc' := 35) 1 rfl ?_
        refine Wp.if3 (tgt := 40) (len := 3) rfl (fun h35 => ?_) (fun h35 => ?_)
        · skip
          have hc : distK K a b < 1000000 := Decidable.byContradiction (fun c => h31 (if_neg c))
          obtain ⟨k, hk, rfl⟩ := nI_of (show ¬ i < 0 from fun q => by rw [i_lt] at q; rw [i_le] at h35; exact absurd (show (i.toInt < 0) from q) (by have : (0 : Int) ≤ i.toInt := h35; omega))
          refine Wp.n (pc' := 46) 4 rfl ?_
          refine Wp.mono (m_way_l hM ok hh ha hb hc hk k 0 a none none (by omega) rfl) (fun v M' q => ?_)
          obtain ⟨rfl, rfl⟩ := q
          refine ⟨?_, h, rfl⟩
          unfold wayA
          rw [if_pos (show (true && true) = true from rfl), if_neg (by intro q; rcases q with q | q; exact nI_pos hk q; exact q hc), nI_clamp hk]
        · skip
          refine Wp.n (pc' := 39) 1 rfl ?_
          refine Wp.retI (len := 1) rfl rfl ?_
          refine ⟨?_, h, rfl⟩
          unfold wayA
          first
            | (rw [if_pos (show (true && true) = true from rfl), if_pos (Or.inl (by rw [i_lt]; rw [i_le] at h35; exact Int.not_le.mp h35))]; done)
            | (rw [if_pos (show (true && true) = true from rfl), if_pos (Or.inr (fun c => by rw [show dI (distK K a b) = nI (distK K a b) from if_pos c] at h31; exact oI_ne (by omega) h31))]; done)
    · skip
      refine Wp.n (pc' := 23) 1 rfl ?_
      refine Wp.retI (len := 1) rfl rfl ?_
      refine ⟨?_, σ.2.2.1 13, e0⟩
      first | (rw [h10]; rfl) | (rw [h10, h18]; rfl)

end RQ
