/-! THE TAPE, COPIES, COUNTS, the ford: the reference. -/
theorem sw_at {a : Nat} {lo : Int} {tg : List Nat} {dd t : Nat} {x : Int32} (h : lk swl a = some (lo, tg, dd)) (k : Nat) (hx : x.toInt = lo + k) (hk : tg.getD k dd = t) : swx swl a x = some t := by
  unfold swx
  rw [h]
  dsimp only
  rw [if_neg (by omega), show (x.toInt - lo).toNat = k by omega, hk]
theorem sw_def {a : Nat} {lo : Int} {tg : List Nat} {dd : Nat} {x : Int32} (h : lk swl a = some (lo, tg, dd)) (hx : x.toInt < lo ∨ lo + tg.length ≤ x.toInt) : swx swl a x = some dd := by
  unfold swx
  rw [h]
  dsimp only
  rcases hx with q | q
  · rw [if_pos q]
  · rw [if_neg (by omega), List.getD_eq_getElem?_getD, List.getElem?_eq_none (by omega)]
    rfl
/-- the tape: how many bytes, and which -/
abbrev TP : Type := Nat × (Nat → Int32)
def TM (σ : MS) (T : TP) : Prop := σ.1 6 = nI T.1 ∧ T.1 ≤ 2000 ∧ ∀ i, i < T.1 → σ.2.2.1 4 i = T.2 i
def byt (v k : Int32) : Int32 := anar 2 ((v >>> (k &&& 31)).toInt8.toInt32)
def tpb (T : TP) (v k : Int32) : TP := (T.1 + 1, upd T.2 T.1 (byt v k))
def tp4 (T : TP) (v : Int32) : TP := tpb (tpb (tpb (tpb T v 24) v 16) v 8) v 0
def feedA (T : TP) : Int32 := if T.1 + 20 ≤ 2000 then nI (T.1 + 20) else -1
def feedN (T : TP) (a b c e f : Int32) : TP := if T.1 + 20 ≤ 2000 then tp4 (tp4 (tp4 (tp4 (tp4 T a) b) c) e) f else T
def endA (T : TP) (x : Int32) : Int32 := if isN (T.1 + 1) x = true then x else -1
def endN (T : TP) (x : Int32) : TP := if isN (T.1 + 1) x = true then (x.toNatClampNeg, T.2) else T
/-- only the tape differs -/
def FrT (σ σ' : MS) : Prop := (∀ j, j ≠ 6 → σ'.1 j = σ.1 j) ∧ (∀ k, k ≠ 4 → σ'.2.2.1 k = σ.2.2.1 k) ∧ σ'.2.1 = σ.2.1 ∧ σ'.2.2.2 = σ.2.2.2
theorem FrT.r {σ : MS} : FrT σ σ := ⟨fun _ _ => rfl, fun _ _ => rfl, rfl, rfl⟩
theorem FrT.t {σ σ' σ'' : MS} (h : FrT σ σ') (h' : FrT σ' σ'') : FrT σ σ'' := ⟨fun j hj => (h'.1 j hj).trans (h.1 j hj), fun j hj => (h'.2.1 j hj).trans (h.2.1 j hj), h'.2.2.1.trans h.2.2.1, h'.2.2.2.trans h.2.2.2⟩
section TAPE
variable {d : Nat} {M : AM} {σ σ' : MS} {K : KD} {S : SS} {T : TP} {Q : Option Value → AM → Prop}
theorem Wp.mbast4 {X : MD} {pc len j : Nat} {l : AL} {st : List Value} {x : Int32} (hc : cdx X pc = some (.inr (.inl .bastore), len)) (hj : j < 2000) (h : Wp d X (pc + len) l st (mset M (aset σ 4 (upd (σ.2.2.1 4) j (anar 2 x)))) Q) : Wp d X pc l (.int x :: .int (nI j) :: .ref 292 :: st) (mset M σ) Q := by
  refine Wp.bastN (t := 2) (n := 2000) (f := σ.2.2.1 4) hc rfl rfl hj (by decide) ?_
  have e : va_up (mset M σ) (4 + 288) (.inl (2, 2000, .inl (upd (σ.2.2.1 4) j (anar 2 x)))) = mset M (aset σ 4 (upd (σ.2.2.1 4) j (anar 2 x))) := mset_arr (by decide) rfl rfl (fun j hj => marr_ne hj)
  rw [← e] at h
  exact h
theorem Wp.mbast12 {X : MD} {pc len j : Nat} {l : AL} {st : List Value} {x : Int32} (hc : cdx X pc = some (.inr (.inl .bastore), len)) (hj : j < 3) (h : Wp d X (pc + len) l st (mset M (aset σ 12 (upd (σ.2.2.1 12) j (anar 3 x)))) Q) : Wp d X pc l (.int x :: .int (nI j) :: .ref 300 :: st) (mset M σ) Q := by
  refine Wp.bastN (t := 3) (n := 3) (f := σ.2.2.1 12) hc rfl rfl hj (by decide) ?_
  have e : va_up (mset M σ) (12 + 288) (.inl (3, 3, .inl (upd (σ.2.2.1 12) j (anar 3 x)))) = mset M (aset σ 12 (upd (σ.2.2.1 12) j (anar 3 x))) := mset_arr (by decide) rfl rfl (fun j hj => marr_ne hj)
  rw [← e] at h
  exact h
theorem m_four_1 (hT : TM σ T) (h2 : T.1 < 2000) {v k : Int32} (hk : ¬ k < 0) (kk : ∀ σ', FrT σ σ' → TM σ' (tpb T v k) → Wp d md_157 3 [some (.ref 287), some (.int v), some (.int (k + (-8)))] [] (mset M σ') Q) : Wp d md_157 3 [some (.ref 287), some (.int v), some (.int k)] [] (mset M σ) Q := by
  refine Wp.n (pc' := 4) 1 rfl ?_
  refine Wp.if2 (tgt := 36) (len := 3) rfl (fun h4 => ?_) (fun h4 => ?_)
  · exact absurd h4 hk
  · skip
    refine Wp.n (pc' := 15) 4 rfl ?_
    refine Wp.top hT.1 ?_
    refine Wp.n (pc' := 19) 4 rfl ?_
    refine Wp.mbast4 (len := 1) rfl h2 ?_
    refine Wp.n (pc' := 25) 3 rfl ?_
    refine Wp.top hT.1 ?_
    refine Wp.n (pc' := 26) 1 rfl ?_
    refine Wp.iaddN (x := T.1) (y := 1) (len := 1) rfl ?_
    refine Wp.mput (len := 3) rfl rfl ?_
    refine Wp.n (pc' := 3) 2 rfl ?_
    refine kk _ ⟨fun j hj => pk_un hj, fun q hq => va_up_ne _ _ hq, rfl, rfl⟩ ⟨rfl, h2, fun i hi => ?_⟩
    show (aset σ 4 (upd (σ.2.2.1 4) T.1 (byt v k))).2.2.1 4 i = upd T.2 T.1 (byt v k) i
    rw [aset_get]
    have hi' : i < T.1 + 1 := hi
    by_cases c : i = T.1
    · rw [c, pk_us, pk_us]
    · rw [pk_un c, pk_un c]; exact hT.2.2 i (by omega)

theorem m_four (hT : TM σ T) (h4 : T.1 + 4 ≤ 2000) (v : Int32) : Wp d md_157 0 [some (.ref 287), some (.int v), none] [] (mset M σ) (fun r M' => r = none ∧ ∃ σ', M' = mset M σ' ∧ FrT σ σ' ∧ TM σ' (tp4 T v)) := by
  refine Wp.n (pc' := 3) 2 rfl ?_
  refine m_four_1 hT (by omega) (by decide) (fun σ1 f1 t1 => ?_)
  refine m_four_1 (k := 16) t1 (show T.1 + 1 < 2000 by omega) (by decide) (fun σ2 f2 t2 => ?_)
  refine m_four_1 (k := 8) t2 (show T.1 + 1 + 1 < 2000 by omega) (by decide) (fun σ3 f3 t3 => ?_)
  refine m_four_1 (k := 0) t3 (show T.1 + 1 + 1 + 1 < 2000 by omega) (by decide) (fun σ4 f4 t4 => ?_)
  refine Wp.n (pc' := 4) 1 rfl ?_
  refine Wp.if2 (tgt := 36) (len := 3) rfl (fun h => ?_) (fun h => absurd h (by decide))
  refine Wp.retV (len := 1) rfl rfl ?_
  exact ⟨rfl, σ4, rfl, ((f1.t f2).t f3).t f4, t4⟩
theorem m_feed (hσ0 : σ.1 0 = 0) (hT : TM σ T) (a b c e f : Int32) : Wp (d + 1) md_156 0 [some (.ref 287), some (.int a), some (.int b), some (.int c), some (.int e), some (.int f)] [] (mset M σ) (fun r M' => r = some (.int (feedA T)) ∧ ∃ σ', M' = mset M σ' ∧ FrT σ σ' ∧ TM σ' (feedN T a b c e f)) := by
  unfold feedA feedN
  have t20 := hT.2.1
  refine Wp.n (pc' := 2) 2 rfl ?_
  refine Wp.mput0 (len := 3) rfl hσ0 ?_
  refine Wp.n (pc' := 9) 2 rfl ?_
  refine Wp.top hT.1 ?_
  refine Wp.n (pc' := 11) 1 rfl ?_
  refine Wp.iaddN (x := T.1) (y := 20) (len := 1) rfl ?_
  refine Wp.n (pc' := 15) 1 rfl ?_
  refine Wp.nc5 (x := (T.1) + 20) (y := 2000) (tgt := 20) (len := 3) rfl (by omega) (by omega) (fun h15 => ?_) (fun h15 => ?_)
  · skip
    refine Wp.n (pc' := 22) 2 rfl ?_
    refine Wp.callV (len := 3) rfl rfl rfl (rfl) rfl (by decide) rfl (m_four hT (by omega) a) ?_
    rintro _ _ ⟨rfl, σ1, rfl, f1, t1⟩
    refine Wp.n (pc' := 27) 2 rfl ?_
    refine Wp.callV (len := 3) rfl rfl rfl (rfl) rfl (by decide) rfl (m_four t1 (show T.1 + 1 + 1 + 1 + 1 + 4 ≤ 2000 by omega) b) ?_
    rintro _ _ ⟨rfl, σ2, rfl, f2, t2⟩
    refine Wp.n (pc' := 32) 2 rfl ?_
    refine Wp.callV (len := 3) rfl rfl rfl (rfl) rfl (by decide) rfl (m_four t2 (show T.1 + 1 + 1 + 1 + 1 + 1 + 1 + 1 + 1 + 4 ≤ 2000 by omega) c) ?_
    rintro _ _ ⟨rfl, σ3, rfl, f3, t3⟩
    refine Wp.n (pc' := 38) 2 rfl ?_
    refine Wp.callV (len := 3) rfl rfl rfl (rfl) rfl (by decide) rfl (m_four t3 (show T.1 + 1 + 1 + 1 + 1 + 1 + 1 + 1 + 1 + 1 + 1 + 1 + 1 + 4 ≤ 2000 by omega) e) ?_
    rintro _ _ ⟨rfl, σ4, rfl, f4, t4⟩
    refine Wp.n (pc' := 44) 2 rfl ?_
    refine Wp.callV (len := 3) rfl rfl rfl (rfl) rfl (by decide) rfl (m_four t4 (show T.1 + 1 + 1 + 1 + 1 + 1 + 1 + 1 + 1 + 1 + 1 + 1 + 1 + 1 + 1 + 1 + 1 + 4 ≤ 2000 by omega) f) ?_
    rintro _ _ ⟨rfl, σ5, rfl, f5, t5⟩
    refine Wp.n (pc' := 51) 2 rfl ?_
    refine Wp.top t5.1 ?_
    refine Wp.retI (len := 1) rfl rfl ?_
    first
      | (rw [if_pos (by omega), if_pos (by omega)]; exact ⟨rfl, σ5, rfl, (((f1.t f2).t f3).t f4).t f5, t5⟩)
      | (rw [if_neg (by omega), if_neg (by omega)]; exact ⟨rfl, σ, rfl, FrT.r, hT⟩)
  · skip
    refine Wp.n (pc' := 19) 1 rfl ?_
    refine Wp.retI (len := 1) rfl rfl ?_
    first
      | (rw [if_pos (by omega), if_pos (by omega)]; exact ⟨rfl, σ5, rfl, (((f1.t f2).t f3).t f4).t f5, t5⟩)
      | (rw [if_neg (by omega), if_neg (by omega)]; exact ⟨rfl, σ, rfl, FrT.r, hT⟩)

theorem m_end (hσ0 : σ.1 0 = 0) (hT : TM σ T) (x : Int32) : Wp (d + 1) md_158 0 [some (.ref 287), some (.int x)] [] (mset M σ) (fun r M' => r = some (.int (endA T x)) ∧ ∃ σ', M' = mset M σ' ∧ FrT σ σ' ∧ TM σ' (endN T x)) := by
  unfold endA endN
  have t20 := hT.2.1
  refine Wp.n (pc' := 2) 2 rfl ?_
  refine Wp.mput0 (len := 3) rfl hσ0 ?_
  refine Wp.n (pc' := 12) 5 rfl ?_
  refine Wp.top hT.1 ?_
  refine Wp.i2lM (x := T.1) (len := 1) rfl (by omega) ?_
  refine Wp.ecallS (len := 3) rfl rfl rfl rfl (m_in _ _ _) ?_
  refine Wp.ifb1 (tgt := 21) (len := 3) rfl (fun h16 => ?_) (fun h16 => ?_)
  · rw [in_isN (k := T.1 + 1) (by rw [l_toInt (by omega)]; omega)] at h16
    obtain ⟨m, hm, rfl⟩ := isN_of h16
    rw [if_pos h16, if_pos h16, nI_clamp (by omega)]
    refine Wp.n (pc' := 23) 2 rfl ?_
    refine Wp.mput (len := 3) rfl rfl ?_
    refine Wp.n (pc' := 27) 1 rfl ?_
    refine Wp.retI (len := 1) rfl rfl ?_
    first
      | exact ⟨rfl, _, rfl, ⟨fun j hj => pk_un hj, fun _ _ => rfl, rfl, rfl⟩, rfl, (by show m ≤ 2000; omega), fun i hi => hT.2.2 i (by have : i < m := hi; omega)⟩
      | (rw [if_neg (by rw [h16]; decide), if_neg (by rw [h16]; decide)]; exact ⟨rfl, σ, rfl, FrT.r, hT⟩)
  · rw [in_isN (k := T.1 + 1) (by rw [l_toInt (by omega)]; omega)] at h16
    refine Wp.n (pc' := 20) 1 rfl ?_
    refine Wp.retI (len := 1) rfl rfl ?_
    first
      | exact ⟨rfl, _, rfl, ⟨fun j hj => pk_un hj, fun _ _ => rfl, rfl, rfl⟩, rfl, (by show m ≤ 2000; omega), fun i hi => hT.2.2 i (by have : i < m := hi; omega)⟩
      | (rw [if_neg (by rw [h16]; decide), if_neg (by rw [h16]; decide)]; exact ⟨rfl, σ, rfl, FrT.r, hT⟩)

/-- the fault: its kind, its place -/
def FM (σ : MS) (f : Nat × Option Nat) : Prop := σ.1 14 = nI f.1 ∧ σ.1 15 = oI f.2
def faultA (f : Nat × Option Nat) (x : Int32) : Int32 := if x = 0 then nI f.1 else if x = 1 then oI f.2 else -1
theorem m_fault (hσ0 : σ.1 0 = 0) {f : Nat × Option Nat} (hF : FM σ f) (x : Int32) : Ev d md_159 0 [some (.ref 287), some (.int x)] [] (mset M σ) (some (.int (faultA f x)), mset M σ) := by
  refine Wp.toEv ?_
  unfold faultA
  refine Wp.n (pc' := 2) 2 rfl ?_
  refine Wp.mput0 (len := 3) rfl hσ0 ?_
  refine Wp.n (pc' := 6) 1 rfl ?_
  refine Wp.if1 (tgt := 16) (len := 3) rfl (fun h6 => ?_) (fun h6 => ?_)
  · skip
    refine Wp.n (pc' := 18) 2 rfl ?_
    refine Wp.ic1 (tgt := 28) (len := 3) rfl (fun h18 => ?_) (fun h18 => ?_)
    · skip
      refine Wp.n (pc' := 29) 1 rfl ?_
      refine Wp.retI (len := 1) rfl rfl ?_
      first
        | exact ⟨by rw [if_pos h6], rfl⟩
        | exact ⟨by rw [if_neg h6, if_pos h18], rfl⟩
        | exact ⟨by rw [if_neg h6, if_neg h18], rfl⟩
    · skip
      refine Wp.n (pc' := 25) 2 rfl ?_
      refine Wp.top hF.2 ?_
      refine Wp.n (pc' := 29) 1 rfl ?_
      refine Wp.retI (len := 1) rfl rfl ?_
      first
        | exact ⟨by rw [if_pos h6], rfl⟩
        | exact ⟨by rw [if_neg h6, if_pos h18], rfl⟩
        | exact ⟨by rw [if_neg h6, if_neg h18], rfl⟩
  · skip
    refine Wp.n (pc' := 13) 2 rfl ?_
    refine Wp.top hF.1 ?_
    refine Wp.n (pc' := 29) 1 rfl ?_
    refine Wp.retI (len := 1) rfl rfl ?_
    first
      | exact ⟨by rw [if_pos h6], rfl⟩
      | exact ⟨by rw [if_neg h6, if_pos h18], rfl⟩
      | exact ⟨by rw [if_neg h6, if_neg h18], rfl⟩

def cpy (f : Nat → Int32) (m a b : Nat) : Nat → Int32 := fun j => if m * b ≤ j ∧ j < m * b + m then f (m * a + (j - m * b)) else f j
def cpyT (f : Nat → Int32) (m a b i : Nat) : Nat → Int32 := fun j => if m * b ≤ j ∧ j < m * b + i then f (m * a + (j - m * b)) else f j
theorem m_copyRow_l {k w m a b : Nat} (hk : mtl_ k = (0, w)) (hw : (Nat.blt 0 w && Nat.blt w 100000) = true) (ha : m * a + m ≤ w) (hb : m * b + m ≤ w) (hab : m * a + m ≤ m * b ∨ m * b + m ≤ m * a) : ∀ (n i : Nat), i + n = m → Wp d md_185 3 [some (.ref (k + 288)), some (.int (nI m)), some (.int (nI a)), some (.int (nI b)), some (.int (nI i))] [] (mset M (aset σ k (cpyT (σ.2.2.1 k) m a b i))) (IsR none (mset M (aset σ k (cpy (σ.2.2.1 k) m a b)))) := by
  have hw2 : w < 100000 := by rw [Bool.and_eq_true] at hw; exact Nat.le_of_ble_eq_true hw.2
  intro n
  induction n with
  | zero =>
    intro i hi
    refine Wp.n (pc' := 6) 2 rfl ?_
    refine Wp.nc3 (x := i) (y := m) (tgt := 31) (len := 3) rfl (by omega) (by omega) (fun h6 => ?_) (fun h6 => ?_)
    · skip
      refine Wp.retV (len := 1) rfl rfl ?_
      rw [show i = m by omega]
      exact ⟨rfl, rfl⟩
    · omega
  | succ n ih =>
    intro i hi
    refine Wp.n (pc' := 6) 2 rfl ?_
    refine Wp.nc3 (x := i) (y := m) (tgt := 31) (len := 3) rfl (by omega) (by omega) (fun h6 => ?_) (fun h6 => ?_)
    · omega
    · refine Wp.n (pc' := 12) 3 rfl ?_
      refine Wp.imulN (x := m) (y := b) (len := 1) rfl ?_
      refine Wp.n (pc' := 15) 1 rfl ?_
      refine Wp.iaddN (x := m * b) (y := i) (len := 1) rfl ?_
      refine Wp.n (pc' := 19) 3 rfl ?_
      refine Wp.imulN (x := m) (y := a) (len := 1) rfl ?_
      refine Wp.n (pc' := 22) 1 rfl ?_
      refine Wp.iaddN (x := m * a) (y := i) (len := 1) rfl ?_
      refine Wp.mialdN (k := k) (j := m * a + i) (len := 1) rfl hk hw (by omega) ?_
      refine Wp.miastN (k := k) (j := m * b + i) (len := 1) rfl hk hw (by omega) ?_
      refine Wp.incN (x := i) (len := 3) rfl rfl ?_
      refine Wp.n (pc' := 3) 1 rfl ?_
      have w0 := ih (i + 1) (by omega)
      have e : upd (cpyT (σ.2.2.1 k) m a b i) (m * b + i) (cpyT (σ.2.2.1 k) m a b i (m * a + i)) = cpyT (σ.2.2.1 k) m a b (i + 1) := by
        funext j
        unfold cpyT
        by_cases c : j = m * b + i
        · rw [c, pk_us, if_neg (by omega), if_pos (by omega), show m * b + i - m * b = i by omega]
        · rw [pk_un c]
          by_cases c2 : m * b ≤ j ∧ j < m * b + i
          · rw [if_pos c2, if_pos (by omega)]
          · rw [if_neg c2, if_neg (by omega)]
      rw [aset_get, aset_aset, e]
      exact w0
theorem m_copyRow {k w m a b : Nat} (hk : mtl_ k = (0, w)) (hw : (Nat.blt 0 w && Nat.blt w 100000) = true) (ha : m * a + m ≤ w) (hb : m * b + m ≤ w) (hab : m * a + m ≤ m * b ∨ m * b + m ≤ m * a) : Ev d md_185 0 [some (.ref (k + 288)), some (.int (nI m)), some (.int (nI a)), some (.int (nI b)), none] [] (mset M σ) (none, mset M (aset σ k (cpy (σ.2.2.1 k) m a b))) := by
  refine Wp.toEv ?_
  refine Wp.n (pc' := 3) 2 rfl ?_
  have w0 := m_copyRow_l (d := d) (M := M) (σ := σ) hk hw ha hb hab m 0 (by omega)
  have e : cpyT (σ.2.2.1 k) m a b 0 = σ.2.2.1 k := by
    funext j
    unfold cpyT
    rw [if_neg (by omega)]
  rw [e, aset_same] at w0
  exact w0
/-- slot a of the kingdoms is copied to slot b -/
def CK (σ σ' : MS) (a b : Nat) : Prop := σ'.1 = σ.1 ∧ σ'.2.1 = σ.2.1 ∧ (∀ k, List.elem k [5, 6, 7, 9, 10, 11] = false → σ'.2.2.1 k = σ.2.2.1 k) ∧ (∀ k, k ≠ 8 → σ'.2.2.2 k = σ.2.2.2 k) ∧ σ'.2.2.2 8 = vp_updL (σ.2.2.2 8) b (σ.2.2.2 8 a) ∧ σ'.2.2.1 5 = cpy (σ.2.2.1 5) 1 a b ∧ σ'.2.2.1 6 = cpy (σ.2.2.1 6) 5 a b ∧ σ'.2.2.1 7 = cpy (σ.2.2.1 7) 5 a b ∧ σ'.2.2.1 9 = cpy (σ.2.2.1 9) 36 a b ∧ σ'.2.2.1 10 = cpy (σ.2.2.1 10) 63 a b ∧ σ'.2.2.1 11 = cpy (σ.2.2.1 11) 110 a b
theorem m_copyKingdom {a b : Nat} (ha : a < 5) (hb : b < 5) (hab : a ≠ b) : Wp (d + 1) md_184 0 [some (.ref 287), some (.int (nI a)), some (.int (nI b))] [] (mset M σ) (fun r M' => r = none ∧ ∃ σ', M' = mset M σ' ∧ CK σ σ' a b) := by
  refine Wp.n (pc' := 7) 5 rfl ?_
  refine Wp.ecallS (len := 3) rfl rfl rfl rfl (m_copyRow (k := 5) (m := 1) (a := a) (b := b) rfl rfl (by omega) (by omega) (by omega)) ?_
  refine Wp.n (pc' := 17) 5 rfl ?_
  refine Wp.ecallS (len := 3) rfl rfl rfl rfl (m_copyRow (k := 6) (m := 5) (a := a) (b := b) rfl rfl (by omega) (by omega) (by omega)) ?_
  refine Wp.n (pc' := 27) 5 rfl ?_
  refine Wp.ecallS (len := 3) rfl rfl rfl rfl (m_copyRow (k := 7) (m := 5) (a := a) (b := b) rfl rfl (by omega) (by omega) (by omega)) ?_
  refine Wp.n (pc' := 40) 6 rfl ?_
  refine Wp.mlaldN (j := a) (len := 1) rfl rfl rfl (by omega) ?_
  refine Wp.mlastN (j := b) (len := 1) rfl rfl rfl (by omega) ?_
  refine Wp.n (pc' := 50) 5 rfl ?_
  refine Wp.ecallS (len := 3) rfl rfl rfl rfl (m_copyRow (k := 9) (m := 36) (a := a) (b := b) rfl rfl (by omega) (by omega) (by omega)) ?_
  refine Wp.n (pc' := 61) 5 rfl ?_
  refine Wp.ecallS (len := 3) rfl rfl rfl rfl (m_copyRow (k := 10) (m := 63) (a := a) (b := b) rfl rfl (by omega) (by omega) (by omega)) ?_
  refine Wp.n (pc' := 72) 5 rfl ?_
  refine Wp.ecallS (len := 3) rfl rfl rfl rfl (m_copyRow (k := 11) (m := 110) (a := a) (b := b) rfl rfl (by omega) (by omega) (by omega)) ?_
  refine Wp.retV (len := 1) rfl rfl ?_
  refine ⟨rfl, _, rfl, rfl, rfl, fun k hk => ?_, fun k hk => va_up_ne _ _ hk, rfl, rfl, rfl, rfl, rfl, rfl, rfl⟩
  have e : ∀ j, List.elem j [5, 6, 7, 9, 10, 11] = true → k ≠ j := fun j hj c => by rw [c, hj] at hk; cases hk
  show va_up (va_up (va_up (va_up (va_up (va_up σ.2.2.1 5 _) 6 _) 7 _) 9 _) 10 _) 11 _ k = _
  rw [va_up_ne _ _ (e 11 rfl), va_up_ne _ _ (e 10 rfl), va_up_ne _ _ (e 9 rfl), va_up_ne _ _ (e 7 rfl), va_up_ne _ _ (e 6 rfl), va_up_ne _ _ (e 5 rfl)]

theorem cpy_t {f : Nat → Int32} {m a b j : Nat} (hj : j < m) : cpy f m a b (m * b + j) = f (m * a + j) := by
  unfold cpy
  rw [if_pos (by omega), show m * b + j - m * b = j by omega]
theorem cpy_o {f : Nat → Int32} {m a b j : Nat} (h : j < m * b ∨ m * b + m ≤ j) : cpy f m a b j = f j := by
  unfold cpy
  rw [if_neg (by omega)]
theorem CK_t {a b : Nat} (h : CK σ σ' a b) (ok : KOK K) (hR : RepM σ a K) : RepM σ' b K := by
  obtain ⟨e0, e1, e2, e3, e8, e5, e6, e7, e9, e10, e11⟩ := h
  obtain ⟨b0, b1, b2, b3, b4, b5, b6, b7, b8, b9, b10, b11, b12⟩ := ok_h ok
  refine ⟨fun j hj => ?_, fun h0 j hj => ?_, ?_, ?_, fun i hi j hj => ?_, fun i hi j hj => ?_, fun i hi => ⟨fun j hj => ?_, fun j hj => ?_⟩⟩
  · rw [e6, cpy_t hj]; exact hR.1 j hj
  · rw [e7, cpy_t hj]; exact hR.2.1 h0 j hj
  · have q := cpy_t (f := σ.2.2.1 5) (m := 1) (a := a) (b := b) (j := 0) (by decide)
    rw [Nat.one_mul, Nat.one_mul, Nat.add_zero, Nat.add_zero] at q
    rw [e5, q]; exact hR.2.2.1
  · rw [e8, lu_s]; exact hR.2.2.2.1
  · rw [e9, show 36 * b + 3 * i + j = 36 * b + (3 * i + j) by omega, cpy_t (by omega), show 36 * a + (3 * i + j) = 36 * a + 3 * i + j by omega]
    exact hR.2.2.2.2.1 i hi j hj
  · rw [e10, show 63 * b + 7 * i + j = 63 * b + (7 * i + j) by omega, cpy_t (by omega), show 63 * a + (7 * i + j) = 63 * a + 7 * i + j by omega]
    exact hR.2.2.2.2.2.1 i hi j hj
  · rw [e11, show 110 * b + 11 * i + j = 110 * b + (11 * i + j) by omega, cpy_t (by omega), show 110 * a + (11 * i + j) = 110 * a + 11 * i + j by omega]
    exact (hR.2.2.2.2.2.2 i hi).1 j hj
  · have t7 := (ok_walk ok hi).2.2.2.2.2.1
    rw [e11, show 110 * b + 11 * i + 4 + j = 110 * b + (11 * i + 4 + j) by omega, cpy_t (by omega), show 110 * a + (11 * i + 4 + j) = 110 * a + 11 * i + 4 + j by omega]
    exact (hR.2.2.2.2.2.2 i hi).2 j hj
theorem CK_o {a b s : Nat} (h : CK σ σ' a b) (ok : KOK K) (hs : s ≠ b) (hR : RepM σ s K) : RepM σ' s K := by
  obtain ⟨e0, e1, e2, e3, e8, e5, e6, e7, e9, e10, e11⟩ := h
  obtain ⟨b0, b1, b2, b3, b4, b5, b6, b7, b8, b9, b10, b11, b12⟩ := ok_h ok
  refine ⟨fun j hj => ?_, fun h0 j hj => ?_, ?_, ?_, fun i hi j hj => ?_, fun i hi j hj => ?_, fun i hi => ⟨fun j hj => ?_, fun j hj => ?_⟩⟩
  · rw [e6, cpy_o (by omega)]; exact hR.1 j hj
  · rw [e7, cpy_o (by omega)]; exact hR.2.1 h0 j hj
  · rw [e5, cpy_o (by omega)]; exact hR.2.2.1
  · rw [e8, lu_n hs]; exact hR.2.2.2.1
  · rw [e9, cpy_o (by omega)]
    exact hR.2.2.2.2.1 i hi j hj
  · rw [e10, cpy_o (by omega)]
    exact hR.2.2.2.2.2.1 i hi j hj
  · rw [e11, cpy_o (by omega)]
    exact (hR.2.2.2.2.2.2 i hi).1 j hj
  · have t7 := (ok_walk ok hi).2.2.2.2.2.1
    rw [e11, cpy_o (by omega)]
    exact (hR.2.2.2.2.2.2 i hi).2 j hj
/-- days with flood, slots with a row -/
def fldN (F : Nat) : Nat := fld (fun c y => c + (F.testBit y).toNat) 30 0 0
def sltN (S : SS) : Nat := fld (fun c s => if S.1 s = -1 then c else c + 1) 4 0 0
def countA (K : KD) (S : SS) (T : TP) (x : Int32) : Int32 := if isN 9 x = true then (match x.toNatClampNeg with | 5 => nI (fldN (kh K 12)) | 6 => nI (kh K 5) | 7 => nI T.1 | 8 => nI (sltN S) | k => nI (kh K k)) else -1
theorem m_count_5 (hM : MK σ K) {q : Nat} : ∀ (n y c : Nat), y + n = 30 → Wp d md_260 69 [some (.ref 287), some (.int (nI q)), some (.int (nI c)), some (.int (nI y))] [] (mset M σ) (IsR (some (.int (nI (fld (fun c y => c + ((kh K 12).testBit y).toNat) n y c)))) (mset M σ)) := by
  obtain ⟨b0, b1, b2, b3, b4, b5, b6, b7, b8, b9, b10, b11, b12⟩ := ok_h hM.2.1
  intro n
  induction n with
  | zero =>
    intro y c hy
    refine Wp.n (pc' := 72) 2 rfl ?_
    refine Wp.nc3 (x := y) (y := 30) (tgt := 95) (len := 3) rfl (by omega) (by omega) (fun h72 => ?_) (fun h72 => ?_)
    · skip
      refine Wp.n (pc' := 96) 1 rfl ?_
      refine Wp.retI (len := 1) rfl rfl ?_
      exact ⟨rfl, rfl⟩
    · omega
  | succ n ih =>
    intro y c hy
    show Wp _ _ _ _ _ _ (IsR (some (.int (nI (fld (fun c y => c + ((kh K 12).testBit y).toNat) n (y + 1) (c + ((kh K 12).testBit y).toNat))))) (mset M σ))
    refine Wp.n (pc' := 72) 2 rfl ?_
    refine Wp.nc3 (x := y) (y := 30) (tgt := 95) (len := 3) rfl (by omega) (by omega) (fun h72 => ?_) (fun h72 => ?_)
    · omega
    · skip
      refine Wp.n (pc' := 81) 4 rfl ?_
      refine Wp.mlaldN (j := 0) (len := 1) rfl rfl rfl (by omega) ?_
      refine Wp.topL (rm_fl hM.1) ?_
      refine Wp.n (pc' := 86) 4 rfl ?_
      refine Wp.topL (l_bit (by omega) (by omega)) ?_
      refine Wp.l2iM (x := ((kh K 12).testBit y).toNat) (len := 1) rfl ?_
      refine Wp.iaddN (x := c) (y := ((kh K 12).testBit y).toNat) (len := 1) rfl ?_
      refine Wp.n (pc' := 89) 1 rfl ?_
      refine Wp.incN (x := y) (len := 3) rfl rfl ?_
      refine Wp.n (pc' := 69) 1 rfl ?_
      exact ih (y + 1) _ (by omega)

theorem m_count_8 (hS : SM σ S) {q : Nat} : ∀ (n s c : Nat), s + n = 4 → Wp d md_260 111 [some (.ref 287), some (.int (nI q)), some (.int (nI c)), some (.int (nI s))] [] (mset M σ) (IsR (some (.int (nI (fld (fun c s => if S.1 s = -1 then c else c + 1) n s c)))) (mset M σ)) := by
  intro n
  induction n with
  | zero =>
    intro s c hs
    refine Wp.n (pc' := 113) 2 rfl ?_
    refine Wp.nc3 (x := s) (y := 4) (tgt := 140) (len := 3) rfl (by omega) (by omega) (fun h113 => ?_) (fun h113 => ?_)
    · skip
      refine Wp.n (pc' := 141) 1 rfl ?_
      refine Wp.retI (len := 1) rfl rfl ?_
      exact ⟨rfl, rfl⟩
    · omega
  | succ n ih =>
    intro s c hs
    have a1 := (hS.2 s (by omega)).1
    show Wp _ _ _ _ _ _ (IsR (some (.int (nI (fld (fun c s => if S.1 s = -1 then c else c + 1) n (s + 1) (if S.1 s = -1 then c else c + 1))))) (mset M σ))
    refine Wp.n (pc' := 113) 2 rfl ?_
    refine Wp.nc3 (x := s) (y := 4) (tgt := 140) (len := 3) rfl (by omega) (by omega) (fun h113 => ?_) (fun h113 => ?_)
    · omega
    · skip
      refine Wp.n (pc' := 122) 4 rfl ?_
      refine Wp.mialdN (j := s) (len := 1) rfl rfl rfl (by omega) ?_
      refine Wp.top a1 ?_
      refine Wp.n (pc' := 124) 1 rfl ?_
      refine Wp.ic1 (tgt := 131) (len := 3) rfl (fun h124 => ?_) (fun h124 => ?_)
      · skip
        refine Wp.n (pc' := 132) 1 rfl ?_
        refine Wp.iaddN (x := c) (y := 1) (len := 1) rfl ?_
        refine Wp.n (pc' := 134) 1 rfl ?_
        refine Wp.incN (x := s) (len := 3) rfl rfl ?_
        refine Wp.n (pc' := 111) 1 rfl ?_
        first
          | (rw [if_pos h124]; exact ih (s + 1) c (by omega))
          | (rw [if_neg h124]; exact ih (s + 1) (c + 1) (by omega))
      · skip
        refine Wp.n (pc' := 132) 2 rfl ?_
        refine Wp.iaddN (x := c) (y := 0) (len := 1) rfl ?_
        refine Wp.n (pc' := 134) 1 rfl ?_
        refine Wp.incN (x := s) (len := 3) rfl rfl ?_
        refine Wp.n (pc' := 111) 1 rfl ?_
        first
          | (rw [if_pos h124]; exact ih (s + 1) c (by omega))
          | (rw [if_neg h124]; exact ih (s + 1) (c + 1) (by omega))

theorem m_count (hM : MK σ K) (hS : SM σ S) (hT : TM σ T) (x : Int32) : Ev d md_260 0 [some (.ref 287), some (.int x), none, none] [] (mset M σ) (some (.int (countA K S T x)), mset M σ) := by
  refine Wp.toEv ?_
  have hσ0 := hM.2.2.2
  unfold countA
  refine Wp.n (pc' := 2) 2 rfl ?_
  refine Wp.mput0 (len := 3) rfl hσ0 ?_
  refine Wp.n (pc' := 8) 3 rfl ?_
  by_cases h : isN 9 x = true
  · rw [if_pos h]
    obtain ⟨k, hk, rfl⟩ := isN_of h
    rw [nI_clamp (by omega)]
    have ex : (nI k).toInt = (0 : Int) + k := by rw [nI_toInt (by omega)]; omega
    have hc : k < 5 → Wp d md_260 60 [some (.ref 287), some (.int (nI k)), some (.int (nI 0)), none] [] (mset M σ) (IsR (some (.int (nI (kh K k)))) (mset M σ)) := fun h5 => by
      refine Wp.n (pc' := 65) 3 rfl ?_
      refine Wp.mialdN (j := k) (len := 1) rfl rfl rfl (by omega) ?_
      refine Wp.top (r0_has hM.1 h5) ?_
      refine Wp.retI (len := 1) rfl rfl ?_
      exact ⟨rfl, rfl⟩
    match k, hk, ex, hc with
    | 0, _, ex, hc => exact Wp.sw (len := 52) (t := 60) rfl (sw_at rfl 0 ex rfl) (hc (by decide))
    | 1, _, ex, hc => exact Wp.sw (len := 52) (t := 60) rfl (sw_at rfl 1 ex rfl) (hc (by decide))
    | 2, _, ex, hc => exact Wp.sw (len := 52) (t := 60) rfl (sw_at rfl 2 ex rfl) (hc (by decide))
    | 3, _, ex, hc => exact Wp.sw (len := 52) (t := 60) rfl (sw_at rfl 3 ex rfl) (hc (by decide))
    | 4, _, ex, hc => exact Wp.sw (len := 52) (t := 60) rfl (sw_at rfl 4 ex rfl) (hc (by decide))
    | 5, _, ex, hc =>
      refine Wp.sw (len := 52) (t := 67) rfl (sw_at rfl 5 ex rfl) ?_
      refine Wp.n (pc' := 69) 2 rfl ?_
      exact m_count_5 hM 30 0 0 (by decide)
    | 6, _, ex, hc =>
      refine Wp.sw (len := 52) (t := 97) rfl (sw_at rfl 6 ex rfl) ?_
      refine Wp.n (pc' := 102) 3 rfl ?_
      refine Wp.mialdN (j := 0) (len := 1) rfl rfl rfl (by omega) ?_
      refine Wp.top (rm_ln hM.1) ?_
      refine Wp.retI (len := 1) rfl rfl ?_
      exact ⟨rfl, rfl⟩
    | 7, _, ex, hc =>
      refine Wp.sw (len := 52) (t := 104) rfl (sw_at rfl 7 ex rfl) ?_
      refine Wp.n (pc' := 108) 2 rfl ?_
      refine Wp.top hT.1 ?_
      refine Wp.retI (len := 1) rfl rfl ?_
      exact ⟨rfl, rfl⟩
    | 8, _, ex, hc =>
      refine Wp.sw (len := 52) (t := 109) rfl (sw_at rfl 8 ex rfl) ?_
      refine Wp.n (pc' := 111) 2 rfl ?_
      exact m_count_8 hS 4 0 0 (by decide)
  · rw [if_neg h]
    refine Wp.sw (len := 52) (t := 142) rfl (sw_def rfl ?_) ?_
    · by_cases c : x.toInt < 0
      · exact Or.inl c
      · refine Or.inr ?_
        show (0 : Int) + 9 ≤ x.toInt
        by_cases c2 : x.toInt < 9
        · exact absurd (isN_f c c2) h
        · omega
    · refine Wp.n (pc' := 143) 1 rfl ?_
      refine Wp.retI (len := 1) rfl rfl ?_
      exact ⟨rfl, rfl⟩
/-- a walk for which what was paid can be owed by no way -/
def frdP (K : KD) (c : Nat → Int64) (w : Nat) : Bool := decide ((c w).toInt < 0 ∨ 2000000000 < (c w).toInt ∨ (finP K 3 w (c w).toInt.toNat).1 = 0)
def fordA (K : KD) (S : SS) (x : Int32) : Int32 := if isN 4 x = true ∧ 0 < kh K 0 then (if S.1 x.toNatClampNeg = -1 then -6 else if S.2.1 x.toNatClampNeg ≠ kh K 4 then -7 else oI (fnd (frdP K (S.2.2 x.toNatClampNeg)) (kh K 4) 0)) else -2
theorem l_of {x : Int64} (h : 0 ≤ x.toInt) : ∃ m : Nat, x = lN m ∧ x.toInt = (m : Int) ∧ m < 2 ^ 63 := by
  have h1 := Int64.toInt_lt x
  have e : x.toInt.toNat < 2 ^ 63 := by omega
  refine ⟨x.toInt.toNat, ?_, by omega, e⟩
  rw [l_eq, l_toInt e]
  omega
theorem m_ford_l (hM : MK σ K) (hS : SM σ S) {s : Nat} (hs : s < 4) (hn : S.2.1 s = kh K 4) : ∀ (n w : Nat) (τ : MS) (z3 z4 : Option Value), w + n = kh K 4 → Scr σ τ → Wp (d + 15) md_254 55 [some (.ref 287), some (.int (nI s)), some (.int (nI w)), z3, z4] [] (mset M τ) (RI M σ (oI (fnd (frdP K (S.2.2 s)) n w))) := by
  have ok := hM.2.1
  obtain ⟨b0, b1, b2, b3, b4, b5, b6, b7, b8, b9, b10, b11, b12⟩ := ok_h ok
  intro n
  induction n with
  | zero =>
    intro w τ z3 z4 hw hT
    have hK := MK_scr hM hT
    refine Wp.n (pc' := 61) 4 rfl ?_
    refine Wp.mialdN (j := 4) (len := 1) rfl rfl rfl (by omega) ?_
    refine Wp.top (r0_has hK.1 (by decide)) ?_
    refine Wp.nc3 (x := w) (y := kh K 4) (tgt := 113) (len := 3) rfl (by omega) (by omega) (fun h62 => ?_) (fun h62 => ?_)
    · skip
      refine Wp.n (pc' := 114) 1 rfl ?_
      refine Wp.retI (len := 1) rfl rfl ?_
      exact RI_s hT rfl
    · omega
  | succ n ih =>
    intro w τ z3 z4 hw hT
    have hK := MK_scr hM hT
    have ev : τ.2.2.2 2 (60 * s + w) = S.2.2 s w := by rw [hT.2.2.2]; exact (hS.2 s hs).2.2 w (by omega)
    rw [show fnd (frdP K (S.2.2 s)) (n + 1) w = if frdP K (S.2.2 s) w = true then some w else fnd (frdP K (S.2.2 s)) n (w + 1) from rfl]
    refine Wp.n (pc' := 61) 4 rfl ?_
    refine Wp.mialdN (j := 4) (len := 1) rfl rfl rfl (by omega) ?_
    refine Wp.top (r0_has hK.1 (by decide)) ?_
    refine Wp.nc3 (x := w) (y := kh K 4) (tgt := 113) (len := 3) rfl (by omega) (by omega) (fun h62 => ?_) (fun h62 => ?_)
    · omega
    · skip
      refine Wp.n (pc' := 72) 4 rfl ?_
      refine Wp.imulN (x := 60) (y := s) (len := 1) rfl ?_
      refine Wp.n (pc' := 74) 1 rfl ?_
      refine Wp.iaddN (x := 60 * s) (y := w) (len := 1) rfl ?_
      refine Wp.mlaldN (j := (60 * s) + w) (len := 1) rfl rfl rfl (by omega) ?_
      refine Wp.topL ev ?_
      refine Wp.n (pc' := 82) 4 rfl ?_
      refine Wp.ecallS (len := 3) rfl rfl rfl rfl (m_in _ _ _) ?_
      refine Wp.ifb1 (tgt := 90) (len := 3) rfl (fun h85 => ?_) (fun h85 => ?_)
      · skip
        have h85' := of_decide_eq_true h85
        have hv1 : (0 : Int) ≤ (S.2.2 s w).toInt := h85'.1
        have hv2 : (S.2.2 s w).toInt ≤ 2000000000 := h85'.2
        obtain ⟨v, ev1, ev2, ev3⟩ := l_of hv1
        have hb := finP_b ok (how := 3) (dn := v) (w := w) (by omega)
        rw [ev1]
        refine Wp.n (pc' := 94) 4 rfl ?_
        refine Wp.l2iM (x := v) (len := 1) rfl ?_
        refine Wp.callV (len := 3) rfl rfl rfl (rfl) rfl (by decide) rfl (m_owing (how := 3) (dn := v) hK (w := w) (by omega) (by decide) (by omega)) ?_
        rintro _ _ ⟨rfl, τ2, rfl, hS2, hR⟩
        replace hR : MR τ2 (finP K 3 w v) := hR
        refine Wp.n (pc' := 102) 2 rfl ?_
        refine Wp.top hR.1 ?_
        refine Wp.nz1 (x := (finP K 3 w v).1) (tgt := 107) (len := 3) rfl (by omega) (fun h102 => ?_) (fun h102 => ?_)
        · skip
          refine Wp.incN (x := w) (len := 3) rfl rfl ?_
          refine Wp.n (pc' := 55) 1 rfl ?_
          rw [if_neg (show ¬ frdP K (S.2.2 s) w = true from fun q => by
            rcases of_decide_eq_true q with q | q | q
            · omega
            · omega
            · rw [ev2, Int.toNat_natCast] at q; exact h102 q)]
          exact ih (w + 1) τ2 _ _ (by omega) (Scr_t hT hS2)
        · skip
          refine Wp.n (pc' := 106) 1 rfl ?_
          refine Wp.retI (len := 1) rfl rfl ?_
          first
            | (rw [if_pos (show frdP K (S.2.2 s) w = true from decide_eq_true (Or.inr (Or.inr (by rw [ev2, Int.toNat_natCast]; exact h102))))]; exact RI_s (Scr_t hT hS2) rfl)
            | (rw [if_pos (show frdP K (S.2.2 s) w = true from decide_eq_true (by
                 have h85' := of_decide_eq_false h85
                 by_cases c : (S.2.2 s w).toInt < 0
                 · exact Or.inl c
                 · refine Or.inr (Or.inl ?_)
                   refine Decidable.byContradiction (fun c2 => h85' ⟨?_, ?_⟩)
                   · show (0 : Int) ≤ _; omega
                   · show _ ≤ (2000000000 : Int); omega))]; exact RI_s hT rfl)
      · skip
        refine Wp.n (pc' := 89) 1 rfl ?_
        refine Wp.retI (len := 1) rfl rfl ?_
        first
          | (rw [if_pos (show frdP K (S.2.2 s) w = true from decide_eq_true (Or.inr (Or.inr (by rw [ev2, Int.toNat_natCast]; exact h102))))]; exact RI_s (Scr_t hT hS2) rfl)
          | (rw [if_pos (show frdP K (S.2.2 s) w = true from decide_eq_true (by
               have h85' := of_decide_eq_false h85
               by_cases c : (S.2.2 s w).toInt < 0
               · exact Or.inl c
               · refine Or.inr (Or.inl ?_)
                 refine Decidable.byContradiction (fun c2 => h85' ⟨?_, ?_⟩)
                 · show (0 : Int) ≤ _; omega
                 · show _ ≤ (2000000000 : Int); omega))]; exact RI_s hT rfl)

theorem m_ford (hM : MK σ K) (hS : SM σ S) (x : Int32) : Wp (d + 15) md_254 0 [some (.ref 287), some (.int x), none, none, none] [] (mset M σ) (RI M σ (fordA K S x)) := by
  have ok := hM.2.1
  have hσ0 := hM.2.2.2
  obtain ⟨b0, b1, b2, b3, b4, b5, b6, b7, b8, b9, b10, b11, b12⟩ := ok_h ok
  unfold fordA
  refine Wp.n (pc' := 2) 2 rfl ?_
  refine Wp.mput0 (len := 3) rfl hσ0 ?_
  refine Wp.n (pc' := 6) 1 rfl ?_
  refine Wp.ecallS (len := 3) rfl rfl rfl rfl (m_isSlotN _) ?_
  refine Wp.ifb0 (tgt := 19) (len := 3) rfl (fun h9 => ?_) (fun h9 => ?_)
  · skip
    refine Wp.n (pc' := 21) 1 rfl ?_
    refine Wp.retI (len := 1) rfl rfl ?_
    first
      | (rw [if_neg (fun q => by rw [h9] at q; exact absurd q.1 (by decide))]; exact RI_r rfl)
      | (rw [if_neg (fun q => of_decide_eq_false h16 q.2)]; exact RI_r rfl)
      | (rw [if_pos h29]; exact RI_r rfl)
      | (rw [if_pos h47]; exact RI_r rfl)
  · skip
    refine Wp.n (pc' := 13) 1 rfl ?_
    refine Wp.ecallV (len := 3) rfl rfl rfl (rfl) rfl (by decide) rfl (m_isKingdom hM.1 ok) ?_
    refine Wp.ifb1 (tgt := 22) (len := 3) rfl (fun h16 => ?_) (fun h16 => ?_)
    · skip
      obtain ⟨s, hs, rfl⟩ := isN_of h9
      obtain ⟨a1, a2, a3⟩ := hS.2 s hs
      have s60 := hS.1 s hs
      rw [if_pos ⟨h9, of_decide_eq_true h16⟩, nI_clamp (by omega)]
      refine Wp.n (pc' := 27) 3 rfl ?_
      refine Wp.mialdN (j := s) (len := 1) rfl rfl rfl (by omega) ?_
      refine Wp.top a1 ?_
      refine Wp.n (pc' := 29) 1 rfl ?_
      refine Wp.ic1 (tgt := 35) (len := 3) rfl (fun h29 => ?_) (fun h29 => ?_)
      · skip
        rw [if_neg h29]
        refine Wp.n (pc' := 40) 3 rfl ?_
        refine Wp.mialdN (j := s) (len := 1) rfl rfl rfl (by omega) ?_
        refine Wp.top a2 ?_
        refine Wp.n (pc' := 46) 3 rfl ?_
        refine Wp.mialdN (j := 4) (len := 1) rfl rfl rfl (by omega) ?_
        refine Wp.top (r0_has hM.1 (by decide)) ?_
        refine Wp.nc0 (x := S.2.1 s) (y := kh K 4) (tgt := 53) (len := 3) rfl (by omega) (by omega) (fun h47 => ?_) (fun h47 => ?_)
        · skip
          rw [if_neg (fun q => q h47)]
          refine Wp.n (pc' := 55) 2 rfl ?_
          exact m_ford_l hM hS hs h47 (kh K 4) 0 σ _ _ (by omega) Scr_r
        · skip
          refine Wp.n (pc' := 52) 1 rfl ?_
          refine Wp.retI (len := 1) rfl rfl ?_
          first
            | (rw [if_neg (fun q => by rw [h9] at q; exact absurd q.1 (by decide))]; exact RI_r rfl)
            | (rw [if_neg (fun q => of_decide_eq_false h16 q.2)]; exact RI_r rfl)
            | (rw [if_pos h29]; exact RI_r rfl)
            | (rw [if_pos h47]; exact RI_r rfl)
      · skip
        refine Wp.n (pc' := 34) 1 rfl ?_
        refine Wp.retI (len := 1) rfl rfl ?_
        first
          | (rw [if_neg (fun q => by rw [h9] at q; exact absurd q.1 (by decide))]; exact RI_r rfl)
          | (rw [if_neg (fun q => of_decide_eq_false h16 q.2)]; exact RI_r rfl)
          | (rw [if_pos h29]; exact RI_r rfl)
          | (rw [if_pos h47]; exact RI_r rfl)
    · skip
      refine Wp.n (pc' := 21) 1 rfl ?_
      refine Wp.retI (len := 1) rfl rfl ?_
      first
        | (rw [if_neg (fun q => by rw [h9] at q; exact absurd q.1 (by decide))]; exact RI_r rfl)
        | (rw [if_neg (fun q => of_decide_eq_false h16 q.2)]; exact RI_r rfl)
        | (rw [if_pos h29]; exact RI_r rfl)
        | (rw [if_pos h47]; exact RI_r rfl)

end TAPE
