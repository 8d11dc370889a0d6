/-! SLOTS, THE TAPE, COPIES: the reference. -/
/-- widths, sizes, numbers of the slots -/
abbrev SS : Type := (Nat → Int32) × (Nat → Nat) × (Nat → Nat → Int64)
def SOK (S : SS) : Prop := ∀ s, s < 4 → S.2.1 s ≤ 60
def SM (σ : MS) (S : SS) : Prop := SOK S ∧ ∀ s, s < 4 → σ.2.2.1 0 s = S.1 s ∧ σ.2.2.1 1 s = nI (S.2.1 s) ∧ ∀ i, i < S.2.1 s → σ.2.2.2 2 (60 * s + i) = S.2.2 s i
def isL (x : Int32) : Bool := decide (x.toInt ≤ 60)
def rowA (x w m : Int32) : Int32 := if isN 4 x = true ∧ isN 4 w = true ∧ m.toInt ≤ 60 then (if m.toInt < 0 then -3 else 0) else -2
def rowN (S : SS) (x w m : Int32) : SS := if isN 4 x = true ∧ isN 4 w = true ∧ m.toInt ≤ 60 ∧ 0 ≤ m.toInt then (upd S.1 x.toNatClampNeg w, va_up S.2.1 x.toNatClampNeg m.toNatClampNeg, va_up S.2.2 x.toNatClampNeg (fun _ => 0)) else S
def cutV (x : Int64) (w : Int32) : Int64 := if w = 0 then x.toInt32.toInt8.toInt32.toInt64 else if w = 1 then x.toInt32.toInt16.toInt32.toInt64 else if w = 2 then x.toInt32.toInt64 else x
def writeA (S : SS) (x i : Int32) : Int32 := if isN 4 x = true then (if S.1 x.toNatClampNeg = -1 then -6 else if isN (S.2.1 x.toNatClampNeg) i = true then 0 else -7) else -2
def writeN (S : SS) (x i : Int32) (v : Int64) : SS := if isN 4 x = true ∧ S.1 x.toNatClampNeg ≠ -1 ∧ isN (S.2.1 x.toNatClampNeg) i = true then (S.1, S.2.1, va_up S.2.2 x.toNatClampNeg (vp_updL (S.2.2 x.toNatClampNeg) i.toNatClampNeg (cutV v (S.1 x.toNatClampNeg)))) else S
/-- are m numbers from i on within a row of k -/
def cov (k : Nat) (i m : Int32) : Bool := decide (0 ≤ i.toInt ∧ 0 ≤ m.toInt ∧ i.toInt + m.toInt ≤ (k : Int))
def pasteC (S : SS) (x i t k m : Int32) : Bool := isN 4 x && isN 4 t && !(decide (S.1 x.toNatClampNeg = -1)) && !(decide (S.1 t.toNatClampNeg = -1)) && decide (S.1 x.toNatClampNeg = S.1 t.toNatClampNeg) && cov (S.2.1 x.toNatClampNeg) i m && cov (S.2.1 t.toNatClampNeg) k m
def pasteA (S : SS) (x i t k m : Int32) : Int32 := if (isN 4 x && isN 4 t) = true then (if S.1 x.toNatClampNeg = -1 ∨ S.1 t.toNatClampNeg = -1 then -6 else if S.1 x.toNatClampNeg ≠ S.1 t.toNatClampNeg then -8 else if (cov (S.2.1 x.toNatClampNeg) i m && cov (S.2.1 t.toNatClampNeg) k m) = true then 0 else -7) else -2
def pst (f g : Nat → Int64) (i k m : Nat) : Nat → Int64 := fun j => if k ≤ j ∧ j < k + m then f (i + (j - k)) else g j
def pasteN (S : SS) (x i t k m : Int32) : SS := if pasteC S x i t k m = true then (S.1, S.2.1, va_up S.2.2 t.toNatClampNeg (pst (S.2.2 x.toNatClampNeg) (S.2.2 t.toNatClampNeg) i.toNatClampNeg k.toNatClampNeg m.toNatClampNeg)) else S
theorem lset_get {σ : MS} {k : Nat} {f : Nat → Int64} : (lset σ k f).2.2.2 k = f := va_up_self _ _ _
theorem lset_lset {σ : MS} {k : Nat} {f g : Nat → Int64} : lset (lset σ k f) k g = lset σ k g := by
  unfold lset
  have e : va_up (va_up σ.2.2.2 k f) k g = va_up σ.2.2.2 k g := by
    funext j
    by_cases c : j = k
    · rw [c, va_up_self, va_up_self]
    · rw [va_up_ne _ _ c, va_up_ne _ _ c, va_up_ne _ _ c]
  rw [show (σ.1, σ.2.1, σ.2.2.1, va_up σ.2.2.2 k f).2.2.2 = va_up σ.2.2.2 k f from rfl, e]
theorem lu_s {f : Nat → Int64} {k : Nat} {x : Int64} : vp_updL f k x k = x := by unfold vp_updL; rw [if_pos rfl]
theorem lu_n {f : Nat → Int64} {k j : Nat} {x : Int64} (h : j ≠ k) : vp_updL f k x j = f j := by unfold vp_updL; rw [if_neg h]
theorem isN_f {k : Nat} {x : Int32} (h : ¬ x.toInt < 0) (h2 : x.toInt < (k : Int)) : isN k x = true := decide_eq_true ⟨by omega, h2⟩
section SLOT
variable {d : Nat} {M : AM} {σ σ' : MS} {S : SS} {Q : Option Value → AM → Prop}
theorem m_isSlotN (x : Int32) : Ev (d + 1) md_151 0 [some (.int x)] [] M (some (.int (bI (isN 4 x))), M) := by
  have w := m_isSlot (d := d) (M := M) x
  have e : decide (0 ≤ x.toInt ∧ x.toInt ≤ 3) = isN 4 x := by
    unfold isN
    by_cases c : 0 ≤ x.toInt ∧ x.toInt < ((4 : Nat) : Int)
    · rw [decide_eq_true c, decide_eq_true (by omega)]
    · rw [decide_eq_false c, decide_eq_false (by omega)]
  rw [e] at w
  exact w
/-- the cells of the reference after row -/
theorem m_row_l {s w m : Nat} (hs : s < 4) (hm : m ≤ 60) : ∀ (n i : Nat) (g : Nat → Int64), i + n = m → (∀ q, q < i → g (60 * s + q) = 0) → (∀ q, q < 60 * s ∨ 60 * s + 60 ≤ q → g q = σ.2.2.2 2 q) → Wp d md_150 57 [some (.ref 287), some (.int (nI s)), some (.int (nI w)), some (.int (nI m)), some (.int (nI i))] [] (mset M (lset σ 2 g)) (fun v M' => v = some (.int 0) ∧ ∃ g, M' = mset M (lset σ 2 g) ∧ (∀ q, q < m → g (60 * s + q) = 0) ∧ (∀ q, q < 60 * s ∨ 60 * s + 60 ≤ q → g q = σ.2.2.2 2 q)) := by
  intro n
  induction n with
  | zero =>
    intro i g hi h0 h1
    refine Wp.n (pc' := 60) 2 rfl ?_
    refine Wp.nc3 (x := i) (y := m) (tgt := 82) (len := 3) rfl (by omega) (by omega) (fun h60 => ?_) (fun h60 => ?_)
    · skip
      refine Wp.n (pc' := 83) 1 rfl ?_
      refine Wp.retI (len := 1) rfl rfl ?_
      exact ⟨rfl, g, rfl, fun q hq => h0 q (by omega), h1⟩
    · omega
  | succ n ih =>
    intro i g hi h0 h1
    refine Wp.n (pc' := 60) 2 rfl ?_
    refine Wp.nc3 (x := i) (y := m) (tgt := 82) (len := 3) rfl (by omega) (by omega) (fun h60 => ?_) (fun h60 => ?_)
    · omega
    · skip
      refine Wp.n (pc' := 70) 4 rfl ?_
      refine Wp.imulN (x := 60) (y := s) (len := 1) rfl ?_
      refine Wp.n (pc' := 73) 1 rfl ?_
      refine Wp.iaddN (x := 60 * s) (y := i) (len := 1) rfl ?_
      refine Wp.n (pc' := 75) 1 rfl ?_
      refine Wp.mlastN (j := (60 * s) + i) (len := 1) rfl rfl rfl (by omega) ?_
      refine Wp.incN (x := i) (len := 3) rfl rfl ?_
      refine Wp.n (pc' := 57) 1 rfl ?_
      rw [lset_get, lset_lset]
      refine ih (i + 1) _ (by omega) (fun q hq => ?_) (fun q hq => ?_)
      · by_cases c : q = i
        · rw [c, lu_s]
        · rw [lu_n (by omega)]; exact h0 q (by omega)
      · rw [lu_n (by omega)]; exact h1 q hq

theorem m_row (hσ0 : σ.1 0 = 0) (hS : SM σ S) (x w m : Int32) : Wp (d + 2) md_150 0 [some (.ref 287), some (.int x), some (.int w), some (.int m), none] [] (mset M σ) (fun v M' => v = some (.int (rowA x w m)) ∧ ∃ σ', M' = mset M σ' ∧ SM σ' (rowN S x w m) ∧ σ'.1 = σ.1 ∧ σ'.2.1 = σ.2.1 ∧ (∀ k, 2 ≤ k → σ'.2.2.1 k = σ.2.2.1 k) ∧ (∀ k, k ≠ 2 → σ'.2.2.2 k = σ.2.2.2 k)) := by
  unfold rowA rowN
  refine Wp.n (pc' := 2) 2 rfl ?_
  refine Wp.mput0 (len := 3) rfl hσ0 ?_
  refine Wp.n (pc' := 6) 1 rfl ?_
  refine Wp.ecallS (len := 3) rfl rfl rfl rfl (m_isSlotN _) ?_
  refine Wp.ifb0 (tgt := 30) (len := 3) rfl (fun h9 => ?_) (fun h9 => ?_)
  · skip
    refine Wp.n (pc' := 32) 1 rfl ?_
    refine Wp.retI (len := 1) rfl rfl ?_
    first
      | (rw [if_neg (fun q => by rw [h9] at q; exact absurd q.1 (by decide)), if_neg (fun q => by rw [h9] at q; exact absurd q.1 (by decide))]; exact ⟨rfl, σ, rfl, hS, rfl, rfl, fun _ _ => rfl, fun _ _ => rfl⟩)
      | (rw [if_neg (fun q => by rw [h21] at q; exact absurd q.2.1 (by decide)), if_neg (fun q => by rw [h21] at q; exact absurd q.2.1 (by decide))]; exact ⟨rfl, σ, rfl, hS, rfl, rfl, fun _ _ => rfl, fun _ _ => rfl⟩)
      | (rw [if_neg (fun q => h27 q.2.2), if_neg (fun q => h27 q.2.2.1)]; exact ⟨rfl, σ, rfl, hS, rfl, rfl, fun _ _ => rfl, fun _ _ => rfl⟩)
  · skip
    refine Wp.n (pc' := 18) 4 rfl ?_
    refine Wp.ecallS (len := 3) rfl rfl rfl rfl (m_in _ _ _) ?_
    refine Wp.ifb0 (tgt := 30) (len := 3) rfl (fun h21 => ?_) (fun h21 => ?_)
    · rw [in_isN (k := 4) (by decide)] at h21
      refine Wp.n (pc' := 32) 1 rfl ?_
      refine Wp.retI (len := 1) rfl rfl ?_
      first
        | (rw [if_neg (fun q => by rw [h9] at q; exact absurd q.1 (by decide)), if_neg (fun q => by rw [h9] at q; exact absurd q.1 (by decide))]; exact ⟨rfl, σ, rfl, hS, rfl, rfl, fun _ _ => rfl, fun _ _ => rfl⟩)
        | (rw [if_neg (fun q => by rw [h21] at q; exact absurd q.2.1 (by decide)), if_neg (fun q => by rw [h21] at q; exact absurd q.2.1 (by decide))]; exact ⟨rfl, σ, rfl, hS, rfl, rfl, fun _ _ => rfl, fun _ _ => rfl⟩)
        | (rw [if_neg (fun q => h27 q.2.2), if_neg (fun q => h27 q.2.2.1)]; exact ⟨rfl, σ, rfl, hS, rfl, rfl, fun _ _ => rfl, fun _ _ => rfl⟩)
    · rw [in_isN (k := 4) (by decide)] at h21
      refine Wp.n (pc' := 27) 2 rfl ?_
      refine Wp.ic5 (tgt := 33) (len := 3) rfl (fun h27 => ?_) (fun h27 => ?_)
      · rw [i_le] at h27
        have hm60 : m.toInt ≤ 60 := h27
        rw [if_pos ⟨h9, h21, hm60⟩]
        refine Wp.n (pc' := 34) 1 rfl ?_
        refine Wp.if3 (tgt := 40) (len := 3) rfl (fun h34 => ?_) (fun h34 => ?_)
        · rw [i_le] at h34
          have hm0 : 0 ≤ m.toInt := h34
          obtain ⟨s, hs, rfl⟩ := isN_of h9
          obtain ⟨w, hw, rfl⟩ := isN_of h21
          obtain ⟨m, hm, rfl⟩ := nI_of (x := m) (by rw [i_lt]; intro q; have : m.toInt < 0 := q; omega)
          rw [nI_toInt hm] at hm60
          rw [if_neg (by rw [nI_toInt hm]; omega), if_pos ⟨h9, h21, by rw [nI_toInt hm]; omega, by rw [nI_toInt hm]; omega⟩, nI_clamp (by omega), nI_clamp hm]
          refine Wp.n (pc' := 46) 4 rfl ?_
          refine Wp.miastN (j := s) (len := 1) rfl rfl rfl (by omega) ?_
          refine Wp.n (pc' := 53) 4 rfl ?_
          refine Wp.miastN (j := s) (len := 1) rfl rfl rfl (by omega) ?_
          refine Wp.n (pc' := 57) 2 rfl ?_
          have w0 := m_row_l (d := d + 2) (M := M) (σ := aset (aset σ 0 (upd (σ.2.2.1 0) s (nI w))) 1 (upd (σ.2.2.1 1) s (nI m))) (s := s) (w := w) (m := m) hs (by omega) m 0 (σ.2.2.2 2) (by omega) (fun q hq => absurd hq (Nat.not_lt_zero q)) (fun q _ => rfl)
          rw [show lset (aset (aset σ 0 (upd (σ.2.2.1 0) s (nI w))) 1 (upd (σ.2.2.1 1) s (nI m))) 2 (σ.2.2.2 2) = aset (aset σ 0 (upd (σ.2.2.1 0) s (nI w))) 1 (upd (σ.2.2.1 1) s (nI m)) from by
            unfold lset
            rw [show va_up (aset (aset σ 0 (upd (σ.2.2.1 0) s (nI w))) 1 (upd (σ.2.2.1 1) s (nI m))).2.2.2 2 (σ.2.2.2 2) = σ.2.2.2 from by
              funext j
              by_cases c : j = 2
              · rw [c, va_up_self]
              · rw [va_up_ne _ _ c]; rfl]
            rfl] at w0
          refine Wp.mono w0 ?_
          rintro _ _ ⟨rfl, g, rfl, g0, g1⟩
          refine ⟨rfl, _, rfl, ⟨fun t ht => ?_, fun t ht => ?_⟩, rfl, rfl, fun k hk => ?_, fun k hk => va_up_ne _ _ hk⟩
          · show va_up S.2.1 s m t ≤ 60
            by_cases c : t = s
            · rw [c, va_up_self]; omega
            · rw [va_up_ne _ _ c]; exact hS.1 t ht
          · by_cases c : t = s
            · subst c
              refine ⟨?_, ?_, fun i hi => ?_⟩
              · show upd (σ.2.2.1 0) t (nI w) t = upd S.1 t (nI w) t
                rw [pk_us, pk_us]
              · show upd (σ.2.2.1 1) t (nI m) t = nI (va_up S.2.1 t m t)
                rw [pk_us, va_up_self]
              · have hi' : i < m := by
                  have : i < va_up S.2.1 t m t := hi
                  rwa [va_up_self] at this
                rw [lset_get, g0 i hi']
                show 0 = va_up S.2.2 t (fun _ => 0) t i
                rw [va_up_self]
            · obtain ⟨a1, a2, a3⟩ := hS.2 t ht
              refine ⟨?_, ?_, fun i hi => ?_⟩
              · show upd (σ.2.2.1 0) s (nI w) t = upd S.1 s (nI w) t
                rw [pk_un c, pk_un c, a1]
              · show upd (σ.2.2.1 1) s (nI m) t = nI (va_up S.2.1 s m t)
                rw [pk_un c, va_up_ne _ _ c, a2]
              · have hi' : i < S.2.1 t := by
                  have : i < va_up S.2.1 s m t := hi
                  rwa [va_up_ne _ _ c] at this
                have h60 := hS.1 t ht
                rw [lset_get, g1 _ (by omega)]
                show _ = va_up S.2.2 s (fun _ => 0) t i
                rw [va_up_ne _ _ c]
                exact a3 i hi'
          · show va_up (va_up σ.2.2.1 0 _) 1 _ k = _
            rw [va_up_ne _ _ (by omega), va_up_ne _ _ (by omega)]
        · rw [i_le] at h34
          refine Wp.n (pc' := 39) 1 rfl ?_
          refine Wp.retI (len := 1) rfl rfl ?_
          rw [if_pos (by have : ¬ (0 : Int) ≤ m.toInt := h34; omega), if_neg (fun q => h34 q.2.2.2)]
          exact ⟨rfl, σ, rfl, hS, rfl, rfl, fun _ _ => rfl, fun _ _ => rfl⟩
      · rw [i_le] at h27
        refine Wp.n (pc' := 32) 1 rfl ?_
        refine Wp.retI (len := 1) rfl rfl ?_
        first
          | (rw [if_neg (fun q => by rw [h9] at q; exact absurd q.1 (by decide)), if_neg (fun q => by rw [h9] at q; exact absurd q.1 (by decide))]; exact ⟨rfl, σ, rfl, hS, rfl, rfl, fun _ _ => rfl, fun _ _ => rfl⟩)
          | (rw [if_neg (fun q => by rw [h21] at q; exact absurd q.2.1 (by decide)), if_neg (fun q => by rw [h21] at q; exact absurd q.2.1 (by decide))]; exact ⟨rfl, σ, rfl, hS, rfl, rfl, fun _ _ => rfl, fun _ _ => rfl⟩)
          | (rw [if_neg (fun q => h27 q.2.2), if_neg (fun q => h27 q.2.2.1)]; exact ⟨rfl, σ, rfl, hS, rfl, rfl, fun _ _ => rfl, fun _ _ => rfl⟩)

theorem SM_val (hS : SM σ S) {s i : Nat} {x : Int64} (hs : s < 4) (hi : i < 60) : SM (lset σ 2 (vp_updL (σ.2.2.2 2) (60 * s + i) x)) (S.1, S.2.1, va_up S.2.2 s (vp_updL (S.2.2 s) i x)) := by
  refine ⟨hS.1, fun t ht => ?_⟩
  obtain ⟨a1, a2, a3⟩ := hS.2 t ht
  have h60 := hS.1 t ht
  refine ⟨a1, a2, fun j hj => ?_⟩
  rw [lset_get]
  have hj' : j < S.2.1 t := hj
  show _ = va_up S.2.2 s (vp_updL (S.2.2 s) i x) t j
  by_cases c : t = s
  · subst c
    rw [va_up_self]
    by_cases c2 : j = i
    · rw [c2, lu_s, lu_s]
    · rw [lu_n (by omega), lu_n c2]; exact a3 j hj'
  · rw [va_up_ne _ _ c, lu_n (by omega)]; exact a3 j hj'
theorem m_write (hσ0 : σ.1 0 = 0) (hS : SM σ S) (x i : Int32) (v : Int64) : Wp (d + 2) md_153 0 [some (.ref 287), some (.int x), some (.int i), some (.long v), none] [] (mset M σ) (fun r M' => r = some (.int (writeA S x i)) ∧ ∃ σ', M' = mset M σ' ∧ SM σ' (writeN S x i v) ∧ σ'.1 = σ.1 ∧ σ'.2.1 = σ.2.1 ∧ (∀ k, 2 ≤ k → σ'.2.2.1 k = σ.2.2.1 k) ∧ (∀ k, k ≠ 2 → σ'.2.2.2 k = σ.2.2.2 k)) := by
  unfold writeA writeN
  refine Wp.n (pc' := 2) 2 rfl ?_
  refine Wp.mput0 (len := 3) rfl hσ0 ?_
  refine Wp.n (pc' := 6) 1 rfl ?_
  refine Wp.ecallS (len := 3) rfl rfl rfl rfl (m_isSlotN _) ?_
  refine Wp.ifb1 (tgt := 15) (len := 3) rfl (fun h9 => ?_) (fun h9 => ?_)
  · skip
    obtain ⟨s, hs, rfl⟩ := isN_of h9
    obtain ⟨a1, a2, a3⟩ := hS.2 s hs
    have h60 := hS.1 s hs
    rw [if_pos h9, nI_clamp (by omega)]
    refine Wp.n (pc' := 20) 3 rfl ?_
    refine Wp.mialdN (j := s) (len := 1) rfl rfl rfl (by omega) ?_
    refine Wp.top a1 ?_
    refine Wp.n (pc' := 22) 1 rfl ?_
    refine Wp.ic1 (tgt := 28) (len := 3) rfl (fun h22 => ?_) (fun h22 => ?_)
    · skip
      refine Wp.n (pc' := 36) 6 rfl ?_
      refine Wp.mialdN (j := s) (len := 1) rfl rfl rfl (by omega) ?_
      refine Wp.n (pc' := 40) 3 rfl ?_
      refine Wp.ecallS (len := 3) rfl rfl rfl rfl (m_in _ _ _) ?_
      refine Wp.ifb1 (tgt := 49) (len := 3) rfl (fun h43 => ?_) (fun h43 => ?_)
      · rw [show (0 : Int64).toInt = 0 from rfl, il_toInt, il_toInt, isN_le (n := S.2.1 s) (by omega) a2] at h43
        obtain ⟨j, hj, rfl⟩ := isN_of h43
        rw [if_neg h22, if_pos h43, if_pos ⟨h9, h22, h43⟩, nI_clamp (by omega)]
        refine Wp.n (pc' := 56) 4 rfl ?_
        refine Wp.imulN (x := 60) (y := s) (len := 1) rfl ?_
        refine Wp.n (pc' := 58) 1 rfl ?_
        refine Wp.iaddN (x := 60 * s) (y := j) (len := 1) rfl ?_
        refine Wp.n (pc' := 65) 4 rfl ?_
        refine Wp.mialdN (j := s) (len := 1) rfl rfl rfl (by omega) ?_
        refine Wp.top a1 ?_
        refine Wp.ecallS (len := 3) rfl rfl rfl rfl (m_cut _ _) ?_
        refine Wp.mlastN (j := (60 * s) + j) (len := 1) rfl rfl rfl (by omega) ?_
        refine Wp.n (pc' := 71) 1 rfl ?_
        refine Wp.retI (len := 1) rfl rfl ?_
        first
          | exact ⟨rfl, _, rfl, SM_val hS hs (by omega), rfl, rfl, fun _ _ => rfl, fun k hk => va_up_ne _ _ hk⟩
          | (rw [if_neg (by rw [h9]; decide), if_neg (fun q => by rw [h9] at q; exact absurd q.1 (by decide))]; exact ⟨rfl, σ, rfl, hS, rfl, rfl, fun _ _ => rfl, fun _ _ => rfl⟩)
          | (rw [if_pos h22, if_neg (fun q => q.2.1 h22)]; exact ⟨rfl, σ, rfl, hS, rfl, rfl, fun _ _ => rfl, fun _ _ => rfl⟩)
          | (rw [if_neg h22, if_neg (by rw [h43]; decide), if_neg (fun q => by rw [h43] at q; exact absurd q.2.2 (by decide))]; exact ⟨rfl, σ, rfl, hS, rfl, rfl, fun _ _ => rfl, fun _ _ => rfl⟩)
      · rw [show (0 : Int64).toInt = 0 from rfl, il_toInt, il_toInt, isN_le (n := S.2.1 s) (by omega) a2] at h43
        refine Wp.n (pc' := 48) 1 rfl ?_
        refine Wp.retI (len := 1) rfl rfl ?_
        first
          | exact ⟨rfl, _, rfl, SM_val hS hs (by omega), rfl, rfl, fun _ _ => rfl, fun k hk => va_up_ne _ _ hk⟩
          | (rw [if_neg (by rw [h9]; decide), if_neg (fun q => by rw [h9] at q; exact absurd q.1 (by decide))]; exact ⟨rfl, σ, rfl, hS, rfl, rfl, fun _ _ => rfl, fun _ _ => rfl⟩)
          | (rw [if_pos h22, if_neg (fun q => q.2.1 h22)]; exact ⟨rfl, σ, rfl, hS, rfl, rfl, fun _ _ => rfl, fun _ _ => rfl⟩)
          | (rw [if_neg h22, if_neg (by rw [h43]; decide), if_neg (fun q => by rw [h43] at q; exact absurd q.2.2 (by decide))]; exact ⟨rfl, σ, rfl, hS, rfl, rfl, fun _ _ => rfl, fun _ _ => rfl⟩)
    · skip
      refine Wp.n (pc' := 27) 1 rfl ?_
      refine Wp.retI (len := 1) rfl rfl ?_
      first
        | exact ⟨rfl, _, rfl, SM_val hS hs (by omega), rfl, rfl, fun _ _ => rfl, fun k hk => va_up_ne _ _ hk⟩
        | (rw [if_neg (by rw [h9]; decide), if_neg (fun q => by rw [h9] at q; exact absurd q.1 (by decide))]; exact ⟨rfl, σ, rfl, hS, rfl, rfl, fun _ _ => rfl, fun _ _ => rfl⟩)
        | (rw [if_pos h22, if_neg (fun q => q.2.1 h22)]; exact ⟨rfl, σ, rfl, hS, rfl, rfl, fun _ _ => rfl, fun _ _ => rfl⟩)
        | (rw [if_neg h22, if_neg (by rw [h43]; decide), if_neg (fun q => by rw [h43] at q; exact absurd q.2.2 (by decide))]; exact ⟨rfl, σ, rfl, hS, rfl, rfl, fun _ _ => rfl, fun _ _ => rfl⟩)
  · skip
    refine Wp.n (pc' := 14) 1 rfl ?_
    refine Wp.retI (len := 1) rfl rfl ?_
    first
      | exact ⟨rfl, _, rfl, SM_val hS hs (by omega), rfl, rfl, fun _ _ => rfl, fun k hk => va_up_ne _ _ hk⟩
      | (rw [if_neg (by rw [h9]; decide), if_neg (fun q => by rw [h9] at q; exact absurd q.1 (by decide))]; exact ⟨rfl, σ, rfl, hS, rfl, rfl, fun _ _ => rfl, fun _ _ => rfl⟩)
      | (rw [if_pos h22, if_neg (fun q => q.2.1 h22)]; exact ⟨rfl, σ, rfl, hS, rfl, rfl, fun _ _ => rfl, fun _ _ => rfl⟩)
      | (rw [if_neg h22, if_neg (by rw [h43]; decide), if_neg (fun q => by rw [h43] at q; exact absurd q.2.2 (by decide))]; exact ⟨rfl, σ, rfl, hS, rfl, rfl, fun _ _ => rfl, fun _ _ => rfl⟩)

theorem m_paste_1 {s i t k m : Nat} (hs : s < 4) (him : i + m ≤ 60) : ∀ (n q : Nat) (g : Nat → Int64), q + n = m → (∀ j, j < q → g j = σ.2.2.2 2 (60 * s + i + j)) → (∀ g', (∀ j, j < m → g' j = σ.2.2.2 2 (60 * s + i + j)) → Wp d md_155 152 [some (.ref 287), some (.int (nI s)), some (.int (nI i)), some (.int (nI t)), some (.int (nI k)), some (.int (nI m)), some (.int (nI m))] [] (mset M (lset σ 3 g')) Q) → Wp d md_155 118 [some (.ref 287), some (.int (nI s)), some (.int (nI i)), some (.int (nI t)), some (.int (nI k)), some (.int (nI m)), some (.int (nI q))] [] (mset M (lset σ 3 g)) Q := by
  intro n
  induction n with
  | zero =>
    intro q g hq h0 kk
    refine Wp.n (pc' := 122) 2 rfl ?_
    refine Wp.nc3 (x := q) (y := m) (tgt := 152) (len := 3) rfl (by omega) (by omega) (fun h122 => ?_) (fun h122 => ?_)
    · skip
      rw [show q = m by omega]
      exact kk g (fun j hj => h0 j (by omega))
    · omega
  | succ n ih =>
    intro q g hq h0 kk
    refine Wp.n (pc' := 122) 2 rfl ?_
    refine Wp.nc3 (x := q) (y := m) (tgt := 152) (len := 3) rfl (by omega) (by omega) (fun h122 => ?_) (fun h122 => ?_)
    · omega
    · skip
      refine Wp.n (pc' := 138) 7 rfl ?_
      refine Wp.imulN (x := 60) (y := s) (len := 1) rfl ?_
      refine Wp.n (pc' := 140) 1 rfl ?_
      refine Wp.iaddN (x := 60 * s) (y := i) (len := 1) rfl ?_
      refine Wp.n (pc' := 143) 1 rfl ?_
      refine Wp.iaddN (x := (60 * s) + i) (y := q) (len := 1) rfl ?_
      refine Wp.mlaldN (j := ((60 * s) + i) + q) (len := 1) rfl rfl rfl (by omega) ?_
      refine Wp.mlastN (j := q) (len := 1) rfl rfl rfl (by omega) ?_
      refine Wp.incN (x := q) (len := 3) rfl rfl ?_
      refine Wp.n (pc' := 118) 1 rfl ?_
      rw [lset_get, lset_lset]
      refine ih (q + 1) _ (by omega) (fun j hj => ?_) kk
      by_cases c : j = q
      · rw [c, lu_s]; rfl
      · rw [lu_n c]; exact h0 j (by omega)

theorem m_paste_2 {s i t k m : Nat} (ht : t < 4) (hkm : k + m ≤ 60) : ∀ (n q : Nat) (g : Nat → Int64), q + n = m → (∀ j, j < q → g (60 * t + k + j) = σ.2.2.2 3 j) → (∀ j, j < 60 * t + k ∨ 60 * t + k + q ≤ j → g j = σ.2.2.2 2 j) → Wp d md_155 155 [some (.ref 287), some (.int (nI s)), some (.int (nI i)), some (.int (nI t)), some (.int (nI k)), some (.int (nI m)), some (.int (nI q))] [] (mset M (lset σ 2 g)) (fun v M' => v = some (.int 0) ∧ ∃ g', M' = mset M (lset σ 2 g') ∧ (∀ j, j < m → g' (60 * t + k + j) = σ.2.2.2 3 j) ∧ (∀ j, j < 60 * t + k ∨ 60 * t + k + m ≤ j → g' j = σ.2.2.2 2 j)) := by
  intro n
  induction n with
  | zero =>
    intro q g hq h0 h1
    refine Wp.n (pc' := 159) 2 rfl ?_
    refine Wp.nc3 (x := q) (y := m) (tgt := 190) (len := 3) rfl (by omega) (by omega) (fun h159 => ?_) (fun h159 => ?_)
    · skip
      refine Wp.n (pc' := 191) 1 rfl ?_
      refine Wp.retI (len := 1) rfl rfl ?_
      exact ⟨rfl, g, rfl, fun j hj => h0 j (by omega), fun j hj => h1 j (by omega)⟩
    · omega
  | succ n ih =>
    intro q g hq h0 h1
    refine Wp.n (pc' := 159) 2 rfl ?_
    refine Wp.nc3 (x := q) (y := m) (tgt := 190) (len := 3) rfl (by omega) (by omega) (fun h159 => ?_) (fun h159 => ?_)
    · omega
    · skip
      refine Wp.n (pc' := 169) 4 rfl ?_
      refine Wp.imulN (x := 60) (y := t) (len := 1) rfl ?_
      refine Wp.n (pc' := 172) 1 rfl ?_
      refine Wp.iaddN (x := 60 * t) (y := k) (len := 1) rfl ?_
      refine Wp.n (pc' := 175) 1 rfl ?_
      refine Wp.iaddN (x := (60 * t) + k) (y := q) (len := 1) rfl ?_
      refine Wp.n (pc' := 182) 3 rfl ?_
      refine Wp.mlaldN (j := q) (len := 1) rfl rfl rfl (by omega) ?_
      refine Wp.mlastN (j := ((60 * t) + k) + q) (len := 1) rfl rfl rfl (by omega) ?_
      refine Wp.incN (x := q) (len := 3) rfl rfl ?_
      refine Wp.n (pc' := 155) 1 rfl ?_
      rw [lset_get, lset_lset]
      refine ih (q + 1) _ (by omega) (fun j hj => ?_) (fun j hj => ?_)
      · by_cases c : j = q
        · rw [c, lu_s]; rfl
        · rw [lu_n (by omega)]; exact h0 j (by omega)
      · rw [lu_n (by omega)]; exact h1 j (by omega)

theorem cov_of {k : Nat} {i m : Int32} (h : cov k i m = true) : ∃ a b : Nat, i = nI a ∧ m = nI b ∧ a + b ≤ k ∧ a < 2 ^ 31 ∧ b < 2 ^ 31 := by
  have h1 := of_decide_eq_true h
  obtain ⟨a, ha, rfl⟩ := nI_of (x := i) (by rw [i_lt]; intro q; have : i.toInt < 0 := q; omega)
  obtain ⟨b, hb, rfl⟩ := nI_of (x := m) (by rw [i_lt]; intro q; have : m.toInt < 0 := q; omega)
  rw [nI_toInt ha, nI_toInt hb] at h1
  exact ⟨a, b, rfl, rfl, by omega, ha, hb⟩
theorem add_toInt (x y : Int32) : (x.toInt64 + y.toInt64).toInt = x.toInt + y.toInt := by
  have h1 := Int32.toInt_lt x
  have h2 := Int32.le_toInt x
  have h3 := Int32.toInt_lt y
  have h4 := Int32.le_toInt y
  rw [Int64.toInt_add, il_toInt, il_toInt, Int.bmod_def]
  omega
theorem m_paste (hσ0 : σ.1 0 = 0) (hS : SM σ S) (x i t k m : Int32) : Wp (d + 2) md_155 0 [some (.ref 287), some (.int x), some (.int i), some (.int t), some (.int k), some (.int m), none] [] (mset M σ) (fun r M' => r = some (.int (pasteA S x i t k m)) ∧ ∃ σ', M' = mset M σ' ∧ SM σ' (pasteN S x i t k m) ∧ σ'.1 = σ.1 ∧ σ'.2.1 = σ.2.1 ∧ (∀ k, σ'.2.2.1 k = σ.2.2.1 k) ∧ (∀ k, 4 ≤ k → σ'.2.2.2 k = σ.2.2.2 k)) := by
  unfold pasteA pasteN
  have kn : pasteC S x i t k m = false → (∃ σ', mset M σ = mset M σ' ∧ SM σ' (if pasteC S x i t k m = true then (S.1, S.2.1, va_up S.2.2 t.toNatClampNeg (pst (S.2.2 x.toNatClampNeg) (S.2.2 t.toNatClampNeg) i.toNatClampNeg k.toNatClampNeg m.toNatClampNeg)) else S) ∧ σ'.1 = σ.1 ∧ σ'.2.1 = σ.2.1 ∧ (∀ k, σ'.2.2.1 k = σ.2.2.1 k) ∧ (∀ k, 4 ≤ k → σ'.2.2.2 k = σ.2.2.2 k)) := fun h => ⟨σ, rfl, by rw [if_neg (by rw [h]; decide)]; exact hS, rfl, rfl, fun _ => rfl, fun _ _ => rfl⟩
  refine Wp.n (pc' := 2) 2 rfl ?_
  refine Wp.mput0 (len := 3) rfl hσ0 ?_
  refine Wp.n (pc' := 6) 1 rfl ?_
  refine Wp.ecallS (len := 3) rfl rfl rfl rfl (m_isSlotN _) ?_
  refine Wp.ifb0 (tgt := 19) (len := 3) rfl (fun h9 => ?_) (fun h9 => ?_)
  · skip
    refine Wp.n (pc' := 21) 1 rfl ?_
    refine Wp.retI (len := 1) rfl rfl ?_
    first
      | (rw [if_neg (by rw [h9, Bool.false_and]; decide)]; exact ⟨rfl, kn (by unfold pasteC; rw [h9]; simp only [Bool.false_and])⟩)
      | (rw [if_neg (by rw [h16, Bool.and_false]; decide)]; exact ⟨rfl, kn (by unfold pasteC; rw [h16]; simp only [Bool.and_false, Bool.false_and])⟩)
  · skip
    refine Wp.n (pc' := 13) 1 rfl ?_
    refine Wp.ecallS (len := 3) rfl rfl rfl rfl (m_isSlotN _) ?_
    refine Wp.ifb1 (tgt := 22) (len := 3) rfl (fun h16 => ?_) (fun h16 => ?_)
    · skip
      rw [if_pos (by rw [h9, h16]; rfl)]
      obtain ⟨s, hs, rfl⟩ := isN_of h9
      obtain ⟨t, ht, rfl⟩ := isN_of h16
      obtain ⟨a1, a2, a3⟩ := hS.2 s hs
      obtain ⟨c1, c2, c3⟩ := hS.2 t ht
      have s60 := hS.1 s hs
      have t60 := hS.1 t ht
      rw [nI_clamp (show s < 2 ^ 31 by omega), nI_clamp (show t < 2 ^ 31 by omega)] at kn ⊢
      refine Wp.n (pc' := 27) 3 rfl ?_
      refine Wp.mialdN (j := s) (len := 1) rfl rfl rfl (by omega) ?_
      refine Wp.top a1 ?_
      refine Wp.n (pc' := 29) 1 rfl ?_
      refine Wp.ic0 (tgt := 42) (len := 3) rfl (fun h29 => ?_) (fun h29 => ?_)
      · skip
        refine Wp.n (pc' := 44) 1 rfl ?_
        refine Wp.retI (len := 1) rfl rfl ?_
        first
          | (rw [if_pos (Or.inl h29)]; exact ⟨rfl, kn (by unfold pasteC; rw [nI_clamp (show s < 2 ^ 31 by omega), decide_eq_true h29]; simp only [Bool.not_true, Bool.and_false, Bool.false_and])⟩)
          | (rw [if_pos (Or.inr h39)]; exact ⟨rfl, kn (by unfold pasteC; rw [nI_clamp (show t < 2 ^ 31 by omega), decide_eq_true h39]; simp only [Bool.not_true, Bool.and_false, Bool.false_and])⟩)
      · skip
        refine Wp.n (pc' := 37) 3 rfl ?_
        refine Wp.mialdN (j := t) (len := 1) rfl rfl rfl (by omega) ?_
        refine Wp.top c1 ?_
        refine Wp.n (pc' := 39) 1 rfl ?_
        refine Wp.ic1 (tgt := 45) (len := 3) rfl (fun h39 => ?_) (fun h39 => ?_)
        · skip
          rw [if_neg (by rintro (q | q); exact h29 q; exact h39 q)]
          refine Wp.n (pc' := 50) 3 rfl ?_
          refine Wp.mialdN (j := s) (len := 1) rfl rfl rfl (by omega) ?_
          refine Wp.top a1 ?_
          refine Wp.n (pc' := 56) 3 rfl ?_
          refine Wp.mialdN (j := t) (len := 1) rfl rfl rfl (by omega) ?_
          refine Wp.top c1 ?_
          refine Wp.ic0 (tgt := 63) (len := 3) rfl (fun h57 => ?_) (fun h57 => ?_)
          · skip
            rw [if_neg (fun q => q h57)]
            refine Wp.n (pc' := 64) 1 rfl ?_
            refine Wp.if2 (tgt := 112) (len := 3) rfl (fun h64 => ?_) (fun h64 => ?_)
            · skip
              refine Wp.n (pc' := 114) 1 rfl ?_
              refine Wp.retI (len := 1) rfl rfl ?_
              have hC : (cov (S.2.1 s) i m && cov (S.2.1 t) k m) = false := by
                cases hq : (cov (S.2.1 s) i m && cov (S.2.1 t) k m) with
                | false => rfl
                | true =>
                  rw [Bool.and_eq_true] at hq
                  have q1 := of_decide_eq_true hq.1
                  have q2 := of_decide_eq_true hq.2
                  exfalso
                  first
                    | (rw [i_lt] at h64; have e : i.toInt < 0 := h64; omega)
                    | (rw [i_lt] at h69; have e : k.toInt < 0 := h69; omega)
                    | (rw [i_lt] at h74; have e : m.toInt < 0 := h74; omega)
                    | (rw [cmp_gt, add_toInt, il_toInt, nI_toInt (by omega)] at h91; omega)
                    | (have h109'' : 0 < lg_cmp (k.toInt64 + m.toInt64) (nI (S.2.1 t)).toInt64 := by
                         rw [i_lt]; rw [i_le] at h109
                         have : ¬ (lg_cmp (k.toInt64 + m.toInt64) (nI (S.2.1 t)).toInt64).toInt ≤ 0 := h109
                         show (0 : Int) < _
                         omega
                       rw [cmp_gt, add_toInt, il_toInt, nI_toInt (by omega)] at h109''
                       omega)
              rw [if_neg (by rw [hC]; decide)]
              refine ⟨rfl, kn ?_⟩
              unfold pasteC
              rw [nI_clamp (show s < 2 ^ 31 by omega), nI_clamp (show t < 2 ^ 31 by omega), Bool.and_assoc, hC, Bool.and_false]
            · skip
              refine Wp.n (pc' := 69) 1 rfl ?_
              refine Wp.if2 (tgt := 112) (len := 3) rfl (fun h69 => ?_) (fun h69 => ?_)
              · skip
                refine Wp.n (pc' := 114) 1 rfl ?_
                refine Wp.retI (len := 1) rfl rfl ?_
                have hC : (cov (S.2.1 s) i m && cov (S.2.1 t) k m) = false := by
                  cases hq : (cov (S.2.1 s) i m && cov (S.2.1 t) k m) with
                  | false => rfl
                  | true =>
                    rw [Bool.and_eq_true] at hq
                    have q1 := of_decide_eq_true hq.1
                    have q2 := of_decide_eq_true hq.2
                    exfalso
                    first
                      | (rw [i_lt] at h64; have e : i.toInt < 0 := h64; omega)
                      | (rw [i_lt] at h69; have e : k.toInt < 0 := h69; omega)
                      | (rw [i_lt] at h74; have e : m.toInt < 0 := h74; omega)
                      | (rw [cmp_gt, add_toInt, il_toInt, nI_toInt (by omega)] at h91; omega)
                      | (have h109'' : 0 < lg_cmp (k.toInt64 + m.toInt64) (nI (S.2.1 t)).toInt64 := by
                           rw [i_lt]; rw [i_le] at h109
                           have : ¬ (lg_cmp (k.toInt64 + m.toInt64) (nI (S.2.1 t)).toInt64).toInt ≤ 0 := h109
                           show (0 : Int) < _
                           omega
                         rw [cmp_gt, add_toInt, il_toInt, nI_toInt (by omega)] at h109''
                         omega)
                rw [if_neg (by rw [hC]; decide)]
                refine ⟨rfl, kn ?_⟩
                unfold pasteC
                rw [nI_clamp (show s < 2 ^ 31 by omega), nI_clamp (show t < 2 ^ 31 by omega), Bool.and_assoc, hC, Bool.and_false]
              · skip
                refine Wp.n (pc' := 74) 1 rfl ?_
                refine Wp.if2 (tgt := 112) (len := 3) rfl (fun h74 => ?_) (fun h74 => ?_)
                · skip
                  refine Wp.n (pc' := 114) 1 rfl ?_
                  refine Wp.retI (len := 1) rfl rfl ?_
                  have hC : (cov (S.2.1 s) i m && cov (S.2.1 t) k m) = false := by
                    cases hq : (cov (S.2.1 s) i m && cov (S.2.1 t) k m) with
                    | false => rfl
                    | true =>
                      rw [Bool.and_eq_true] at hq
                      have q1 := of_decide_eq_true hq.1
                      have q2 := of_decide_eq_true hq.2
                      exfalso
                      first
                        | (rw [i_lt] at h64; have e : i.toInt < 0 := h64; omega)
                        | (rw [i_lt] at h69; have e : k.toInt < 0 := h69; omega)
                        | (rw [i_lt] at h74; have e : m.toInt < 0 := h74; omega)
                        | (rw [cmp_gt, add_toInt, il_toInt, nI_toInt (by omega)] at h91; omega)
                        | (have h109'' : 0 < lg_cmp (k.toInt64 + m.toInt64) (nI (S.2.1 t)).toInt64 := by
                             rw [i_lt]; rw [i_le] at h109
                             have : ¬ (lg_cmp (k.toInt64 + m.toInt64) (nI (S.2.1 t)).toInt64).toInt ≤ 0 := h109
                             show (0 : Int) < _
                             omega
                           rw [cmp_gt, add_toInt, il_toInt, nI_toInt (by omega)] at h109''
                           omega)
                  rw [if_neg (by rw [hC]; decide)]
                  refine ⟨rfl, kn ?_⟩
                  unfold pasteC
                  rw [nI_clamp (show s < 2 ^ 31 by omega), nI_clamp (show t < 2 ^ 31 by omega), Bool.and_assoc, hC, Bool.and_false]
                · skip
                  refine Wp.n (pc' := 88) 8 rfl ?_
                  refine Wp.mialdN (j := s) (len := 1) rfl rfl rfl (by omega) ?_
                  refine Wp.top a2 ?_
                  refine Wp.n (pc' := 91) 2 rfl ?_
                  refine Wp.if4 (tgt := 112) (len := 3) rfl (fun h91 => ?_) (fun h91 => ?_)
                  · skip
                    refine Wp.n (pc' := 114) 1 rfl ?_
                    refine Wp.retI (len := 1) rfl rfl ?_
                    have hC : (cov (S.2.1 s) i m && cov (S.2.1 t) k m) = false := by
                      cases hq : (cov (S.2.1 s) i m && cov (S.2.1 t) k m) with
                      | false => rfl
                      | true =>
                        rw [Bool.and_eq_true] at hq
                        have q1 := of_decide_eq_true hq.1
                        have q2 := of_decide_eq_true hq.2
                        exfalso
                        first
                          | (rw [i_lt] at h64; have e : i.toInt < 0 := h64; omega)
                          | (rw [i_lt] at h69; have e : k.toInt < 0 := h69; omega)
                          | (rw [i_lt] at h74; have e : m.toInt < 0 := h74; omega)
                          | (rw [cmp_gt, add_toInt, il_toInt, nI_toInt (by omega)] at h91; omega)
                          | (have h109'' : 0 < lg_cmp (k.toInt64 + m.toInt64) (nI (S.2.1 t)).toInt64 := by
                               rw [i_lt]; rw [i_le] at h109
                               have : ¬ (lg_cmp (k.toInt64 + m.toInt64) (nI (S.2.1 t)).toInt64).toInt ≤ 0 := h109
                               show (0 : Int) < _
                               omega
                             rw [cmp_gt, add_toInt, il_toInt, nI_toInt (by omega)] at h109''
                             omega)
                    rw [if_neg (by rw [hC]; decide)]
                    refine ⟨rfl, kn ?_⟩
                    unfold pasteC
                    rw [nI_clamp (show s < 2 ^ 31 by omega), nI_clamp (show t < 2 ^ 31 by omega), Bool.and_assoc, hC, Bool.and_false]
                  · skip
                    refine Wp.n (pc' := 106) 8 rfl ?_
                    refine Wp.mialdN (j := t) (len := 1) rfl rfl rfl (by omega) ?_
                    refine Wp.top c2 ?_
                    refine Wp.n (pc' := 109) 2 rfl ?_
                    refine Wp.if5 (tgt := 115) (len := 3) rfl (fun h109 => ?_) (fun h109 => ?_)
                    · skip
                      have hC1 : cov (S.2.1 s) i m = true := by
                        refine decide_eq_true ?_
                        rw [cmp_gt, add_toInt, il_toInt, nI_toInt (by omega)] at h91
                        rw [i_lt] at h64 h74
                        have e1 : ¬ i.toInt < 0 := h64
                        have e2 : ¬ m.toInt < 0 := h74
                        omega
                      have hC2 : cov (S.2.1 t) k m = true := by
                        refine decide_eq_true ?_
                        rw [i_le] at h109
                        have h109' : ¬ (0 : Int) < (lg_cmp (k.toInt64 + m.toInt64) (nI (S.2.1 t)).toInt64).toInt := by have : (lg_cmp (k.toInt64 + m.toInt64) (nI (S.2.1 t)).toInt64).toInt ≤ 0 := h109; omega
                        have h109'' : ¬ 0 < lg_cmp (k.toInt64 + m.toInt64) (nI (S.2.1 t)).toInt64 := fun q => h109' (by rw [i_lt] at q; exact q)
                        rw [cmp_gt, add_toInt, il_toInt, nI_toInt (by omega)] at h109''
                        rw [i_lt] at h69 h74
                        have e1 : ¬ k.toInt < 0 := h69
                        have e2 : ¬ m.toInt < 0 := h74
                        omega
                      have hC : pasteC S (nI s) i (nI t) k m = true := by
                        unfold pasteC
                        rw [nI_clamp (show s < 2 ^ 31 by omega), nI_clamp (show t < 2 ^ 31 by omega), h9, h16, decide_eq_false h29, decide_eq_false h39, decide_eq_true h57, hC1, hC2]
                        rfl
                      rw [if_pos (by rw [hC1, hC2]; rfl), if_pos hC]
                      obtain ⟨i, m, rfl, rfl, him, hi31, hm31⟩ := cov_of hC1
                      obtain ⟨k, m', rfl, em, hkm, hk31, hm31'⟩ := cov_of hC2
                      obtain rfl : m = m' := (nI_eq hm31 hm31').mp em
                      rw [nI_clamp hi31, nI_clamp hk31, nI_clamp hm31]
                      clear kn
                      refine Wp.n (pc' := 118) 2 rfl ?_
                      have e0 : lset σ 3 (σ.2.2.2 3) = σ := by
                        unfold lset
                        rw [show va_up σ.2.2.2 3 (σ.2.2.2 3) = σ.2.2.2 from by
                          funext j
                          by_cases c : j = 3
                          · rw [c, va_up_self]
                          · rw [va_up_ne _ _ c]]
                      have w1 := m_paste_1 (d := d + 2) (M := M) (σ := σ) (s := s) (i := i) (t := t) (k := k) (m := m) (Q := fun r M' => r = some (.int 0) ∧ ∃ σ', M' = mset M σ' ∧ SM σ' (S.1, S.2.1, va_up S.2.2 t (pst (S.2.2 s) (S.2.2 t) i k m)) ∧ σ'.1 = σ.1 ∧ σ'.2.1 = σ.2.1 ∧ (∀ k, σ'.2.2.1 k = σ.2.2.1 k) ∧ (∀ k, 4 ≤ k → σ'.2.2.2 k = σ.2.2.2 k)) hs (by omega) m 0 (σ.2.2.2 3) (by omega) (fun j hj => absurd hj (Nat.not_lt_zero j)) (fun g' hg' => ?_)
                      · rw [e0] at w1
                        exact w1
                      · refine Wp.n (pc' := 155) 2 rfl ?_
                        have e2 : lset (lset σ 3 g') 2 (σ.2.2.2 2) = lset σ 3 g' := by
                          show ((lset σ 3 g').1, (lset σ 3 g').2.1, (lset σ 3 g').2.2.1, va_up (lset σ 3 g').2.2.2 2 (σ.2.2.2 2)) = _
                          rw [show va_up (lset σ 3 g').2.2.2 2 (σ.2.2.2 2) = (lset σ 3 g').2.2.2 from by
                            funext j
                            by_cases c : j = 2
                            · rw [c, va_up_self]; rfl
                            · rw [va_up_ne _ _ c]]
                        have w2 := m_paste_2 (d := d + 2) (M := M) (σ := lset σ 3 g') (s := s) (i := i) (t := t) (k := k) (m := m) ht (by omega) m 0 (σ.2.2.2 2) (by omega) (fun j hj => absurd hj (Nat.not_lt_zero j)) (fun j _ => rfl)
                        rw [e2] at w2
                        refine Wp.mono w2 ?_
                        rintro _ _ ⟨rfl, g2, rfl, g0, g1⟩
                        refine ⟨rfl, _, rfl, ⟨hS.1, fun u hu => ?_⟩, rfl, rfl, fun _ => rfl, fun q hq => ?_⟩
                        · obtain ⟨u1, u2, u3⟩ := hS.2 u hu
                          have u60 := hS.1 u hu
                          refine ⟨u1, u2, fun j hj => ?_⟩
                          have hj' : j < S.2.1 u := hj
                          rw [lset_get]
                          show g2 (60 * u + j) = va_up S.2.2 t (pst (S.2.2 s) (S.2.2 t) i k m) u j
                          by_cases c : u = t
                          · subst c
                            rw [va_up_self]
                            unfold pst
                            by_cases c2 : k ≤ j ∧ j < k + m
                            · rw [if_pos c2]
                              have q0 := g0 (j - k) (by omega)
                              rw [show 60 * u + k + (j - k) = 60 * u + j by omega] at q0
                              rw [q0, lset_get, hg' _ (by omega), show 60 * s + i + (j - k) = 60 * s + (i + (j - k)) by omega]
                              exact a3 _ (by omega)
                            · rw [if_neg c2, g1 _ (by omega)]
                              exact u3 j hj'
                          · rw [va_up_ne _ _ c, g1 _ (by omega)]
                            exact u3 j hj'
                        · show va_up (va_up σ.2.2.2 3 _) 2 _ q = _
                          rw [va_up_ne _ _ (by omega), va_up_ne _ _ (by omega)]
                    · skip
                      refine Wp.n (pc' := 114) 1 rfl ?_
                      refine Wp.retI (len := 1) rfl rfl ?_
                      have hC : (cov (S.2.1 s) i m && cov (S.2.1 t) k m) = false := by
                        cases hq : (cov (S.2.1 s) i m && cov (S.2.1 t) k m) with
                        | false => rfl
                        | true =>
                          rw [Bool.and_eq_true] at hq
                          have q1 := of_decide_eq_true hq.1
                          have q2 := of_decide_eq_true hq.2
                          exfalso
                          first
                            | (rw [i_lt] at h64; have e : i.toInt < 0 := h64; omega)
                            | (rw [i_lt] at h69; have e : k.toInt < 0 := h69; omega)
                            | (rw [i_lt] at h74; have e : m.toInt < 0 := h74; omega)
                            | (rw [cmp_gt, add_toInt, il_toInt, nI_toInt (by omega)] at h91; omega)
                            | (have h109'' : 0 < lg_cmp (k.toInt64 + m.toInt64) (nI (S.2.1 t)).toInt64 := by
                                 rw [i_lt]; rw [i_le] at h109
                                 have : ¬ (lg_cmp (k.toInt64 + m.toInt64) (nI (S.2.1 t)).toInt64).toInt ≤ 0 := h109
                                 show (0 : Int) < _
                                 omega
                               rw [cmp_gt, add_toInt, il_toInt, nI_toInt (by omega)] at h109''
                               omega)
                      rw [if_neg (by rw [hC]; decide)]
                      refine ⟨rfl, kn ?_⟩
                      unfold pasteC
                      rw [nI_clamp (show s < 2 ^ 31 by omega), nI_clamp (show t < 2 ^ 31 by omega), Bool.and_assoc, hC, Bool.and_false]
          · skip
            refine Wp.n (pc' := 62) 1 rfl ?_
            refine Wp.retI (len := 1) rfl rfl ?_
            rw [if_pos h57]
            exact ⟨rfl, kn (by unfold pasteC; rw [nI_clamp (show s < 2 ^ 31 by omega), nI_clamp (show t < 2 ^ 31 by omega), decide_eq_false h57]; simp only [Bool.and_false, Bool.false_and])⟩
        · skip
          refine Wp.n (pc' := 44) 1 rfl ?_
          refine Wp.retI (len := 1) rfl rfl ?_
          first
            | (rw [if_pos (Or.inl h29)]; exact ⟨rfl, kn (by unfold pasteC; rw [nI_clamp (show s < 2 ^ 31 by omega), decide_eq_true h29]; simp only [Bool.not_true, Bool.and_false, Bool.false_and])⟩)
            | (rw [if_pos (Or.inr h39)]; exact ⟨rfl, kn (by unfold pasteC; rw [nI_clamp (show t < 2 ^ 31 by omega), decide_eq_true h39]; simp only [Bool.not_true, Bool.and_false, Bool.false_and])⟩)
    · skip
      refine Wp.n (pc' := 21) 1 rfl ?_
      refine Wp.retI (len := 1) rfl rfl ?_
      first
        | (rw [if_neg (by rw [h9, Bool.false_and]; decide)]; exact ⟨rfl, kn (by unfold pasteC; rw [h9]; simp only [Bool.false_and])⟩)
        | (rw [if_neg (by rw [h16, Bool.and_false]; decide)]; exact ⟨rfl, kn (by unfold pasteC; rw [h16]; simp only [Bool.and_false, Bool.false_and])⟩)

end SLOT
