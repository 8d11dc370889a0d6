/-! THE CLASS: slots, the tape, images, counts, the ford. -/
section CR2
variable {d : Nat} {X : MD} {pc len : Nat} {l : AL} {st : List Value} {M : AM} {Q : Option Value → AM → Prop} {κ : CS} {v : Value}
theorem Wp.clast {j : Nat} {x : Int64} (hc : cdx X pc = some (.inr (.inl .lastore), len)) (hj : j < 240) (h : Wp d X (pc + len) l st (cset M (cq κ (vp_updL κ.2.2.1 j x))) Q) : Wp d X pc l (.long x :: .int (nI j) :: .ref 283 :: st) (cset M κ) Q := by
  refine Wp.lastN (n := 240) (f := κ.2.2.1) hc rfl hj (by decide) ?_
  have e := cset_up (M := M) (κ := κ) (κ' := cq κ (vp_updL κ.2.2.1 j x)) (s := 14) (by decide) rfl (fun i hi => cc_cq hi)
  rw [← e] at h
  exact h
theorem Wp.cbast1 {j : Nat} {x : Int32} (hc : cdx X pc = some (.inr (.inl .bastore), len)) (hj : j < 2000) (h : Wp d X (pc + len) l st (cset M (ca κ 1 (upd (κ.2.1 1) j (anar 2 x)))) Q) : Wp d X pc l (.int x :: .int (nI j) :: .ref 34 :: st) (cset M κ) Q := by
  refine Wp.bastN (t := 2) (n := 2000) (f := κ.2.1 1) hc rfl rfl hj (by decide) ?_
  have e := cset_upa (M := M) (κ := κ) (s := 1) (f := upd (κ.2.1 1) j (anar 2 x)) (by decide) rfl
  rw [← e] at h
  exact h
theorem Wp.cbast3 {j : Nat} {x : Int32} (hc : cdx X pc = some (.inr (.inl .bastore), len)) (hj : j < 3) (h : Wp d X (pc + len) l st (cset M (ca κ 3 (upd (κ.2.1 3) j (anar 3 x)))) Q) : Wp d X pc l (.int x :: .int (nI j) :: .ref 272 :: st) (cset M κ) Q := by
  refine Wp.bastN (t := 3) (n := 3) (f := κ.2.1 3) hc rfl rfl hj (by decide) ?_
  have e := cset_upa (M := M) (κ := κ) (s := 3) (f := upd (κ.2.1 3) j (anar 3 x)) (by decide) rfl
  rw [← e] at h
  exact h
theorem Wp.acopyL {sp dp m : Nat} {a b : Nat} (hc : cdx X pc = some (.inr (.inr (9, a, b, v)), len)) (hs : sp + m ≤ 240) (hp : dp + m ≤ 240) (hr : Nat.blt 4 st.length = false) (hd : 8 ≤ d) (h : Wp d X (pc + len) l st (cset M (cq κ (va_cpy κ.2.2.1 κ.2.2.1 sp dp m))) Q) : Wp d X pc l (.int (nI m) :: .int (nI dp) :: .ref 283 :: .int (nI sp) :: .ref 283 :: st) (cset M κ) Q := by
  have e := cset_up (M := M) (κ := κ) (κ' := cq κ (va_cpy κ.2.2.1 κ.2.2.1 sp dp m)) (s := 14) (by decide) rfl (fun i hi => cc_cq hi)
  rw [← e] at h
  refine Wp.bi hc (by decide) ?_ hd h
  show (bif decide (nI m < 0) || decide (nI dp < 0) || decide (nI sp < 0) || Nat.blt 4 st.length then none else (bif Nat.ble ((nI sp).toNatClampNeg + (nI m).toNatClampNeg) 240 && Nat.ble ((nI dp).toNatClampNeg + (nI m).toNatClampNeg) 240 then some (st, va_up (cset M κ) 283 (.inl (1, 240, .inr (.inl (va_cpy κ.2.2.1 κ.2.2.1 (nI sp).toNatClampNeg (nI dp).toNatClampNeg (nI m).toNatClampNeg))))) else none)) = _
  rw [decide_eq_false (nI_pos (show m < 2 ^ 31 by omega)), decide_eq_false (nI_pos (show dp < 2 ^ 31 by omega)), decide_eq_false (nI_pos (show sp < 2 ^ 31 by omega)), hr, nI_clamp (show m < 2 ^ 31 by omega), nI_clamp (show dp < 2 ^ 31 by omega), nI_clamp (show sp < 2 ^ 31 by omega), Nat.ble_eq_true_of_le hs, Nat.ble_eq_true_of_le hp]
  rfl
end CR2
def SC (κ : CS) (S : SS) : Prop := SOK S ∧ ∀ s, s < 4 → κ.2.1 16 s = S.1 s ∧ κ.2.1 15 s = nI (S.2.1 s) ∧ ∀ i, i < S.2.1 s → κ.2.2.1 (60 * s + i) = S.2.2 s i
/-- only the slots differ -/
def FZ (κ κ' : CS) : Prop := κ'.1 = κ.1 ∧ (∀ s, s ≠ 15 → s ≠ 16 → κ'.2.1 s = κ.2.1 s) ∧ κ'.2.2.2 = κ.2.2.2
theorem FZ.r {κ : CS} : FZ κ κ := ⟨rfl, fun _ _ _ => rfl, rfl⟩
section SLC
variable {d : Nat} {M : AM} {r : Nat} {K : KD} {S : SS} {T : TP} {κ κ' : CS} {Q : Option Value → AM → Prop}
theorem k_has (x : Int32) : Ev d md_50 0 [some (.ref 282), some (.int x)] [] M (some (.int (bI (isN 4 x))), M) := by
  refine Wp.toEv ?_
  refine Wp.n (pc' := 1) 1 rfl ?_
  refine Wp.if2 (tgt := 13) (len := 3) rfl (fun h1 => ?_) (fun h1 => ?_)
  · rw [i_lt] at h1
    refine Wp.n (pc' := 14) 1 rfl ?_
    refine Wp.retZ (len := 1) (c := false) rfl rfl rfl ?_
    first
      | exact ⟨by rw [show isN 4 x = true from decide_eq_true (by have e1 : ¬ x.toInt < 0 := h1; have e2 : ¬ (4 : Int) ≤ x.toInt := h6; omega)], rfl⟩
      | exact ⟨by rw [show isN 4 x = false from decide_eq_false (fun q => by have e1 : x.toInt < 0 := h1; omega)], rfl⟩
      | exact ⟨by rw [show isN 4 x = false from decide_eq_false (fun q => by have e1 : (4 : Int) ≤ x.toInt := h6; omega)], rfl⟩
  · rw [i_lt] at h1
    refine Wp.n (pc' := 6) 2 rfl ?_
    refine Wp.ic3 (tgt := 13) (len := 3) rfl (fun h6 => ?_) (fun h6 => ?_)
    · rw [i_le] at h6
      refine Wp.n (pc' := 14) 1 rfl ?_
      refine Wp.retZ (len := 1) (c := false) rfl rfl rfl ?_
      first
        | exact ⟨by rw [show isN 4 x = true from decide_eq_true (by have e1 : ¬ x.toInt < 0 := h1; have e2 : ¬ (4 : Int) ≤ x.toInt := h6; omega)], rfl⟩
        | exact ⟨by rw [show isN 4 x = false from decide_eq_false (fun q => by have e1 : x.toInt < 0 := h1; omega)], rfl⟩
        | exact ⟨by rw [show isN 4 x = false from decide_eq_false (fun q => by have e1 : (4 : Int) ≤ x.toInt := h6; omega)], rfl⟩
    · rw [i_le] at h6
      refine Wp.n (pc' := 14) 2 rfl ?_
      refine Wp.retZ (len := 1) (c := true) rfl rfl rfl ?_
      first
        | exact ⟨by rw [show isN 4 x = true from decide_eq_true (by have e1 : ¬ x.toInt < 0 := h1; have e2 : ¬ (4 : Int) ≤ x.toInt := h6; omega)], rfl⟩
        | exact ⟨by rw [show isN 4 x = false from decide_eq_false (fun q => by have e1 : x.toInt < 0 := h1; omega)], rfl⟩
        | exact ⟨by rw [show isN 4 x = false from decide_eq_false (fun q => by have e1 : (4 : Int) ≤ x.toInt := h6; omega)], rfl⟩

theorem k_isBare (hS : SC κ S) {s : Nat} (hs : s < 4) : Ev d md_51 0 [some (.ref 282), some (.int (nI s))] [] (cset M κ) (some (.int (bI (decide (S.1 s = -1)))), cset M κ) := by
  refine Wp.toEv ?_
  refine Wp.n (pc' := 1) 1 rfl ?_
  refine Wp.get (len := 3) rfl (rfl) rfl ?_
  refine Wp.n (pc' := 5) 1 rfl ?_
  refine Wp.ialdN (j := s) (len := 1) rfl (rfl) rfl (by omega) (by decide) ?_
  refine Wp.top (hS.2 s hs).1 ?_
  refine Wp.n (pc' := 7) 1 rfl ?_
  refine Wp.ic1 (tgt := 14) (len := 3) rfl (fun h7 => ?_) (fun h7 => ?_)
  · skip
    refine Wp.n (pc' := 15) 1 rfl ?_
    refine Wp.retZ (len := 1) (c := false) rfl rfl rfl ?_
    first
      | exact ⟨by rw [decide_eq_true h7], rfl⟩
      | exact ⟨by rw [decide_eq_false h7], rfl⟩
  · skip
    refine Wp.n (pc' := 15) 2 rfl ?_
    refine Wp.retZ (len := 1) (c := true) rfl rfl rfl ?_
    first
      | exact ⟨by rw [decide_eq_true h7], rfl⟩
      | exact ⟨by rw [decide_eq_false h7], rfl⟩

theorem k_valueAt (hS : SC κ S) {s i : Nat} (hs : s < 4) (hi : i < S.2.1 s) : Ev d md_52 0 [some (.ref 282), some (.int (nI s)), some (.int (nI i))] [] (cset M κ) (some (.long (S.2.2 s i)), cset M κ) := by
  refine Wp.toEv ?_
  have h60 := hS.1 s hs
  refine Wp.n (pc' := 1) 1 rfl ?_
  refine Wp.get (len := 3) rfl (rfl) rfl ?_
  refine Wp.n (pc' := 7) 2 rfl ?_
  refine Wp.imulN (x := s) (y := 60) (len := 1) rfl ?_
  refine Wp.n (pc' := 9) 1 rfl ?_
  refine Wp.iaddN (x := s * 60) (y := i) (len := 1) rfl ?_
  refine Wp.laldN (j := (s * 60) + i) (len := 1) rfl (rfl) (by omega) (by decide) ?_
  refine Wp.topL (show _ = S.2.2 s i from by rw [Nat.mul_comm s 60]; exact (hS.2 s hs).2.2 i hi) ?_
  refine Wp.retL (len := 1) rfl rfl ?_
  exact ⟨rfl, rfl⟩

theorem k_filled_l (hS : SC κ S) : ∀ (n s c : Nat), s + n = 4 → Wp (d + 1) md_53 4 [some (.ref 282), some (.int (nI c)), some (.int (nI s))] [] (cset M κ) (IsR (some (.int (nI (fld (fun c s => if S.1 s = -1 then c else c + 1) n s c)))) (cset M κ)) := by
  intro n
  induction n with
  | zero =>
    intro s c hs
    refine Wp.n (pc' := 6) 2 rfl ?_
    refine Wp.nc3 (x := s) (y := 4) (tgt := 31) (len := 3) rfl (by omega) (by omega) (fun h6 => ?_) (fun h6 => ?_)
    · skip
      refine Wp.n (pc' := 32) 1 rfl ?_
      refine Wp.retI (len := 1) rfl rfl ?_
      exact ⟨rfl, rfl⟩
    · omega
  | succ n ih =>
    intro s c hs
    show Wp _ _ _ _ _ _ (IsR (some (.int (nI (fld (fun c s => if S.1 s = -1 then c else c + 1) n (s + 1) (if S.1 s = -1 then c else c + 1))))) (cset M κ))
    refine Wp.n (pc' := 6) 2 rfl ?_
    refine Wp.nc3 (x := s) (y := 4) (tgt := 31) (len := 3) rfl (by omega) (by omega) (fun h6 => ?_) (fun h6 => ?_)
    · omega
    · skip
      refine Wp.n (pc' := 12) 3 rfl ?_
      refine Wp.ecallV (len := 3) rfl rfl rfl (rfl) rfl (by decide) rfl (k_isBare hS (by omega)) ?_
      refine Wp.ifb0 (tgt := 22) (len := 3) rfl (fun h15 => ?_) (fun h15 => ?_)
      · skip
        refine Wp.n (pc' := 23) 1 rfl ?_
        refine Wp.iaddN (x := c) (y := 1) (len := 1) rfl ?_
        refine Wp.n (pc' := 25) 1 rfl ?_
        refine Wp.incN (x := s) (len := 3) rfl rfl ?_
        refine Wp.n (pc' := 4) 1 rfl ?_
        first
          | (rw [if_pos (of_decide_eq_true h15)]; exact ih (s + 1) c (by omega))
          | (rw [if_neg (of_decide_eq_false h15)]; exact ih (s + 1) (c + 1) (by omega))
      · skip
        refine Wp.n (pc' := 23) 2 rfl ?_
        refine Wp.iaddN (x := c) (y := 0) (len := 1) rfl ?_
        refine Wp.n (pc' := 25) 1 rfl ?_
        refine Wp.incN (x := s) (len := 3) rfl rfl ?_
        refine Wp.n (pc' := 4) 1 rfl ?_
        first
          | (rw [if_pos (of_decide_eq_true h15)]; exact ih (s + 1) c (by omega))
          | (rw [if_neg (of_decide_eq_false h15)]; exact ih (s + 1) (c + 1) (by omega))

theorem k_filled (hS : SC κ S) : Ev (d + 1) md_53 0 [some (.ref 282), none, none] [] (cset M κ) (some (.int (nI (sltN S))), cset M κ) := by
  refine Wp.toEv ?_
  refine Wp.n (pc' := 4) 4 rfl ?_
  exact k_filled_l hS 4 0 0 (by decide)
theorem k_begin_l {s w m : Nat} (hs : s < 4) : ∀ (n i : Nat) (g : Nat → Int64), i + n = 60 → (∀ q, q < i → g (60 * s + q) = 0) → (∀ q, q < 60 * s ∨ 60 * s + 60 ≤ q → g q = κ.2.2.1 q) → Wp d md_54 17 [some (.ref 282), some (.int (nI s)), some (.int (nI w)), some (.int (nI m)), some (.int (nI i))] [] (cset M (cq κ g)) (fun v M' => v = none ∧ ∃ g, M' = cset M (cq κ g) ∧ (∀ q, q < 60 → g (60 * s + q) = 0) ∧ (∀ q, q < 60 * s ∨ 60 * s + 60 ≤ q → g q = κ.2.2.1 q)) := by
  intro n
  induction n with
  | zero =>
    intro i g hi h0 h1
    refine Wp.n (pc' := 21) 2 rfl ?_
    refine Wp.nc3 (x := i) (y := 60) (tgt := 43) (len := 3) rfl (by omega) (by omega) (fun h21 => ?_) (fun h21 => ?_)
    · skip
      refine Wp.retV (len := 1) rfl rfl ?_
      exact ⟨rfl, g, rfl, fun q hq => h0 q (by omega), h1⟩
    · omega
  | succ n ih =>
    intro i g hi h0 h1
    refine Wp.n (pc' := 21) 2 rfl ?_
    refine Wp.nc3 (x := i) (y := 60) (tgt := 43) (len := 3) rfl (by omega) (by omega) (fun h21 => ?_) (fun h21 => ?_)
    · omega
    · skip
      refine Wp.n (pc' := 25) 1 rfl ?_
      refine Wp.get (len := 3) rfl (rfl) rfl ?_
      refine Wp.n (pc' := 31) 2 rfl ?_
      refine Wp.imulN (x := s) (y := 60) (len := 1) rfl ?_
      refine Wp.n (pc' := 34) 1 rfl ?_
      refine Wp.iaddN (x := s * 60) (y := i) (len := 1) rfl ?_
      refine Wp.n (pc' := 36) 1 rfl ?_
      refine Wp.clast (len := 1) rfl (by omega) ?_
      refine Wp.incN (x := i) (len := 3) rfl rfl ?_
      refine Wp.n (pc' := 17) 1 rfl ?_
      refine ih (i + 1) _ (by omega) (fun q hq => ?_) (fun q hq => ?_)
      · show vp_updL g (s * 60 + i) _ (60 * s + q) = 0
        by_cases c : q = i
        · rw [c, show 60 * s + i = s * 60 + i by omega, lu_s]
        · rw [lu_n (by omega)]; exact h0 q (by omega)
      · show vp_updL g (s * 60 + i) _ q = _
        rw [lu_n (by omega)]; exact h1 q hq

theorem k_begin (hS : SC κ S) {s w m : Nat} (hs : s < 4) (hm : m ≤ 60) : Wp d md_54 0 [some (.ref 282), some (.int (nI s)), some (.int (nI w)), some (.int (nI m)), none] [] (cset M κ) (fun v M' => v = none ∧ ∃ κ', M' = cset M κ' ∧ FZ κ κ' ∧ SC κ' (upd S.1 s (nI w), va_up S.2.1 s m, va_up S.2.2 s (fun _ => 0))) := by
  refine Wp.n (pc' := 1) 1 rfl ?_
  refine Wp.get (len := 3) rfl (rfl) rfl ?_
  refine Wp.n (pc' := 6) 2 rfl ?_
  refine Wp.ciastN (s := 16) (n := 4) (j := s) (len := 1) rfl rfl rfl rfl (by omega) ?_
  refine Wp.n (pc' := 8) 1 rfl ?_
  refine Wp.get (len := 3) rfl (rfl) rfl ?_
  refine Wp.n (pc' := 13) 2 rfl ?_
  refine Wp.ciastN (s := 15) (n := 4) (j := s) (len := 1) rfl rfl rfl rfl (by omega) ?_
  refine Wp.n (pc' := 17) 2 rfl ?_
  have w0 := k_begin_l (d := d) (M := M) (κ := ca (ca κ 16 (upd (κ.2.1 16) s (nI w))) 15 (upd (κ.2.1 15) s (nI m))) (s := s) (w := w) (m := m) hs 60 0 κ.2.2.1 (by decide) (fun q hq => absurd hq (Nat.not_lt_zero q)) (fun q _ => rfl)
  refine Wp.mono w0 ?_
  rintro _ _ ⟨rfl, g, rfl, g0, g1⟩
  refine ⟨rfl, _, rfl, ⟨rfl, fun z h5 h6 => ?_, rfl⟩, fun t ht => ?_, fun t ht => ?_⟩
  · show va_up (va_up κ.2.1 16 _) 15 _ z = _
    rw [va_up_ne _ _ h5, va_up_ne _ _ h6]
  · show va_up S.2.1 s m t ≤ 60
    by_cases c : t = s
    · rw [c, va_up_self]; omega
    · rw [va_up_ne _ _ c]; exact hS.1 t ht
  · have h60 := hS.1 t ht
    obtain ⟨a1, a2, a3⟩ := hS.2 t ht
    show upd (κ.2.1 16) s (nI w) t = upd S.1 s (nI w) t ∧ upd (κ.2.1 15) s (nI m) t = nI (va_up S.2.1 s m t) ∧ ∀ i, i < va_up S.2.1 s m t → g (60 * t + i) = va_up S.2.2 s (fun _ => 0) t i
    by_cases c : t = s
    · subst c
      rw [pk_us, pk_us, pk_us, va_up_self, va_up_self]
      exact ⟨rfl, rfl, fun i hi => g0 i (by omega)⟩
    · rw [pk_un c, pk_un c, pk_un c, va_up_ne _ _ c, va_up_ne _ _ c]
      exact ⟨a1, a2, fun i hi => by rw [g1 _ (by omega)]; exact a3 i hi⟩

theorem k_cut (x : Int64) (w : Int32) : Ev d md_56 0 [some (.long x), none, some (.int w)] [] M (some (.long (cutV x w)), M) := by
  refine Wp.toEv ?_
  unfold cutV
  refine Wp.n (pc' := 1) 1 rfl ?_
  by_cases c0 : w = 0
  · subst c0
    refine Wp.sw (len := 27) (t := 28) rfl (sw_at rfl 0 rfl rfl) ?_
    rw [if_pos rfl]
    refine Wp.n (pc' := 32) 4 rfl ?_
    refine Wp.retL (len := 1) rfl rfl ?_
    exact ⟨rfl, rfl⟩
  · rw [if_neg c0]
    by_cases c1 : w = 1
    · subst c1
      refine Wp.sw (len := 27) (t := 33) rfl (sw_at rfl 1 rfl rfl) ?_
      rw [if_pos rfl]
      refine Wp.n (pc' := 37) 4 rfl ?_
      refine Wp.retL (len := 1) rfl rfl ?_
      exact ⟨rfl, rfl⟩
    · rw [if_neg c1]
      by_cases c2 : w = 2
      · subst c2
        refine Wp.sw (len := 27) (t := 38) rfl (sw_at rfl 2 rfl rfl) ?_
        rw [if_pos rfl]
        refine Wp.n (pc' := 41) 3 rfl ?_
        refine Wp.retL (len := 1) rfl rfl ?_
        exact ⟨rfl, rfl⟩
      · rw [if_neg c2]
        refine Wp.sw (len := 27) (t := 42) rfl (sw_def rfl ?_) ?_
        · rw [i_eq] at c0 c1 c2
          have d0 : ¬ w.toInt = 0 := c0
          have d1 : ¬ w.toInt = 1 := c1
          have d2 : ¬ w.toInt = 2 := c2
          by_cases z : w.toInt < 0
          · exact Or.inl z
          · refine Or.inr ?_
            show (0 : Int) + 3 ≤ w.toInt
            omega
        · refine Wp.n (pc' := 43) 1 rfl ?_
          refine Wp.retL (len := 1) rfl rfl ?_
          exact ⟨rfl, rfl⟩
theorem SC_val (hS : SC κ S) {s i : Nat} {x : Int64} (hs : s < 4) (hi : i < 60) : SC (cq κ (vp_updL κ.2.2.1 (s * 60 + i) x)) (S.1, S.2.1, va_up S.2.2 s (vp_updL (S.2.2 s) i x)) := by
  refine ⟨hS.1, fun t ht => ?_⟩
  obtain ⟨a1, a2, a3⟩ := hS.2 t ht
  have h60 := hS.1 t ht
  refine ⟨a1, a2, fun j hj => ?_⟩
  have hj' : j < S.2.1 t := hj
  show vp_updL κ.2.2.1 (s * 60 + i) x (60 * t + j) = va_up S.2.2 s (vp_updL (S.2.2 s) i x) t j
  by_cases c : t = s
  · subst c
    rw [va_up_self]
    by_cases c2 : j = i
    · rw [c2, show 60 * t + i = t * 60 + i by omega, lu_s, lu_s]
    · rw [lu_n (by omega), lu_n c2]; exact a3 j hj'
  · rw [va_up_ne _ _ c, lu_n (by omega)]; exact a3 j hj'
theorem k_put (hS : SC κ S) {s i : Nat} (hs : s < 4) (hi : i < 60) (x : Int64) : Wp (d + 1) md_55 0 [some (.ref 282), some (.int (nI s)), some (.int (nI i)), some (.long x), none] [] (cset M κ) (fun v M' => v = none ∧ ∃ κ', M' = cset M κ' ∧ FZ κ κ' ∧ SC κ' (S.1, S.2.1, va_up S.2.2 s (vp_updL (S.2.2 s) i (cutV x (S.1 s))))) := by
  refine Wp.n (pc' := 1) 1 rfl ?_
  refine Wp.get (len := 3) rfl (rfl) rfl ?_
  refine Wp.n (pc' := 7) 2 rfl ?_
  refine Wp.imulN (x := s) (y := 60) (len := 1) rfl ?_
  refine Wp.n (pc' := 9) 1 rfl ?_
  refine Wp.iaddN (x := s * 60) (y := i) (len := 1) rfl ?_
  refine Wp.n (pc' := 12) 2 rfl ?_
  refine Wp.get (len := 3) rfl (rfl) rfl ?_
  refine Wp.n (pc' := 16) 1 rfl ?_
  refine Wp.ialdN (j := s) (len := 1) rfl (rfl) rfl (by omega) (by decide) ?_
  refine Wp.top (hS.2 s hs).1 ?_
  refine Wp.ecallS (len := 3) rfl rfl rfl rfl (k_cut _ _) ?_
  refine Wp.clast (len := 1) rfl (by omega) ?_
  refine Wp.retV (len := 1) rfl rfl ?_
  exact ⟨rfl, _, rfl, ⟨rfl, fun _ _ _ => rfl, rfl⟩, SC_val hS hs hi⟩

theorem k_covers (hS : SC κ S) {s : Nat} (hs : s < 4) (i m : Int32) : Ev d md_57 0 [some (.ref 282), some (.int (nI s)), some (.int i), some (.int m)] [] (cset M κ) (some (.int (bI (cov (S.2.1 s) i m))), cset M κ) := by
  refine Wp.toEv ?_
  have h60 := hS.1 s hs
  have hsub : ¬ m.toInt < 0 → (nI (S.2.1 s) - m).toInt = (S.2.1 s : Int) - m.toInt := by
    intro hm
    have h1 := Int32.toInt_lt m
    rw [Int32.toInt_sub, nI_toInt (by omega), Int.bmod_def]
    omega
  refine Wp.n (pc' := 1) 1 rfl ?_
  refine Wp.if2 (tgt := 24) (len := 3) rfl (fun h1 => ?_) (fun h1 => ?_)
  · rw [i_lt] at h1
    refine Wp.n (pc' := 25) 1 rfl ?_
    refine Wp.retZ (len := 1) (c := false) rfl rfl rfl ?_
    first
      | exact ⟨by rw [show cov (S.2.1 s) i m = true from decide_eq_true ⟨by have e1 : ¬ i.toInt < 0 := h1; omega, by have e1 : ¬ m.toInt < 0 := h5; omega, by omega⟩], rfl⟩
      | exact ⟨by rw [show cov (S.2.1 s) i m = false from decide_eq_false (fun q => by have e1 : i.toInt < 0 := h1; omega)], rfl⟩
      | exact ⟨by rw [show cov (S.2.1 s) i m = false from decide_eq_false (fun q => by have e1 : m.toInt < 0 := h5; omega)], rfl⟩
      | exact ⟨by rw [show cov (S.2.1 s) i m = false from decide_eq_false (fun q => by omega)], rfl⟩
  · rw [i_lt] at h1
    refine Wp.n (pc' := 5) 1 rfl ?_
    refine Wp.if2 (tgt := 24) (len := 3) rfl (fun h5 => ?_) (fun h5 => ?_)
    · rw [i_lt] at h5
      refine Wp.n (pc' := 25) 1 rfl ?_
      refine Wp.retZ (len := 1) (c := false) rfl rfl rfl ?_
      first
        | exact ⟨by rw [show cov (S.2.1 s) i m = true from decide_eq_true ⟨by have e1 : ¬ i.toInt < 0 := h1; omega, by have e1 : ¬ m.toInt < 0 := h5; omega, by omega⟩], rfl⟩
        | exact ⟨by rw [show cov (S.2.1 s) i m = false from decide_eq_false (fun q => by have e1 : i.toInt < 0 := h1; omega)], rfl⟩
        | exact ⟨by rw [show cov (S.2.1 s) i m = false from decide_eq_false (fun q => by have e1 : m.toInt < 0 := h5; omega)], rfl⟩
        | exact ⟨by rw [show cov (S.2.1 s) i m = false from decide_eq_false (fun q => by omega)], rfl⟩
    · rw [i_lt] at h5
      refine Wp.n (pc' := 10) 2 rfl ?_
      refine Wp.get (len := 3) rfl (rfl) rfl ?_
      refine Wp.n (pc' := 14) 1 rfl ?_
      refine Wp.ialdN (j := s) (len := 1) rfl (rfl) rfl (by omega) (by decide) ?_
      refine Wp.top (hS.2 s hs).2.1 ?_
      refine Wp.n (pc' := 17) 2 rfl ?_
      refine Wp.ic4 (tgt := 24) (len := 3) rfl (fun h17 => ?_) (fun h17 => ?_)
      · rw [i_lt, hsub h5] at h17
        refine Wp.n (pc' := 25) 1 rfl ?_
        refine Wp.retZ (len := 1) (c := false) rfl rfl rfl ?_
        first
          | exact ⟨by rw [show cov (S.2.1 s) i m = true from decide_eq_true ⟨by have e1 : ¬ i.toInt < 0 := h1; omega, by have e1 : ¬ m.toInt < 0 := h5; omega, by omega⟩], rfl⟩
          | exact ⟨by rw [show cov (S.2.1 s) i m = false from decide_eq_false (fun q => by have e1 : i.toInt < 0 := h1; omega)], rfl⟩
          | exact ⟨by rw [show cov (S.2.1 s) i m = false from decide_eq_false (fun q => by have e1 : m.toInt < 0 := h5; omega)], rfl⟩
          | exact ⟨by rw [show cov (S.2.1 s) i m = false from decide_eq_false (fun q => by omega)], rfl⟩
      · rw [i_lt, hsub h5] at h17
        refine Wp.n (pc' := 25) 2 rfl ?_
        refine Wp.retZ (len := 1) (c := true) rfl rfl rfl ?_
        first
          | exact ⟨by rw [show cov (S.2.1 s) i m = true from decide_eq_true ⟨by have e1 : ¬ i.toInt < 0 := h1; omega, by have e1 : ¬ m.toInt < 0 := h5; omega, by omega⟩], rfl⟩
          | exact ⟨by rw [show cov (S.2.1 s) i m = false from decide_eq_false (fun q => by have e1 : i.toInt < 0 := h1; omega)], rfl⟩
          | exact ⟨by rw [show cov (S.2.1 s) i m = false from decide_eq_false (fun q => by have e1 : m.toInt < 0 := h5; omega)], rfl⟩
          | exact ⟨by rw [show cov (S.2.1 s) i m = false from decide_eq_false (fun q => by omega)], rfl⟩

theorem k_transfer (hS : SC κ S) {s i t k m : Nat} (hs : s < 4) (ht : t < 4) (hi : i + m ≤ S.2.1 s) (hk : k + m ≤ S.2.1 t) : Wp (d + 8) md_58 0 [some (.ref 282), some (.int (nI s)), some (.int (nI i)), some (.int (nI t)), some (.int (nI k)), some (.int (nI m))] [] (cset M κ) (fun v M' => v = none ∧ ∃ κ', M' = cset M κ' ∧ FZ κ κ' ∧ SC κ' (S.1, S.2.1, va_up S.2.2 t (pst (S.2.2 s) (S.2.2 t) i k m))) := by
  have s60 := hS.1 s hs
  have t60 := hS.1 t ht
  refine Wp.n (pc' := 1) 1 rfl ?_
  refine Wp.get (len := 3) rfl (rfl) rfl ?_
  refine Wp.n (pc' := 7) 2 rfl ?_
  refine Wp.imulN (x := s) (y := 60) (len := 1) rfl ?_
  refine Wp.n (pc' := 9) 1 rfl ?_
  refine Wp.iaddN (x := s * 60) (y := i) (len := 1) rfl ?_
  refine Wp.n (pc' := 11) 1 rfl ?_
  refine Wp.get (len := 3) rfl (rfl) rfl ?_
  refine Wp.n (pc' := 17) 2 rfl ?_
  refine Wp.imulN (x := t) (y := 60) (len := 1) rfl ?_
  refine Wp.n (pc' := 20) 1 rfl ?_
  refine Wp.iaddN (x := t * 60) (y := k) (len := 1) rfl ?_
  refine Wp.n (pc' := 23) 1 rfl ?_
  refine Wp.acopyL (sp := s * 60 + i) (dp := t * 60 + k) (m := m) (len := 3) rfl (by omega) (by omega) rfl (by omega) ?_
  refine Wp.retV (len := 1) rfl rfl ?_
  refine ⟨rfl, _, rfl, ⟨rfl, fun _ _ _ => rfl, rfl⟩, hS.1, fun u hu => ?_⟩
  obtain ⟨u1, u2, u3⟩ := hS.2 u hu
  have u60 := hS.1 u hu
  refine ⟨u1, u2, fun j hj => ?_⟩
  have hj' : j < S.2.1 u := hj
  show va_cpy κ.2.2.1 κ.2.2.1 (s * 60 + i) (t * 60 + k) m (60 * u + j) = va_up S.2.2 t (pst (S.2.2 s) (S.2.2 t) i k m) u j
  by_cases c : u = t
  · subst c
    rw [va_up_self]
    unfold pst
    by_cases c2 : k ≤ j ∧ j < k + m
    · rw [if_pos c2, pk_cpy_in (by omega) (by omega), show s * 60 + i + (60 * u + j - (u * 60 + k)) = 60 * s + (i + (j - k)) by omega]
      exact (hS.2 s hs).2.2 _ (by omega)
    · rw [if_neg c2, pk_cpy_out (by omega)]
      exact u3 j hj'
  · rw [va_up_ne _ _ c, pk_cpy_out (by omega)]
    exact u3 j hj'

theorem k_row (hD : HD M) (hS : SC κ S) (x w m : Int32) : Wp (d + 1) md_146 0 [some (.ref 32), some (.int x), some (.int w), some (.int m)] [] (cset M κ) (fun v M' => v = some (.int (rowA x w m)) ∧ ∃ κ', M' = cset M κ' ∧ FZ κ κ' ∧ SC κ' (rowN S x w m)) := by
  obtain ⟨ow, hDo⟩ := hD.1
  have hO : ∀ κ : CS, cset M κ 32 = .inr (9, hdl ow) := fun κ => (cset_o (by omega)).trans hDo
  unfold rowA rowN
  refine Wp.n (pc' := 1) 1 rfl ?_
  refine Wp.get (len := 3) rfl (hO _) rfl ?_
  refine Wp.n (pc' := 5) 1 rfl ?_
  refine Wp.ecallV (len := 3) rfl rfl rfl (rfl) rfl (by decide) rfl (k_has _) ?_
  refine Wp.ifb0 (tgt := 26) (len := 3) rfl (fun h8 => ?_) (fun h8 => ?_)
  · skip
    refine Wp.n (pc' := 28) 1 rfl ?_
    refine Wp.retI (len := 1) rfl rfl ?_
    first
      | (rw [if_neg (fun q => by rw [h8] at q; exact absurd q.1 (by decide)), if_neg (fun q => by rw [h8] at q; exact absurd q.1 (by decide))]; exact ⟨rfl, κ, rfl, FZ.r, hS⟩)
      | (rw [if_neg (fun q => by rw [h17] at q; exact absurd q.2.1 (by decide)), if_neg (fun q => by rw [h17] at q; exact absurd q.2.1 (by decide))]; exact ⟨rfl, κ, rfl, FZ.r, hS⟩)
      | (rw [if_neg (fun q => h23 q.2.2), if_neg (fun q => h23 q.2.2.1)]; exact ⟨rfl, κ, rfl, FZ.r, hS⟩)
  · skip
    refine Wp.n (pc' := 14) 3 rfl ?_
    refine Wp.ecallS (len := 3) rfl rfl rfl rfl (k_isWithinN (hi := 3) w (by decide)) ?_
    refine Wp.ifb0 (tgt := 26) (len := 3) rfl (fun h17 => ?_) (fun h17 => ?_)
    · skip
      refine Wp.n (pc' := 28) 1 rfl ?_
      refine Wp.retI (len := 1) rfl rfl ?_
      first
        | (rw [if_neg (fun q => by rw [h8] at q; exact absurd q.1 (by decide)), if_neg (fun q => by rw [h8] at q; exact absurd q.1 (by decide))]; exact ⟨rfl, κ, rfl, FZ.r, hS⟩)
        | (rw [if_neg (fun q => by rw [h17] at q; exact absurd q.2.1 (by decide)), if_neg (fun q => by rw [h17] at q; exact absurd q.2.1 (by decide))]; exact ⟨rfl, κ, rfl, FZ.r, hS⟩)
        | (rw [if_neg (fun q => h23 q.2.2), if_neg (fun q => h23 q.2.2.1)]; exact ⟨rfl, κ, rfl, FZ.r, hS⟩)
    · skip
      refine Wp.n (pc' := 23) 2 rfl ?_
      refine Wp.ic5 (tgt := 29) (len := 3) rfl (fun h23 => ?_) (fun h23 => ?_)
      · rw [i_le] at h23
        have hm60 : m.toInt ≤ 60 := h23
        rw [if_pos ⟨h8, h17, hm60⟩]
        refine Wp.n (pc' := 30) 1 rfl ?_
        refine Wp.if3 (tgt := 36) (len := 3) rfl (fun h30 => ?_) (fun h30 => ?_)
        · rw [i_le] at h30
          have hm0 : 0 ≤ m.toInt := h30
          obtain ⟨s, hs, rfl⟩ := isN_of h8
          obtain ⟨w, hw, rfl⟩ := isN_of h17
          obtain ⟨m, hm, rfl⟩ := nI_of (x := m) (by rw [i_lt]; intro q; have : m.toInt < 0 := q; omega)
          rw [nI_toInt hm] at hm60
          rw [if_neg (by rw [nI_toInt hm]; omega), if_pos ⟨h8, h17, by rw [nI_toInt hm]; omega, by rw [nI_toInt hm]; omega⟩, nI_clamp (by omega), nI_clamp hm]
          refine Wp.n (pc' := 37) 1 rfl ?_
          refine Wp.get (len := 3) rfl (hO _) rfl ?_
          refine Wp.n (pc' := 43) 3 rfl ?_
          refine Wp.callV (len := 3) rfl rfl rfl (rfl) rfl (by decide) rfl (k_begin hS hs (by omega)) ?_
          rintro _ _ ⟨rfl, κ2, rfl, hF, hS2⟩
          refine Wp.n (pc' := 47) 1 rfl ?_
          refine Wp.retI (len := 1) rfl rfl ?_
          exact ⟨rfl, κ2, rfl, hF, hS2⟩
        · rw [i_le] at h30
          refine Wp.n (pc' := 35) 1 rfl ?_
          refine Wp.retI (len := 1) rfl rfl ?_
          rw [if_pos (by have : ¬ (0 : Int) ≤ m.toInt := h30; omega), if_neg (fun q => h30 q.2.2.2)]
          exact ⟨rfl, κ, rfl, FZ.r, hS⟩
      · rw [i_le] at h23
        refine Wp.n (pc' := 28) 1 rfl ?_
        refine Wp.retI (len := 1) rfl rfl ?_
        first
          | (rw [if_neg (fun q => by rw [h8] at q; exact absurd q.1 (by decide)), if_neg (fun q => by rw [h8] at q; exact absurd q.1 (by decide))]; exact ⟨rfl, κ, rfl, FZ.r, hS⟩)
          | (rw [if_neg (fun q => by rw [h17] at q; exact absurd q.2.1 (by decide)), if_neg (fun q => by rw [h17] at q; exact absurd q.2.1 (by decide))]; exact ⟨rfl, κ, rfl, FZ.r, hS⟩)
          | (rw [if_neg (fun q => h23 q.2.2), if_neg (fun q => h23 q.2.2.1)]; exact ⟨rfl, κ, rfl, FZ.r, hS⟩)

theorem k_write (hD : HD M) (hS : SC κ S) (x i : Int32) (v : Int64) : Wp (d + 2) md_147 0 [some (.ref 32), some (.int x), some (.int i), some (.long v), none] [] (cset M κ) (fun r M' => r = some (.int (writeA S x i)) ∧ ∃ κ', M' = cset M κ' ∧ FZ κ κ' ∧ SC κ' (writeN S x i v)) := by
  obtain ⟨ow, hDo⟩ := hD.1
  have hO : ∀ κ : CS, cset M κ 32 = .inr (9, hdl ow) := fun κ => (cset_o (by omega)).trans hDo
  unfold writeA writeN
  refine Wp.n (pc' := 1) 1 rfl ?_
  refine Wp.get (len := 3) rfl (hO _) rfl ?_
  refine Wp.n (pc' := 5) 1 rfl ?_
  refine Wp.ecallV (len := 3) rfl rfl rfl (rfl) rfl (by decide) rfl (k_has _) ?_
  refine Wp.ifb1 (tgt := 14) (len := 3) rfl (fun h8 => ?_) (fun h8 => ?_)
  · skip
    obtain ⟨s, hs, rfl⟩ := isN_of h8
    have h60 := hS.1 s hs
    rw [if_pos h8, nI_clamp (by omega)]
    refine Wp.n (pc' := 15) 1 rfl ?_
    refine Wp.get (len := 3) rfl (hO _) rfl ?_
    refine Wp.n (pc' := 19) 1 rfl ?_
    refine Wp.ecallV (len := 3) rfl rfl rfl (rfl) rfl (by decide) rfl (k_isBare hS hs) ?_
    refine Wp.ifb0 (tgt := 28) (len := 3) rfl (fun h22 => ?_) (fun h22 => ?_)
    · skip
      have h22f := of_decide_eq_false h22
      rw [if_neg h22f]
      refine Wp.n (pc' := 29) 1 rfl ?_
      refine Wp.if2 (tgt := 45) (len := 3) rfl (fun h29 => ?_) (fun h29 => ?_)
      · rw [i_lt] at h29
        refine Wp.n (pc' := 47) 1 rfl ?_
        refine Wp.retI (len := 1) rfl rfl ?_
        have hN : ¬ isN (S.2.1 s) i = true := fun q => by
          have := of_decide_eq_true q
          first
            | (have e1 : i.toInt < 0 := h29; omega)
            | omega
        rw [if_neg hN, if_neg (fun q => hN q.2.2)]
        exact ⟨rfl, κ, rfl, FZ.r, hS⟩
      · rw [i_lt] at h29
        refine Wp.n (pc' := 34) 2 rfl ?_
        refine Wp.get (len := 3) rfl (hO _) rfl ?_
        refine Wp.get (len := 3) rfl (rfl) rfl ?_
        refine Wp.n (pc' := 41) 1 rfl ?_
        refine Wp.ialdN (j := s) (len := 1) rfl (rfl) rfl (by omega) (by decide) ?_
        refine Wp.top (hS.2 s hs).2.1 ?_
        refine Wp.ic2 (tgt := 48) (len := 3) rfl (fun h42 => ?_) (fun h42 => ?_)
        · rw [i_lt, nI_toInt (show S.2.1 s < 2 ^ 31 by omega)] at h42
          have hN : isN (S.2.1 s) i = true := decide_eq_true (by have e1 : ¬ i.toInt < 0 := h29; omega)
          obtain ⟨j, hj, rfl⟩ := isN_of hN
          rw [if_pos hN, if_pos ⟨h8, h22f, hN⟩, nI_clamp (by omega)]
          refine Wp.n (pc' := 49) 1 rfl ?_
          refine Wp.get (len := 3) rfl (hO _) rfl ?_
          refine Wp.n (pc' := 55) 3 rfl ?_
          refine Wp.callV (len := 3) rfl rfl rfl (rfl) rfl (by decide) rfl (k_put hS hs (by omega) v) ?_
          rintro _ _ ⟨rfl, κ2, rfl, hF, hS2⟩
          refine Wp.n (pc' := 59) 1 rfl ?_
          refine Wp.retI (len := 1) rfl rfl ?_
          exact ⟨rfl, κ2, rfl, hF, hS2⟩
        · rw [i_lt, nI_toInt (show S.2.1 s < 2 ^ 31 by omega)] at h42
          refine Wp.n (pc' := 47) 1 rfl ?_
          refine Wp.retI (len := 1) rfl rfl ?_
          have hN : ¬ isN (S.2.1 s) i = true := fun q => by
            have := of_decide_eq_true q
            first
              | (have e1 : i.toInt < 0 := h29; omega)
              | omega
          rw [if_neg hN, if_neg (fun q => hN q.2.2)]
          exact ⟨rfl, κ, rfl, FZ.r, hS⟩
    · skip
      refine Wp.n (pc' := 27) 1 rfl ?_
      refine Wp.retI (len := 1) rfl rfl ?_
      rw [if_pos (of_decide_eq_true h22), if_neg (fun q => q.2.1 (of_decide_eq_true h22))]
      exact ⟨rfl, κ, rfl, FZ.r, hS⟩
  · skip
    refine Wp.n (pc' := 13) 1 rfl ?_
    refine Wp.retI (len := 1) rfl rfl ?_
    rw [if_neg (by rw [h8]; decide), if_neg (fun q => by rw [h8] at q; exact absurd q.1 (by decide))]
    exact ⟨rfl, κ, rfl, FZ.r, hS⟩

theorem k_paste (hD : HD M) (hS : SC κ S) (x i t k m : Int32) : Wp (d + 9) md_148 0 [some (.ref 32), some (.int x), some (.int i), some (.int t), some (.int k), some (.int m)] [] (cset M κ) (fun r M' => r = some (.int (pasteA S x i t k m)) ∧ ∃ κ', M' = cset M κ' ∧ FZ κ κ' ∧ SC κ' (pasteN S x i t k m)) := by
  obtain ⟨ow, hDo⟩ := hD.1
  have hO : ∀ κ : CS, cset M κ 32 = .inr (9, hdl ow) := fun κ => (cset_o (by omega)).trans hDo
  unfold pasteA pasteN
  have kn : pasteC S x i t k m = false → (∃ κ', cset M κ = cset M κ' ∧ FZ κ κ' ∧ SC κ' (if pasteC S x i t k m = true then (S.1, S.2.1, va_up S.2.2 t.toNatClampNeg (pst (S.2.2 x.toNatClampNeg) (S.2.2 t.toNatClampNeg) i.toNatClampNeg k.toNatClampNeg m.toNatClampNeg)) else S)) := fun h => ⟨κ, rfl, FZ.r, by rw [if_neg (by rw [h]; decide)]; exact hS⟩
  refine Wp.n (pc' := 1) 1 rfl ?_
  refine Wp.get (len := 3) rfl (hO _) rfl ?_
  refine Wp.n (pc' := 5) 1 rfl ?_
  refine Wp.ecallV (len := 3) rfl rfl rfl (rfl) rfl (by decide) rfl (k_has _) ?_
  refine Wp.ifb0 (tgt := 22) (len := 3) rfl (fun h8 => ?_) (fun h8 => ?_)
  · skip
    refine Wp.n (pc' := 24) 1 rfl ?_
    refine Wp.retI (len := 1) rfl rfl ?_
    first
      | (rw [if_neg (by rw [h8, Bool.false_and]; decide)]; exact ⟨rfl, kn (by unfold pasteC; rw [h8]; simp only [Bool.false_and])⟩)
      | (rw [if_neg (by rw [h19, Bool.and_false]; decide)]; exact ⟨rfl, kn (by unfold pasteC; rw [h19]; simp only [Bool.and_false, Bool.false_and])⟩)
  · skip
    refine Wp.n (pc' := 12) 1 rfl ?_
    refine Wp.get (len := 3) rfl (hO _) rfl ?_
    refine Wp.n (pc' := 16) 1 rfl ?_
    refine Wp.ecallV (len := 3) rfl rfl rfl (rfl) rfl (by decide) rfl (k_has _) ?_
    refine Wp.ifb1 (tgt := 25) (len := 3) rfl (fun h19 => ?_) (fun h19 => ?_)
    · skip
      rw [if_pos (by rw [h8, h19]; rfl)]
      obtain ⟨s, hs, rfl⟩ := isN_of h8
      obtain ⟨t, ht, rfl⟩ := isN_of h19
      rw [nI_clamp (show s < 2 ^ 31 by omega), nI_clamp (show t < 2 ^ 31 by omega)] at kn ⊢
      refine Wp.n (pc' := 26) 1 rfl ?_
      refine Wp.get (len := 3) rfl (hO _) rfl ?_
      refine Wp.n (pc' := 30) 1 rfl ?_
      refine Wp.ecallV (len := 3) rfl rfl rfl (rfl) rfl (by decide) rfl (k_isBare hS hs) ?_
      refine Wp.ifb1 (tgt := 47) (len := 3) rfl (fun h33 => ?_) (fun h33 => ?_)
      · skip
        refine Wp.n (pc' := 49) 1 rfl ?_
        refine Wp.retI (len := 1) rfl rfl ?_
        first
          | (rw [if_pos (Or.inl (of_decide_eq_true h33))]; exact ⟨rfl, kn (by unfold pasteC; rw [nI_clamp (show s < 2 ^ 31 by omega), h33]; simp only [Bool.not_true, Bool.and_false, Bool.false_and])⟩)
          | (rw [if_pos (Or.inr (of_decide_eq_true h44))]; exact ⟨rfl, kn (by unfold pasteC; rw [nI_clamp (show t < 2 ^ 31 by omega), h44]; simp only [Bool.not_true, Bool.and_false, Bool.false_and])⟩)
      · skip
        refine Wp.n (pc' := 37) 1 rfl ?_
        refine Wp.get (len := 3) rfl (hO _) rfl ?_
        refine Wp.n (pc' := 41) 1 rfl ?_
        refine Wp.ecallV (len := 3) rfl rfl rfl (rfl) rfl (by decide) rfl (k_isBare hS ht) ?_
        refine Wp.ifb0 (tgt := 50) (len := 3) rfl (fun h44 => ?_) (fun h44 => ?_)
        · skip
          rw [if_neg (by rintro (q | q); exact of_decide_eq_false h33 q; exact of_decide_eq_false h44 q)]
          refine Wp.n (pc' := 51) 1 rfl ?_
          refine Wp.get (len := 3) rfl (hO _) rfl ?_
          refine Wp.get (len := 3) rfl (rfl) rfl ?_
          refine Wp.n (pc' := 58) 1 rfl ?_
          refine Wp.ialdN (j := s) (len := 1) rfl (rfl) rfl (by omega) (by decide) ?_
          refine Wp.top (hS.2 s hs).1 ?_
          refine Wp.n (pc' := 60) 1 rfl ?_
          refine Wp.get (len := 3) rfl (hO _) rfl ?_
          refine Wp.get (len := 3) rfl (rfl) rfl ?_
          refine Wp.n (pc' := 67) 1 rfl ?_
          refine Wp.ialdN (j := t) (len := 1) rfl (rfl) rfl (by omega) (by decide) ?_
          refine Wp.top (hS.2 t ht).1 ?_
          refine Wp.ic0 (tgt := 74) (len := 3) rfl (fun h68 => ?_) (fun h68 => ?_)
          · skip
            rw [if_neg (fun q => q h68)]
            refine Wp.n (pc' := 75) 1 rfl ?_
            refine Wp.get (len := 3) rfl (hO _) rfl ?_
            refine Wp.n (pc' := 82) 3 rfl ?_
            refine Wp.ecallV (len := 3) rfl rfl rfl (rfl) rfl (by decide) rfl (k_covers hS hs i m) ?_
            refine Wp.ifb0 (tgt := 103) (len := 3) rfl (fun h85 => ?_) (fun h85 => ?_)
            · skip
              refine Wp.n (pc' := 105) 1 rfl ?_
              refine Wp.retI (len := 1) rfl rfl ?_
              have hC : (cov (S.2.1 s) i m && cov (S.2.1 t) k m) = false := by first | (rw [h85]; rfl) | (rw [h100, Bool.and_false])
              rw [if_neg (by rw [hC]; decide)]
              refine ⟨rfl, kn ?_⟩
              unfold pasteC
              rw [nI_clamp (show s < 2 ^ 31 by omega), nI_clamp (show t < 2 ^ 31 by omega), Bool.and_assoc, hC, Bool.and_false]
            · skip
              refine Wp.n (pc' := 89) 1 rfl ?_
              refine Wp.get (len := 3) rfl (hO _) rfl ?_
              refine Wp.n (pc' := 97) 3 rfl ?_
              refine Wp.ecallV (len := 3) rfl rfl rfl (rfl) rfl (by decide) rfl (k_covers hS ht k m) ?_
              refine Wp.ifb1 (tgt := 106) (len := 3) rfl (fun h100 => ?_) (fun h100 => ?_)
              · skip
                have hC : pasteC S (nI s) i (nI t) k m = true := by
                  unfold pasteC
                  rw [nI_clamp (show s < 2 ^ 31 by omega), nI_clamp (show t < 2 ^ 31 by omega), h8, h19, h33, h44, decide_eq_true h68, h85, h100]
                  rfl
                rw [if_pos (by rw [h85, h100]; rfl), if_pos hC]
                obtain ⟨i, m, rfl, rfl, him, hi31, hm31⟩ := cov_of h85
                obtain ⟨k, m', rfl, em, hkm, hk31, hm31'⟩ := cov_of h100
                obtain rfl : m = m' := (nI_eq hm31 hm31').mp em
                rw [nI_clamp hi31, nI_clamp hk31, nI_clamp hm31]
                clear kn
                refine Wp.n (pc' := 107) 1 rfl ?_
                refine Wp.get (len := 3) rfl (hO _) rfl ?_
                refine Wp.n (pc' := 117) 5 rfl ?_
                refine Wp.callV (len := 3) rfl rfl rfl (rfl) rfl (by decide) rfl (k_transfer hS hs ht him hkm) ?_
                rintro _ _ ⟨rfl, κ2, rfl, hF, hS2⟩
                refine Wp.n (pc' := 121) 1 rfl ?_
                refine Wp.retI (len := 1) rfl rfl ?_
                exact ⟨rfl, κ2, rfl, hF, hS2⟩
              · skip
                refine Wp.n (pc' := 105) 1 rfl ?_
                refine Wp.retI (len := 1) rfl rfl ?_
                have hC : (cov (S.2.1 s) i m && cov (S.2.1 t) k m) = false := by first | (rw [h85]; rfl) | (rw [h100, Bool.and_false])
                rw [if_neg (by rw [hC]; decide)]
                refine ⟨rfl, kn ?_⟩
                unfold pasteC
                rw [nI_clamp (show s < 2 ^ 31 by omega), nI_clamp (show t < 2 ^ 31 by omega), Bool.and_assoc, hC, Bool.and_false]
          · skip
            refine Wp.n (pc' := 73) 1 rfl ?_
            refine Wp.retI (len := 1) rfl rfl ?_
            rw [if_pos h68]
            exact ⟨rfl, kn (by unfold pasteC; rw [nI_clamp (show s < 2 ^ 31 by omega), nI_clamp (show t < 2 ^ 31 by omega), decide_eq_false h68]; simp only [Bool.and_false, Bool.false_and])⟩
        · skip
          refine Wp.n (pc' := 49) 1 rfl ?_
          refine Wp.retI (len := 1) rfl rfl ?_
          first
            | (rw [if_pos (Or.inl (of_decide_eq_true h33))]; exact ⟨rfl, kn (by unfold pasteC; rw [nI_clamp (show s < 2 ^ 31 by omega), h33]; simp only [Bool.not_true, Bool.and_false, Bool.false_and])⟩)
            | (rw [if_pos (Or.inr (of_decide_eq_true h44))]; exact ⟨rfl, kn (by unfold pasteC; rw [nI_clamp (show t < 2 ^ 31 by omega), h44]; simp only [Bool.not_true, Bool.and_false, Bool.false_and])⟩)
    · skip
      refine Wp.n (pc' := 24) 1 rfl ?_
      refine Wp.retI (len := 1) rfl rfl ?_
      first
        | (rw [if_neg (by rw [h8, Bool.false_and]; decide)]; exact ⟨rfl, kn (by unfold pasteC; rw [h8]; simp only [Bool.false_and])⟩)
        | (rw [if_neg (by rw [h19, Bool.and_false]; decide)]; exact ⟨rfl, kn (by unfold pasteC; rw [h19]; simp only [Bool.and_false, Bool.false_and])⟩)

def TC (κ : CS) (T : TP) : Prop := κ.1 0 1 = nI T.1 ∧ T.1 ≤ 2000 ∧ ∀ i, i < T.1 → κ.2.1 1 i = T.2 i
def FT (κ κ' : CS) : Prop := (∀ s, s ≠ 0 → κ'.1 s = κ.1 s) ∧ (∀ s, s ≠ 1 → κ'.2.1 s = κ.2.1 s) ∧ κ'.2.2 = κ.2.2
theorem FT.refl {κ : CS} : FT κ κ := ⟨fun _ _ => rfl, fun _ _ => rfl, rfl⟩
theorem FT.t {κ κ' κ'' : CS} (h : FT κ κ') (h' : FT κ' κ'') : FT κ κ'' := ⟨fun s hs => (h'.1 s hs).trans (h.1 s hs), fun s hs => (h'.2.1 s hs).trans (h.2.1 s hs), h'.2.2.trans h.2.2⟩
theorem k_app_1 (hT : TC κ T) (h2 : T.1 < 2000) {v k : Int32} (hk : ¬ k < 0) (kk : ∀ κ', FT κ κ' → TC κ' (tpb T v k) → Wp d md_61 3 [some (.ref 33), some (.int v), some (.int (k + (-8)))] [] (cset M κ') Q) : Wp d md_61 3 [some (.ref 33), some (.int v), some (.int k)] [] (cset M κ) Q := by
  refine Wp.n (pc' := 4) 1 rfl ?_
  refine Wp.if2 (tgt := 46) (len := 3) rfl (fun h4 => ?_) (fun h4 => ?_)
  · exact absurd h4 hk
  · skip
    refine Wp.n (pc' := 8) 1 rfl ?_
    refine Wp.get (len := 3) rfl (rfl) rfl ?_
    refine Wp.top hT.1 ?_
    refine Wp.n (pc' := 14) 1 rfl ?_
    refine Wp.nc3 (x := T.1) (y := 2000) (tgt := 40) (len := 3) rfl (by omega) (by omega) (fun h14 => ?_) (fun h14 => ?_)
    · omega
    · skip
      refine Wp.n (pc' := 18) 1 rfl ?_
      refine Wp.get (len := 3) rfl (rfl) rfl ?_
      refine Wp.n (pc' := 22) 1 rfl ?_
      refine Wp.get (len := 3) rfl (rfl) rfl ?_
      refine Wp.top hT.1 ?_
      refine Wp.n (pc' := 29) 4 rfl ?_
      refine Wp.cbast1 (len := 1) rfl h2 ?_
      refine Wp.n (pc' := 32) 2 rfl ?_
      refine Wp.get (len := 3) rfl (rfl) rfl ?_
      refine Wp.top hT.1 ?_
      refine Wp.n (pc' := 36) 1 rfl ?_
      refine Wp.iaddN (x := T.1) (y := 1) (len := 1) rfl ?_
      refine Wp.cput0 (len := 3) rfl ?_
      refine Wp.n (pc' := 3) 2 rfl ?_
      refine kk _ ⟨fun s hs => va_up_ne _ _ hs, fun s hs => va_up_ne _ _ hs, rfl⟩ ⟨rfl, h2, fun i hi => ?_⟩
      show (ca κ 1 (upd (κ.2.1 1) T.1 (byt v k))).2.1 1 i = upd T.2 T.1 (byt v k) i
      rw [ca_get]
      have hi' : i < T.1 + 1 := hi
      by_cases c : i = T.1
      · rw [c, pk_us, pk_us]
      · rw [pk_un c, pk_un c]; exact hT.2.2 i (by omega)

theorem k_append (hT : TC κ T) (h4 : T.1 + 4 ≤ 2000) (v : Int32) : Wp d md_61 0 [some (.ref 33), some (.int v), none] [] (cset M κ) (fun r M' => r = none ∧ ∃ κ', M' = cset M κ' ∧ FT κ κ' ∧ TC κ' (tp4 T v)) := by
  refine Wp.n (pc' := 3) 2 rfl ?_
  refine k_app_1 hT (by omega) (by decide) (fun σ1 f1 t1 => ?_)
  refine k_app_1 (k := 16) t1 (show T.1 + 1 < 2000 by omega) (by decide) (fun σ2 f2 t2 => ?_)
  refine k_app_1 (k := 8) t2 (show T.1 + 1 + 1 < 2000 by omega) (by decide) (fun σ3 f3 t3 => ?_)
  refine k_app_1 (k := 0) t3 (show T.1 + 1 + 1 + 1 < 2000 by omega) (by decide) (fun σ4 f4 t4 => ?_)
  refine Wp.n (pc' := 4) 1 rfl ?_
  refine Wp.if2 (tgt := 46) (len := 3) rfl (fun h => ?_) (fun h => absurd h (by decide))
  refine Wp.retV (len := 1) rfl rfl ?_
  exact ⟨rfl, σ4, rfl, ((f1.t f2).t f3).t f4, t4⟩
theorem k_hasRoom (hT : TC κ T) : Ev d md_60 0 [some (.ref 33)] [] (cset M κ) (some (.int (bI (decide (T.1 + 20 ≤ 2000)))), cset M κ) := by
  refine Wp.toEv ?_
  have h2 := hT.2.1
  refine Wp.n (pc' := 1) 1 rfl ?_
  refine Wp.get (len := 3) rfl (rfl) rfl ?_
  refine Wp.top hT.1 ?_
  refine Wp.n (pc' := 6) 1 rfl ?_
  refine Wp.iaddN (x := T.1) (y := 20) (len := 1) rfl ?_
  refine Wp.n (pc' := 10) 1 rfl ?_
  refine Wp.nc4 (x := (T.1) + 20) (y := 2000) (tgt := 17) (len := 3) rfl (by omega) (by omega) (fun h10 => ?_) (fun h10 => ?_)
  · skip
    refine Wp.n (pc' := 18) 1 rfl ?_
    refine Wp.retZ (len := 1) (c := false) rfl rfl rfl ?_
    first
      | exact ⟨by rw [decide_eq_true (show T.1 + 20 ≤ 2000 by omega)], rfl⟩
      | exact ⟨by rw [decide_eq_false (show ¬ T.1 + 20 ≤ 2000 by omega)], rfl⟩
  · skip
    refine Wp.n (pc' := 18) 2 rfl ?_
    refine Wp.retZ (len := 1) (c := true) rfl rfl rfl ?_
    first
      | exact ⟨by rw [decide_eq_true (show T.1 + 20 ≤ 2000 by omega)], rfl⟩
      | exact ⟨by rw [decide_eq_false (show ¬ T.1 + 20 ≤ 2000 by omega)], rfl⟩

theorem k_feed (hD : HD M) (hT : TC κ T) (a b c e f : Int32) : Wp (d + 1) md_88 0 [some (.ref 32), some (.int a), some (.int b), some (.int c), some (.int e), some (.int f)] [] (cset M κ) (fun r M' => r = some (.int (feedA T)) ∧ ∃ κ', M' = cset M κ' ∧ FT κ κ' ∧ TC κ' (feedN T a b c e f)) := by
  obtain ⟨ow, hDo⟩ := hD.1
  have hO : ∀ κ : CS, cset M κ 32 = .inr (9, hdl ow) := fun κ => (cset_o (by omega)).trans hDo
  unfold feedA feedN
  refine Wp.n (pc' := 1) 1 rfl ?_
  refine Wp.get (len := 3) rfl (hO _) rfl ?_
  refine Wp.ecallV (len := 3) rfl rfl rfl (rfl) rfl (by decide) rfl (k_hasRoom hT) ?_
  refine Wp.ifb1 (tgt := 12) (len := 3) rfl (fun h7 => ?_) (fun h7 => ?_)
  · skip
    have h7t := of_decide_eq_true h7
    rw [if_pos h7t, if_pos h7t]
    refine Wp.n (pc' := 13) 1 rfl ?_
    refine Wp.get (len := 3) rfl (hO _) rfl ?_
    refine Wp.n (pc' := 17) 1 rfl ?_
    refine Wp.callV (len := 3) rfl rfl rfl (rfl) rfl (by decide) rfl (k_append hT (by omega) a) ?_
    rintro _ _ ⟨rfl, σ1, rfl, f1, t1⟩
    refine Wp.n (pc' := 21) 1 rfl ?_
    refine Wp.get (len := 3) rfl (hO _) rfl ?_
    refine Wp.n (pc' := 25) 1 rfl ?_
    refine Wp.callV (len := 3) rfl rfl rfl (rfl) rfl (by decide) rfl (k_append t1 (show T.1 + 1 + 1 + 1 + 1 + 4 ≤ 2000 by omega) b) ?_
    rintro _ _ ⟨rfl, σ2, rfl, f2, t2⟩
    refine Wp.n (pc' := 29) 1 rfl ?_
    refine Wp.get (len := 3) rfl (hO _) rfl ?_
    refine Wp.n (pc' := 33) 1 rfl ?_
    refine Wp.callV (len := 3) rfl rfl rfl (rfl) rfl (by decide) rfl (k_append t2 (show T.1 + 1 + 1 + 1 + 1 + 1 + 1 + 1 + 1 + 4 ≤ 2000 by omega) c) ?_
    rintro _ _ ⟨rfl, σ3, rfl, f3, t3⟩
    refine Wp.n (pc' := 37) 1 rfl ?_
    refine Wp.get (len := 3) rfl (hO _) rfl ?_
    refine Wp.n (pc' := 42) 1 rfl ?_
    refine Wp.callV (len := 3) rfl rfl rfl (rfl) rfl (by decide) rfl (k_append t3 (show T.1 + 1 + 1 + 1 + 1 + 1 + 1 + 1 + 1 + 1 + 1 + 1 + 1 + 4 ≤ 2000 by omega) e) ?_
    rintro _ _ ⟨rfl, σ4, rfl, f4, t4⟩
    refine Wp.n (pc' := 46) 1 rfl ?_
    refine Wp.get (len := 3) rfl (hO _) rfl ?_
    refine Wp.n (pc' := 51) 1 rfl ?_
    refine Wp.callV (len := 3) rfl rfl rfl (rfl) rfl (by decide) rfl (k_append t4 (show T.1 + 1 + 1 + 1 + 1 + 1 + 1 + 1 + 1 + 1 + 1 + 1 + 1 + 1 + 1 + 1 + 1 + 4 ≤ 2000 by omega) f) ?_
    rintro _ _ ⟨rfl, σ5, rfl, f5, t5⟩
    refine Wp.n (pc' := 55) 1 rfl ?_
    refine Wp.get (len := 3) rfl (hO _) rfl ?_
    refine Wp.get (len := 3) rfl (rfl) rfl ?_
    refine Wp.top t5.1 ?_
    refine Wp.retI (len := 1) rfl rfl ?_
    exact ⟨rfl, σ5, rfl, (((f1.t f2).t f3).t f4).t f5, t5⟩
  · skip
    refine Wp.n (pc' := 11) 1 rfl ?_
    refine Wp.retI (len := 1) rfl rfl ?_
    have h7f := of_decide_eq_false h7
    rw [if_neg h7f, if_neg h7f]
    exact ⟨rfl, κ, rfl, FT.refl, hT⟩

theorem k_end (hD : HD M) (hT : TC κ T) (x : Int32) : Wp (d + 1) md_89 0 [some (.ref 32), some (.int x)] [] (cset M κ) (fun r M' => r = some (.int (endA T x)) ∧ ∃ κ', M' = cset M κ' ∧ FT κ κ' ∧ TC κ' (endN T x)) := by
  obtain ⟨ow, hDo⟩ := hD.1
  have hO : ∀ κ : CS, cset M κ 32 = .inr (9, hdl ow) := fun κ => (cset_o (by omega)).trans hDo
  have t20 := hT.2.1
  unfold endA endN
  refine Wp.n (pc' := 1) 1 rfl ?_
  refine Wp.if2 (tgt := 15) (len := 3) rfl (fun h1 => ?_) (fun h1 => ?_)
  · rw [i_lt] at h1
    refine Wp.n (pc' := 16) 1 rfl ?_
    refine Wp.retI (len := 1) rfl rfl ?_
    have hN : ¬ isN (T.1 + 1) x = true := fun q => by
      have := of_decide_eq_true q
      first
        | (have e1 : x.toInt < 0 := h1; omega)
        | omega
    rw [if_neg hN, if_neg hN]
    exact ⟨rfl, κ, rfl, FT.refl, hT⟩
  · rw [i_lt] at h1
    refine Wp.n (pc' := 6) 2 rfl ?_
    refine Wp.get (len := 3) rfl (hO _) rfl ?_
    refine Wp.get (len := 3) rfl (rfl) rfl ?_
    refine Wp.top hT.1 ?_
    refine Wp.ic5 (tgt := 17) (len := 3) rfl (fun h12 => ?_) (fun h12 => ?_)
    · rw [i_le, nI_toInt (show T.1 < 2 ^ 31 by omega)] at h12
      have hN : isN (T.1 + 1) x = true := decide_eq_true (by have e1 : ¬ x.toInt < 0 := h1; omega)
      obtain ⟨m, hm, rfl⟩ := isN_of hN
      rw [if_pos hN, if_pos hN, nI_clamp (by omega)]
      refine Wp.n (pc' := 18) 1 rfl ?_
      refine Wp.get (len := 3) rfl (hO _) rfl ?_
      refine Wp.n (pc' := 22) 1 rfl ?_
      refine Wp.cput0 (len := 3) rfl ?_
      refine Wp.n (pc' := 26) 1 rfl ?_
      refine Wp.retI (len := 1) rfl rfl ?_
      exact ⟨rfl, _, rfl, ⟨fun s hs => va_up_ne _ _ hs, fun _ _ => rfl, rfl⟩, rfl, (by show m ≤ 2000; omega), fun i hi => hT.2.2 i (by have : i < m := hi; omega)⟩
    · rw [i_le, nI_toInt (show T.1 < 2 ^ 31 by omega)] at h12
      refine Wp.n (pc' := 16) 1 rfl ?_
      refine Wp.retI (len := 1) rfl rfl ?_
      have hN : ¬ isN (T.1 + 1) x = true := fun q => by
        have := of_decide_eq_true q
        first
          | (have e1 : x.toInt < 0 := h1; omega)
          | omega
      rw [if_neg hN, if_neg hN]
      exact ⟨rfl, κ, rfl, FT.refl, hT⟩

def FCl (κ : CS) (f : Nat × Option Nat) : Prop := κ.1 2 2 = nI f.1 ∧ κ.1 2 3 = oI f.2
theorem k_fault (hD : HD M) {f : Nat × Option Nat} (hF : FCl κ f) (x : Int32) : Ev d md_92 0 [some (.ref 32), some (.int x)] [] (cset M κ) (some (.int (faultA f x)), cset M κ) := by
  obtain ⟨ow, hDo⟩ := hD.1
  have hO : ∀ κ : CS, cset M κ 32 = .inr (9, hdl ow) := fun κ => (cset_o (by omega)).trans hDo
  refine Wp.toEv ?_
  unfold faultA
  refine Wp.n (pc' := 1) 1 rfl ?_
  by_cases c0 : x = 0
  · subst c0
    refine Wp.sw (len := 27) (t := 28) rfl (sw_at rfl 0 rfl rfl) ?_
    rw [if_pos rfl]
    refine Wp.n (pc' := 29) 1 rfl ?_
    refine Wp.get (len := 3) rfl (hO _) rfl ?_
    refine Wp.get (len := 3) rfl (rfl) rfl ?_
    refine Wp.top hF.1 ?_
    refine Wp.retI (len := 1) rfl rfl ?_
    exact ⟨rfl, rfl⟩
  · rw [if_neg c0]
    by_cases c1 : x = 1
    · subst c1
      refine Wp.sw (len := 27) (t := 36) rfl (sw_at rfl 1 rfl rfl) ?_
      rw [if_pos rfl]
      refine Wp.n (pc' := 37) 1 rfl ?_
      refine Wp.get (len := 3) rfl (hO _) rfl ?_
      refine Wp.get (len := 3) rfl (rfl) rfl ?_
      refine Wp.top hF.2 ?_
      refine Wp.retI (len := 1) rfl rfl ?_
      exact ⟨rfl, rfl⟩
    · rw [if_neg c1]
      refine Wp.sw (len := 27) (t := 44) rfl (sw_def rfl ?_) ?_
      · rw [i_eq] at c0 c1
        have d0 : ¬ x.toInt = 0 := c0
        have d1 : ¬ x.toInt = 1 := c1
        by_cases z : x.toInt < 0
        · exact Or.inl z
        · refine Or.inr ?_
          show (0 : Int) + 2 ≤ x.toInt
          omega
      · refine Wp.n (pc' := 45) 1 rfl ?_
        refine Wp.retI (len := 1) rfl rfl ?_
        exact ⟨rfl, rfl⟩
theorem k_count (hD : HD M) (hk : RK M 36 K) (h11 : kh K 11 = 0) (hS : SC κ S) (hT : TC κ T) (x : Int32) : Ev (d + 2) md_143 0 [some (.ref 32), some (.int x)] [] (cset M κ) (some (.int (countA K S T x)), cset M κ) := by
  obtain ⟨ρ, hR, hK, hDC, ok, hr1, hr2⟩ := id hk
  obtain ⟨b0, b1, b2, b3, b4, b5, b6, b7, b8, b9, b10, b11, b12⟩ := ok_h ok
  obtain ⟨ow, hDo⟩ := hD.1
  have hO : ∀ κ : CS, cset M κ 32 = .inr (9, hdl ow) := fun κ => (cset_o (by omega)).trans hDo
  have hRc : ∀ κ : CS, RA (cset M κ) 36 ρ := fun κ => RA_c hR hr1 hr2
  refine Wp.toEv ?_
  unfold countA
  refine Wp.n (pc' := 1) 1 rfl ?_
  by_cases h : isN 9 x = true
  · rw [if_pos h]
    obtain ⟨k, hk9, rfl⟩ := isN_of h
    rw [nI_clamp (by omega)]
    have ex : (nI k).toInt = (0 : Int) + k := by rw [nI_toInt (by omega)]; omega
    match k, hk9, ex with

    | 0, _, ex =>
      refine Wp.sw (len := 51) (t := 52) rfl (sw_at rfl 0 ex rfl) ?_
      refine Wp.n (pc' := 53) 1 rfl ?_
      refine Wp.get (len := 3) rfl (hO _) rfl ?_
      refine Wp.get (len := 3) rfl (ra_obj (hRc _)) rfl ?_
      refine Wp.top (rc_pl hK) ?_
      refine Wp.retI (len := 1) rfl rfl ?_
      exact ⟨rfl, rfl⟩
    | 1, _, ex =>
      refine Wp.sw (len := 51) (t := 60) rfl (sw_at rfl 1 ex rfl) ?_
      refine Wp.n (pc' := 61) 1 rfl ?_
      refine Wp.get (len := 3) rfl (hO _) rfl ?_
      refine Wp.get (len := 3) rfl (ra_obj (hRc _)) rfl ?_
      refine Wp.top (rc_dy hK) ?_
      refine Wp.retI (len := 1) rfl rfl ?_
      exact ⟨rfl, rfl⟩
    | 2, _, ex =>
      refine Wp.sw (len := 51) (t := 68) rfl (sw_at rfl 2 ex rfl) ?_
      refine Wp.n (pc' := 69) 1 rfl ?_
      refine Wp.get (len := 3) rfl (hO _) rfl ?_
      refine Wp.get (len := 3) rfl (ra_obj (hRc _)) rfl ?_
      refine Wp.top (rc_rd hK) ?_
      refine Wp.retI (len := 1) rfl rfl ?_
      exact ⟨rfl, rfl⟩
    | 3, _, ex =>
      refine Wp.sw (len := 51) (t := 76) rfl (sw_at rfl 3 ex rfl) ?_
      refine Wp.n (pc' := 77) 1 rfl ?_
      refine Wp.get (len := 3) rfl (hO _) rfl ?_
      refine Wp.get (len := 3) rfl (ra_obj (hRc _)) rfl ?_
      refine Wp.top (show _ = nI (kh K 3) from by rw [show rhd ρ 8 = _ from rc_la hK, h11, Nat.add_zero]) ?_
      refine Wp.retI (len := 1) rfl rfl ?_
      exact ⟨rfl, rfl⟩
    | 4, _, ex =>
      refine Wp.sw (len := 51) (t := 84) rfl (sw_at rfl 4 ex rfl) ?_
      refine Wp.n (pc' := 85) 1 rfl ?_
      refine Wp.get (len := 3) rfl (hO _) rfl ?_
      refine Wp.get (len := 3) rfl (ra_obj (hRc _)) rfl ?_
      refine Wp.top (rc_wk hK) ?_
      refine Wp.retI (len := 1) rfl rfl ?_
      exact ⟨rfl, rfl⟩
    | 5, _, ex =>
      refine Wp.sw (len := 51) (t := 92) rfl (sw_at rfl 5 ex rfl) ?_
      refine Wp.n (pc' := 93) 1 rfl ?_
      refine Wp.get (len := 3) rfl (hO _) rfl ?_
      refine Wp.get (len := 3) rfl (ra_obj (hRc _)) rfl ?_
      refine Wp.top (rc_fl hK) ?_
      refine Wp.ecallS (len := 3) rfl rfl rfl rfl (j_bitCount (by omega)) ?_
      refine Wp.retI (len := 1) rfl rfl ?_
      exact ⟨by rw [pop4_fld b12]; rfl, rfl⟩
    | 6, _, ex =>
      refine Wp.sw (len := 51) (t := 103) rfl (sw_at rfl 6 ex rfl) ?_
      refine Wp.n (pc' := 104) 1 rfl ?_
      refine Wp.get (len := 3) rfl (hO _) rfl ?_
      refine Wp.get (len := 3) rfl (ra_obj (hRc _)) rfl ?_
      refine Wp.top (rc_ln hK) ?_
      refine Wp.retI (len := 1) rfl rfl ?_
      exact ⟨rfl, rfl⟩
    | 7, _, ex =>
      refine Wp.sw (len := 51) (t := 111) rfl (sw_at rfl 7 ex rfl) ?_
      refine Wp.n (pc' := 112) 1 rfl ?_
      refine Wp.get (len := 3) rfl (hO _) rfl ?_
      refine Wp.get (len := 3) rfl (rfl) rfl ?_
      refine Wp.top hT.1 ?_
      refine Wp.retI (len := 1) rfl rfl ?_
      exact ⟨rfl, rfl⟩
    | 8, _, ex =>
      refine Wp.sw (len := 51) (t := 119) rfl (sw_at rfl 8 ex rfl) ?_
      refine Wp.n (pc' := 120) 1 rfl ?_
      refine Wp.get (len := 3) rfl (hO _) rfl ?_
      refine Wp.ecallV (len := 3) rfl rfl rfl (rfl) rfl (by decide) rfl (k_filled hS) ?_
      refine Wp.retI (len := 1) rfl rfl ?_
      exact ⟨rfl, rfl⟩
  · rw [if_neg h]
    refine Wp.sw (len := 51) (t := 127) rfl (sw_def rfl ?_) ?_
    · by_cases c : x.toInt < 0
      · exact Or.inl c
      · refine Or.inr ?_
        show (0 : Int) + 9 ≤ x.toInt
        by_cases c2 : x.toInt < 9
        · exact absurd (isN_f c c2) h
        · omega
    · refine Wp.n (pc' := 128) 1 rfl ?_
      refine Wp.retI (len := 1) rfl rfl ?_
      exact ⟨rfl, rfl⟩
theorem frd_eq (ok : KOK K) (h11 : kh K 11 = 0) {w : Nat} (hw : w < kh K 4) {c : Nat → Int64} : frdP K c w = decide (List.foldl (cnt1 K (kw K w 4) (kw K w (3 + kw K w 3)) (kw K w 2) (kw K w 1) (c w)) 0 (allW K (kw K w 2) (kw K w 4) (kw K w (3 + kw K w 3))) = 0) := by
  obtain ⟨p0, p1, p2, p3, p4⟩ := walk_b ok hw
  unfold frdP
  by_cases z : (c w).toInt < 0 ∨ 2000000000 < (c w).toInt
  · rw [decide_eq_true (show _ ∨ _ ∨ _ from by rcases z with z | z; exact Or.inl z; exact Or.inr (Or.inl z)), cnt_out ok p0 p3 (fun m hm e => ?_)]
    · rfl
    · rw [← e, l_toInt (by omega)] at z
      omega
  · obtain ⟨v, e1, e2, e3⟩ := l_of (x := c w) (by omega)
    have hE := owe_eq (K := K) (t := kw K w (3 + kw K w 3)) (y := kw K w 2) (load := kw K w 1) (dn := v) ok h11 p0 p3 (by omega)
    rw [e1, l_toInt e3, Int.toNat_natCast, ← hE.1]
    rw [e1, l_toInt e3] at z
    by_cases c0 : (finP K 3 w v).1 = 0
    · rw [decide_eq_true (Or.inr (Or.inr c0)), decide_eq_true (show (fin K 3 _ _ _ _ v).1 = 0 from c0)]
    · rw [decide_eq_false (fun q => by rcases q with q | q | q; omega; omega; exact c0 q)]
      exact (decide_eq_false c0).symm
theorem k_ford_l (hD : HD M) (hk : RK M 36 K) (h11 : kh K 11 = 0) {s : Nat} (hs : s < 4) (hn : S.2.1 s = kh K 4) : ∀ (n w : Nat) (κ2 : CS), w + n = kh K 4 → ScC κ κ2 → SC κ2 S → Wp (d + 13) md_139 62 [some (.ref 32), some (.int (nI s)), some (.int (nI w))] [] (cset M κ2) (RCI M κ (oI (fnd (frdP K (S.2.2 s)) n w))) := by
  obtain ⟨ρ, hR, hK, hDC, ok, hr1, hr2⟩ := id hk
  obtain ⟨b0, b1, b2, b3, b4, b5, b6, b7, b8, b9, b10, b11, b12⟩ := ok_h ok
  obtain ⟨ow, hDo⟩ := hD.1
  have hO : ∀ κ : CS, cset M κ 32 = .inr (9, hdl ow) := fun κ => (cset_o (by omega)).trans hDo
  have hRc : ∀ κ : CS, RA (cset M κ) 36 ρ := fun κ => RA_c hR hr1 hr2
  intro n
  induction n with
  | zero =>
    intro w κ2 hw hC hS
    refine Wp.n (pc' := 64) 2 rfl ?_
    refine Wp.get (len := 3) rfl (hO _) rfl ?_
    refine Wp.get (len := 3) rfl (ra_obj (hRc _)) rfl ?_
    refine Wp.top (rc_wk hK) ?_
    refine Wp.nc3 (x := w) (y := kh K 4) (tgt := 109) (len := 3) rfl (by omega) (by omega) (fun h70 => ?_) (fun h70 => ?_)
    · skip
      refine Wp.n (pc' := 110) 1 rfl ?_
      refine Wp.retI (len := 1) rfl rfl ?_
      exact RCI_s hC rfl
    · omega
  | succ n ih =>
    intro w κ2 hw hC hS
    obtain ⟨p0, p1, p2, p3, p4⟩ := walk_b ok (w := w) (by omega)
    have hcl := cnt_le (K := K) (a := kw K w 4) (t := kw K w (3 + kw K w 3)) (y := kw K w 2) (load := kw K w 1) (v := S.2.2 s w)
    rw [show fnd (frdP K (S.2.2 s)) (n + 1) w = if frdP K (S.2.2 s) w = true then some w else fnd (frdP K (S.2.2 s)) n (w + 1) from rfl, frd_eq ok h11 (by omega)]
    refine Wp.n (pc' := 64) 2 rfl ?_
    refine Wp.get (len := 3) rfl (hO _) rfl ?_
    refine Wp.get (len := 3) rfl (ra_obj (hRc _)) rfl ?_
    refine Wp.top (rc_wk hK) ?_
    refine Wp.nc3 (x := w) (y := kh K 4) (tgt := 109) (len := 3) rfl (by omega) (by omega) (fun h70 => ?_) (fun h70 => ?_)
    · omega
    · skip
      refine Wp.n (pc' := 75) 2 rfl ?_
      refine Wp.get (len := 3) rfl (hO _) rfl ?_
      refine Wp.n (pc' := 79) 1 rfl ?_
      refine Wp.callV (len := 3) rfl rfl rfl (hO _) rfl (by decide) rfl (k_findForWalk hD hk (w := w) (by omega)) ?_
      rintro _ _ ⟨rfl, κ3, rfl, hS3, hW⟩
      have hSC3 : SC κ3 S := ⟨hS.1, fun t ht => by
        obtain ⟨q1, q2, q3⟩ := hS.2 t ht
        rw [hS3.2.1 16 rfl, hS3.2.1 15 rfl, hS3.2.2.2]
        exact ⟨q1, q2, q3⟩⟩
      refine Wp.n (pc' := 83) 1 rfl ?_
      refine Wp.get (len := 3) rfl (hO _) rfl ?_
      refine Wp.n (pc' := 87) 1 rfl ?_
      refine Wp.get (len := 3) rfl (hO _) rfl ?_
      refine Wp.n (pc' := 92) 2 rfl ?_
      refine Wp.ecallV (len := 3) rfl rfl rfl (rfl) rfl (by decide) rfl (k_valueAt hSC3 hs (i := w) (by omega)) ?_
      refine Wp.ecallV (len := 3) rfl rfl rfl (rfl) rfl (by decide) rfl (t_count hk p0 p2 p3 hW p4 (S.2.2 s w)) ?_
      refine Wp.nz1 (x := List.foldl (cnt1 K (kw K w 4) (kw K w (3 + kw K w 3)) (kw K w 2) (kw K w 1) (S.2.2 s w)) 0 (allW K (kw K w 2) (kw K w 4) (kw K w (3 + kw K w 3)))) (tgt := 103) (len := 3) rfl (by omega) (fun h98 => ?_) (fun h98 => ?_)
      · skip
        refine Wp.incN (x := w) (len := 3) rfl rfl ?_
        refine Wp.n (pc' := 62) 1 rfl ?_
        rw [if_neg (by rw [decide_eq_true_iff]; exact h98)]
        exact ih (w + 1) κ3 (by omega) (ScC_t hC hS3) hSC3
      · skip
        refine Wp.n (pc' := 102) 1 rfl ?_
        refine Wp.retI (len := 1) rfl rfl ?_
        rw [if_pos (decide_eq_true h98)]
        exact RCI_s (ScC_t hC hS3) rfl

theorem k_ford (hD : HD M) (hk : RK M 36 K) (h11 : kh K 11 = 0) (hS : SC κ S) (x : Int32) : Wp (d + 13) md_139 0 [some (.ref 32), some (.int x), none] [] (cset M κ) (RCI M κ (fordA K S x)) := by
  obtain ⟨ρ, hR, hK, hDC, ok, hr1, hr2⟩ := id hk
  obtain ⟨b0, b1, b2, b3, b4, b5, b6, b7, b8, b9, b10, b11, b12⟩ := ok_h ok
  obtain ⟨ow, hDo⟩ := hD.1
  have hO : ∀ κ : CS, cset M κ 32 = .inr (9, hdl ow) := fun κ => (cset_o (by omega)).trans hDo
  have hRc : ∀ κ : CS, RA (cset M κ) 36 ρ := fun κ => RA_c hR hr1 hr2
  unfold fordA
  refine Wp.n (pc' := 1) 1 rfl ?_
  refine Wp.get (len := 3) rfl (hO _) rfl ?_
  refine Wp.ecallV (len := 3) rfl rfl rfl (ra_obj (hRc _)) rfl (by decide) rfl (k_exists (RK_c hk)) ?_
  refine Wp.ifb0 (tgt := 21) (len := 3) rfl (fun h7 => ?_) (fun h7 => ?_)
  · skip
    refine Wp.n (pc' := 23) 1 rfl ?_
    refine Wp.retI (len := 1) rfl rfl ?_
    first
      | (rw [if_neg (fun q => of_decide_eq_false h7 q.2)]; exact RCI_r rfl)
      | (rw [if_neg (fun q => by rw [h18] at q; exact absurd q.1 (by decide))]; exact RCI_r rfl)
  · skip
    refine Wp.n (pc' := 11) 1 rfl ?_
    refine Wp.get (len := 3) rfl (hO _) rfl ?_
    refine Wp.n (pc' := 15) 1 rfl ?_
    refine Wp.ecallV (len := 3) rfl rfl rfl (rfl) rfl (by decide) rfl (k_has _) ?_
    refine Wp.ifb1 (tgt := 24) (len := 3) rfl (fun h18 => ?_) (fun h18 => ?_)
    · skip
      obtain ⟨s, hs, rfl⟩ := isN_of h18
      have s60 := hS.1 s hs
      rw [if_pos ⟨h18, of_decide_eq_true h7⟩, nI_clamp (by omega)]
      refine Wp.n (pc' := 25) 1 rfl ?_
      refine Wp.get (len := 3) rfl (hO _) rfl ?_
      refine Wp.n (pc' := 29) 1 rfl ?_
      refine Wp.ecallV (len := 3) rfl rfl rfl (rfl) rfl (by decide) rfl (k_isBare hS hs) ?_
      refine Wp.ifb0 (tgt := 38) (len := 3) rfl (fun h32 => ?_) (fun h32 => ?_)
      · skip
        rw [if_neg (of_decide_eq_false h32)]
        refine Wp.n (pc' := 39) 1 rfl ?_
        refine Wp.get (len := 3) rfl (hO _) rfl ?_
        refine Wp.get (len := 3) rfl (rfl) rfl ?_
        refine Wp.n (pc' := 46) 1 rfl ?_
        refine Wp.ialdN (j := s) (len := 1) rfl (rfl) rfl (by omega) (by decide) ?_
        refine Wp.top (hS.2 s hs).2.1 ?_
        refine Wp.n (pc' := 48) 1 rfl ?_
        refine Wp.get (len := 3) rfl (hO _) rfl ?_
        refine Wp.get (len := 3) rfl (ra_obj (hRc _)) rfl ?_
        refine Wp.top (rc_wk hK) ?_
        refine Wp.nc0 (x := S.2.1 s) (y := kh K 4) (tgt := 60) (len := 3) rfl (by omega) (by omega) (fun h54 => ?_) (fun h54 => ?_)
        · skip
          rw [if_neg (fun q => q h54)]
          refine Wp.n (pc' := 62) 2 rfl ?_
          exact k_ford_l hD hk h11 hs h54 (kh K 4) 0 κ (by omega) ScC_r hS
        · skip
          refine Wp.n (pc' := 59) 1 rfl ?_
          refine Wp.retI (len := 1) rfl rfl ?_
          rw [if_pos h54]
          exact RCI_r rfl
      · skip
        refine Wp.n (pc' := 37) 1 rfl ?_
        refine Wp.retI (len := 1) rfl rfl ?_
        rw [if_pos (of_decide_eq_true h32)]
        exact RCI_r rfl
    · skip
      refine Wp.n (pc' := 23) 1 rfl ?_
      refine Wp.retI (len := 1) rfl rfl ?_
      first
        | (rw [if_neg (fun q => of_decide_eq_false h7 q.2)]; exact RCI_r rfl)
        | (rw [if_neg (fun q => by rw [h18] at q; exact absurd q.1 (by decide))]; exact RCI_r rfl)

end SLC
