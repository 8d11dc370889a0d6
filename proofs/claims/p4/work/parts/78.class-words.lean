/-! WORDS and NUMBERS, the class. -/
/-- the letters of word i, and its number -/
def wch (i j : Nat) : Int32 := (sbyt.getD i []).getD j 0
def wln (i : Nat) : Nat := slen.getD i 0
def whN (f : Nat → Int32) : Nat → Nat
  | 0 => 0
  | m + 1 => 27 * whN f m + ((f m).toNatClampNeg - 96)
def wno (i : Nat) : Nat := whN (wch i) (wln i)
theorem wch_ok : ∀ i, i < 21 → wln i ≤ 12 ∧ ∀ j, j < wln i → isLt (wch i j) = true := by decide +kernel
theorem whN_inj {f g : Nat → Int32} : ∀ (m n : Nat), (∀ j, j < m → isLt (f j) = true) → (∀ j, j < n → isLt (g j) = true) → whN f m = whN g n → m = n ∧ ∀ j, j < m → f j = g j
  | 0, 0, _, _, _ => ⟨rfl, fun j hj => absurd hj (Nat.not_lt_zero _)⟩
  | 0, n + 1, _, hg, h => by
    obtain ⟨c, hc, c1, c2⟩ := lt_of (hg n (by omega))
    have h' : 0 = 27 * whN g n + ((g n).toNatClampNeg - 96) := h
    rw [hc, nI_clamp (by omega)] at h'
    omega
  | m + 1, 0, hf, _, h => by
    obtain ⟨c, hc, c1, c2⟩ := lt_of (hf m (by omega))
    have h' : 27 * whN f m + ((f m).toNatClampNeg - 96) = 0 := h
    rw [hc, nI_clamp (by omega)] at h'
    omega
  | m + 1, n + 1, hf, hg, h => by
    obtain ⟨c, hc, c1, c2⟩ := lt_of (hf m (by omega))
    obtain ⟨e, he, e1, e2⟩ := lt_of (hg n (by omega))
    have h' : 27 * whN f m + ((f m).toNatClampNeg - 96) = 27 * whN g n + ((g n).toNatClampNeg - 96) := h
    rw [hc, nI_clamp (by omega), he, nI_clamp (by omega)] at h'
    obtain ⟨q1, q2⟩ := whN_inj m n (fun j hj => hf j (by omega)) (fun j hj => hg j (by omega)) (by omega)
    subst q1
    refine ⟨rfl, fun j hj => ?_⟩
    by_cases q : j = m
    · rw [q, hc, he, show c = e by omega]
    · exact q2 j (by omega)
theorem whN_eq {f g : Nat → Int32} : ∀ (m : Nat), (∀ j, j < m → f j = g j) → whN f m = whN g m
  | 0, _ => rfl
  | m + 1, h => by
    show 27 * whN f m + ((f m).toNatClampNeg - 96) = 27 * whN g m + ((g m).toNatClampNeg - 96)
    rw [whN_eq m (fun j hj => h j (by omega)), h m (by omega)]
theorem hsN_wh {T : TP} {s : Nat} : ∀ m, hsN T s m = whN (fun j => T.2 (s + j)) m
  | 0 => rfl
  | m + 1 => by
    show 27 * hsN T s m + _ = 27 * whN (fun j => T.2 (s + j)) m + _
    rw [hsN_wh m]
/-- word i stands from a on to e -/
def wdAt (T : TP) (a e i : Nat) : Bool := decide (e - a = wln i ∧ ∀ j, j < wln i → T.2 (a + j) = wch i j)
theorem wdAt_is {T : TP} {s i : Nat} (hi : i < 21) : isW T s (wno i) = (decide (tk T s = 1) && wdAt T s (en T s) i) := by
  obtain ⟨w1, w2⟩ := wch_ok i hi
  rw [Bool.eq_iff_iff, Bool.and_eq_true]
  unfold isW wdAt
  rw [decide_eq_true_iff, decide_eq_true_iff, decide_eq_true_iff]
  constructor
  · rintro ⟨h1, h2, h3⟩
    refine ⟨h1, ?_⟩
    have e := (tk_1 h1).1
    have le := en_le (Nat.le_of_lt (tk_1 h1).2)
    rw [hsN_wh] at h3
    have hl : ∀ j, j < en T s - s → isLt ((fun j => T.2 (s + j)) j) = true := fun j hj => tn_all (p := isLt) (T := T) (s := s) (q := s + j) (by omega) (by rw [← e]; omega)
    obtain ⟨q1, q2⟩ := whN_inj _ _ hl w2 h3
    exact ⟨q1, fun j hj => q2 j (by omega)⟩
  · rintro ⟨h1, h2, h3⟩
    refine ⟨h1, by omega, ?_⟩
    rw [hsN_wh, h2]
    exact whN_eq _ h3
theorem bs7 {M : AM} {q n : Nat} {x : _} {r : List Value} (hM : M q = .inl (8, n, x)) (hr : Nat.ble r.length 4 = true) : bstep 7 (.ref q :: r) M = some (.int (nI n) :: r, M) := by
  show (match M q with | .inl (t, n, _) => bif Nat.beq t 8 && Nat.ble r.length 4 then some (Value.int (Int32.ofNat n) :: r, M) else none | .inr _ => none) = _
  rw [hM]
  show (bif Nat.beq 8 8 && Nat.ble r.length 4 then _ else none) = _
  rw [hr]
  rfl
theorem bs8 {M : AM} {q n j : Nat} {w : Nat → Int32} {r : List Value} (hM : M q = .inl (8, n, .inl w)) (hj : j < n) (hn : n < 2 ^ 31) (hr : Nat.ble r.length 4 = true) : bstep 8 (.int (nI j) :: .ref q :: r) M = some (.int (w j) :: r, M) := by
  show (match M q with | .inl (t, n, .inl f) => bif Nat.beq t 8 && ain (nI j) n && Nat.ble r.length 4 then some (Value.int (f (nI j).toNatClampNeg) :: r, M) else none | _ => none) = _
  rw [hM]
  show (bif Nat.beq 8 8 && ain (nI j) n && Nat.ble r.length 4 then _ else none) = _
  rw [hr, ain_of (vp_in_nI hj hn), nI_clamp (by omega)]
  rfl
/-- the words of the class's text -/
def HW (M : AM) : Prop := ∀ i, i < 21 → M (3 + i) = .inl (8, wln i, .inl (wch i))
section CWD
variable {d : Nat} {M : AM} {κ κ' : CS} {T : TP} {st : St} {Q : Option Value → AM → Prop}
theorem k_isW_l (hT : TC κ T) (hS : κ.2.2.2 0 = some 33) {i a e : Nat} (hi : i < 21) (hM : cset M κ (3 + i) = .inl (8, wln i, .inl (wch i))) (h5 : κ.1 2 5 = nI a) (h6 : κ.1 2 6 = nI e) (he : e ≤ T.1) (hl : e - a = wln i) (hae : a ≤ e) : ∀ (n m : Nat), a + m + n = e → (∀ j, j < m → T.2 (a + j) = wch i j) → Wp (d + 9) md_17 31 [some (.ref 35), some (.ref (3 + i)), some (.int (nI (a + m)))] [] (cset M κ) (IsR (some (.int (bI (wdAt T a e i)))) (cset M κ))
  | 0, m, hn, hp => by
    have t20 := hT.2.1
    have w : wdAt T a e i = true := decide_eq_true ⟨hl, fun j hj => hp j (by omega)⟩
    rw [w]
    refine Wp.n (pc' := 33) 2 rfl ?_
    refine Wp.get (len := 3) rfl (rfl) rfl ?_
    refine Wp.top h6 ?_
    refine Wp.nc3 (x := a + m) (y := e) (tgt := 69) (len := 3) rfl (by omega) (by omega) (fun h36 => ?_) (fun h36 => ?_)
    · skip
      refine Wp.n (pc' := 70) 1 rfl ?_
      refine Wp.retZ (len := 1) (c := true) rfl rfl rfl ?_
      exact ⟨rfl, rfl⟩
    · omega
  | n + 1, m, hn, hp => by
    have t20 := hT.2.1
    have w12 := (wch_ok i hi).1
    refine Wp.n (pc' := 33) 2 rfl ?_
    refine Wp.get (len := 3) rfl (rfl) rfl ?_
    refine Wp.top h6 ?_
    refine Wp.nc3 (x := a + m) (y := e) (tgt := 69) (len := 3) rfl (by omega) (by omega) (fun h36 => ?_) (fun h36 => ?_)
    · omega
    · skip
      refine Wp.n (pc' := 40) 1 rfl ?_
      refine Wp.get (len := 3) rfl (rfl) rfl ?_
      refine Wp.topR hS ?_
      refine Wp.get (len := 3) rfl (rfl) rfl ?_
      refine Wp.n (pc' := 47) 1 rfl ?_
      refine Wp.baldN (j := a + m) (len := 1) rfl (rfl) rfl (by omega) (by decide) ?_
      refine Wp.top (hT.2.2 (a + m) (by omega)) ?_
      refine Wp.n (pc' := 51) 3 rfl ?_
      refine Wp.get (len := 3) rfl (rfl) rfl ?_
      refine Wp.top h5 ?_
      refine Wp.isubN (x := a + m) (y := a) (len := 1) rfl (by omega) ?_
      refine Wp.bi (len := 3) rfl (by decide) (bs8 (n := wln i) (j := a + m - a) hM (by omega) (by omega) rfl) (by omega) ?_
      refine Wp.ic0 (tgt := 63) (len := 3) rfl (fun h58 => ?_) (fun h58 => ?_)
      · skip
        refine Wp.incN (x := a + m) (len := 3) rfl rfl ?_
        refine Wp.n (pc' := 31) 1 rfl ?_
        have w := k_isW_l hT hS hi hM h5 h6 he hl hae n (m + 1) (by omega) (fun j hj => by
          by_cases q : j = m
          · rw [q, h58, show a + m - a = m by omega]
          · exact hp j (by omega))
        exact w
      · skip
        refine Wp.n (pc' := 62) 1 rfl ?_
        refine Wp.retZ (len := 1) (c := false) rfl rfl rfl ?_
        have w : wdAt T a e i = false := decide_eq_false (fun z => h58 (by have := z.2 m (by omega); rw [this, show a + m - a = m by omega]))
        rw [w]
        exact ⟨rfl, rfl⟩
theorem k_isW0 (hT : TC κ T) (hS : κ.2.2.2 0 = some 33) (hW : HW M) {i a e k : Nat} (hi : i < 21) (x4 : κ.1 2 4 = nI k) (hk : k ≤ 5) (x5 : κ.1 2 5 = nI a) (x6 : κ.1 2 6 = nI e) (he : e ≤ T.1) (hae : a ≤ e) : Ev (d + 9) md_17 0 [some (.ref 35), some (.ref (3 + i)), none] [] (cset M κ) (some (.int (bI (decide (k = 1) && wdAt T a e i))), cset M κ) := by
  refine Wp.toEv ?_
  have t20 := hT.2.1
  have w12 := (wch_ok i hi).1
  have hM : cset M κ (3 + i) = .inl (8, wln i, .inl (wch i)) := (cset_o (by omega)).trans (hW i hi)
  refine Wp.n (pc' := 1) 1 rfl ?_
  refine Wp.get (len := 3) rfl (rfl) rfl ?_
  refine Wp.top x4 ?_
  refine Wp.n (pc' := 5) 1 rfl ?_
  refine Wp.nc1 (x := k) (y := 1) (tgt := 24) (len := 3) rfl (by omega) (by omega) (fun h5 => ?_) (fun h5 => ?_)
  · skip
    refine Wp.n (pc' := 25) 1 rfl ?_
    refine Wp.retZ (len := 1) (c := false) rfl rfl rfl ?_
    first
      | (rw [show decide (k = 1) = false from decide_eq_false (by omega)]; exact ⟨rfl, rfl⟩)
      | (rw [show wdAt T a e i = false from decide_eq_false (fun z => by omega), Bool.and_false]; exact ⟨rfl, rfl⟩)
  · skip
    refine Wp.n (pc' := 9) 1 rfl ?_
    refine Wp.get (len := 3) rfl (rfl) rfl ?_
    refine Wp.top x6 ?_
    refine Wp.n (pc' := 13) 1 rfl ?_
    refine Wp.get (len := 3) rfl (rfl) rfl ?_
    refine Wp.top x5 ?_
    refine Wp.isubN (x := e) (y := a) (len := 1) rfl (by omega) ?_
    refine Wp.n (pc' := 18) 1 rfl ?_
    refine Wp.bi (len := 3) rfl (by decide) (bs7 (n := wln i) hM rfl) (by omega) ?_
    refine Wp.nc0 (x := e - a) (y := wln i) (tgt := 26) (len := 3) rfl (by omega) (by omega) (fun h21 => ?_) (fun h21 => ?_)
    · skip
      refine Wp.n (pc' := 27) 1 rfl ?_
      refine Wp.get (len := 3) rfl (rfl) rfl ?_
      refine Wp.top x5 ?_
      refine Wp.n (pc' := 31) 1 rfl ?_
      rw [show decide (k = 1) = true from decide_eq_true (by omega), Bool.true_and]
      exact k_isW_l hT hS hi hM x5 x6 he (by omega) hae (e - a) 0 (by omega) (fun j hj => absurd hj (Nat.not_lt_zero _))
    · skip
      refine Wp.n (pc' := 25) 1 rfl ?_
      refine Wp.retZ (len := 1) (c := false) rfl rfl rfl ?_
      first
        | (rw [show decide (k = 1) = false from decide_eq_false (by omega)]; exact ⟨rfl, rfl⟩)
        | (rw [show wdAt T a e i = false from decide_eq_false (fun z => by omega), Bool.and_false]; exact ⟨rfl, rfl⟩)
theorem k_isWord (hT : TC κ T) (hS : κ.2.2.2 0 = some 33) (hW : HW M) (hL : LC κ T st) {i : Nat} (hi : i < 21) : ∃ c, Ev (d + 9) md_17 0 [some (.ref 35), some (.ref (3 + i)), none] [] (cset M κ) (some (.int (bI c)), cset M κ) ∧ ∀ s, st = .inr s → c = isW T s (wno i) := by
  rcases st with x | s
  · obtain ⟨_, _, _, _, a, e, k, h5, h6, hae, he, h4, hk⟩ := hL
    exact ⟨_, k_isW0 hT hS hW hi h4 hk h5 h6 he hae, fun s q => by cases q⟩
  · obtain ⟨h2, h3, h4, h5, h6, h7, hs⟩ := hL
    have t4 := tk_le (T := T) (s := s)
    have e := en_le hs
    refine ⟨_, k_isW0 hT hS hW hi h4 (by unfold ck; split <;> omega) h5 h6 e.2 e.1, fun s' q => ?_⟩
    cases q
    rw [wdAt_is hi]
    have c1 : decide (ck (tk T s) = 1) = decide (tk T s = 1) := by
      unfold ck
      by_cases c : tk T s = 4
      · rw [if_pos c, c]; rfl
      · rw [if_neg c]
    rw [c1]
theorem k_takeWord (hT : TC κ T) (hS : κ.2.2.2 0 = some 33) (hW : HW M) (hL : LC κ T st) {i : Nat} (hi : i < 21) : Wp (d + 10) md_16 0 [some (.ref 35), some (.ref (3 + i))] [] (cset M κ) (fun v M' => v = none ∧ RdC M κ T (wdS T (wno i) st) M') := by
  obtain ⟨c, hc, hs⟩ := k_isWord (d := d) hT hS hW hL hi
  refine Wp.n (pc' := 2) 2 rfl ?_
  refine Wp.ecallV (len := 3) rfl rfl rfl (rfl) rfl (by decide) rfl (hc) ?_
  refine Wp.ifb1 (tgt := 17) (len := 3) rfl (fun h5 => ?_) (fun h5 => ?_)
  · have e0 : adS T st = wdS T (wno i) st := by
      rcases st with x | s
      · rfl
      · exact (if_pos ((hs s rfl).symm.trans h5)).symm
    refine Wp.n (pc' := 18) 1 rfl ?_
    refine Wp.callV (len := 3) rfl rfl rfl (rfl) rfl (by decide) rfl (k_advance hT hS hL) ?_
    rintro _ _ ⟨rfl, κ2, rfl, f2, l2⟩
    refine Wp.retV (len := 1) rfl rfl ?_
    exact ⟨rfl, κ2, rfl, f2, e0 ▸ l2⟩
  · obtain ⟨p, hp, hy⟩ : ∃ p, p ≤ 2000 ∧ (gd st = true → κ.1 2 5 = nI p) := by
      rcases st with x | s
      · exact ⟨0, by decide, fun q => by cases q⟩
      · exact ⟨s, by have := hL.2.2.2.2.2.2; have := hT.2.1; omega, fun _ => hL.2.2.2.1⟩
    refine Wp.n (pc' := 11) 3 rfl ?_
    refine Wp.get (len := 3) rfl (rfl) rfl ?_
    refine Wp.callV (len := 3) rfl rfl rfl (rfl) rfl (by decide) rfl (k_fail (k := 1) hT hL (by decide) _ hy) ?_
    rintro _ _ ⟨rfl, κ1, rfl, f1, l1⟩
    refine Wp.n (pc' := 18) 1 rfl ?_
    have e1 : adS T (if gd st = true then .inl (1, p) else st) = wdS T (wno i) st := by
      rcases st with x | s
      · rfl
      · have ep : p = s := (nI_eq (by have := hp; omega) (by have := hL.2.2.2.2.2.2; have := hT.2.1; omega)).mp ((hy rfl).symm.trans hL.2.2.2.1)
        have nw : ¬ isW T s (wno i) = true := fun q => by rw [← hs s rfl, h5] at q; cases q
        rw [ep]
        exact (if_neg nw).symm
    refine Wp.callV (len := 3) rfl rfl rfl (rfl) rfl (by decide) rfl (k_advance (f1.tc hT) (by rw [f1.2]; exact hS) l1) ?_
    rintro _ _ ⟨rfl, κ2, rfl, f2, l2⟩
    refine Wp.retV (len := 1) rfl rfl ?_
    exact ⟨rfl, κ2, rfl, f1.t f2, e1 ▸ l2⟩
end CWD
