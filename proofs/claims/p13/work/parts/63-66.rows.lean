section
/-! HOW MANY BITS: the JDK's bitCount. -/
theorem and_split {y m b k : Nat} (hb : b < 256) (hk : k < 256) : (256 * y + b) &&& (256 * m + k) = 256 * (y &&& m) + (b &&& k) := by
  have hbk : b &&& k < 256 := Nat.lt_of_le_of_lt Nat.and_le_left hb
  apply Nat.eq_of_testBit_eq
  intro i
  rw [Nat.testBit_and, show (256 : Nat) = 2 ^ 8 from rfl, Nat.testBit_two_pow_mul_add _ hb, Nat.testBit_two_pow_mul_add _ hk, Nat.testBit_two_pow_mul_add _ hbk, Nat.testBit_and]
  by_cases c : i < 8
  · rw [if_pos c, if_pos c, if_pos c]
  · rw [if_neg c, if_neg c, if_neg c]
    exact (Nat.testBit_and _ _ _).symm
def sA (m x : Nat) : Nat := x - (x / 2 &&& m)
def sB (m x : Nat) : Nat := (x &&& m) + (x / 4 &&& m)
def sC (m x : Nat) : Nat := (x + x / 16) &&& m
theorem tA : ∀ b, b < 256 → ∀ q, q < 2 → ((128 * q + b / 2) &&& 85) = (b / 2 &&& 85) := by decide +kernel
theorem tB : ∀ b, b < 256 → ∀ q, q < 4 → ((64 * q + b / 4) &&& 51) = (b / 4 &&& 51) := by decide +kernel
theorem tT : ∀ x, x < 256 → sA 85 x < 256 ∧ sB 51 (sA 85 x) ≤ 68 ∧ sB 51 (sA 85 x) % 16 ≤ 4 ∧ sC 15 (sB 51 (sA 85 x)) = pop x := by decide +kernel
theorem LA8 {y m b : Nat} (hb : b < 256) : sA (256 * m + 85) (256 * y + b) = 256 * sA m y + sA 85 b := by
  unfold sA
  have e : (256 * y + b) / 2 = 256 * (y / 2) + (128 * (y % 2) + b / 2) := by omega
  have h1 : 128 * (y % 2) + b / 2 < 256 := by omega
  rw [e, and_split h1 (by decide), tA b hb (y % 2) (Nat.mod_lt _ (by decide))]
  have h2 : y / 2 &&& m ≤ y / 2 := Nat.and_le_left
  have h3 : b / 2 &&& 85 ≤ b / 2 := Nat.and_le_left
  omega
theorem LB8 {y m b : Nat} (hb : b < 256) : sB (256 * m + 51) (256 * y + b) = 256 * sB m y + sB 51 b := by
  unfold sB
  have e : (256 * y + b) / 4 = 256 * (y / 4) + (64 * (y % 4) + b / 4) := by omega
  have h1 : 64 * (y % 4) + b / 4 < 256 := by omega
  rw [e, and_split h1 (by decide), and_split hb (by decide), tB b hb (y % 4) (Nat.mod_lt _ (by decide))]
  omega
theorem LC8 {y m b : Nat} (hb : b ≤ 68) (hy : y % 16 ≤ 4) : sC (256 * m + 15) (256 * y + b) = 256 * sC m y + sC 15 b := by
  unfold sC
  have e : 256 * y + b + (256 * y + b) / 16 = 256 * (y + y / 16) + (b + 16 * (y % 16) + b / 16) := by omega
  have h1 : b + 16 * (y % 16) + b / 16 < 256 := by omega
  rw [e, and_split h1 (by decide)]
  have e2 : (b + 16 * (y % 16) + b / 16) &&& 15 = (b + b / 16) &&& 15 := by
    rw [show (15 : Nat) = 2 ^ 4 - 1 from rfl, Nat.and_two_pow_sub_one_eq_mod, Nat.and_two_pow_sub_one_eq_mod]
    omega
  rw [e2]
def pop4 (x : Nat) : Nat := pop (x % 256) + pop (x / 256 % 256) + pop (x / 65536 % 256) + pop (x / 16777216)
theorem swar {x : Nat} (hx : x < 4294967296) : sA 1431655765 x < 4294967296 ∧ sB 858993459 (sA 1431655765 x) < 4294967296 ∧ sC 252645135 (sB 858993459 (sA 1431655765 x)) = 256 * (256 * (256 * pop (x / 16777216) + pop (x / 65536 % 256)) + pop (x / 256 % 256)) + pop (x % 256) := by
  obtain ⟨x0, h0⟩ : ∃ z, x % 256 = z := ⟨_, rfl⟩
  obtain ⟨x1, h1⟩ : ∃ z, x / 256 % 256 = z := ⟨_, rfl⟩
  obtain ⟨x2, h2⟩ : ∃ z, x / 65536 % 256 = z := ⟨_, rfl⟩
  obtain ⟨x3, h3⟩ : ∃ z, x / 16777216 = z := ⟨_, rfl⟩
  have ex : x = 256 * (256 * (256 * x3 + x2) + x1) + x0 := by omega
  rw [h0, h1, h2, h3]
  obtain ⟨a0, p0, q0, r0⟩ := tT x0 (by omega)
  obtain ⟨a1, p1, q1, r1⟩ := tT x1 (by omega)
  obtain ⟨a2, p2, q2, r2⟩ := tT x2 (by omega)
  obtain ⟨a3, p3, q3, r3⟩ := tT x3 (by omega)
  have eA : sA 1431655765 x = 256 * (256 * (256 * sA 85 x3 + sA 85 x2) + sA 85 x1) + sA 85 x0 := by
    rw [ex, show (1431655765 : Nat) = 256 * (256 * (256 * 85 + 85) + 85) + 85 from rfl, LA8 (by omega), LA8 (by omega), LA8 (by omega)]
  have eB : sB 858993459 (sA 1431655765 x) = 256 * (256 * (256 * sB 51 (sA 85 x3) + sB 51 (sA 85 x2)) + sB 51 (sA 85 x1)) + sB 51 (sA 85 x0) := by
    rw [eA, show (858993459 : Nat) = 256 * (256 * (256 * 51 + 51) + 51) + 51 from rfl, LB8 a0, LB8 a1, LB8 a2]
  refine ⟨by omega, by omega, ?_⟩
  rw [eB, show (252645135 : Nat) = 256 * (256 * (256 * 15 + 15) + 15) + 15 from rfl, LC8 p0 (by omega), LC8 p1 (by omega), LC8 p2 q3, r0, r1, r2, r3]
section BITC
variable {d : Nat} {M : AM}
theorem us_k : ∀ k, k < 32 → (((nI k).toUInt32 &&& Int32.toUInt32 31).toBitVec % 32).toNat = k := by decide +kernel
theorem n_ushr {n k : Nat} (hk : k < 32) (hn : n < 2 ^ 32) : ((nI n).toUInt32 >>> ((nI k).toUInt32 &&& Int32.toUInt32 31)).toInt32 = nI (n / 2 ^ k) := pk_ushrN hn _ k (us_k k hk)
theorem j_bitCount {x : Nat} (hx : x < 2 ^ 31) : Ev d md_264 0 [some (.int (nI x))] [] M (some (.int (nI (pop4 x))), M) := by
  obtain ⟨hA, hB, hC⟩ := swar (x := x) (by omega)
  have hp : ∀ z, pop z ≤ 8 := fun z => pop_b
  have g0 := hp (x % 256)
  have g1 := hp (x / 256 % 256)
  have g2 := hp (x / 65536 % 256)
  have g3 := hp (x / 16777216)
  refine Wp.toEv ?_
  refine Wp.n (pc' := 4) 4 rfl ?_
  refine Wp.top (n_ushr (n := x) (k := 1) (by decide) (by omega)) ?_
  refine Wp.n (pc' := 8) 2 rfl ?_
  refine Wp.top (n_and (x / 2 ^ 1) 1431655765) ?_
  refine Wp.isubN (x := x) (y := x / 2 ^ 1 &&& 1431655765) (len := 1) rfl (Nat.le_trans Nat.and_le_left (Nat.div_le_self _ _)) ?_
  refine Wp.n (pc' := 15) 4 rfl ?_
  refine Wp.top (n_and (sA 1431655765 x) 858993459) ?_
  refine Wp.n (pc' := 18) 3 rfl ?_
  refine Wp.top (n_ushr (n := sA 1431655765 x) (k := 2) (by decide) (by omega)) ?_
  refine Wp.n (pc' := 22) 2 rfl ?_
  refine Wp.top (n_and (sA 1431655765 x / 2 ^ 2) 858993459) ?_
  refine Wp.iaddN (x := sA 1431655765 x &&& 858993459) (y := sA 1431655765 x / 2 ^ 2 &&& 858993459) (len := 1) rfl ?_
  refine Wp.n (pc' := 28) 5 rfl ?_
  refine Wp.top (n_ushr (n := sB 858993459 (sA 1431655765 x)) (k := 4) (by decide) (by omega)) ?_
  refine Wp.iaddN (x := sB 858993459 (sA 1431655765 x)) (y := sB 858993459 (sA 1431655765 x) / 2 ^ 4) (len := 1) rfl ?_
  refine Wp.n (pc' := 33) 2 rfl ?_
  refine Wp.top (show _ = nI (sC 252645135 (sB 858993459 (sA 1431655765 x))) from n_and _ _) ?_
  rw [hC]
  obtain ⟨c, hc⟩ : ∃ c, 256 * (256 * (256 * pop (x / 16777216) + pop (x / 65536 % 256)) + pop (x / 256 % 256)) + pop (x % 256) = c := ⟨_, rfl⟩
  rw [hc]
  refine Wp.n (pc' := 39) 5 rfl ?_
  refine Wp.top (n_ushr (n := c) (k := 8) (by decide) (by omega)) ?_
  refine Wp.iaddN (x := c) (y := c / 2 ^ 8) (len := 1) rfl ?_
  refine Wp.n (pc' := 46) 5 rfl ?_
  refine Wp.top (n_ushr (n := c + c / 2 ^ 8) (k := 16) (by decide) (by omega)) ?_
  refine Wp.iaddN (x := c + c / 2 ^ 8) (y := (c + c / 2 ^ 8) / 2 ^ 16) (len := 1) rfl ?_
  refine Wp.n (pc' := 52) 4 rfl ?_
  refine Wp.retI (len := 1) rfl rfl ?_
  refine ⟨?_, rfl⟩
  rw [show (63 : Int32) = nI 63 from rfl, n_and, show (63 : Nat) = 2 ^ 6 - 1 from rfl, Nat.and_two_pow_sub_one_eq_mod]
  have e : (c + c / 2 ^ 8 + (c + c / 2 ^ 8) / 2 ^ 16) % 2 ^ 6 = pop4 x := by
    unfold pop4
    obtain ⟨p0, e0⟩ : ∃ z, pop (x % 256) = z := ⟨_, rfl⟩
    obtain ⟨p1, e1⟩ : ∃ z, pop (x / 256 % 256) = z := ⟨_, rfl⟩
    obtain ⟨p2, e2⟩ : ∃ z, pop (x / 65536 % 256) = z := ⟨_, rfl⟩
    obtain ⟨p3, e3⟩ : ∃ z, pop (x / 16777216) = z := ⟨_, rfl⟩
    rw [e0, e1, e2, e3] at hc
    rw [e0] at g0
    rw [e1] at g1
    rw [e2] at g2
    rw [e3] at g3
    rw [e0, e1, e2, e3]
    have f1 : c / 2 ^ 8 = 256 * (256 * p3 + p2) + p1 := by
      rw [← hc, show (2 : Nat) ^ 8 = 256 from rfl]
      omega
    have f2 : (c + c / 2 ^ 8) / 2 ^ 16 = 256 * p3 + (p2 + p3) := by
      rw [f1, ← hc, show (2 : Nat) ^ 16 = 65536 from rfl]
      omega
    rw [f2, f1, ← hc, show (2 : Nat) ^ 6 = 64 from rfl]
    omega
  rw [e]
theorem pop4_8 {x : Nat} (hx : x < 256) : pop4 x = pop x := by
  unfold pop4
  rw [show x % 256 = x by omega, show x / 256 % 256 = 0 by omega, show x / 65536 % 256 = 0 by omega, show x / 16777216 = 0 by omega]
  rfl
theorem tbn (F y : Nat) : (F.testBit y).toNat = F / 2 ^ y % 2 := by
  rw [Nat.testBit_eq_decide_div_mod_eq]
  have : F / 2 ^ y % 2 < 2 := Nat.mod_lt _ (by decide)
  by_cases h : F / 2 ^ y % 2 = 1
  · rw [h]; rfl
  · rw [decide_eq_false h]
    show 0 = _
    omega
theorem pop_tb (v : Nat) : pop v = (v.testBit 0).toNat + (v.testBit 1).toNat + (v.testBit 2).toNat + (v.testBit 3).toNat + (v.testBit 4).toNat + (v.testBit 5).toNat + (v.testBit 6).toNat + (v.testBit 7).toNat := by
  unfold pop
  rw [tbn, tbn, tbn, tbn, tbn, tbn, tbn, tbn]
  show _ = v / 1 % 2 + v / 2 % 2 + v / 4 % 2 + v / 8 % 2 + v / 16 % 2 + v / 32 % 2 + v / 64 % 2 + v / 128 % 2
  rw [Nat.div_one]
theorem pop_sh (F k : Nat) : pop (F / 2 ^ k % 2 ^ 8) = (F.testBit (k + 0)).toNat + (F.testBit (k + 1)).toNat + (F.testBit (k + 2)).toNat + (F.testBit (k + 3)).toNat + (F.testBit (k + 4)).toNat + (F.testBit (k + 5)).toNat + (F.testBit (k + 6)).toNat + (F.testBit (k + 7)).toNat := by
  have e : ∀ i, i < 8 → (F / 2 ^ k % 2 ^ 8).testBit i = F.testBit (k + i) := by
    intro i hi
    rw [Nat.testBit_mod_two_pow, decide_eq_true hi, Bool.true_and, Nat.testBit_div_two_pow, Nat.add_comm]
  rw [pop_tb, e 0 (by decide), e 1 (by decide), e 2 (by decide), e 3 (by decide), e 4 (by decide), e 5 (by decide), e 6 (by decide), e 7 (by decide)]
theorem pop4_fld {F : Nat} (hF : F < 2 ^ 30) : pop4 F = fldN F := by
  have h0 := pop_sh F 0
  have h1 := pop_sh F 8
  have h2 := pop_sh F 16
  have h3 := pop_sh F 24
  have z30 : F.testBit (24 + 6) = false := Nat.testBit_lt_two_pow (by omega)
  have z31 : F.testBit (24 + 7) = false := Nat.testBit_lt_two_pow (by omega)
  rw [z30, z31] at h3
  have e3 : F / 2 ^ 24 % 2 ^ 8 = F / 16777216 := by omega
  have e0 : F / 2 ^ 0 % 2 ^ 8 = F % 256 := by omega
  rw [e3] at h3
  rw [e0] at h0
  have hf : fldN F = 0 + (F.testBit 0).toNat + (F.testBit 1).toNat + (F.testBit 2).toNat + (F.testBit 3).toNat + (F.testBit 4).toNat + (F.testBit 5).toNat + (F.testBit 6).toNat + (F.testBit 7).toNat + (F.testBit 8).toNat + (F.testBit 9).toNat + (F.testBit 10).toNat + (F.testBit 11).toNat + (F.testBit 12).toNat + (F.testBit 13).toNat + (F.testBit 14).toNat + (F.testBit 15).toNat + (F.testBit 16).toNat + (F.testBit 17).toNat + (F.testBit 18).toNat + (F.testBit 19).toNat + (F.testBit 20).toNat + (F.testBit 21).toNat + (F.testBit 22).toNat + (F.testBit 23).toNat + (F.testBit 24).toNat + (F.testBit 25).toNat + (F.testBit 26).toNat + (F.testBit 27).toNat + (F.testBit 28).toNat + (F.testBit 29).toNat := rfl
  rw [hf]
  unfold pop4
  rw [h0, h3, show F / 256 % 256 = F / 2 ^ 8 % 2 ^ 8 from rfl, h1, show F / 65536 % 256 = F / 2 ^ 16 % 2 ^ 8 from rfl, h2]
  simp only [Nat.zero_add, Bool.toNat_false, Nat.add_zero, Nat.reduceAdd]
  omega
end BITC
end
section
/-! THE CLASS: watchers, the law, slots, the tape, images, counts. -/
section WATCH
variable {d : Nat} {M : AM} {r : Nat} {K : KD} {κ κ' : CS} {Q : Option Value → AM → Prop}
/-- the class's object and its row of owing lanes, over M -/
def wmm (M : AM) (ow : Int32) (f : Nat → Int32) : AM := fun q => if q = 32 then .inr (9, hdl ow) else if q = 286 then .inl (0, 10, .inl f) else M q
theorem wmm_ne {ow : Int32} {f : Nat → Int32} {q : Nat} (h1 : q ≠ 32) (h2 : q ≠ 286) : wmm M ow f q = M q := by
  unfold wmm
  rw [if_neg h1, if_neg h2]
theorem wmm_r {ow : Int32} {f : Nat → Int32} : wmm M ow f 286 = .inl (0, 10, .inl f) := by
  unfold wmm
  rw [if_neg (by decide), if_pos rfl]
theorem wmm_hd {ow : Int32} {f : Nat → Int32} : HD (wmm M ow f) := ⟨⟨ow, if_pos rfl⟩, f, wmm_r⟩
theorem wmm_of (hD : HD M) : ∃ (ow : Int32) (f : Nat → Int32), M = wmm M ow f := by
  obtain ⟨⟨ow, h1⟩, f, h2⟩ := hD
  refine ⟨ow, f, ?_⟩
  funext q
  unfold wmm
  by_cases c1 : q = 32
  · rw [if_pos c1, c1, h1]
  · rw [if_neg c1]
    by_cases c2 : q = 286
    · rw [if_pos c2, c2, h2]
    · rw [if_neg c2]
theorem wmm_rk {ow : Int32} {f : Nat → Int32} (hk : RK M 36 K) : RK (wmm M ow f) 36 K := RK_of hk (fun q a b => wmm_ne (by omega) (by omega))
theorem wmm_32 {ow x : Int32} {f : Nat → Int32} : va_up (cset (wmm M ow f) κ) 32 (.inr (9, hdl x)) = cset (wmm M x f) κ := by
  funext q
  by_cases c : q = 32
  · rw [c, va_up_self]
    exact ((cset_o (by omega)).trans (if_pos rfl)).symm
  · rw [va_up_ne _ _ c]
    have e : wmm M ow f q = wmm M x f q := by
      unfold wmm
      rw [if_neg c, if_neg c]
    unfold cset
    rw [e]
theorem wmm_286 {ow : Int32} {f h : Nat → Int32} : va_up (cset (wmm M ow f) κ) 286 (.inl (0, 10, .inl h)) = cset (wmm M ow h) κ := by
  funext q
  by_cases c : q = 286
  · rw [c, va_up_self]
    exact ((cset_o (by omega)).trans wmm_r).symm
  · rw [va_up_ne _ _ c]
    have e : wmm M ow f q = wmm M ow h q := by
      unfold wmm
      rw [if_neg c, if_neg c]
    unfold cset
    rw [e]
theorem Wp.cgm {X : MD} {pc : Nat} {l : AL} {st : List Value} {M' : AM} (h : M = M') (w : Wp d X pc l st M' Q) : Wp d X pc l st M Q := h ▸ w
def NOp (M : AM) (κ : CS) : Option Value → AM → Prop := fun v M' => v = none ∧ ∃ (m : Nat) (f : Nat → Int32) (κ' : CS), m ≤ 10 ∧ M' = cset (wmm M (nI m) f) κ' ∧ ScC κ κ'
theorem k_owing_l (hk : RK M 36 K) : ∀ (n w m : Nat) (f : Nat → Int32) (κ2 : CS), w + n = kh K 4 → m ≤ 10 → ScC κ κ2 → Wp (d + 11) md_265 7 [some (.ref 32), some (.int (nI w))] [] (cset (wmm M (nI m) f) κ2) (NOp M κ) := by
  obtain ⟨ρ, hR, hK, hDC, ok, hr1, hr2⟩ := id hk
  obtain ⟨b0, b1, b2, b3, b4, b5, b6, b7, b8, b9, b10, b11, b12⟩ := ok_h ok
  have hO : ∀ (ow : Int32) (f : Nat → Int32) (κ : CS), cset (wmm M ow f) κ 32 = .inr (9, hdl ow) := fun ow f κ => (cset_o (by omega)).trans (if_pos rfl)
  have hrow : ∀ (ow : Int32) (f : Nat → Int32) (κ : CS), cset (wmm M ow f) κ 286 = .inl (0, 10, .inl f) := fun ow f κ => (cset_o (by omega)).trans wmm_r
  have hRc : ∀ (ow : Int32) (f : Nat → Int32) (κ : CS), RA (cset (wmm M ow f) κ) 36 ρ := fun ow f κ => RA_c (RA_of hR (fun q a b => wmm_ne (by omega) (by omega))) hr1 hr2
  intro n
  induction n with
  | zero =>
    intro w m f κ2 hw hm hS
    refine Wp.n (pc' := 9) 2 rfl ?_
    refine Wp.get (len := 3) rfl (hO _ _ _) rfl ?_
    refine Wp.get (len := 3) rfl (ra_obj (hRc _ _ _)) rfl ?_
    refine Wp.top (rc_wk hK) ?_
    refine Wp.nc3 (x := w) (y := kh K 4) (tgt := 81) (len := 3) rfl (by omega) (by omega) (fun h15 => ?_) (fun h15 => ?_)
    · skip
      refine Wp.retV (len := 1) rfl rfl ?_
      exact ⟨rfl, m, f, κ2, hm, rfl, hS⟩
    · omega
  | succ n ih =>
    intro w m f κ2 hw hm hS
    have hdb := dutW_b ok (w := w) (by omega)
    refine Wp.n (pc' := 9) 2 rfl ?_
    refine Wp.get (len := 3) rfl (hO _ _ _) rfl ?_
    refine Wp.get (len := 3) rfl (ra_obj (hRc _ _ _)) rfl ?_
    refine Wp.top (rc_wk hK) ?_
    refine Wp.nc3 (x := w) (y := kh K 4) (tgt := 81) (len := 3) rfl (by omega) (by omega) (fun h15 => ?_) (fun h15 => ?_)
    · omega
    · skip
      refine Wp.n (pc' := 20) 2 rfl ?_
      refine Wp.get (len := 3) rfl (hO _ _ _) rfl ?_
      refine Wp.n (pc' := 24) 1 rfl ?_
      refine Wp.callV (len := 3) rfl rfl rfl (hO _ _ _) rfl (by decide) rfl (k_isLawful wmm_hd (wmm_rk hk) (by omega)) ?_
      rintro _ _ ⟨rfl, κ3, rfl, hF, hT⟩
      refine Wp.ifb0 (tgt := 75) (len := 3) rfl (fun h27 => ?_) (fun h27 => ?_)
      · skip
        refine Wp.incN (x := w) (len := 3) rfl rfl ?_
        refine Wp.n (pc' := 7) 1 rfl ?_
        first
          | exact ih (w + 1) m f κ3 (by omega) hm (ScC_t hS (ScC_11 hF))
          | exact ih (w + 1) (m + 1) _ κ3 (by omega) (by omega) (ScC_t hS (ScC_11 hF))
      · skip
        refine Wp.n (pc' := 31) 1 rfl ?_
        refine Wp.get (len := 3) rfl (hO _ _ _) rfl ?_
        refine Wp.get (len := 3) rfl (rfl) rfl ?_
        refine Wp.top hT.2.2.2 ?_
        refine Wp.nz5 (x := dutW K w) (tgt := 75) (len := 3) rfl (by omega) (fun h37 => ?_) (fun h37 => ?_)
        · skip
          refine Wp.incN (x := w) (len := 3) rfl rfl ?_
          refine Wp.n (pc' := 7) 1 rfl ?_
          first
            | exact ih (w + 1) m f κ3 (by omega) hm (ScC_t hS (ScC_11 hF))
            | exact ih (w + 1) (m + 1) _ κ3 (by omega) (by omega) (ScC_t hS (ScC_11 hF))
        · skip
          refine Wp.n (pc' := 41) 1 rfl ?_
          refine Wp.get (len := 3) rfl (hO _ _ _) rfl ?_
          refine Wp.n (pc' := 46) 1 rfl ?_
          refine Wp.nc3 (x := m) (y := 10) (tgt := 75) (len := 3) rfl (by omega) (by omega) (fun h46 => ?_) (fun h46 => ?_)
          · skip
            refine Wp.incN (x := w) (len := 3) rfl rfl ?_
            refine Wp.n (pc' := 7) 1 rfl ?_
            first
              | exact ih (w + 1) m f κ3 (by omega) hm (ScC_t hS (ScC_11 hF))
              | exact ih (w + 1) (m + 1) _ κ3 (by omega) (by omega) (ScC_t hS (ScC_11 hF))
          · skip
            refine Wp.n (pc' := 50) 1 rfl ?_
            refine Wp.get (len := 3) rfl (hO _ _ _) rfl ?_
            refine Wp.n (pc' := 54) 1 rfl ?_
            refine Wp.get (len := 3) rfl (hO _ _ _) rfl ?_
            refine Wp.n (pc' := 58) 1 rfl ?_
            refine Wp.get (len := 3) rfl (hO _ _ _) rfl ?_
            refine Wp.get (len := 3) rfl (rfl) rfl ?_
            refine Wp.iastN (j := m) (len := 1) rfl (hrow _ _ _) (by omega) (by decide) ?_
            refine Wp.cgm wmm_286 ?_
            refine Wp.n (pc' := 67) 2 rfl ?_
            refine Wp.get (len := 3) rfl (hO _ _ _) rfl ?_
            refine Wp.n (pc' := 71) 1 rfl ?_
            refine Wp.iaddN (x := m) (y := 1) (len := 1) rfl ?_
            refine Wp.put (len := 3) rfl (hO _ _ _) rfl ?_
            refine Wp.cgm (wmm_32 (ow := nI m) (x := nI (m + 1))) ?_
            refine Wp.incN (x := w) (len := 3) rfl rfl ?_
            refine Wp.n (pc' := 7) 1 rfl ?_
            first
              | exact ih (w + 1) m f κ3 (by omega) hm (ScC_t hS (ScC_11 hF))
              | exact ih (w + 1) (m + 1) _ κ3 (by omega) (by omega) (ScC_t hS (ScC_11 hF))
theorem k_owing (hD : HD M) (hk : RK M 36 K) : Wp (d + 11) md_265 0 [some (.ref 32), none] [] (cset M κ) (NOp M κ) := by
  obtain ⟨ow, f, e⟩ := wmm_of hD
  have e2 : cset M κ = cset (wmm M ow f) κ := congrArg (fun m => cset m κ) e
  rw [e2]
  obtain ⟨ρ, hR, hK, hDC, ok, hr1, hr2⟩ := id hk
  obtain ⟨b0, b1, b2, b3, b4, b5, b6, b7, b8, b9, b10, b11, b12⟩ := ok_h ok
  have hO : ∀ (ow : Int32) (f : Nat → Int32) (κ : CS), cset (wmm M ow f) κ 32 = .inr (9, hdl ow) := fun ow f κ => (cset_o (by omega)).trans (if_pos rfl)
  have hrow : ∀ (ow : Int32) (f : Nat → Int32) (κ : CS), cset (wmm M ow f) κ 286 = .inl (0, 10, .inl f) := fun ow f κ => (cset_o (by omega)).trans wmm_r
  have hRc : ∀ (ow : Int32) (f : Nat → Int32) (κ : CS), RA (cset (wmm M ow f) κ) 36 ρ := fun ow f κ => RA_c (RA_of hR (fun q a b => wmm_ne (by omega) (by omega))) hr1 hr2
  refine Wp.n (pc' := 2) 2 rfl ?_
  refine Wp.put (len := 3) rfl (hO _ _ _) rfl ?_
  refine Wp.cgm (wmm_32 (ow := ow) (x := nI 0)) ?_
  refine Wp.n (pc' := 7) 2 rfl ?_
  exact k_owing_l hk (kh K 4) 0 0 f κ (by omega) (by omega) ScC_r
theorem k_meets_l (hk : RK M 36 K) {m : Nat} (hm : m ≤ 10) {f : Nat → Int32} {x : Int32} : ∀ (n i : Nat), i + n = m → Wp (d + 11) md_132 2 [some (.ref 32), some (.int x), some (.int (nI i))] [] (cset (wmm M (nI m) f) κ) (fun v M' => (∃ b : Bool, v = some (.int (bI b))) ∧ M' = cset (wmm M (nI m) f) κ) := by
  obtain ⟨ρ, hR, hK, hDC, ok, hr1, hr2⟩ := id hk
  obtain ⟨b0, b1, b2, b3, b4, b5, b6, b7, b8, b9, b10, b11, b12⟩ := ok_h ok
  have hO : ∀ (ow : Int32) (f : Nat → Int32) (κ : CS), cset (wmm M ow f) κ 32 = .inr (9, hdl ow) := fun ow f κ => (cset_o (by omega)).trans (if_pos rfl)
  have hrow : ∀ (ow : Int32) (f : Nat → Int32) (κ : CS), cset (wmm M ow f) κ 286 = .inl (0, 10, .inl f) := fun ow f κ => (cset_o (by omega)).trans wmm_r
  have hRc : ∀ (ow : Int32) (f : Nat → Int32) (κ : CS), RA (cset (wmm M ow f) κ) 36 ρ := fun ow f κ => RA_c (RA_of hR (fun q a b => wmm_ne (by omega) (by omega))) hr1 hr2
  intro n
  induction n with
  | zero =>
    intro i hi
    refine Wp.n (pc' := 4) 2 rfl ?_
    refine Wp.get (len := 3) rfl (hO _ _ _) rfl ?_
    refine Wp.nc3 (x := i) (y := m) (tgt := 29) (len := 3) rfl (by omega) (by omega) (fun h7 => ?_) (fun h7 => ?_)
    · skip
      refine Wp.n (pc' := 30) 1 rfl ?_
      refine Wp.retZ (len := 1) (c := true) rfl rfl rfl ?_
      exact ⟨⟨_, rfl⟩, rfl⟩
    · omega
  | succ n ih =>
    intro i hi
    refine Wp.n (pc' := 4) 2 rfl ?_
    refine Wp.get (len := 3) rfl (hO _ _ _) rfl ?_
    refine Wp.nc3 (x := i) (y := m) (tgt := 29) (len := 3) rfl (by omega) (by omega) (fun h7 => ?_) (fun h7 => ?_)
    · omega
    · skip
      refine Wp.n (pc' := 11) 1 rfl ?_
      refine Wp.get (len := 3) rfl (hO _ _ _) rfl ?_
      refine Wp.n (pc' := 15) 1 rfl ?_
      refine Wp.ialdN (j := i) (len := 1) rfl (hrow _ _ _) rfl (by omega) (by decide) ?_
      refine Wp.n (pc' := 18) 2 rfl ?_
      refine Wp.if1 (tgt := 23) (len := 3) rfl (fun h18 => ?_) (fun h18 => ?_)
      · skip
        refine Wp.incN (x := i) (len := 3) rfl rfl ?_
        refine Wp.n (pc' := 2) 1 rfl ?_
        exact ih (i + 1) (by omega)
      · skip
        refine Wp.n (pc' := 22) 1 rfl ?_
        refine Wp.retZ (len := 1) (c := false) rfl rfl rfl ?_
        exact ⟨⟨_, rfl⟩, rfl⟩
theorem k_meets (hk : RK M 36 K) {m : Nat} (hm : m ≤ 10) {f : Nat → Int32} {x : Int32} : Wp (d + 11) md_132 0 [some (.ref 32), some (.int x), none] [] (cset (wmm M (nI m) f) κ) (fun v M' => (∃ b : Bool, v = some (.int (bI b))) ∧ M' = cset (wmm M (nI m) f) κ) := by
  refine Wp.n (pc' := 2) 2 rfl ?_
  exact k_meets_l hk hm m 0 (by omega)
/-- watchers answers something, and -2 where there is no kingdom; the object's row and count may change -/
def WAp (M : AM) (κ : CS) (K : KD) : Option Value → AM → Prop := fun v M' => (∃ a : Int32, v = some (.int a) ∧ (kh K 0 = 0 → a = -2)) ∧ ∃ (ow : Int32) (f : Nat → Int32) (κ' : CS), M' = cset (wmm M ow f) κ' ∧ ScC κ κ'
theorem k_wt_l (hk : RK M 36 K) (h11 : kh K 11 = 0) (h0 : 0 < kh K 0) {m : Nat} (hm : m ≤ 10) {f : Nat → Int32} {x : Int32} {κ2 : CS} (hS : ScC κ κ2) : ∀ (n s b : Nat), s + n = 2 ^ kh K 3 → b < 256 → Wp (d + 12) md_131 49 [some (.ref 32), some (.int x), some (.int (nI b)), some (.int (nI s))] [] (cset (wmm M (nI m) f) κ2) (WAp M κ K) := by
  obtain ⟨ρ, hR, hK, hDC, ok, hr1, hr2⟩ := id hk
  obtain ⟨b0, b1, b2, b3, b4, b5, b6, b7, b8, b9, b10, b11, b12⟩ := ok_h ok
  have hO : ∀ (ow : Int32) (f : Nat → Int32) (κ : CS), cset (wmm M ow f) κ 32 = .inr (9, hdl ow) := fun ow f κ => (cset_o (by omega)).trans (if_pos rfl)
  have hrow : ∀ (ow : Int32) (f : Nat → Int32) (κ : CS), cset (wmm M ow f) κ 286 = .inl (0, 10, .inl f) := fun ow f κ => (cset_o (by omega)).trans wmm_r
  have hRc : ∀ (ow : Int32) (f : Nat → Int32) (κ : CS), RA (cset (wmm M ow f) κ) 36 ρ := fun ow f κ => RA_c (RA_of hR (fun q a b => wmm_ne (by omega) (by omega))) hr1 hr2
  have h28 : 2 ^ kh K 3 ≤ 256 := Nat.pow_le_pow_right (by decide) b3
  have h8 : rhd ρ 8 = nI (kh K 3) := by rw [rc_la hK, h11, Nat.add_zero]
  intro n
  induction n with
  | zero =>
    intro s b hs hb2
    refine Wp.n (pc' := 52) 3 rfl ?_
    refine Wp.get (len := 3) rfl (hO _ _ _) rfl ?_
    refine Wp.get (len := 3) rfl (ra_obj (hRc _ _ _)) rfl ?_
    refine Wp.top h8 ?_
    refine Wp.n (pc' := 59) 1 rfl ?_
    refine Wp.top (n_sh1 _ (by omega)) ?_
    refine Wp.nc3 (x := s) (y := 2 ^ kh K 3) (tgt := 89) (len := 3) rfl (by omega) (by omega) (fun h59 => ?_) (fun h59 => ?_)
    · skip
      refine Wp.n (pc' := 90) 1 rfl ?_
      refine Wp.if1 (tgt := 100) (len := 3) rfl (fun h90 => ?_) (fun h90 => ?_)
      · skip
        refine Wp.n (pc' := 101) 1 rfl ?_
        refine Wp.retI (len := 1) rfl rfl ?_
        exact ⟨⟨_, rfl, fun q => by omega⟩, _, f, κ2, rfl, hS⟩
      · skip
        refine Wp.n (pc' := 94) 1 rfl ?_
        refine Wp.ecallS (len := 3) rfl rfl rfl rfl (j_bitCount (by omega)) ?_
        refine Wp.n (pc' := 101) 1 rfl ?_
        refine Wp.retI (len := 1) rfl rfl ?_
        exact ⟨⟨_, rfl, fun q => by omega⟩, _, f, κ2, rfl, hS⟩
    · omega
  | succ n ih =>
    intro s b hs hb2
    have hs2 : s < 256 := by omega
    have pb1 := pop_b (v := b)
    have pb2 := pop_b (v := s)
    refine Wp.n (pc' := 52) 3 rfl ?_
    refine Wp.get (len := 3) rfl (hO _ _ _) rfl ?_
    refine Wp.get (len := 3) rfl (ra_obj (hRc _ _ _)) rfl ?_
    refine Wp.top h8 ?_
    refine Wp.n (pc' := 59) 1 rfl ?_
    refine Wp.top (n_sh1 _ (by omega)) ?_
    refine Wp.nc3 (x := s) (y := 2 ^ kh K 3) (tgt := 89) (len := 3) rfl (by omega) (by omega) (fun h59 => ?_) (fun h59 => ?_)
    · omega
    · skip
      refine Wp.n (pc' := 63) 1 rfl ?_
      refine Wp.ecallS (len := 3) rfl rfl rfl rfl (j_bitCount (by omega)) ?_
      refine Wp.top (show _ = nI (pop s) from by rw [pop4_8 hs2]) ?_
      refine Wp.n (pc' := 67) 1 rfl ?_
      refine Wp.ecallS (len := 3) rfl rfl rfl rfl (j_bitCount (by omega)) ?_
      refine Wp.top (show _ = nI (pop b) from by rw [pop4_8 hb2]) ?_
      refine Wp.nc3 (x := pop s) (y := pop b) (tgt := 83) (len := 3) rfl (by omega) (by omega) (fun h70 => ?_) (fun h70 => ?_)
      · skip
        refine Wp.incN (x := s) (len := 3) rfl rfl ?_
        refine Wp.n (pc' := 49) 1 rfl ?_
        first
          | exact ih (s + 1) b (by omega) hb2
          | exact ih (s + 1) s (by omega) hs2
      · skip
        refine Wp.n (pc' := 75) 2 rfl ?_
        refine Wp.callV (len := 3) rfl rfl rfl (hO _ _ _) rfl (by decide) rfl (k_meets hk hm) ?_
        rintro _ _ ⟨⟨u, rfl⟩, rfl⟩
        refine Wp.ifb0 (tgt := 83) (len := 3) rfl (fun h78 => ?_) (fun h78 => ?_)
        · skip
          refine Wp.incN (x := s) (len := 3) rfl rfl ?_
          refine Wp.n (pc' := 49) 1 rfl ?_
          first
            | exact ih (s + 1) b (by omega) hb2
            | exact ih (s + 1) s (by omega) hs2
        · skip
          refine Wp.n (pc' := 83) 2 rfl ?_
          refine Wp.incN (x := s) (len := 3) rfl rfl ?_
          refine Wp.n (pc' := 49) 1 rfl ?_
          first
            | exact ih (s + 1) b (by omega) hb2
            | exact ih (s + 1) s (by omega) hs2
theorem k_watchers (hD : HD M) (hk : RK M 36 K) (h11 : kh K 11 = 0) (x : Int32) : Wp (d + 12) md_131 0 [some (.ref 32), some (.int x), none, none] [] (cset M κ) (WAp M κ K) := by
  obtain ⟨ρ, hR, hK, hDC, ok, hr1, hr2⟩ := id hk
  obtain ⟨b0, b1, b2, b3, b4, b5, b6, b7, b8, b9, b10, b11, b12⟩ := ok_h ok
  have hO : ∀ (ow : Int32) (f : Nat → Int32) (κ : CS), cset (wmm M ow f) κ 32 = .inr (9, hdl ow) := fun ow f κ => (cset_o (by omega)).trans (if_pos rfl)
  have hrow : ∀ (ow : Int32) (f : Nat → Int32) (κ : CS), cset (wmm M ow f) κ 286 = .inl (0, 10, .inl f) := fun ow f κ => (cset_o (by omega)).trans wmm_r
  have hRc : ∀ (ow : Int32) (f : Nat → Int32) (κ : CS), RA (cset (wmm M ow f) κ) 36 ρ := fun ow f κ => RA_c (RA_of hR (fun q a b => wmm_ne (by omega) (by omega))) hr1 hr2
  have h28 : 2 ^ kh K 3 ≤ 256 := Nat.pow_le_pow_right (by decide) b3
  have h1p : 1 ≤ 2 ^ kh K 3 := Nat.one_le_two_pow
  have h8 : rhd ρ 8 = nI (kh K 3) := by rw [rc_la hK, h11, Nat.add_zero]
  obtain ⟨ow, f, e⟩ := wmm_of hD
  have hO0 : ∀ κ : CS, cset M κ 32 = .inr (9, hdl ow) := fun κ => by rw [e]; exact hO _ _ _
  have hR0 : ∀ κ : CS, RA (cset M κ) 36 ρ := fun κ => RA_c hR hr1 hr2
  have hE : ∃ (ow : Int32) (f : Nat → Int32) (κ' : CS), cset M κ = cset (wmm M ow f) κ' ∧ ScC κ κ' := ⟨ow, f, κ, congrArg (fun m => cset m κ) e, ScC_r⟩
  refine Wp.n (pc' := 1) 1 rfl ?_
  refine Wp.get (len := 3) rfl (hO0 _) rfl ?_
  refine Wp.ecallV (len := 3) rfl rfl rfl (ra_obj (hR0 _)) rfl (by decide) rfl (k_exists (RK_c hk)) ?_
  refine Wp.ifb0 (tgt := 19) (len := 3) rfl (fun h7 => ?_) (fun h7 => ?_)
  · skip
    refine Wp.n (pc' := 21) 1 rfl ?_
    refine Wp.retI (len := 1) rfl rfl ?_
    exact ⟨⟨_, rfl, fun _ => rfl⟩, hE⟩
  · skip
    refine Wp.n (pc' := 11) 1 rfl ?_
    refine Wp.if2 (tgt := 19) (len := 3) rfl (fun h11_ => ?_) (fun h11_ => ?_)
    · skip
      refine Wp.n (pc' := 21) 1 rfl ?_
      refine Wp.retI (len := 1) rfl rfl ?_
      exact ⟨⟨_, rfl, fun _ => rfl⟩, hE⟩
    · skip
      refine Wp.n (pc' := 16) 2 rfl ?_
      refine Wp.ic5 (tgt := 22) (len := 3) rfl (fun h16 => ?_) (fun h16 => ?_)
      · skip
        refine Wp.n (pc' := 23) 1 rfl ?_
        refine Wp.callV (len := 3) rfl rfl rfl (hO0 _) rfl (by decide) rfl (k_owing hD hk) ?_
        have hp := of_decide_eq_true h7
        rintro _ _ ⟨rfl, m, g, κ2, hm, rfl, hS⟩
        refine Wp.n (pc' := 27) 1 rfl ?_
        refine Wp.get (len := 3) rfl (hO _ _ _) rfl ?_
        refine Wp.nz1 (x := m) (tgt := 35) (len := 3) rfl (by omega) (fun h30 => ?_) (fun h30 => ?_)
        · skip
          refine Wp.n (pc' := 37) 2 rfl ?_
          refine Wp.get (len := 3) rfl (hO _ _ _) rfl ?_
          refine Wp.get (len := 3) rfl (ra_obj (hRc _ _ _)) rfl ?_
          refine Wp.top h8 ?_
          refine Wp.n (pc' := 44) 1 rfl ?_
          refine Wp.top (n_sh1 _ (by omega)) ?_
          refine Wp.n (pc' := 45) 1 rfl ?_
          refine Wp.isubN (x := 2 ^ kh K 3) (y := 1) (len := 1) rfl (by omega) ?_
          refine Wp.n (pc' := 49) 3 rfl ?_
          exact k_wt_l hk h11 hp hm hS (2 ^ kh K 3 - 1) 1 (2 ^ kh K 3 - 1) (by omega) (by omega)
        · skip
          refine Wp.n (pc' := 34) 1 rfl ?_
          refine Wp.retI (len := 1) rfl rfl ?_
          exact ⟨⟨_, rfl, fun q => by omega⟩, _, g, κ2, rfl, hS⟩
      · skip
        refine Wp.n (pc' := 21) 1 rfl ?_
        refine Wp.retI (len := 1) rfl rfl ?_
        exact ⟨⟨_, rfl, fun _ => rfl⟩, hE⟩
theorem set_repC {ρ : RC} (hK : RepC ρ K) {w m : Nat} (hw : w < 5) : RepC (wset ρ w (nI m)) (setK K w m) := by
  obtain ⟨p0, p1, p2, p3, p6, p8, p10, pl, pr, pn, pw⟩ := hK
  have e : ∀ i, i < 6 ∨ 11 ≤ i → kh (setK K w m) i = kh K i := fun i hi => if_neg (by omega)
  refine ⟨?_, ?_, ?_, ?_, ?_, ?_, ?_, fun h0 j hj => ?_, ?_, ?_, ?_⟩
  · rw [e 0 (by omega)]; exact p0
  · rw [e 1 (by omega)]; exact p1
  · rw [e 5 (by omega)]; exact p2
  · rw [e 12 (by omega)]; exact p3
  · rw [e 2 (by omega)]; exact p6
  · rw [e 3 (by omega), e 11 (by omega)]; exact p8
  · rw [e 4 (by omega)]; exact p10
  · rw [e 0 (by omega)] at h0
    show upd (rlw ρ) w (nI m) j = nI (if 6 + j = 6 + w then m else kh K (6 + j))
    by_cases c : j = w
    · rw [if_pos (by omega), c, pk_us]
    · rw [if_neg (by omega), pk_un c]
      exact pl h0 j hj
  · rw [e 2 (by omega)]; exact pr
  · intro l hl
    rw [e 3 (by omega), e 11 (by omega)] at hl
    have ph : phL (setK K w m) l = phL K l := by
      unfold phL
      rw [e 3 (by omega)]
    rw [ph]
    exact pn l hl
  · rw [e 4 (by omega)]; exact pw
theorem k_exchange {ρ : RC} {w : Nat} (hw : w < 5) {x : Int32} : Wp d md_4 0 [some (.ref (r + 1)), some (.int (nI w)), some (.int x), none] [] (rset M r ρ) (fun v M' => v = some (.int (rlw ρ w)) ∧ M' = rset M r (wset ρ w x)) := by
  refine Wp.n (pc' := 3) 3 rfl ?_
  have ex : (nI w).toInt = (0 : Int) + w := by rw [nI_toInt (by omega)]; omega
  match w, hw, ex with

  | 0, _, ex =>
    refine Wp.sw (len := 29) (t := 32) rfl (sw_at rfl 0 ex rfl) ?_
    refine Wp.n (pc' := 33) 1 rfl ?_
    refine Wp.get (len := 3) rfl (rs_law) rfl ?_
    refine Wp.n (pc' := 39) 3 rfl ?_
    refine Wp.wput 0 rfl (len := 3) rfl ?_
    refine Wp.n (pc' := 95) 2 rfl ?_
    refine Wp.retI (len := 1) rfl rfl ?_
    exact ⟨rfl, rfl⟩
  | 1, _, ex =>
    refine Wp.sw (len := 29) (t := 45) rfl (sw_at rfl 1 ex rfl) ?_
    refine Wp.n (pc' := 46) 1 rfl ?_
    refine Wp.get (len := 3) rfl (rs_law) rfl ?_
    refine Wp.n (pc' := 52) 3 rfl ?_
    refine Wp.wput 1 rfl (len := 3) rfl ?_
    refine Wp.n (pc' := 95) 2 rfl ?_
    refine Wp.retI (len := 1) rfl rfl ?_
    exact ⟨rfl, rfl⟩
  | 2, _, ex =>
    refine Wp.sw (len := 29) (t := 58) rfl (sw_at rfl 2 ex rfl) ?_
    refine Wp.n (pc' := 59) 1 rfl ?_
    refine Wp.get (len := 3) rfl (rs_law) rfl ?_
    refine Wp.n (pc' := 65) 3 rfl ?_
    refine Wp.wput 2 rfl (len := 3) rfl ?_
    refine Wp.n (pc' := 95) 2 rfl ?_
    refine Wp.retI (len := 1) rfl rfl ?_
    exact ⟨rfl, rfl⟩
  | 3, _, ex =>
    refine Wp.sw (len := 29) (t := 71) rfl (sw_at rfl 3 ex rfl) ?_
    refine Wp.n (pc' := 72) 1 rfl ?_
    refine Wp.get (len := 3) rfl (rs_law) rfl ?_
    refine Wp.n (pc' := 78) 3 rfl ?_
    refine Wp.wput 3 rfl (len := 3) rfl ?_
    refine Wp.n (pc' := 95) 2 rfl ?_
    refine Wp.retI (len := 1) rfl rfl ?_
    exact ⟨rfl, rfl⟩
  | 4, _, ex =>
    refine Wp.sw (len := 29) (t := 84) rfl (sw_def rfl (Or.inr (by rw [ex]; decide))) ?_
    refine Wp.n (pc' := 85) 1 rfl ?_
    refine Wp.get (len := 3) rfl (rs_law) rfl ?_
    refine Wp.n (pc' := 91) 3 rfl ?_
    refine Wp.wput 4 rfl (len := 3) rfl ?_
    refine Wp.n (pc' := 95) 1 rfl ?_
    refine Wp.retI (len := 1) rfl rfl ?_
    exact ⟨rfl, rfl⟩
theorem k_law (hD : HD M) (hk : RK M 36 K) (x y : Int32) : Wp (d + 2) md_136 0 [some (.ref 32), some (.int x), some (.int y)] [] (cset M κ) (fun v M' => v = some (.int (lawA K x y)) ∧ ∃ ρ, M' = cset (rset M 36 ρ) κ ∧ RK (rset M 36 ρ) 36 (lawN K x y)) := by
  obtain ⟨ρ, hR, hK, hDC, ok, hr1, hr2⟩ := id hk
  obtain ⟨b0, b1, b2, b3, b4, b5, b6, b7, b8, b9, b10, b11, b12⟩ := ok_h ok
  obtain ⟨ow, hDo⟩ := hD.1
  have hO : ∀ κ : CS, cset M κ 32 = .inr (9, hdl ow) := fun κ => (cset_o (by omega)).trans hDo
  have hRc : ∀ κ : CS, RA (cset M κ) 36 ρ := fun κ => RA_c hR hr1 hr2
  unfold lawA lawN
  have kn : ∃ ρ, cset M κ = cset (rset M 36 ρ) κ ∧ RK (rset M 36 ρ) 36 K := by
    refine ⟨ρ, ?_, ?_⟩
    · rw [show rset M 36 ρ = M from hR]
    · rw [show rset M 36 ρ = M from hR]; exact hk
  refine Wp.n (pc' := 1) 1 rfl ?_
  refine Wp.get (len := 3) rfl (hO _) rfl ?_
  refine Wp.ecallV (len := 3) rfl rfl rfl (ra_obj (hRc _)) rfl (by decide) rfl (k_exists (RK_c hk)) ?_
  refine Wp.ifb0 (tgt := 38) (len := 3) rfl (fun h7 => ?_) (fun h7 => ?_)
  · skip
    refine Wp.n (pc' := 40) 1 rfl ?_
    refine Wp.retI (len := 1) rfl rfl ?_
    have hC : lawC K x y = false := by
      unfold lawC
      first
        | (rw [h7, Bool.false_and, Bool.false_and])
        | (rw [h16, Bool.and_false, Bool.false_and])
        | (rw [show decide ((0 : Int32).toInt ≤ y.toInt ∧ y.toInt ≤ (99 : Int32).toInt) = isN 100 y from isR_0 (hi := 99)] at h35
           rw [if_pos (by rw [i_le] at h23; have : x.toInt ≤ 2 := h23; omega), h35, Bool.and_false])
        | (rw [show decide ((0 : Int32).toInt ≤ y.toInt ∧ y.toInt ≤ (1 : Int32).toInt) = isN 2 y from isR_0 (hi := 1)] at h35
           rw [if_neg (by rw [i_le] at h23; have : ¬ x.toInt ≤ 2 := h23; omega), h35, Bool.and_false])
    rw [if_neg (by rw [hC]; decide), if_neg (by rw [hC]; decide)]
    exact ⟨rfl, kn⟩
  · skip
    refine Wp.n (pc' := 13) 3 rfl ?_
    refine Wp.ecallS (len := 3) rfl rfl rfl rfl (k_isWithinN (hi := 4) x (by decide)) ?_
    refine Wp.ifb0 (tgt := 38) (len := 3) rfl (fun h16 => ?_) (fun h16 => ?_)
    · skip
      refine Wp.n (pc' := 40) 1 rfl ?_
      refine Wp.retI (len := 1) rfl rfl ?_
      have hC : lawC K x y = false := by
        unfold lawC
        first
          | (rw [h7, Bool.false_and, Bool.false_and])
          | (rw [h16, Bool.and_false, Bool.false_and])
          | (rw [show decide ((0 : Int32).toInt ≤ y.toInt ∧ y.toInt ≤ (99 : Int32).toInt) = isN 100 y from isR_0 (hi := 99)] at h35
             rw [if_pos (by rw [i_le] at h23; have : x.toInt ≤ 2 := h23; omega), h35, Bool.and_false])
          | (rw [show decide ((0 : Int32).toInt ≤ y.toInt ∧ y.toInt ≤ (1 : Int32).toInt) = isN 2 y from isR_0 (hi := 1)] at h35
             rw [if_neg (by rw [i_le] at h23; have : ¬ x.toInt ≤ 2 := h23; omega), h35, Bool.and_false])
      rw [if_neg (by rw [hC]; decide), if_neg (by rw [hC]; decide)]
      exact ⟨rfl, kn⟩
    · skip
      refine Wp.n (pc' := 23) 4 rfl ?_
      refine Wp.ic5 (tgt := 30) (len := 3) rfl (fun h23 => ?_) (fun h23 => ?_)
      · skip
        refine Wp.n (pc' := 32) 1 rfl ?_
        refine Wp.ecallS (len := 3) rfl rfl rfl rfl (c_isWithin _ _ _) ?_
        refine Wp.ifb1 (tgt := 41) (len := 3) rfl (fun h35 => ?_) (fun h35 => ?_)
        · skip
          have hC : lawC K x y = true := by
            unfold lawC
            rw [h7, h16]
            first
              | (rw [show decide ((0 : Int32).toInt ≤ y.toInt ∧ y.toInt ≤ (99 : Int32).toInt) = isN 100 y from isR_0 (hi := 99)] at h35
                 rw [if_pos (by rw [i_le] at h23; have : x.toInt ≤ 2 := h23; omega), h35]; rfl)
              | (rw [show decide ((0 : Int32).toInt ≤ y.toInt ∧ y.toInt ≤ (1 : Int32).toInt) = isN 2 y from isR_0 (hi := 1)] at h35
                 rw [if_neg (by rw [i_le] at h23; have : ¬ x.toInt ≤ 2 := h23; omega), h35]; rfl)
          obtain ⟨h0, w, m, hw, hm, rfl, rfl, hm1⟩ := lawC_of hC
          rw [if_pos hC, if_pos hC, nI_clamp (by omega), nI_clamp (by omega)]
          refine Wp.n (pc' := 42) 1 rfl ?_
          refine Wp.get (len := 3) rfl (hO _) rfl ?_
          refine Wp.get (len := 3) rfl (ra_obj (hRc _)) rfl ?_
          refine Wp.n (pc' := 50) 2 rfl ?_
          rw [show cset M κ = rset (cset M κ) 36 ρ from (hRc κ).symm]
          refine Wp.callV (len := 3) rfl rfl rfl rs_law rfl (by decide) rfl (k_exchange hw) ?_
          rintro _ _ ⟨rfl, rfl⟩
          refine Wp.retI (len := 1) rfl rfl ?_
          refine ⟨by rw [rc_law hK h0 hw], _, rset_c (by decide) (by decide), _, rset_ra, set_repC hK hw, ?_, setK_ok ok hw hm, by decide, by decide⟩
          intro p q hp hq
          have e0 : kh (setK K w m) 0 = kh K 0 := if_neg (by omega)
          rw [e0] at hp hq
          have ed : distK (setK K w m) = distK K := by
            unfold distK
            rw [e0]
            have e2 : D0 (setK K w m) = D0 K := by
              funext a b
              unfold D0 roadK
              rw [show kh (setK K w m) 2 = kh K 2 from if_neg (by omega)]
              rfl
            rw [e2]
          rw [ed]
          exact hDC p q hp hq
        · skip
          refine Wp.n (pc' := 40) 1 rfl ?_
          refine Wp.retI (len := 1) rfl rfl ?_
          have hC : lawC K x y = false := by
            unfold lawC
            first
              | (rw [h7, Bool.false_and, Bool.false_and])
              | (rw [h16, Bool.and_false, Bool.false_and])
              | (rw [show decide ((0 : Int32).toInt ≤ y.toInt ∧ y.toInt ≤ (99 : Int32).toInt) = isN 100 y from isR_0 (hi := 99)] at h35
                 rw [if_pos (by rw [i_le] at h23; have : x.toInt ≤ 2 := h23; omega), h35, Bool.and_false])
              | (rw [show decide ((0 : Int32).toInt ≤ y.toInt ∧ y.toInt ≤ (1 : Int32).toInt) = isN 2 y from isR_0 (hi := 1)] at h35
                 rw [if_neg (by rw [i_le] at h23; have : ¬ x.toInt ≤ 2 := h23; omega), h35, Bool.and_false])
          rw [if_neg (by rw [hC]; decide), if_neg (by rw [hC]; decide)]
          exact ⟨rfl, kn⟩
      · skip
        refine Wp.n (pc' := 32) 2 rfl ?_
        refine Wp.ecallS (len := 3) rfl rfl rfl rfl (c_isWithin _ _ _) ?_
        refine Wp.ifb1 (tgt := 41) (len := 3) rfl (fun h35 => ?_) (fun h35 => ?_)
        · skip
          have hC : lawC K x y = true := by
            unfold lawC
            rw [h7, h16]
            first
              | (rw [show decide ((0 : Int32).toInt ≤ y.toInt ∧ y.toInt ≤ (99 : Int32).toInt) = isN 100 y from isR_0 (hi := 99)] at h35
                 rw [if_pos (by rw [i_le] at h23; have : x.toInt ≤ 2 := h23; omega), h35]; rfl)
              | (rw [show decide ((0 : Int32).toInt ≤ y.toInt ∧ y.toInt ≤ (1 : Int32).toInt) = isN 2 y from isR_0 (hi := 1)] at h35
                 rw [if_neg (by rw [i_le] at h23; have : ¬ x.toInt ≤ 2 := h23; omega), h35]; rfl)
          obtain ⟨h0, w, m, hw, hm, rfl, rfl, hm1⟩ := lawC_of hC
          rw [if_pos hC, if_pos hC, nI_clamp (by omega), nI_clamp (by omega)]
          refine Wp.n (pc' := 42) 1 rfl ?_
          refine Wp.get (len := 3) rfl (hO _) rfl ?_
          refine Wp.get (len := 3) rfl (ra_obj (hRc _)) rfl ?_
          refine Wp.n (pc' := 50) 2 rfl ?_
          rw [show cset M κ = rset (cset M κ) 36 ρ from (hRc κ).symm]
          refine Wp.callV (len := 3) rfl rfl rfl rs_law rfl (by decide) rfl (k_exchange hw) ?_
          rintro _ _ ⟨rfl, rfl⟩
          refine Wp.retI (len := 1) rfl rfl ?_
          refine ⟨by rw [rc_law hK h0 hw], _, rset_c (by decide) (by decide), _, rset_ra, set_repC hK hw, ?_, setK_ok ok hw hm, by decide, by decide⟩
          intro p q hp hq
          have e0 : kh (setK K w m) 0 = kh K 0 := if_neg (by omega)
          rw [e0] at hp hq
          have ed : distK (setK K w m) = distK K := by
            unfold distK
            rw [e0]
            have e2 : D0 (setK K w m) = D0 K := by
              funext a b
              unfold D0 roadK
              rw [show kh (setK K w m) 2 = kh K 2 from if_neg (by omega)]
              rfl
            rw [e2]
          rw [ed]
          exact hDC p q hp hq
        · skip
          refine Wp.n (pc' := 40) 1 rfl ?_
          refine Wp.retI (len := 1) rfl rfl ?_
          have hC : lawC K x y = false := by
            unfold lawC
            first
              | (rw [h7, Bool.false_and, Bool.false_and])
              | (rw [h16, Bool.and_false, Bool.false_and])
              | (rw [show decide ((0 : Int32).toInt ≤ y.toInt ∧ y.toInt ≤ (99 : Int32).toInt) = isN 100 y from isR_0 (hi := 99)] at h35
                 rw [if_pos (by rw [i_le] at h23; have : x.toInt ≤ 2 := h23; omega), h35, Bool.and_false])
              | (rw [show decide ((0 : Int32).toInt ≤ y.toInt ∧ y.toInt ≤ (1 : Int32).toInt) = isN 2 y from isR_0 (hi := 1)] at h35
                 rw [if_neg (by rw [i_le] at h23; have : ¬ x.toInt ≤ 2 := h23; omega), h35, Bool.and_false])
          rw [if_neg (by rw [hC]; decide), if_neg (by rw [hC]; decide)]
          exact ⟨rfl, kn⟩

end WATCH
section MUSTC
variable {d : Nat} {M : AM} {K : KD} {κ κ' : CS} {Q : Option Value → AM → Prop}
theorem k_must_l {ρ : RC} {κ2 : CS} {a b w dn lg : Nat} {z6 : Option Value} (hD : HD (rset M 83 ρ)) (hk : RK (rset M 83 ρ) 83 (laneK K a b 1 (kh K 1 - 1))) (hw : w < kh K 4) (hW : WRw κ2 (laneK K a b 1 (kh K 1 - 1)) 83 w) (hS : ScC κ κ2) (hdn : dn < 2 ^ 31) (hlg : lg ≤ 99) : ∀ (n m : Nat), m + n = lg + 1 → 1 ≤ m → Wp (d + 11) md_140 131 [some (.ref 32), some (.int (nI a)), some (.int (nI b)), some (.int (nI w)), some (.int (nI dn)), some (.int (nI (2 ^ kh K 3))), z6, some (.int (nI lg)), some (.int (nI m))] [] (cset (rset M 83 ρ) κ2) (RDI M κ (oI (fnd (fun m => (allW (laneK K a b 1 (kh K 1 - 1)) (kw K w 2) (kw K w 4) (kw K w (3 + kw K w 3))).any (canP (laneK K a b 1 (kh K 1 - 1)) (kw K w 4) (kw K w (3 + kw K w 3)) (kw K w 2) (kw K w 1) (2 ^ kh K 3) (m - 1) dn)) n m))) := by
  obtain ⟨ow, hDo⟩ := hD.1
  have hO : ∀ κ : CS, cset (rset M 83 ρ) κ 32 = .inr (9, hdl ow) := fun κ => (cset_o (by omega)).trans hDo
  obtain ⟨p0, p1, p2, p3, p4⟩ := walk_b (K := laneK K a b 1 (kh K 1 - 1)) hk.choose_spec.2.2.2.1 hw
  intro n
  induction n with
  | zero =>
    intro m hm h1
    refine Wp.n (pc' := 135) 2 rfl ?_
    refine Wp.nc4 (x := m) (y := lg) (tgt := 165) (len := 3) rfl (by omega) (by omega) (fun h135 => ?_) (fun h135 => ?_)
    · skip
      refine Wp.n (pc' := 166) 1 rfl ?_
      refine Wp.retI (len := 1) rfl rfl ?_
      exact RDI_s hS rfl
    · omega
  | succ n ih =>
    intro m hm h1
    rw [show ∀ p : Nat → Bool, fnd p (n + 1) m = if p m = true then some m else fnd p n (m + 1) from fun p => rfl]
    refine Wp.n (pc' := 135) 2 rfl ?_
    refine Wp.nc4 (x := m) (y := lg) (tgt := 165) (len := 3) rfl (by omega) (by omega) (fun h135 => ?_) (fun h135 => ?_)
    · omega
    · skip
      refine Wp.n (pc' := 139) 1 rfl ?_
      refine Wp.get (len := 3) rfl (hO _) rfl ?_
      refine Wp.n (pc' := 147) 3 rfl ?_
      refine Wp.isubN (x := m) (y := 1) (len := 1) rfl (by omega) ?_
      refine Wp.n (pc' := 150) 1 rfl ?_
      refine Wp.ecallV (len := 3) rfl rfl rfl (rfl) rfl (by decide) rfl (t_can (lb := 2 ^ kh K 3) (m := m - 1) (dn := dn) hk p0 p2 p3 hW p4 hdn (by omega)) ?_
      refine Wp.ifb0 (tgt := 159) (len := 3) rfl (fun h153 => ?_) (fun h153 => ?_)
      · skip
        refine Wp.incN (x := m) (len := 3) rfl rfl ?_
        refine Wp.n (pc' := 131) 1 rfl ?_
        have h153f : (allW (laneK K a b 1 (kh K 1 - 1)) (kw K w 2) (kw K w 4) (kw K w (3 + kw K w 3))).any (canP (laneK K a b 1 (kh K 1 - 1)) (kw K w 4) (kw K w (3 + kw K w 3)) (kw K w 2) (kw K w 1) (2 ^ kh K 3) (m - 1) dn) = false := h153
        rw [if_neg (by rw [h153f]; decide)]
        exact ih (m + 1) (by omega) (by omega)
      · skip
        refine Wp.n (pc' := 158) 1 rfl ?_
        refine Wp.retI (len := 1) rfl rfl ?_
        have h153t : (allW (laneK K a b 1 (kh K 1 - 1)) (kw K w 2) (kw K w 4) (kw K w (3 + kw K w 3))).any (canP (laneK K a b 1 (kh K 1 - 1)) (kw K w 4) (kw K w (3 + kw K w 3)) (kw K w 2) (kw K w 1) (2 ^ kh K 3) (m - 1) dn) = true := h153
        rw [if_pos h153t]
        exact RDI_s hS rfl

theorem k_must (hH : HDR M K) (h11 : kh K 11 = 0) (hd1 : 0 < kh K 0 → 1 ≤ kh K 1) (x y z u : Int32) : Wp (d + 14) md_140 0 [some (.ref 32), some (.int x), some (.int y), some (.int z), some (.int u), none, none, none, none] [] (cset M κ) (RDI M κ (mustA K x y z u)) := by
  obtain ⟨ρr, hR, hK, hDC, ok, hr1, hr2⟩ := id hH.2.1
  obtain ⟨b0, b1, b2, b3, b4, b5, b6, b7, b8, b9, b10, b11, b12⟩ := ok_h ok
  obtain ⟨ow, hDo⟩ := hH.1.1
  have hO : ∀ (ρ : RC) (κ : CS), cset (rset M 83 ρ) κ 32 = .inr (9, hdl ow) := fun ρ κ => (cset_o (by omega)).trans ((rset_ne (by omega)).trans hDo)
  have hO0 : ∀ κ : CS, cset M κ 32 = .inr (9, hdl ow) := fun κ => (cset_o (by omega)).trans hDo
  have hR0 : ∀ κ : CS, RA (cset M κ) 36 ρr := fun κ => RA_c hR hr1 hr2
  have hRd : ∀ (ρ : RC) (κ : CS), RA (cset (rset M 83 ρ) κ) 36 ρr := fun ρ κ => RA_c (RA_of hR (fun k a b => rset_ne (by omega))) hr1 hr2
  have hDd : ∀ (ρ : RC) (κ : CS), cset (rset M 83 ρ) κ 83 = .inr (3, rfs 83 ρ) := fun ρ κ => (cset_o (by omega)).trans rs_obj
  have hD0 : ∃ ρ0, ∀ κ : CS, cset M κ 83 = .inr (3, rfs 83 ρ0) := by
    obtain ⟨ρ0, h0⟩ := hH.2.2
    exact ⟨ρ0, fun κ => (cset_o (by omega)).trans (ra_obj h0)⟩
  obtain ⟨ρ0, hD0⟩ := hD0
  have h8 : rhd ρr 8 = nI (kh K 3) := by rw [rc_la hK, h11, Nat.add_zero]
  unfold mustA
  refine Wp.n (pc' := 3) 3 rfl ?_
  refine Wp.ecallV (len := 3) rfl rfl rfl (hO0 _) rfl (by decide) rfl (k_arePlaces hH.1 hH.2.1 _ _) ?_
  refine Wp.ifb0 (tgt := 30) (len := 3) rfl (fun h6 => ?_) (fun h6 => ?_)
  · skip
    refine Wp.n (pc' := 32) 1 rfl ?_
    refine Wp.retI (len := 1) rfl rfl ?_
    refine RDI_r hH.2.2 ScC_r ?_
    first
      | rw [if_neg (fun q => by have q1 := q.1; unfold areT at q1; rw [h6] at q1; cases q1)]
      | rw [if_neg (fun q => by have q1 := q.1; unfold areT at q1; rw [decide_eq_true h11_, Bool.not_true, Bool.and_false] at q1; cases q1)]
      | rw [if_neg (fun q => by rw [h22] at q; exact absurd q.2.1 (by decide))]
      | rw [if_neg (fun q => h27 q.2.2)]
  · skip
    refine Wp.n (pc' := 11) 2 rfl ?_
    refine Wp.ic0 (tgt := 30) (len := 3) rfl (fun h11_ => ?_) (fun h11_ => ?_)
    · skip
      refine Wp.n (pc' := 32) 1 rfl ?_
      refine Wp.retI (len := 1) rfl rfl ?_
      refine RDI_r hH.2.2 ScC_r ?_
      first
        | rw [if_neg (fun q => by have q1 := q.1; unfold areT at q1; rw [h6] at q1; cases q1)]
        | rw [if_neg (fun q => by have q1 := q.1; unfold areT at q1; rw [decide_eq_true h11_, Bool.not_true, Bool.and_false] at q1; cases q1)]
        | rw [if_neg (fun q => by rw [h22] at q; exact absurd q.2.1 (by decide))]
        | rw [if_neg (fun q => h27 q.2.2)]
    · skip
      refine Wp.n (pc' := 15) 1 rfl ?_
      refine Wp.get (len := 3) rfl (hO0 _) rfl ?_
      refine Wp.n (pc' := 19) 1 rfl ?_
      refine Wp.ecallV (len := 3) rfl rfl rfl (ra_obj (hR0 _)) rfl (by decide) rfl (k_hasWalk (RK_c hH.2.1) _) ?_
      refine Wp.ifb0 (tgt := 30) (len := 3) rfl (fun h22 => ?_) (fun h22 => ?_)
      · skip
        refine Wp.n (pc' := 32) 1 rfl ?_
        refine Wp.retI (len := 1) rfl rfl ?_
        refine RDI_r hH.2.2 ScC_r ?_
        first
          | rw [if_neg (fun q => by have q1 := q.1; unfold areT at q1; rw [h6] at q1; cases q1)]
          | rw [if_neg (fun q => by have q1 := q.1; unfold areT at q1; rw [decide_eq_true h11_, Bool.not_true, Bool.and_false] at q1; cases q1)]
          | rw [if_neg (fun q => by rw [h22] at q; exact absurd q.2.1 (by decide))]
          | rw [if_neg (fun q => h27 q.2.2)]
      · skip
        refine Wp.n (pc' := 27) 1 rfl ?_
        refine Wp.if3 (tgt := 33) (len := 3) rfl (fun h27 => ?_) (fun h27 => ?_)
        · skip
          have hT : areT K x y = true := by unfold areT; rw [h6, decide_eq_false h11_]; rfl
          obtain ⟨a, t, ha, ht, hat, rfl, rfl⟩ := areT_of hT
          obtain ⟨w, hw, rfl⟩ := isN_of h22
          obtain ⟨dn, hdn, rfl⟩ := ge_of h27
          have tw := ok_walk ok hw
          rw [if_pos ⟨hT, h22, h27⟩, nI_clamp (by omega), nI_clamp (by omega), nI_clamp (by omega), nI_clamp hdn]
          refine Wp.n (pc' := 34) 1 rfl ?_
          refine Wp.get (len := 3) rfl (hO0 _) rfl ?_
          refine Wp.n (pc' := 38) 1 rfl ?_
          refine Wp.get (len := 3) rfl (hO0 _) rfl ?_
          refine Wp.callV (len := 3) rfl rfl rfl (hD0 _) rfl (by decide) rfl (k_becomeD hH h11) ?_
          rintro _ _ ⟨rfl, ρ1, rfl, hK1, hDC1⟩
          refine Wp.n (pc' := 45) 1 rfl ?_
          refine Wp.get (len := 3) rfl (hO _ _) rfl ?_
          refine Wp.callV (len := 3) rfl rfl rfl (hDd _ _) rfl (by decide) rfl (k_addLaneD hK1 ok h11 (hd1 (by omega))) ?_
          rintro _ _ ⟨rfl, ρ2, rfl, hP2, hd2⟩
          refine Wp.n (pc' := 52) 1 rfl ?_
          refine Wp.get (len := 3) rfl (hO _ _) rfl ?_
          refine Wp.n (pc' := 58) 3 rfl ?_
          refine Wp.callV (len := 3) rfl rfl rfl (hDd _ _) rfl (by decide) rfl (k_placeD (a := a) (b := t) (m := 1) hP2 ok) ?_
          rintro _ _ ⟨rfl, ρ3, rfl, hP3, hK3, hd3⟩
          have hD3 : DC (rds ρ3) K (distK K) := by rw [hd3, hd2]; exact hDC1
          have ok3 := laneK_ok ok (e := kh K 1 - 1) ha ht hat (Nat.le_refl 1) (by decide) (by omega)
          have hkL : RK (rset M 83 ρ3) 83 (laneK K a t 1 (kh K 1 - 1)) := RK_lane ok3 hK3 hD3
          refine Wp.n (pc' := 63) 2 rfl ?_
          refine Wp.get (len := 3) rfl (hO _ _) rfl ?_
          refine Wp.n (pc' := 67) 1 rfl ?_
          refine Wp.callV (len := 3) rfl rfl rfl (hO _ _) rfl (by decide) rfl (k_findForWalk (HDR_d hH).1 hkL (w := w) hw) ?_
          rintro _ _ ⟨rfl, κ4, rfl, hS4, hW4⟩
          have q := rc_walk hK hw
          have hwk : cset (rset M 83 ρ3) κ4 (36 + 26 + 2 * w) = .inr (7, wfs (rwk ρr w) (36 + 27 + 2 * w)) := ra_walk (hRd _ _) (by omega)
          refine Wp.n (pc' := 72) 2 rfl ?_
          refine Wp.get (len := 3) rfl (hO _ _) rfl ?_
          refine Wp.get (len := 3) rfl (ra_obj (hRd _ _)) rfl ?_
          refine Wp.top h8 ?_
          refine Wp.n (pc' := 79) 1 rfl ?_
          refine Wp.top (n_sh1 _ (by omega)) ?_
          refine Wp.n (pc' := 82) 2 rfl ?_
          refine Wp.get (len := 3) rfl (hO _ _) rfl ?_
          refine Wp.n (pc' := 88) 3 rfl ?_
          refine Wp.get (len := 3) rfl (hO _ _) rfl ?_
          refine Wp.get (len := 3) rfl (ra_obj (hRd _ _)) rfl ?_
          refine Wp.n (pc' := 95) 1 rfl ?_
          refine Wp.aaldN (j := w) (len := 1) rfl (ra_walks (hRd _ _)) rfl (by omega) (by decide) (if_pos (by omega)) ?_
          refine Wp.get (len := 3) rfl (hwk) rfl ?_
          refine Wp.top q.2.2.1 ?_
          refine Wp.ecallV (len := 3) rfl rfl rfl (ra_obj (hRd _ _)) rfl (by decide) rfl (k_linkOf (hRd _ _) hK ok (by decide) (by omega) (by omega) (by omega)) ?_
          rcases hj : joinK K a t (kw K w 2) with _ | j
          · have hlg : lngK K a t (kw K w 2) = 99 := by unfold lngK; rw [hj]
            refine Wp.n (pc' := 106) 2 rfl ?_
            refine Wp.s (pc' := 109) rfl ?_
            refine Wp.n (pc' := 131) 5 rfl ?_
            have hl99 : lngK K a t (kw K w 2) ≤ 99 := by rw [hlg]; omega
            rw [fnd_cut (m := lngK K a t (kw K w 2)) (q := fun m => (allW (laneK K a t 1 (kh K 1 - 1)) (kw K w 2) (kw K w 4) (kw K w (3 + kw K w 3))).any (canP (laneK K a t 1 (kh K 1 - 1)) (kw K w 4) (kw K w (3 + kw K w 3)) (kw K w 2) (kw K w 1) (2 ^ kh K 3) (m - 1) dn)) 99 1 (fun j h1 h2 => must_eq ok h11 ha ht hat hw h1 (by omega)) (by omega) (by omega)]
            have wl := fun z6 => k_must_l (d := d + 3) (κ := κ) (z6 := z6) (a := a) (b := t) (dn := dn) (lg := lngK K a t (kw K w 2)) (HDR_d hH).1 hkL hw hW4 hS4 hdn hl99 (lngK K a t (kw K w 2) + 1 - 1) 1 (by omega) (Nat.le_refl 1)
            rw [hlg] at wl ⊢
            exact wl _
          · have hjv := joinK_v ok hj
            have hsj := spanJ_b ok hjv
            have hlg : lngK K a t (kw K w 2) = min 99 (spanJ K j - 1) := by unfold lngK; rw [hj]
            obtain ⟨n0, f0, q1, hf3, _, _⟩ := j_obj (hRd ρ3 κ4) hK ok hjv
            have hjm : cset (rset M 83 ρ3) κ4 (jad K 36 j) = .inr (1, kfs n0 f0) := q1
            refine Wp.n (pc' := 106) 2 rfl ?_
            refine Wp.s (pc' := 114) rfl ?_
            refine Wp.n (pc' := 118) 2 rfl ?_
            refine Wp.get (len := 3) rfl (hjm) rfl ?_
            refine Wp.top hf3 ?_
            refine Wp.n (pc' := 122) 1 rfl ?_
            refine Wp.isubN (x := spanJ K j) (y := 1) (len := 1) rfl (by omega) ?_
            refine Wp.bi (len := 3) rfl (by decide) rfl (by omega) ?_
            refine Wp.top (n_min (x := 99) (y := spanJ K j - 1) (by decide) (by omega)) ?_
            refine Wp.n (pc' := 131) 3 rfl ?_
            have hl99 : lngK K a t (kw K w 2) ≤ 99 := by rw [hlg]; omega
            rw [fnd_cut (m := lngK K a t (kw K w 2)) (q := fun m => (allW (laneK K a t 1 (kh K 1 - 1)) (kw K w 2) (kw K w 4) (kw K w (3 + kw K w 3))).any (canP (laneK K a t 1 (kh K 1 - 1)) (kw K w 4) (kw K w (3 + kw K w 3)) (kw K w 2) (kw K w 1) (2 ^ kh K 3) (m - 1) dn)) 99 1 (fun j h1 h2 => must_eq ok h11 ha ht hat hw h1 (by omega)) (by omega) (by omega)]
            have wl := fun z6 => k_must_l (d := d + 3) (κ := κ) (z6 := z6) (a := a) (b := t) (dn := dn) (lg := lngK K a t (kw K w 2)) (HDR_d hH).1 hkL hw hW4 hS4 hdn hl99 (lngK K a t (kw K w 2) + 1 - 1) 1 (by omega) (Nat.le_refl 1)
            rw [hlg] at wl ⊢
            exact wl _
        · skip
          refine Wp.n (pc' := 32) 1 rfl ?_
          refine Wp.retI (len := 1) rfl rfl ?_
          refine RDI_r hH.2.2 ScC_r ?_
          first
            | rw [if_neg (fun q => by have q1 := q.1; unfold areT at q1; rw [h6] at q1; cases q1)]
            | rw [if_neg (fun q => by have q1 := q.1; unfold areT at q1; rw [decide_eq_true h11_, Bool.not_true, Bool.and_false] at q1; cases q1)]
            | rw [if_neg (fun q => by rw [h22] at q; exact absurd q.2.1 (by decide))]
            | rw [if_neg (fun q => h27 q.2.2)]

end MUSTC
end
section
/-! THE CLASS: slots, the tape, images, counts, the ford. -/
section CR2
variable {d : Nat} {X : MD} {pc len : Nat} {l : AL} {st : List Value} {M : AM} {Q : Option Value → AM → Prop} {κ : CS} {v : Value}
theorem Wp.clast {j : Nat} {x : Int64} (hc : cdx X pc = some (.inr (.inl .lastore), len)) (hj : j < 240) (h : Wp d X (pc + len) l st (cset M (cq κ (vp_updL κ.2.2.1 j x))) Q) : Wp d X pc l (.long x :: .int (nI j) :: .ref 283 :: st) (cset M κ) Q := by
  refine Wp.lastN (n := 240) (f := κ.2.2.1) hc rfl hj (by decide) ?_
  have e := cset_up (M := M) (κ := κ) (κ' := cq κ (vp_updL κ.2.2.1 j x)) (s := 14) (by decide) rfl (fun i hi => cc_cq hi)
  rw [← e] at h
  exact h
theorem Wp.cbast1 {j : Nat} {x : Int32} (hc : cdx X pc = some (.inr (.inl .bastore), len)) (hj : j < 2000) (h : Wp d X (pc + len) l st (cset M (ca κ 1 (upd (κ.2.1 1) j (anar 2 x)))) Q) : Wp d X pc l (.int x :: .int (nI j) :: .ref 34 :: st) (cset M κ) Q := by
  refine Wp.bastN (t := 2) (n := 2000) (f := κ.2.1 1) hc rfl rfl hj (by decide) ?_
  have e := cset_upa (M := M) (κ := κ) (s := 1) (f := upd (κ.2.1 1) j (anar 2 x)) (by decide) rfl
  rw [← e] at h
  exact h
theorem Wp.cbast3 {j : Nat} {x : Int32} (hc : cdx X pc = some (.inr (.inl .bastore), len)) (hj : j < 3) (h : Wp d X (pc + len) l st (cset M (ca κ 3 (upd (κ.2.1 3) j (anar 3 x)))) Q) : Wp d X pc l (.int x :: .int (nI j) :: .ref 272 :: st) (cset M κ) Q := by
  refine Wp.bastN (t := 3) (n := 3) (f := κ.2.1 3) hc rfl rfl hj (by decide) ?_
  have e := cset_upa (M := M) (κ := κ) (s := 3) (f := upd (κ.2.1 3) j (anar 3 x)) (by decide) rfl
  rw [← e] at h
  exact h
theorem Wp.acopyL {sp dp m : Nat} {a b : Nat} (hc : cdx X pc = some (.inr (.inr (9, a, b, v)), len)) (hs : sp + m ≤ 240) (hp : dp + m ≤ 240) (hr : Nat.blt 4 st.length = false) (hd : 8 ≤ d) (h : Wp d X (pc + len) l st (cset M (cq κ (va_cpy κ.2.2.1 κ.2.2.1 sp dp m))) Q) : Wp d X pc l (.int (nI m) :: .int (nI dp) :: .ref 283 :: .int (nI sp) :: .ref 283 :: st) (cset M κ) Q := by
  have e := cset_up (M := M) (κ := κ) (κ' := cq κ (va_cpy κ.2.2.1 κ.2.2.1 sp dp m)) (s := 14) (by decide) rfl (fun i hi => cc_cq hi)
  rw [← e] at h
  refine Wp.bi hc (by decide) ?_ hd h
  show (bif decide (nI m < 0) || decide (nI dp < 0) || decide (nI sp < 0) || Nat.blt 4 st.length then none else (bif Nat.ble ((nI sp).toNatClampNeg + (nI m).toNatClampNeg) 240 && Nat.ble ((nI dp).toNatClampNeg + (nI m).toNatClampNeg) 240 then some (st, va_up (cset M κ) 283 (.inl (1, 240, .inr (.inl (va_cpy κ.2.2.1 κ.2.2.1 (nI sp).toNatClampNeg (nI dp).toNatClampNeg (nI m).toNatClampNeg))))) else none)) = _
  rw [decide_eq_false (nI_pos (show m < 2 ^ 31 by omega)), decide_eq_false (nI_pos (show dp < 2 ^ 31 by omega)), decide_eq_false (nI_pos (show sp < 2 ^ 31 by omega)), hr, nI_clamp (show m < 2 ^ 31 by omega), nI_clamp (show dp < 2 ^ 31 by omega), nI_clamp (show sp < 2 ^ 31 by omega), Nat.ble_eq_true_of_le hs, Nat.ble_eq_true_of_le hp]
  rfl
end CR2
def SC (κ : CS) (S : SS) : Prop := SOK S ∧ ∀ s, s < 4 → κ.2.1 16 s = S.1 s ∧ κ.2.1 15 s = nI (S.2.1 s) ∧ ∀ i, i < S.2.1 s → κ.2.2.1 (60 * s + i) = S.2.2 s i
/-- only the slots differ -/
def FZ (κ κ' : CS) : Prop := κ'.1 = κ.1 ∧ (∀ s, s ≠ 15 → s ≠ 16 → κ'.2.1 s = κ.2.1 s) ∧ κ'.2.2.2 = κ.2.2.2
theorem FZ.r {κ : CS} : FZ κ κ := ⟨rfl, fun _ _ _ => rfl, rfl⟩
section SLC
variable {d : Nat} {M : AM} {r : Nat} {K : KD} {S : SS} {T : TP} {κ κ' : CS} {Q : Option Value → AM → Prop}
theorem k_has (x : Int32) : Ev d md_50 0 [some (.ref 282), some (.int x)] [] M (some (.int (bI (isN 4 x))), M) := by
  refine Wp.toEv ?_
  refine Wp.n (pc' := 1) 1 rfl ?_
  refine Wp.if2 (tgt := 13) (len := 3) rfl (fun h1 => ?_) (fun h1 => ?_)
  · rw [i_lt] at h1
    refine Wp.n (pc' := 14) 1 rfl ?_
    refine Wp.retZ (len := 1) (c := false) rfl rfl rfl ?_
    first
      | exact ⟨by rw [show isN 4 x = true from decide_eq_true (by have e1 : ¬ x.toInt < 0 := h1; have e2 : ¬ (4 : Int) ≤ x.toInt := h6; omega)], rfl⟩
      | exact ⟨by rw [show isN 4 x = false from decide_eq_false (fun q => by have e1 : x.toInt < 0 := h1; omega)], rfl⟩
      | exact ⟨by rw [show isN 4 x = false from decide_eq_false (fun q => by have e1 : (4 : Int) ≤ x.toInt := h6; omega)], rfl⟩
  · rw [i_lt] at h1
    refine Wp.n (pc' := 6) 2 rfl ?_
    refine Wp.ic3 (tgt := 13) (len := 3) rfl (fun h6 => ?_) (fun h6 => ?_)
    · rw [i_le] at h6
      refine Wp.n (pc' := 14) 1 rfl ?_
      refine Wp.retZ (len := 1) (c := false) rfl rfl rfl ?_
      first
        | exact ⟨by rw [show isN 4 x = true from decide_eq_true (by have e1 : ¬ x.toInt < 0 := h1; have e2 : ¬ (4 : Int) ≤ x.toInt := h6; omega)], rfl⟩
        | exact ⟨by rw [show isN 4 x = false from decide_eq_false (fun q => by have e1 : x.toInt < 0 := h1; omega)], rfl⟩
        | exact ⟨by rw [show isN 4 x = false from decide_eq_false (fun q => by have e1 : (4 : Int) ≤ x.toInt := h6; omega)], rfl⟩
    · rw [i_le] at h6
      refine Wp.n (pc' := 14) 2 rfl ?_
      refine Wp.retZ (len := 1) (c := true) rfl rfl rfl ?_
      first
        | exact ⟨by rw [show isN 4 x = true from decide_eq_true (by have e1 : ¬ x.toInt < 0 := h1; have e2 : ¬ (4 : Int) ≤ x.toInt := h6; omega)], rfl⟩
        | exact ⟨by rw [show isN 4 x = false from decide_eq_false (fun q => by have e1 : x.toInt < 0 := h1; omega)], rfl⟩
        | exact ⟨by rw [show isN 4 x = false from decide_eq_false (fun q => by have e1 : (4 : Int) ≤ x.toInt := h6; omega)], rfl⟩

theorem k_isBare (hS : SC κ S) {s : Nat} (hs : s < 4) : Ev d md_51 0 [some (.ref 282), some (.int (nI s))] [] (cset M κ) (some (.int (bI (decide (S.1 s = -1)))), cset M κ) := by
  refine Wp.toEv ?_
  refine Wp.n (pc' := 1) 1 rfl ?_
  refine Wp.get (len := 3) rfl (rfl) rfl ?_
  refine Wp.n (pc' := 5) 1 rfl ?_
  refine Wp.ialdN (j := s) (len := 1) rfl (rfl) rfl (by omega) (by decide) ?_
  refine Wp.top (hS.2 s hs).1 ?_
  refine Wp.n (pc' := 7) 1 rfl ?_
  refine Wp.ic1 (tgt := 14) (len := 3) rfl (fun h7 => ?_) (fun h7 => ?_)
  · skip
    refine Wp.n (pc' := 15) 1 rfl ?_
    refine Wp.retZ (len := 1) (c := false) rfl rfl rfl ?_
    first
      | exact ⟨by rw [decide_eq_true h7], rfl⟩
      | exact ⟨by rw [decide_eq_false h7], rfl⟩
  · skip
    refine Wp.n (pc' := 15) 2 rfl ?_
    refine Wp.retZ (len := 1) (c := true) rfl rfl rfl ?_
    first
      | exact ⟨by rw [decide_eq_true h7], rfl⟩
      | exact ⟨by rw [decide_eq_false h7], rfl⟩

theorem k_valueAt (hS : SC κ S) {s i : Nat} (hs : s < 4) (hi : i < S.2.1 s) : Ev d md_52 0 [some (.ref 282), some (.int (nI s)), some (.int (nI i))] [] (cset M κ) (some (.long (S.2.2 s i)), cset M κ) := by
  refine Wp.toEv ?_
  have h60 := hS.1 s hs
  refine Wp.n (pc' := 1) 1 rfl ?_
  refine Wp.get (len := 3) rfl (rfl) rfl ?_
  refine Wp.n (pc' := 7) 2 rfl ?_
  refine Wp.imulN (x := s) (y := 60) (len := 1) rfl ?_
  refine Wp.n (pc' := 9) 1 rfl ?_
  refine Wp.iaddN (x := s * 60) (y := i) (len := 1) rfl ?_
  refine Wp.laldN (j := (s * 60) + i) (len := 1) rfl (rfl) (by omega) (by decide) ?_
  refine Wp.topL (show _ = S.2.2 s i from by rw [Nat.mul_comm s 60]; exact (hS.2 s hs).2.2 i hi) ?_
  refine Wp.retL (len := 1) rfl rfl ?_
  exact ⟨rfl, rfl⟩

theorem k_filled_l (hS : SC κ S) : ∀ (n s c : Nat), s + n = 4 → Wp (d + 1) md_53 4 [some (.ref 282), some (.int (nI c)), some (.int (nI s))] [] (cset M κ) (IsR (some (.int (nI (fld (fun c s => if S.1 s = -1 then c else c + 1) n s c)))) (cset M κ)) := by
  intro n
  induction n with
  | zero =>
    intro s c hs
    refine Wp.n (pc' := 6) 2 rfl ?_
    refine Wp.nc3 (x := s) (y := 4) (tgt := 31) (len := 3) rfl (by omega) (by omega) (fun h6 => ?_) (fun h6 => ?_)
    · skip
      refine Wp.n (pc' := 32) 1 rfl ?_
      refine Wp.retI (len := 1) rfl rfl ?_
      exact ⟨rfl, rfl⟩
    · omega
  | succ n ih =>
    intro s c hs
    show Wp _ _ _ _ _ _ (IsR (some (.int (nI (fld (fun c s => if S.1 s = -1 then c else c + 1) n (s + 1) (if S.1 s = -1 then c else c + 1))))) (cset M κ))
    refine Wp.n (pc' := 6) 2 rfl ?_
    refine Wp.nc3 (x := s) (y := 4) (tgt := 31) (len := 3) rfl (by omega) (by omega) (fun h6 => ?_) (fun h6 => ?_)
    · omega
    · skip
      refine Wp.n (pc' := 12) 3 rfl ?_
      refine Wp.ecallV (len := 3) rfl rfl rfl (rfl) rfl (by decide) rfl (k_isBare hS (by omega)) ?_
      refine Wp.ifb0 (tgt := 22) (len := 3) rfl (fun h15 => ?_) (fun h15 => ?_)
      · skip
        refine Wp.n (pc' := 23) 1 rfl ?_
        refine Wp.iaddN (x := c) (y := 1) (len := 1) rfl ?_
        refine Wp.n (pc' := 25) 1 rfl ?_
        refine Wp.incN (x := s) (len := 3) rfl rfl ?_
        refine Wp.n (pc' := 4) 1 rfl ?_
        first
          | (rw [if_pos (of_decide_eq_true h15)]; exact ih (s + 1) c (by omega))
          | (rw [if_neg (of_decide_eq_false h15)]; exact ih (s + 1) (c + 1) (by omega))
      · skip
        refine Wp.n (pc' := 23) 2 rfl ?_
        refine Wp.iaddN (x := c) (y := 0) (len := 1) rfl ?_
        refine Wp.n (pc' := 25) 1 rfl ?_
        refine Wp.incN (x := s) (len := 3) rfl rfl ?_
        refine Wp.n (pc' := 4) 1 rfl ?_
        first
          | (rw [if_pos (of_decide_eq_true h15)]; exact ih (s + 1) c (by omega))
          | (rw [if_neg (of_decide_eq_false h15)]; exact ih (s + 1) (c + 1) (by omega))

theorem k_filled (hS : SC κ S) : Ev (d + 1) md_53 0 [some (.ref 282), none, none] [] (cset M κ) (some (.int (nI (sltN S))), cset M κ) := by
  refine Wp.toEv ?_
  refine Wp.n (pc' := 4) 4 rfl ?_
  exact k_filled_l hS 4 0 0 (by decide)
theorem k_begin_l {s w m : Nat} (hs : s < 4) : ∀ (n i : Nat) (g : Nat → Int64), i + n = 60 → (∀ q, q < i → g (60 * s + q) = 0) → (∀ q, q < 60 * s ∨ 60 * s + 60 ≤ q → g q = κ.2.2.1 q) → Wp d md_54 17 [some (.ref 282), some (.int (nI s)), some (.int (nI w)), some (.int (nI m)), some (.int (nI i))] [] (cset M (cq κ g)) (fun v M' => v = none ∧ ∃ g, M' = cset M (cq κ g) ∧ (∀ q, q < 60 → g (60 * s + q) = 0) ∧ (∀ q, q < 60 * s ∨ 60 * s + 60 ≤ q → g q = κ.2.2.1 q)) := by
  intro n
  induction n with
  | zero =>
    intro i g hi h0 h1
    refine Wp.n (pc' := 21) 2 rfl ?_
    refine Wp.nc3 (x := i) (y := 60) (tgt := 43) (len := 3) rfl (by omega) (by omega) (fun h21 => ?_) (fun h21 => ?_)
    · skip
      refine Wp.retV (len := 1) rfl rfl ?_
      exact ⟨rfl, g, rfl, fun q hq => h0 q (by omega), h1⟩
    · omega
  | succ n ih =>
    intro i g hi h0 h1
    refine Wp.n (pc' := 21) 2 rfl ?_
    refine Wp.nc3 (x := i) (y := 60) (tgt := 43) (len := 3) rfl (by omega) (by omega) (fun h21 => ?_) (fun h21 => ?_)
    · omega
    · skip
      refine Wp.n (pc' := 25) 1 rfl ?_
      refine Wp.get (len := 3) rfl (rfl) rfl ?_
      refine Wp.n (pc' := 31) 2 rfl ?_
      refine Wp.imulN (x := s) (y := 60) (len := 1) rfl ?_
      refine Wp.n (pc' := 34) 1 rfl ?_
      refine Wp.iaddN (x := s * 60) (y := i) (len := 1) rfl ?_
      refine Wp.n (pc' := 36) 1 rfl ?_
      refine Wp.clast (len := 1) rfl (by omega) ?_
      refine Wp.incN (x := i) (len := 3) rfl rfl ?_
      refine Wp.n (pc' := 17) 1 rfl ?_
      refine ih (i + 1) _ (by omega) (fun q hq => ?_) (fun q hq => ?_)
      · show vp_updL g (s * 60 + i) _ (60 * s + q) = 0
        by_cases c : q = i
        · rw [c, show 60 * s + i = s * 60 + i by omega, lu_s]
        · rw [lu_n (by omega)]; exact h0 q (by omega)
      · show vp_updL g (s * 60 + i) _ q = _
        rw [lu_n (by omega)]; exact h1 q hq

theorem k_begin (hS : SC κ S) {s w m : Nat} (hs : s < 4) (hm : m ≤ 60) : Wp d md_54 0 [some (.ref 282), some (.int (nI s)), some (.int (nI w)), some (.int (nI m)), none] [] (cset M κ) (fun v M' => v = none ∧ ∃ κ', M' = cset M κ' ∧ FZ κ κ' ∧ SC κ' (upd S.1 s (nI w), va_up S.2.1 s m, va_up S.2.2 s (fun _ => 0))) := by
  refine Wp.n (pc' := 1) 1 rfl ?_
  refine Wp.get (len := 3) rfl (rfl) rfl ?_
  refine Wp.n (pc' := 6) 2 rfl ?_
  refine Wp.ciastN (s := 16) (n := 4) (j := s) (len := 1) rfl rfl rfl rfl (by omega) ?_
  refine Wp.n (pc' := 8) 1 rfl ?_
  refine Wp.get (len := 3) rfl (rfl) rfl ?_
  refine Wp.n (pc' := 13) 2 rfl ?_
  refine Wp.ciastN (s := 15) (n := 4) (j := s) (len := 1) rfl rfl rfl rfl (by omega) ?_
  refine Wp.n (pc' := 17) 2 rfl ?_
  have w0 := k_begin_l (d := d) (M := M) (κ := ca (ca κ 16 (upd (κ.2.1 16) s (nI w))) 15 (upd (κ.2.1 15) s (nI m))) (s := s) (w := w) (m := m) hs 60 0 κ.2.2.1 (by decide) (fun q hq => absurd hq (Nat.not_lt_zero q)) (fun q _ => rfl)
  refine Wp.mono w0 ?_
  rintro _ _ ⟨rfl, g, rfl, g0, g1⟩
  refine ⟨rfl, _, rfl, ⟨rfl, fun z h5 h6 => ?_, rfl⟩, fun t ht => ?_, fun t ht => ?_⟩
  · show va_up (va_up κ.2.1 16 _) 15 _ z = _
    rw [va_up_ne _ _ h5, va_up_ne _ _ h6]
  · show va_up S.2.1 s m t ≤ 60
    by_cases c : t = s
    · rw [c, va_up_self]; omega
    · rw [va_up_ne _ _ c]; exact hS.1 t ht
  · have h60 := hS.1 t ht
    obtain ⟨a1, a2, a3⟩ := hS.2 t ht
    show upd (κ.2.1 16) s (nI w) t = upd S.1 s (nI w) t ∧ upd (κ.2.1 15) s (nI m) t = nI (va_up S.2.1 s m t) ∧ ∀ i, i < va_up S.2.1 s m t → g (60 * t + i) = va_up S.2.2 s (fun _ => 0) t i
    by_cases c : t = s
    · subst c
      rw [pk_us, pk_us, pk_us, va_up_self, va_up_self]
      exact ⟨rfl, rfl, fun i hi => g0 i (by omega)⟩
    · rw [pk_un c, pk_un c, pk_un c, va_up_ne _ _ c, va_up_ne _ _ c]
      exact ⟨a1, a2, fun i hi => by rw [g1 _ (by omega)]; exact a3 i hi⟩

theorem k_cut (x : Int64) (w : Int32) : Ev d md_56 0 [some (.long x), none, some (.int w)] [] M (some (.long (cutV x w)), M) := by
  refine Wp.toEv ?_
  unfold cutV
  refine Wp.n (pc' := 1) 1 rfl ?_
  by_cases c0 : w = 0
  · subst c0
    refine Wp.sw (len := 27) (t := 28) rfl (sw_at rfl 0 rfl rfl) ?_
    rw [if_pos rfl]
    refine Wp.n (pc' := 32) 4 rfl ?_
    refine Wp.retL (len := 1) rfl rfl ?_
    exact ⟨rfl, rfl⟩
  · rw [if_neg c0]
    by_cases c1 : w = 1
    · subst c1
      refine Wp.sw (len := 27) (t := 33) rfl (sw_at rfl 1 rfl rfl) ?_
      rw [if_pos rfl]
      refine Wp.n (pc' := 37) 4 rfl ?_
      refine Wp.retL (len := 1) rfl rfl ?_
      exact ⟨rfl, rfl⟩
    · rw [if_neg c1]
      by_cases c2 : w = 2
      · subst c2
        refine Wp.sw (len := 27) (t := 38) rfl (sw_at rfl 2 rfl rfl) ?_
        rw [if_pos rfl]
        refine Wp.n (pc' := 41) 3 rfl ?_
        refine Wp.retL (len := 1) rfl rfl ?_
        exact ⟨rfl, rfl⟩
      · rw [if_neg c2]
        refine Wp.sw (len := 27) (t := 42) rfl (sw_def rfl ?_) ?_
        · rw [i_eq] at c0 c1 c2
          have d0 : ¬ w.toInt = 0 := c0
          have d1 : ¬ w.toInt = 1 := c1
          have d2 : ¬ w.toInt = 2 := c2
          by_cases z : w.toInt < 0
          · exact Or.inl z
          · refine Or.inr ?_
            show (0 : Int) + 3 ≤ w.toInt
            omega
        · refine Wp.n (pc' := 43) 1 rfl ?_
          refine Wp.retL (len := 1) rfl rfl ?_
          exact ⟨rfl, rfl⟩
theorem SC_val (hS : SC κ S) {s i : Nat} {x : Int64} (hs : s < 4) (hi : i < 60) : SC (cq κ (vp_updL κ.2.2.1 (s * 60 + i) x)) (S.1, S.2.1, va_up S.2.2 s (vp_updL (S.2.2 s) i x)) := by
  refine ⟨hS.1, fun t ht => ?_⟩
  obtain ⟨a1, a2, a3⟩ := hS.2 t ht
  have h60 := hS.1 t ht
  refine ⟨a1, a2, fun j hj => ?_⟩
  have hj' : j < S.2.1 t := hj
  show vp_updL κ.2.2.1 (s * 60 + i) x (60 * t + j) = va_up S.2.2 s (vp_updL (S.2.2 s) i x) t j
  by_cases c : t = s
  · subst c
    rw [va_up_self]
    by_cases c2 : j = i
    · rw [c2, show 60 * t + i = t * 60 + i by omega, lu_s, lu_s]
    · rw [lu_n (by omega), lu_n c2]; exact a3 j hj'
  · rw [va_up_ne _ _ c, lu_n (by omega)]; exact a3 j hj'
theorem k_put (hS : SC κ S) {s i : Nat} (hs : s < 4) (hi : i < 60) (x : Int64) : Wp (d + 1) md_55 0 [some (.ref 282), some (.int (nI s)), some (.int (nI i)), some (.long x), none] [] (cset M κ) (fun v M' => v = none ∧ ∃ κ', M' = cset M κ' ∧ FZ κ κ' ∧ SC κ' (S.1, S.2.1, va_up S.2.2 s (vp_updL (S.2.2 s) i (cutV x (S.1 s))))) := by
  refine Wp.n (pc' := 1) 1 rfl ?_
  refine Wp.get (len := 3) rfl (rfl) rfl ?_
  refine Wp.n (pc' := 7) 2 rfl ?_
  refine Wp.imulN (x := s) (y := 60) (len := 1) rfl ?_
  refine Wp.n (pc' := 9) 1 rfl ?_
  refine Wp.iaddN (x := s * 60) (y := i) (len := 1) rfl ?_
  refine Wp.n (pc' := 12) 2 rfl ?_
  refine Wp.get (len := 3) rfl (rfl) rfl ?_
  refine Wp.n (pc' := 16) 1 rfl ?_
  refine Wp.ialdN (j := s) (len := 1) rfl (rfl) rfl (by omega) (by decide) ?_
  refine Wp.top (hS.2 s hs).1 ?_
  refine Wp.ecallS (len := 3) rfl rfl rfl rfl (k_cut _ _) ?_
  refine Wp.clast (len := 1) rfl (by omega) ?_
  refine Wp.retV (len := 1) rfl rfl ?_
  exact ⟨rfl, _, rfl, ⟨rfl, fun _ _ _ => rfl, rfl⟩, SC_val hS hs hi⟩

theorem k_covers (hS : SC κ S) {s : Nat} (hs : s < 4) (i m : Int32) : Ev d md_57 0 [some (.ref 282), some (.int (nI s)), some (.int i), some (.int m)] [] (cset M κ) (some (.int (bI (cov (S.2.1 s) i m))), cset M κ) := by
  refine Wp.toEv ?_
  have h60 := hS.1 s hs
  have hsub : ¬ m.toInt < 0 → (nI (S.2.1 s) - m).toInt = (S.2.1 s : Int) - m.toInt := by
    intro hm
    have h1 := Int32.toInt_lt m
    rw [Int32.toInt_sub, nI_toInt (by omega), Int.bmod_def]
    omega
  refine Wp.n (pc' := 1) 1 rfl ?_
  refine Wp.if2 (tgt := 24) (len := 3) rfl (fun h1 => ?_) (fun h1 => ?_)
  · rw [i_lt] at h1
    refine Wp.n (pc' := 25) 1 rfl ?_
    refine Wp.retZ (len := 1) (c := false) rfl rfl rfl ?_
    first
      | exact ⟨by rw [show cov (S.2.1 s) i m = true from decide_eq_true ⟨by have e1 : ¬ i.toInt < 0 := h1; omega, by have e1 : ¬ m.toInt < 0 := h5; omega, by omega⟩], rfl⟩
      | exact ⟨by rw [show cov (S.2.1 s) i m = false from decide_eq_false (fun q => by have e1 : i.toInt < 0 := h1; omega)], rfl⟩
      | exact ⟨by rw [show cov (S.2.1 s) i m = false from decide_eq_false (fun q => by have e1 : m.toInt < 0 := h5; omega)], rfl⟩
      | exact ⟨by rw [show cov (S.2.1 s) i m = false from decide_eq_false (fun q => by omega)], rfl⟩
  · rw [i_lt] at h1
    refine Wp.n (pc' := 5) 1 rfl ?_
    refine Wp.if2 (tgt := 24) (len := 3) rfl (fun h5 => ?_) (fun h5 => ?_)
    · rw [i_lt] at h5
      refine Wp.n (pc' := 25) 1 rfl ?_
      refine Wp.retZ (len := 1) (c := false) rfl rfl rfl ?_
      first
        | exact ⟨by rw [show cov (S.2.1 s) i m = true from decide_eq_true ⟨by have e1 : ¬ i.toInt < 0 := h1; omega, by have e1 : ¬ m.toInt < 0 := h5; omega, by omega⟩], rfl⟩
        | exact ⟨by rw [show cov (S.2.1 s) i m = false from decide_eq_false (fun q => by have e1 : i.toInt < 0 := h1; omega)], rfl⟩
        | exact ⟨by rw [show cov (S.2.1 s) i m = false from decide_eq_false (fun q => by have e1 : m.toInt < 0 := h5; omega)], rfl⟩
        | exact ⟨by rw [show cov (S.2.1 s) i m = false from decide_eq_false (fun q => by omega)], rfl⟩
    · rw [i_lt] at h5
      refine Wp.n (pc' := 10) 2 rfl ?_
      refine Wp.get (len := 3) rfl (rfl) rfl ?_
      refine Wp.n (pc' := 14) 1 rfl ?_
      refine Wp.ialdN (j := s) (len := 1) rfl (rfl) rfl (by omega) (by decide) ?_
      refine Wp.top (hS.2 s hs).2.1 ?_
      refine Wp.n (pc' := 17) 2 rfl ?_
      refine Wp.ic4 (tgt := 24) (len := 3) rfl (fun h17 => ?_) (fun h17 => ?_)
      · rw [i_lt, hsub h5] at h17
        refine Wp.n (pc' := 25) 1 rfl ?_
        refine Wp.retZ (len := 1) (c := false) rfl rfl rfl ?_
        first
          | exact ⟨by rw [show cov (S.2.1 s) i m = true from decide_eq_true ⟨by have e1 : ¬ i.toInt < 0 := h1; omega, by have e1 : ¬ m.toInt < 0 := h5; omega, by omega⟩], rfl⟩
          | exact ⟨by rw [show cov (S.2.1 s) i m = false from decide_eq_false (fun q => by have e1 : i.toInt < 0 := h1; omega)], rfl⟩
          | exact ⟨by rw [show cov (S.2.1 s) i m = false from decide_eq_false (fun q => by have e1 : m.toInt < 0 := h5; omega)], rfl⟩
          | exact ⟨by rw [show cov (S.2.1 s) i m = false from decide_eq_false (fun q => by omega)], rfl⟩
      · rw [i_lt, hsub h5] at h17
        refine Wp.n (pc' := 25) 2 rfl ?_
        refine Wp.retZ (len := 1) (c := true) rfl rfl rfl ?_
        first
          | exact ⟨by rw [show cov (S.2.1 s) i m = true from decide_eq_true ⟨by have e1 : ¬ i.toInt < 0 := h1; omega, by have e1 : ¬ m.toInt < 0 := h5; omega, by omega⟩], rfl⟩
          | exact ⟨by rw [show cov (S.2.1 s) i m = false from decide_eq_false (fun q => by have e1 : i.toInt < 0 := h1; omega)], rfl⟩
          | exact ⟨by rw [show cov (S.2.1 s) i m = false from decide_eq_false (fun q => by have e1 : m.toInt < 0 := h5; omega)], rfl⟩
          | exact ⟨by rw [show cov (S.2.1 s) i m = false from decide_eq_false (fun q => by omega)], rfl⟩

theorem k_transfer (hS : SC κ S) {s i t k m : Nat} (hs : s < 4) (ht : t < 4) (hi : i + m ≤ S.2.1 s) (hk : k + m ≤ S.2.1 t) : Wp (d + 8) md_58 0 [some (.ref 282), some (.int (nI s)), some (.int (nI i)), some (.int (nI t)), some (.int (nI k)), some (.int (nI m))] [] (cset M κ) (fun v M' => v = none ∧ ∃ κ', M' = cset M κ' ∧ FZ κ κ' ∧ SC κ' (S.1, S.2.1, va_up S.2.2 t (pst (S.2.2 s) (S.2.2 t) i k m))) := by
  have s60 := hS.1 s hs
  have t60 := hS.1 t ht
  refine Wp.n (pc' := 1) 1 rfl ?_
  refine Wp.get (len := 3) rfl (rfl) rfl ?_
  refine Wp.n (pc' := 7) 2 rfl ?_
  refine Wp.imulN (x := s) (y := 60) (len := 1) rfl ?_
  refine Wp.n (pc' := 9) 1 rfl ?_
  refine Wp.iaddN (x := s * 60) (y := i) (len := 1) rfl ?_
  refine Wp.n (pc' := 11) 1 rfl ?_
  refine Wp.get (len := 3) rfl (rfl) rfl ?_
  refine Wp.n (pc' := 17) 2 rfl ?_
  refine Wp.imulN (x := t) (y := 60) (len := 1) rfl ?_
  refine Wp.n (pc' := 20) 1 rfl ?_
  refine Wp.iaddN (x := t * 60) (y := k) (len := 1) rfl ?_
  refine Wp.n (pc' := 23) 1 rfl ?_
  refine Wp.acopyL (sp := s * 60 + i) (dp := t * 60 + k) (m := m) (len := 3) rfl (by omega) (by omega) rfl (by omega) ?_
  refine Wp.retV (len := 1) rfl rfl ?_
  refine ⟨rfl, _, rfl, ⟨rfl, fun _ _ _ => rfl, rfl⟩, hS.1, fun u hu => ?_⟩
  obtain ⟨u1, u2, u3⟩ := hS.2 u hu
  have u60 := hS.1 u hu
  refine ⟨u1, u2, fun j hj => ?_⟩
  have hj' : j < S.2.1 u := hj
  show va_cpy κ.2.2.1 κ.2.2.1 (s * 60 + i) (t * 60 + k) m (60 * u + j) = va_up S.2.2 t (pst (S.2.2 s) (S.2.2 t) i k m) u j
  by_cases c : u = t
  · subst c
    rw [va_up_self]
    unfold pst
    by_cases c2 : k ≤ j ∧ j < k + m
    · rw [if_pos c2, pk_cpy_in (by omega) (by omega), show s * 60 + i + (60 * u + j - (u * 60 + k)) = 60 * s + (i + (j - k)) by omega]
      exact (hS.2 s hs).2.2 _ (by omega)
    · rw [if_neg c2, pk_cpy_out (by omega)]
      exact u3 j hj'
  · rw [va_up_ne _ _ c, pk_cpy_out (by omega)]
    exact u3 j hj'

theorem k_row (hD : HD M) (hS : SC κ S) (x w m : Int32) : Wp (d + 1) md_146 0 [some (.ref 32), some (.int x), some (.int w), some (.int m)] [] (cset M κ) (fun v M' => v = some (.int (rowA x w m)) ∧ ∃ κ', M' = cset M κ' ∧ FZ κ κ' ∧ SC κ' (rowN S x w m)) := by
  obtain ⟨ow, hDo⟩ := hD.1
  have hO : ∀ κ : CS, cset M κ 32 = .inr (9, hdl ow) := fun κ => (cset_o (by omega)).trans hDo
  unfold rowA rowN
  refine Wp.n (pc' := 1) 1 rfl ?_
  refine Wp.get (len := 3) rfl (hO _) rfl ?_
  refine Wp.n (pc' := 5) 1 rfl ?_
  refine Wp.ecallV (len := 3) rfl rfl rfl (rfl) rfl (by decide) rfl (k_has _) ?_
  refine Wp.ifb0 (tgt := 26) (len := 3) rfl (fun h8 => ?_) (fun h8 => ?_)
  · skip
    refine Wp.n (pc' := 28) 1 rfl ?_
    refine Wp.retI (len := 1) rfl rfl ?_
    first
      | (rw [if_neg (fun q => by rw [h8] at q; exact absurd q.1 (by decide)), if_neg (fun q => by rw [h8] at q; exact absurd q.1 (by decide))]; exact ⟨rfl, κ, rfl, FZ.r, hS⟩)
      | (rw [if_neg (fun q => by rw [h17] at q; exact absurd q.2.1 (by decide)), if_neg (fun q => by rw [h17] at q; exact absurd q.2.1 (by decide))]; exact ⟨rfl, κ, rfl, FZ.r, hS⟩)
      | (rw [if_neg (fun q => h23 q.2.2), if_neg (fun q => h23 q.2.2.1)]; exact ⟨rfl, κ, rfl, FZ.r, hS⟩)
  · skip
    refine Wp.n (pc' := 14) 3 rfl ?_
    refine Wp.ecallS (len := 3) rfl rfl rfl rfl (k_isWithinN (hi := 3) w (by decide)) ?_
    refine Wp.ifb0 (tgt := 26) (len := 3) rfl (fun h17 => ?_) (fun h17 => ?_)
    · skip
      refine Wp.n (pc' := 28) 1 rfl ?_
      refine Wp.retI (len := 1) rfl rfl ?_
      first
        | (rw [if_neg (fun q => by rw [h8] at q; exact absurd q.1 (by decide)), if_neg (fun q => by rw [h8] at q; exact absurd q.1 (by decide))]; exact ⟨rfl, κ, rfl, FZ.r, hS⟩)
        | (rw [if_neg (fun q => by rw [h17] at q; exact absurd q.2.1 (by decide)), if_neg (fun q => by rw [h17] at q; exact absurd q.2.1 (by decide))]; exact ⟨rfl, κ, rfl, FZ.r, hS⟩)
        | (rw [if_neg (fun q => h23 q.2.2), if_neg (fun q => h23 q.2.2.1)]; exact ⟨rfl, κ, rfl, FZ.r, hS⟩)
    · skip
      refine Wp.n (pc' := 23) 2 rfl ?_
      refine Wp.ic5 (tgt := 29) (len := 3) rfl (fun h23 => ?_) (fun h23 => ?_)
      · rw [i_le] at h23
        have hm60 : m.toInt ≤ 60 := h23
        rw [if_pos ⟨h8, h17, hm60⟩]
        refine Wp.n (pc' := 30) 1 rfl ?_
        refine Wp.if3 (tgt := 36) (len := 3) rfl (fun h30 => ?_) (fun h30 => ?_)
        · rw [i_le] at h30
          have hm0 : 0 ≤ m.toInt := h30
          obtain ⟨s, hs, rfl⟩ := isN_of h8
          obtain ⟨w, hw, rfl⟩ := isN_of h17
          obtain ⟨m, hm, rfl⟩ := nI_of (x := m) (by rw [i_lt]; intro q; have : m.toInt < 0 := q; omega)
          rw [nI_toInt hm] at hm60
          rw [if_neg (by rw [nI_toInt hm]; omega), if_pos ⟨h8, h17, by rw [nI_toInt hm]; omega, by rw [nI_toInt hm]; omega⟩, nI_clamp (by omega), nI_clamp hm]
          refine Wp.n (pc' := 37) 1 rfl ?_
          refine Wp.get (len := 3) rfl (hO _) rfl ?_
          refine Wp.n (pc' := 43) 3 rfl ?_
          refine Wp.callV (len := 3) rfl rfl rfl (rfl) rfl (by decide) rfl (k_begin hS hs (by omega)) ?_
          rintro _ _ ⟨rfl, κ2, rfl, hF, hS2⟩
          refine Wp.n (pc' := 47) 1 rfl ?_
          refine Wp.retI (len := 1) rfl rfl ?_
          exact ⟨rfl, κ2, rfl, hF, hS2⟩
        · rw [i_le] at h30
          refine Wp.n (pc' := 35) 1 rfl ?_
          refine Wp.retI (len := 1) rfl rfl ?_
          rw [if_pos (by have : ¬ (0 : Int) ≤ m.toInt := h30; omega), if_neg (fun q => h30 q.2.2.2)]
          exact ⟨rfl, κ, rfl, FZ.r, hS⟩
      · rw [i_le] at h23
        refine Wp.n (pc' := 28) 1 rfl ?_
        refine Wp.retI (len := 1) rfl rfl ?_
        first
          | (rw [if_neg (fun q => by rw [h8] at q; exact absurd q.1 (by decide)), if_neg (fun q => by rw [h8] at q; exact absurd q.1 (by decide))]; exact ⟨rfl, κ, rfl, FZ.r, hS⟩)
          | (rw [if_neg (fun q => by rw [h17] at q; exact absurd q.2.1 (by decide)), if_neg (fun q => by rw [h17] at q; exact absurd q.2.1 (by decide))]; exact ⟨rfl, κ, rfl, FZ.r, hS⟩)
          | (rw [if_neg (fun q => h23 q.2.2), if_neg (fun q => h23 q.2.2.1)]; exact ⟨rfl, κ, rfl, FZ.r, hS⟩)

theorem k_write (hD : HD M) (hS : SC κ S) (x i : Int32) (v : Int64) : Wp (d + 2) md_147 0 [some (.ref 32), some (.int x), some (.int i), some (.long v), none] [] (cset M κ) (fun r M' => r = some (.int (writeA S x i)) ∧ ∃ κ', M' = cset M κ' ∧ FZ κ κ' ∧ SC κ' (writeN S x i v)) := by
  obtain ⟨ow, hDo⟩ := hD.1
  have hO : ∀ κ : CS, cset M κ 32 = .inr (9, hdl ow) := fun κ => (cset_o (by omega)).trans hDo
  unfold writeA writeN
  refine Wp.n (pc' := 1) 1 rfl ?_
  refine Wp.get (len := 3) rfl (hO _) rfl ?_
  refine Wp.n (pc' := 5) 1 rfl ?_
  refine Wp.ecallV (len := 3) rfl rfl rfl (rfl) rfl (by decide) rfl (k_has _) ?_
  refine Wp.ifb1 (tgt := 14) (len := 3) rfl (fun h8 => ?_) (fun h8 => ?_)
  · skip
    obtain ⟨s, hs, rfl⟩ := isN_of h8
    have h60 := hS.1 s hs
    rw [if_pos h8, nI_clamp (by omega)]
    refine Wp.n (pc' := 15) 1 rfl ?_
    refine Wp.get (len := 3) rfl (hO _) rfl ?_
    refine Wp.n (pc' := 19) 1 rfl ?_
    refine Wp.ecallV (len := 3) rfl rfl rfl (rfl) rfl (by decide) rfl (k_isBare hS hs) ?_
    refine Wp.ifb0 (tgt := 28) (len := 3) rfl (fun h22 => ?_) (fun h22 => ?_)
    · skip
      have h22f := of_decide_eq_false h22
      rw [if_neg h22f]
      refine Wp.n (pc' := 29) 1 rfl ?_
      refine Wp.if2 (tgt := 45) (len := 3) rfl (fun h29 => ?_) (fun h29 => ?_)
      · rw [i_lt] at h29
        refine Wp.n (pc' := 47) 1 rfl ?_
        refine Wp.retI (len := 1) rfl rfl ?_
        have hN : ¬ isN (S.2.1 s) i = true := fun q => by
          have := of_decide_eq_true q
          first
            | (have e1 : i.toInt < 0 := h29; omega)
            | omega
        rw [if_neg hN, if_neg (fun q => hN q.2.2)]
        exact ⟨rfl, κ, rfl, FZ.r, hS⟩
      · rw [i_lt] at h29
        refine Wp.n (pc' := 34) 2 rfl ?_
        refine Wp.get (len := 3) rfl (hO _) rfl ?_
        refine Wp.get (len := 3) rfl (rfl) rfl ?_
        refine Wp.n (pc' := 41) 1 rfl ?_
        refine Wp.ialdN (j := s) (len := 1) rfl (rfl) rfl (by omega) (by decide) ?_
        refine Wp.top (hS.2 s hs).2.1 ?_
        refine Wp.ic2 (tgt := 48) (len := 3) rfl (fun h42 => ?_) (fun h42 => ?_)
        · rw [i_lt, nI_toInt (show S.2.1 s < 2 ^ 31 by omega)] at h42
          have hN : isN (S.2.1 s) i = true := decide_eq_true (by have e1 : ¬ i.toInt < 0 := h29; omega)
          obtain ⟨j, hj, rfl⟩ := isN_of hN
          rw [if_pos hN, if_pos ⟨h8, h22f, hN⟩, nI_clamp (by omega)]
          refine Wp.n (pc' := 49) 1 rfl ?_
          refine Wp.get (len := 3) rfl (hO _) rfl ?_
          refine Wp.n (pc' := 55) 3 rfl ?_
          refine Wp.callV (len := 3) rfl rfl rfl (rfl) rfl (by decide) rfl (k_put hS hs (by omega) v) ?_
          rintro _ _ ⟨rfl, κ2, rfl, hF, hS2⟩
          refine Wp.n (pc' := 59) 1 rfl ?_
          refine Wp.retI (len := 1) rfl rfl ?_
          exact ⟨rfl, κ2, rfl, hF, hS2⟩
        · rw [i_lt, nI_toInt (show S.2.1 s < 2 ^ 31 by omega)] at h42
          refine Wp.n (pc' := 47) 1 rfl ?_
          refine Wp.retI (len := 1) rfl rfl ?_
          have hN : ¬ isN (S.2.1 s) i = true := fun q => by
            have := of_decide_eq_true q
            first
              | (have e1 : i.toInt < 0 := h29; omega)
              | omega
          rw [if_neg hN, if_neg (fun q => hN q.2.2)]
          exact ⟨rfl, κ, rfl, FZ.r, hS⟩
    · skip
      refine Wp.n (pc' := 27) 1 rfl ?_
      refine Wp.retI (len := 1) rfl rfl ?_
      rw [if_pos (of_decide_eq_true h22), if_neg (fun q => q.2.1 (of_decide_eq_true h22))]
      exact ⟨rfl, κ, rfl, FZ.r, hS⟩
  · skip
    refine Wp.n (pc' := 13) 1 rfl ?_
    refine Wp.retI (len := 1) rfl rfl ?_
    rw [if_neg (by rw [h8]; decide), if_neg (fun q => by rw [h8] at q; exact absurd q.1 (by decide))]
    exact ⟨rfl, κ, rfl, FZ.r, hS⟩

theorem k_paste (hD : HD M) (hS : SC κ S) (x i t k m : Int32) : Wp (d + 9) md_148 0 [some (.ref 32), some (.int x), some (.int i), some (.int t), some (.int k), some (.int m)] [] (cset M κ) (fun r M' => r = some (.int (pasteA S x i t k m)) ∧ ∃ κ', M' = cset M κ' ∧ FZ κ κ' ∧ SC κ' (pasteN S x i t k m)) := by
  obtain ⟨ow, hDo⟩ := hD.1
  have hO : ∀ κ : CS, cset M κ 32 = .inr (9, hdl ow) := fun κ => (cset_o (by omega)).trans hDo
  unfold pasteA pasteN
  have kn : pasteC S x i t k m = false → (∃ κ', cset M κ = cset M κ' ∧ FZ κ κ' ∧ SC κ' (if pasteC S x i t k m = true then (S.1, S.2.1, va_up S.2.2 t.toNatClampNeg (pst (S.2.2 x.toNatClampNeg) (S.2.2 t.toNatClampNeg) i.toNatClampNeg k.toNatClampNeg m.toNatClampNeg)) else S)) := fun h => ⟨κ, rfl, FZ.r, by rw [if_neg (by rw [h]; decide)]; exact hS⟩
  refine Wp.n (pc' := 1) 1 rfl ?_
  refine Wp.get (len := 3) rfl (hO _) rfl ?_
  refine Wp.n (pc' := 5) 1 rfl ?_
  refine Wp.ecallV (len := 3) rfl rfl rfl (rfl) rfl (by decide) rfl (k_has _) ?_
  refine Wp.ifb0 (tgt := 22) (len := 3) rfl (fun h8 => ?_) (fun h8 => ?_)
  · skip
    refine Wp.n (pc' := 24) 1 rfl ?_
    refine Wp.retI (len := 1) rfl rfl ?_
    first
      | (rw [if_neg (by rw [h8, Bool.false_and]; decide)]; exact ⟨rfl, kn (by unfold pasteC; rw [h8]; simp only [Bool.false_and])⟩)
      | (rw [if_neg (by rw [h19, Bool.and_false]; decide)]; exact ⟨rfl, kn (by unfold pasteC; rw [h19]; simp only [Bool.and_false, Bool.false_and])⟩)
  · skip
    refine Wp.n (pc' := 12) 1 rfl ?_
    refine Wp.get (len := 3) rfl (hO _) rfl ?_
    refine Wp.n (pc' := 16) 1 rfl ?_
    refine Wp.ecallV (len := 3) rfl rfl rfl (rfl) rfl (by decide) rfl (k_has _) ?_
    refine Wp.ifb1 (tgt := 25) (len := 3) rfl (fun h19 => ?_) (fun h19 => ?_)
    · skip
      rw [if_pos (by rw [h8, h19]; rfl)]
      obtain ⟨s, hs, rfl⟩ := isN_of h8
      obtain ⟨t, ht, rfl⟩ := isN_of h19
      rw [nI_clamp (show s < 2 ^ 31 by omega), nI_clamp (show t < 2 ^ 31 by omega)] at kn ⊢
      refine Wp.n (pc' := 26) 1 rfl ?_
      refine Wp.get (len := 3) rfl (hO _) rfl ?_
      refine Wp.n (pc' := 30) 1 rfl ?_
      refine Wp.ecallV (len := 3) rfl rfl rfl (rfl) rfl (by decide) rfl (k_isBare hS hs) ?_
      refine Wp.ifb1 (tgt := 47) (len := 3) rfl (fun h33 => ?_) (fun h33 => ?_)
      · skip
        refine Wp.n (pc' := 49) 1 rfl ?_
        refine Wp.retI (len := 1) rfl rfl ?_
        first
          | (rw [if_pos (Or.inl (of_decide_eq_true h33))]; exact ⟨rfl, kn (by unfold pasteC; rw [nI_clamp (show s < 2 ^ 31 by omega), h33]; simp only [Bool.not_true, Bool.and_false, Bool.false_and])⟩)
          | (rw [if_pos (Or.inr (of_decide_eq_true h44))]; exact ⟨rfl, kn (by unfold pasteC; rw [nI_clamp (show t < 2 ^ 31 by omega), h44]; simp only [Bool.not_true, Bool.and_false, Bool.false_and])⟩)
      · skip
        refine Wp.n (pc' := 37) 1 rfl ?_
        refine Wp.get (len := 3) rfl (hO _) rfl ?_
        refine Wp.n (pc' := 41) 1 rfl ?_
        refine Wp.ecallV (len := 3) rfl rfl rfl (rfl) rfl (by decide) rfl (k_isBare hS ht) ?_
        refine Wp.ifb0 (tgt := 50) (len := 3) rfl (fun h44 => ?_) (fun h44 => ?_)
        · skip
          rw [if_neg (by rintro (q | q); exact of_decide_eq_false h33 q; exact of_decide_eq_false h44 q)]
          refine Wp.n (pc' := 51) 1 rfl ?_
          refine Wp.get (len := 3) rfl (hO _) rfl ?_
          refine Wp.get (len := 3) rfl (rfl) rfl ?_
          refine Wp.n (pc' := 58) 1 rfl ?_
          refine Wp.ialdN (j := s) (len := 1) rfl (rfl) rfl (by omega) (by decide) ?_
          refine Wp.top (hS.2 s hs).1 ?_
          refine Wp.n (pc' := 60) 1 rfl ?_
          refine Wp.get (len := 3) rfl (hO _) rfl ?_
          refine Wp.get (len := 3) rfl (rfl) rfl ?_
          refine Wp.n (pc' := 67) 1 rfl ?_
          refine Wp.ialdN (j := t) (len := 1) rfl (rfl) rfl (by omega) (by decide) ?_
          refine Wp.top (hS.2 t ht).1 ?_
          refine Wp.ic0 (tgt := 74) (len := 3) rfl (fun h68 => ?_) (fun h68 => ?_)
          · skip
            rw [if_neg (fun q => q h68)]
            refine Wp.n (pc' := 75) 1 rfl ?_
            refine Wp.get (len := 3) rfl (hO _) rfl ?_
            refine Wp.n (pc' := 82) 3 rfl ?_
            refine Wp.ecallV (len := 3) rfl rfl rfl (rfl) rfl (by decide) rfl (k_covers hS hs i m) ?_
            refine Wp.ifb0 (tgt := 103) (len := 3) rfl (fun h85 => ?_) (fun h85 => ?_)
            · skip
              refine Wp.n (pc' := 105) 1 rfl ?_
              refine Wp.retI (len := 1) rfl rfl ?_
              have hC : (cov (S.2.1 s) i m && cov (S.2.1 t) k m) = false := by first | (rw [h85]; rfl) | (rw [h100, Bool.and_false])
              rw [if_neg (by rw [hC]; decide)]
              refine ⟨rfl, kn ?_⟩
              unfold pasteC
              rw [nI_clamp (show s < 2 ^ 31 by omega), nI_clamp (show t < 2 ^ 31 by omega), Bool.and_assoc, hC, Bool.and_false]
            · skip
              refine Wp.n (pc' := 89) 1 rfl ?_
              refine Wp.get (len := 3) rfl (hO _) rfl ?_
              refine Wp.n (pc' := 97) 3 rfl ?_
              refine Wp.ecallV (len := 3) rfl rfl rfl (rfl) rfl (by decide) rfl (k_covers hS ht k m) ?_
              refine Wp.ifb1 (tgt := 106) (len := 3) rfl (fun h100 => ?_) (fun h100 => ?_)
              · skip
                have hC : pasteC S (nI s) i (nI t) k m = true := by
                  unfold pasteC
                  rw [nI_clamp (show s < 2 ^ 31 by omega), nI_clamp (show t < 2 ^ 31 by omega), h8, h19, h33, h44, decide_eq_true h68, h85, h100]
                  rfl
                rw [if_pos (by rw [h85, h100]; rfl), if_pos hC]
                obtain ⟨i, m, rfl, rfl, him, hi31, hm31⟩ := cov_of h85
                obtain ⟨k, m', rfl, em, hkm, hk31, hm31'⟩ := cov_of h100
                obtain rfl : m = m' := (nI_eq hm31 hm31').mp em
                rw [nI_clamp hi31, nI_clamp hk31, nI_clamp hm31]
                clear kn
                refine Wp.n (pc' := 107) 1 rfl ?_
                refine Wp.get (len := 3) rfl (hO _) rfl ?_
                refine Wp.n (pc' := 117) 5 rfl ?_
                refine Wp.callV (len := 3) rfl rfl rfl (rfl) rfl (by decide) rfl (k_transfer hS hs ht him hkm) ?_
                rintro _ _ ⟨rfl, κ2, rfl, hF, hS2⟩
                refine Wp.n (pc' := 121) 1 rfl ?_
                refine Wp.retI (len := 1) rfl rfl ?_
                exact ⟨rfl, κ2, rfl, hF, hS2⟩
              · skip
                refine Wp.n (pc' := 105) 1 rfl ?_
                refine Wp.retI (len := 1) rfl rfl ?_
                have hC : (cov (S.2.1 s) i m && cov (S.2.1 t) k m) = false := by first | (rw [h85]; rfl) | (rw [h100, Bool.and_false])
                rw [if_neg (by rw [hC]; decide)]
                refine ⟨rfl, kn ?_⟩
                unfold pasteC
                rw [nI_clamp (show s < 2 ^ 31 by omega), nI_clamp (show t < 2 ^ 31 by omega), Bool.and_assoc, hC, Bool.and_false]
          · skip
            refine Wp.n (pc' := 73) 1 rfl ?_
            refine Wp.retI (len := 1) rfl rfl ?_
            rw [if_pos h68]
            exact ⟨rfl, kn (by unfold pasteC; rw [nI_clamp (show s < 2 ^ 31 by omega), nI_clamp (show t < 2 ^ 31 by omega), decide_eq_false h68]; simp only [Bool.and_false, Bool.false_and])⟩
        · skip
          refine Wp.n (pc' := 49) 1 rfl ?_
          refine Wp.retI (len := 1) rfl rfl ?_
          first
            | (rw [if_pos (Or.inl (of_decide_eq_true h33))]; exact ⟨rfl, kn (by unfold pasteC; rw [nI_clamp (show s < 2 ^ 31 by omega), h33]; simp only [Bool.not_true, Bool.and_false, Bool.false_and])⟩)
            | (rw [if_pos (Or.inr (of_decide_eq_true h44))]; exact ⟨rfl, kn (by unfold pasteC; rw [nI_clamp (show t < 2 ^ 31 by omega), h44]; simp only [Bool.not_true, Bool.and_false, Bool.false_and])⟩)
    · skip
      refine Wp.n (pc' := 24) 1 rfl ?_
      refine Wp.retI (len := 1) rfl rfl ?_
      first
        | (rw [if_neg (by rw [h8, Bool.false_and]; decide)]; exact ⟨rfl, kn (by unfold pasteC; rw [h8]; simp only [Bool.false_and])⟩)
        | (rw [if_neg (by rw [h19, Bool.and_false]; decide)]; exact ⟨rfl, kn (by unfold pasteC; rw [h19]; simp only [Bool.and_false, Bool.false_and])⟩)

def TC (κ : CS) (T : TP) : Prop := κ.1 0 1 = nI T.1 ∧ T.1 ≤ 2000 ∧ ∀ i, i < T.1 → κ.2.1 1 i = T.2 i
def FT (κ κ' : CS) : Prop := (∀ s, s ≠ 0 → κ'.1 s = κ.1 s) ∧ (∀ s, s ≠ 1 → κ'.2.1 s = κ.2.1 s) ∧ κ'.2.2 = κ.2.2
theorem FT.refl {κ : CS} : FT κ κ := ⟨fun _ _ => rfl, fun _ _ => rfl, rfl⟩
theorem FT.t {κ κ' κ'' : CS} (h : FT κ κ') (h' : FT κ' κ'') : FT κ κ'' := ⟨fun s hs => (h'.1 s hs).trans (h.1 s hs), fun s hs => (h'.2.1 s hs).trans (h.2.1 s hs), h'.2.2.trans h.2.2⟩
theorem k_app_1 (hT : TC κ T) (h2 : T.1 < 2000) {v k : Int32} (hk : ¬ k < 0) (kk : ∀ κ', FT κ κ' → TC κ' (tpb T v k) → Wp d md_61 3 [some (.ref 33), some (.int v), some (.int (k + (-8)))] [] (cset M κ') Q) : Wp d md_61 3 [some (.ref 33), some (.int v), some (.int k)] [] (cset M κ) Q := by
  refine Wp.n (pc' := 4) 1 rfl ?_
  refine Wp.if2 (tgt := 46) (len := 3) rfl (fun h4 => ?_) (fun h4 => ?_)
  · exact absurd h4 hk
  · skip
    refine Wp.n (pc' := 8) 1 rfl ?_
    refine Wp.get (len := 3) rfl (rfl) rfl ?_
    refine Wp.top hT.1 ?_
    refine Wp.n (pc' := 14) 1 rfl ?_
    refine Wp.nc3 (x := T.1) (y := 2000) (tgt := 40) (len := 3) rfl (by omega) (by omega) (fun h14 => ?_) (fun h14 => ?_)
    · omega
    · skip
      refine Wp.n (pc' := 18) 1 rfl ?_
      refine Wp.get (len := 3) rfl (rfl) rfl ?_
      refine Wp.n (pc' := 22) 1 rfl ?_
      refine Wp.get (len := 3) rfl (rfl) rfl ?_
      refine Wp.top hT.1 ?_
      refine Wp.n (pc' := 29) 4 rfl ?_
      refine Wp.cbast1 (len := 1) rfl h2 ?_
      refine Wp.n (pc' := 32) 2 rfl ?_
      refine Wp.get (len := 3) rfl (rfl) rfl ?_
      refine Wp.top hT.1 ?_
      refine Wp.n (pc' := 36) 1 rfl ?_
      refine Wp.iaddN (x := T.1) (y := 1) (len := 1) rfl ?_
      refine Wp.cput0 (len := 3) rfl ?_
      refine Wp.n (pc' := 3) 2 rfl ?_
      refine kk _ ⟨fun s hs => va_up_ne _ _ hs, fun s hs => va_up_ne _ _ hs, rfl⟩ ⟨rfl, h2, fun i hi => ?_⟩
      show (ca κ 1 (upd (κ.2.1 1) T.1 (byt v k))).2.1 1 i = upd T.2 T.1 (byt v k) i
      rw [ca_get]
      have hi' : i < T.1 + 1 := hi
      by_cases c : i = T.1
      · rw [c, pk_us, pk_us]
      · rw [pk_un c, pk_un c]; exact hT.2.2 i (by omega)

theorem k_append (hT : TC κ T) (h4 : T.1 + 4 ≤ 2000) (v : Int32) : Wp d md_61 0 [some (.ref 33), some (.int v), none] [] (cset M κ) (fun r M' => r = none ∧ ∃ κ', M' = cset M κ' ∧ FT κ κ' ∧ TC κ' (tp4 T v)) := by
  refine Wp.n (pc' := 3) 2 rfl ?_
  refine k_app_1 hT (by omega) (by decide) (fun σ1 f1 t1 => ?_)
  refine k_app_1 (k := 16) t1 (show T.1 + 1 < 2000 by omega) (by decide) (fun σ2 f2 t2 => ?_)
  refine k_app_1 (k := 8) t2 (show T.1 + 1 + 1 < 2000 by omega) (by decide) (fun σ3 f3 t3 => ?_)
  refine k_app_1 (k := 0) t3 (show T.1 + 1 + 1 + 1 < 2000 by omega) (by decide) (fun σ4 f4 t4 => ?_)
  refine Wp.n (pc' := 4) 1 rfl ?_
  refine Wp.if2 (tgt := 46) (len := 3) rfl (fun h => ?_) (fun h => absurd h (by decide))
  refine Wp.retV (len := 1) rfl rfl ?_
  exact ⟨rfl, σ4, rfl, ((f1.t f2).t f3).t f4, t4⟩
theorem k_hasRoom (hT : TC κ T) : Ev d md_60 0 [some (.ref 33)] [] (cset M κ) (some (.int (bI (decide (T.1 + 20 ≤ 2000)))), cset M κ) := by
  refine Wp.toEv ?_
  have h2 := hT.2.1
  refine Wp.n (pc' := 1) 1 rfl ?_
  refine Wp.get (len := 3) rfl (rfl) rfl ?_
  refine Wp.top hT.1 ?_
  refine Wp.n (pc' := 6) 1 rfl ?_
  refine Wp.iaddN (x := T.1) (y := 20) (len := 1) rfl ?_
  refine Wp.n (pc' := 10) 1 rfl ?_
  refine Wp.nc4 (x := (T.1) + 20) (y := 2000) (tgt := 17) (len := 3) rfl (by omega) (by omega) (fun h10 => ?_) (fun h10 => ?_)
  · skip
    refine Wp.n (pc' := 18) 1 rfl ?_
    refine Wp.retZ (len := 1) (c := false) rfl rfl rfl ?_
    first
      | exact ⟨by rw [decide_eq_true (show T.1 + 20 ≤ 2000 by omega)], rfl⟩
      | exact ⟨by rw [decide_eq_false (show ¬ T.1 + 20 ≤ 2000 by omega)], rfl⟩
  · skip
    refine Wp.n (pc' := 18) 2 rfl ?_
    refine Wp.retZ (len := 1) (c := true) rfl rfl rfl ?_
    first
      | exact ⟨by rw [decide_eq_true (show T.1 + 20 ≤ 2000 by omega)], rfl⟩
      | exact ⟨by rw [decide_eq_false (show ¬ T.1 + 20 ≤ 2000 by omega)], rfl⟩

theorem k_feed (hD : HD M) (hT : TC κ T) (a b c e f : Int32) : Wp (d + 1) md_88 0 [some (.ref 32), some (.int a), some (.int b), some (.int c), some (.int e), some (.int f)] [] (cset M κ) (fun r M' => r = some (.int (feedA T)) ∧ ∃ κ', M' = cset M κ' ∧ FT κ κ' ∧ TC κ' (feedN T a b c e f)) := by
  obtain ⟨ow, hDo⟩ := hD.1
  have hO : ∀ κ : CS, cset M κ 32 = .inr (9, hdl ow) := fun κ => (cset_o (by omega)).trans hDo
  unfold feedA feedN
  refine Wp.n (pc' := 1) 1 rfl ?_
  refine Wp.get (len := 3) rfl (hO _) rfl ?_
  refine Wp.ecallV (len := 3) rfl rfl rfl (rfl) rfl (by decide) rfl (k_hasRoom hT) ?_
  refine Wp.ifb1 (tgt := 12) (len := 3) rfl (fun h7 => ?_) (fun h7 => ?_)
  · skip
    have h7t := of_decide_eq_true h7
    rw [if_pos h7t, if_pos h7t]
    refine Wp.n (pc' := 13) 1 rfl ?_
    refine Wp.get (len := 3) rfl (hO _) rfl ?_
    refine Wp.n (pc' := 17) 1 rfl ?_
    refine Wp.callV (len := 3) rfl rfl rfl (rfl) rfl (by decide) rfl (k_append hT (by omega) a) ?_
    rintro _ _ ⟨rfl, σ1, rfl, f1, t1⟩
    refine Wp.n (pc' := 21) 1 rfl ?_
    refine Wp.get (len := 3) rfl (hO _) rfl ?_
    refine Wp.n (pc' := 25) 1 rfl ?_
    refine Wp.callV (len := 3) rfl rfl rfl (rfl) rfl (by decide) rfl (k_append t1 (show T.1 + 1 + 1 + 1 + 1 + 4 ≤ 2000 by omega) b) ?_
    rintro _ _ ⟨rfl, σ2, rfl, f2, t2⟩
    refine Wp.n (pc' := 29) 1 rfl ?_
    refine Wp.get (len := 3) rfl (hO _) rfl ?_
    refine Wp.n (pc' := 33) 1 rfl ?_
    refine Wp.callV (len := 3) rfl rfl rfl (rfl) rfl (by decide) rfl (k_append t2 (show T.1 + 1 + 1 + 1 + 1 + 1 + 1 + 1 + 1 + 4 ≤ 2000 by omega) c) ?_
    rintro _ _ ⟨rfl, σ3, rfl, f3, t3⟩
    refine Wp.n (pc' := 37) 1 rfl ?_
    refine Wp.get (len := 3) rfl (hO _) rfl ?_
    refine Wp.n (pc' := 42) 1 rfl ?_
    refine Wp.callV (len := 3) rfl rfl rfl (rfl) rfl (by decide) rfl (k_append t3 (show T.1 + 1 + 1 + 1 + 1 + 1 + 1 + 1 + 1 + 1 + 1 + 1 + 1 + 4 ≤ 2000 by omega) e) ?_
    rintro _ _ ⟨rfl, σ4, rfl, f4, t4⟩
    refine Wp.n (pc' := 46) 1 rfl ?_
    refine Wp.get (len := 3) rfl (hO _) rfl ?_
    refine Wp.n (pc' := 51) 1 rfl ?_
    refine Wp.callV (len := 3) rfl rfl rfl (rfl) rfl (by decide) rfl (k_append t4 (show T.1 + 1 + 1 + 1 + 1 + 1 + 1 + 1 + 1 + 1 + 1 + 1 + 1 + 1 + 1 + 1 + 1 + 4 ≤ 2000 by omega) f) ?_
    rintro _ _ ⟨rfl, σ5, rfl, f5, t5⟩
    refine Wp.n (pc' := 55) 1 rfl ?_
    refine Wp.get (len := 3) rfl (hO _) rfl ?_
    refine Wp.get (len := 3) rfl (rfl) rfl ?_
    refine Wp.top t5.1 ?_
    refine Wp.retI (len := 1) rfl rfl ?_
    exact ⟨rfl, σ5, rfl, (((f1.t f2).t f3).t f4).t f5, t5⟩
  · skip
    refine Wp.n (pc' := 11) 1 rfl ?_
    refine Wp.retI (len := 1) rfl rfl ?_
    have h7f := of_decide_eq_false h7
    rw [if_neg h7f, if_neg h7f]
    exact ⟨rfl, κ, rfl, FT.refl, hT⟩

theorem k_end (hD : HD M) (hT : TC κ T) (x : Int32) : Wp (d + 1) md_89 0 [some (.ref 32), some (.int x)] [] (cset M κ) (fun r M' => r = some (.int (endA T x)) ∧ ∃ κ', M' = cset M κ' ∧ FT κ κ' ∧ TC κ' (endN T x)) := by
  obtain ⟨ow, hDo⟩ := hD.1
  have hO : ∀ κ : CS, cset M κ 32 = .inr (9, hdl ow) := fun κ => (cset_o (by omega)).trans hDo
  have t20 := hT.2.1
  unfold endA endN
  refine Wp.n (pc' := 1) 1 rfl ?_
  refine Wp.if2 (tgt := 15) (len := 3) rfl (fun h1 => ?_) (fun h1 => ?_)
  · rw [i_lt] at h1
    refine Wp.n (pc' := 16) 1 rfl ?_
    refine Wp.retI (len := 1) rfl rfl ?_
    have hN : ¬ isN (T.1 + 1) x = true := fun q => by
      have := of_decide_eq_true q
      first
        | (have e1 : x.toInt < 0 := h1; omega)
        | omega
    rw [if_neg hN, if_neg hN]
    exact ⟨rfl, κ, rfl, FT.refl, hT⟩
  · rw [i_lt] at h1
    refine Wp.n (pc' := 6) 2 rfl ?_
    refine Wp.get (len := 3) rfl (hO _) rfl ?_
    refine Wp.get (len := 3) rfl (rfl) rfl ?_
    refine Wp.top hT.1 ?_
    refine Wp.ic5 (tgt := 17) (len := 3) rfl (fun h12 => ?_) (fun h12 => ?_)
    · rw [i_le, nI_toInt (show T.1 < 2 ^ 31 by omega)] at h12
      have hN : isN (T.1 + 1) x = true := decide_eq_true (by have e1 : ¬ x.toInt < 0 := h1; omega)
      obtain ⟨m, hm, rfl⟩ := isN_of hN
      rw [if_pos hN, if_pos hN, nI_clamp (by omega)]
      refine Wp.n (pc' := 18) 1 rfl ?_
      refine Wp.get (len := 3) rfl (hO _) rfl ?_
      refine Wp.n (pc' := 22) 1 rfl ?_
      refine Wp.cput0 (len := 3) rfl ?_
      refine Wp.n (pc' := 26) 1 rfl ?_
      refine Wp.retI (len := 1) rfl rfl ?_
      exact ⟨rfl, _, rfl, ⟨fun s hs => va_up_ne _ _ hs, fun _ _ => rfl, rfl⟩, rfl, (by show m ≤ 2000; omega), fun i hi => hT.2.2 i (by have : i < m := hi; omega)⟩
    · rw [i_le, nI_toInt (show T.1 < 2 ^ 31 by omega)] at h12
      refine Wp.n (pc' := 16) 1 rfl ?_
      refine Wp.retI (len := 1) rfl rfl ?_
      have hN : ¬ isN (T.1 + 1) x = true := fun q => by
        have := of_decide_eq_true q
        first
          | (have e1 : x.toInt < 0 := h1; omega)
          | omega
      rw [if_neg hN, if_neg hN]
      exact ⟨rfl, κ, rfl, FT.refl, hT⟩

def FCl (κ : CS) (f : Nat × Option Nat) : Prop := κ.1 2 2 = nI f.1 ∧ κ.1 2 3 = oI f.2
theorem k_fault (hD : HD M) {f : Nat × Option Nat} (hF : FCl κ f) (x : Int32) : Ev d md_92 0 [some (.ref 32), some (.int x)] [] (cset M κ) (some (.int (faultA f x)), cset M κ) := by
  obtain ⟨ow, hDo⟩ := hD.1
  have hO : ∀ κ : CS, cset M κ 32 = .inr (9, hdl ow) := fun κ => (cset_o (by omega)).trans hDo
  refine Wp.toEv ?_
  unfold faultA
  refine Wp.n (pc' := 1) 1 rfl ?_
  by_cases c0 : x = 0
  · subst c0
    refine Wp.sw (len := 27) (t := 28) rfl (sw_at rfl 0 rfl rfl) ?_
    rw [if_pos rfl]
    refine Wp.n (pc' := 29) 1 rfl ?_
    refine Wp.get (len := 3) rfl (hO _) rfl ?_
    refine Wp.get (len := 3) rfl (rfl) rfl ?_
    refine Wp.top hF.1 ?_
    refine Wp.retI (len := 1) rfl rfl ?_
    exact ⟨rfl, rfl⟩
  · rw [if_neg c0]
    by_cases c1 : x = 1
    · subst c1
      refine Wp.sw (len := 27) (t := 36) rfl (sw_at rfl 1 rfl rfl) ?_
      rw [if_pos rfl]
      refine Wp.n (pc' := 37) 1 rfl ?_
      refine Wp.get (len := 3) rfl (hO _) rfl ?_
      refine Wp.get (len := 3) rfl (rfl) rfl ?_
      refine Wp.top hF.2 ?_
      refine Wp.retI (len := 1) rfl rfl ?_
      exact ⟨rfl, rfl⟩
    · rw [if_neg c1]
      refine Wp.sw (len := 27) (t := 44) rfl (sw_def rfl ?_) ?_
      · rw [i_eq] at c0 c1
        have d0 : ¬ x.toInt = 0 := c0
        have d1 : ¬ x.toInt = 1 := c1
        by_cases z : x.toInt < 0
        · exact Or.inl z
        · refine Or.inr ?_
          show (0 : Int) + 2 ≤ x.toInt
          omega
      · refine Wp.n (pc' := 45) 1 rfl ?_
        refine Wp.retI (len := 1) rfl rfl ?_
        exact ⟨rfl, rfl⟩
theorem k_count (hD : HD M) (hk : RK M 36 K) (h11 : kh K 11 = 0) (hS : SC κ S) (hT : TC κ T) (x : Int32) : Ev (d + 2) md_143 0 [some (.ref 32), some (.int x)] [] (cset M κ) (some (.int (countA K S T x)), cset M κ) := by
  obtain ⟨ρ, hR, hK, hDC, ok, hr1, hr2⟩ := id hk
  obtain ⟨b0, b1, b2, b3, b4, b5, b6, b7, b8, b9, b10, b11, b12⟩ := ok_h ok
  obtain ⟨ow, hDo⟩ := hD.1
  have hO : ∀ κ : CS, cset M κ 32 = .inr (9, hdl ow) := fun κ => (cset_o (by omega)).trans hDo
  have hRc : ∀ κ : CS, RA (cset M κ) 36 ρ := fun κ => RA_c hR hr1 hr2
  refine Wp.toEv ?_
  unfold countA
  refine Wp.n (pc' := 1) 1 rfl ?_
  by_cases h : isN 9 x = true
  · rw [if_pos h]
    obtain ⟨k, hk9, rfl⟩ := isN_of h
    rw [nI_clamp (by omega)]
    have ex : (nI k).toInt = (0 : Int) + k := by rw [nI_toInt (by omega)]; omega
    match k, hk9, ex with

    | 0, _, ex =>
      refine Wp.sw (len := 51) (t := 52) rfl (sw_at rfl 0 ex rfl) ?_
      refine Wp.n (pc' := 53) 1 rfl ?_
      refine Wp.get (len := 3) rfl (hO _) rfl ?_
      refine Wp.get (len := 3) rfl (ra_obj (hRc _)) rfl ?_
      refine Wp.top (rc_pl hK) ?_
      refine Wp.retI (len := 1) rfl rfl ?_
      exact ⟨rfl, rfl⟩
    | 1, _, ex =>
      refine Wp.sw (len := 51) (t := 60) rfl (sw_at rfl 1 ex rfl) ?_
      refine Wp.n (pc' := 61) 1 rfl ?_
      refine Wp.get (len := 3) rfl (hO _) rfl ?_
      refine Wp.get (len := 3) rfl (ra_obj (hRc _)) rfl ?_
      refine Wp.top (rc_dy hK) ?_
      refine Wp.retI (len := 1) rfl rfl ?_
      exact ⟨rfl, rfl⟩
    | 2, _, ex =>
      refine Wp.sw (len := 51) (t := 68) rfl (sw_at rfl 2 ex rfl) ?_
      refine Wp.n (pc' := 69) 1 rfl ?_
      refine Wp.get (len := 3) rfl (hO _) rfl ?_
      refine Wp.get (len := 3) rfl (ra_obj (hRc _)) rfl ?_
      refine Wp.top (rc_rd hK) ?_
      refine Wp.retI (len := 1) rfl rfl ?_
      exact ⟨rfl, rfl⟩
    | 3, _, ex =>
      refine Wp.sw (len := 51) (t := 76) rfl (sw_at rfl 3 ex rfl) ?_
      refine Wp.n (pc' := 77) 1 rfl ?_
      refine Wp.get (len := 3) rfl (hO _) rfl ?_
      refine Wp.get (len := 3) rfl (ra_obj (hRc _)) rfl ?_
      refine Wp.top (show _ = nI (kh K 3) from by rw [show rhd ρ 8 = _ from rc_la hK, h11, Nat.add_zero]) ?_
      refine Wp.retI (len := 1) rfl rfl ?_
      exact ⟨rfl, rfl⟩
    | 4, _, ex =>
      refine Wp.sw (len := 51) (t := 84) rfl (sw_at rfl 4 ex rfl) ?_
      refine Wp.n (pc' := 85) 1 rfl ?_
      refine Wp.get (len := 3) rfl (hO _) rfl ?_
      refine Wp.get (len := 3) rfl (ra_obj (hRc _)) rfl ?_
      refine Wp.top (rc_wk hK) ?_
      refine Wp.retI (len := 1) rfl rfl ?_
      exact ⟨rfl, rfl⟩
    | 5, _, ex =>
      refine Wp.sw (len := 51) (t := 92) rfl (sw_at rfl 5 ex rfl) ?_
      refine Wp.n (pc' := 93) 1 rfl ?_
      refine Wp.get (len := 3) rfl (hO _) rfl ?_
      refine Wp.get (len := 3) rfl (ra_obj (hRc _)) rfl ?_
      refine Wp.top (rc_fl hK) ?_
      refine Wp.ecallS (len := 3) rfl rfl rfl rfl (j_bitCount (by omega)) ?_
      refine Wp.retI (len := 1) rfl rfl ?_
      exact ⟨by rw [pop4_fld b12]; rfl, rfl⟩
    | 6, _, ex =>
      refine Wp.sw (len := 51) (t := 103) rfl (sw_at rfl 6 ex rfl) ?_
      refine Wp.n (pc' := 104) 1 rfl ?_
      refine Wp.get (len := 3) rfl (hO _) rfl ?_
      refine Wp.get (len := 3) rfl (ra_obj (hRc _)) rfl ?_
      refine Wp.top (rc_ln hK) ?_
      refine Wp.retI (len := 1) rfl rfl ?_
      exact ⟨rfl, rfl⟩
    | 7, _, ex =>
      refine Wp.sw (len := 51) (t := 111) rfl (sw_at rfl 7 ex rfl) ?_
      refine Wp.n (pc' := 112) 1 rfl ?_
      refine Wp.get (len := 3) rfl (hO _) rfl ?_
      refine Wp.get (len := 3) rfl (rfl) rfl ?_
      refine Wp.top hT.1 ?_
      refine Wp.retI (len := 1) rfl rfl ?_
      exact ⟨rfl, rfl⟩
    | 8, _, ex =>
      refine Wp.sw (len := 51) (t := 119) rfl (sw_at rfl 8 ex rfl) ?_
      refine Wp.n (pc' := 120) 1 rfl ?_
      refine Wp.get (len := 3) rfl (hO _) rfl ?_
      refine Wp.ecallV (len := 3) rfl rfl rfl (rfl) rfl (by decide) rfl (k_filled hS) ?_
      refine Wp.retI (len := 1) rfl rfl ?_
      exact ⟨rfl, rfl⟩
  · rw [if_neg h]
    refine Wp.sw (len := 51) (t := 127) rfl (sw_def rfl ?_) ?_
    · by_cases c : x.toInt < 0
      · exact Or.inl c
      · refine Or.inr ?_
        show (0 : Int) + 9 ≤ x.toInt
        by_cases c2 : x.toInt < 9
        · exact absurd (isN_f c c2) h
        · omega
    · refine Wp.n (pc' := 128) 1 rfl ?_
      refine Wp.retI (len := 1) rfl rfl ?_
      exact ⟨rfl, rfl⟩
theorem frd_eq (ok : KOK K) (h11 : kh K 11 = 0) {w : Nat} (hw : w < kh K 4) {c : Nat → Int64} : frdP K c w = decide (List.foldl (cnt1 K (kw K w 4) (kw K w (3 + kw K w 3)) (kw K w 2) (kw K w 1) (c w)) 0 (allW K (kw K w 2) (kw K w 4) (kw K w (3 + kw K w 3))) = 0) := by
  obtain ⟨p0, p1, p2, p3, p4⟩ := walk_b ok hw
  unfold frdP
  by_cases z : (c w).toInt < 0 ∨ 2000000000 < (c w).toInt
  · rw [decide_eq_true (show _ ∨ _ ∨ _ from by rcases z with z | z; exact Or.inl z; exact Or.inr (Or.inl z)), cnt_out ok p0 p3 (fun m hm e => ?_)]
    · rfl
    · rw [← e, l_toInt (by omega)] at z
      omega
  · obtain ⟨v, e1, e2, e3⟩ := l_of (x := c w) (by omega)
    have hE := owe_eq (K := K) (t := kw K w (3 + kw K w 3)) (y := kw K w 2) (load := kw K w 1) (dn := v) ok h11 p0 p3 (by omega)
    rw [e1, l_toInt e3, Int.toNat_natCast, ← hE.1]
    rw [e1, l_toInt e3] at z
    by_cases c0 : (finP K 3 w v).1 = 0
    · rw [decide_eq_true (Or.inr (Or.inr c0)), decide_eq_true (show (fin K 3 _ _ _ _ v).1 = 0 from c0)]
    · rw [decide_eq_false (fun q => by rcases q with q | q | q; omega; omega; exact c0 q)]
      exact (decide_eq_false c0).symm
theorem k_ford_l (hD : HD M) (hk : RK M 36 K) (h11 : kh K 11 = 0) {s : Nat} (hs : s < 4) (hn : S.2.1 s = kh K 4) : ∀ (n w : Nat) (κ2 : CS), w + n = kh K 4 → ScC κ κ2 → SC κ2 S → Wp (d + 13) md_139 62 [some (.ref 32), some (.int (nI s)), some (.int (nI w))] [] (cset M κ2) (RCI M κ (oI (fnd (frdP K (S.2.2 s)) n w))) := by
  obtain ⟨ρ, hR, hK, hDC, ok, hr1, hr2⟩ := id hk
  obtain ⟨b0, b1, b2, b3, b4, b5, b6, b7, b8, b9, b10, b11, b12⟩ := ok_h ok
  obtain ⟨ow, hDo⟩ := hD.1
  have hO : ∀ κ : CS, cset M κ 32 = .inr (9, hdl ow) := fun κ => (cset_o (by omega)).trans hDo
  have hRc : ∀ κ : CS, RA (cset M κ) 36 ρ := fun κ => RA_c hR hr1 hr2
  intro n
  induction n with
  | zero =>
    intro w κ2 hw hC hS
    refine Wp.n (pc' := 64) 2 rfl ?_
    refine Wp.get (len := 3) rfl (hO _) rfl ?_
    refine Wp.get (len := 3) rfl (ra_obj (hRc _)) rfl ?_
    refine Wp.top (rc_wk hK) ?_
    refine Wp.nc3 (x := w) (y := kh K 4) (tgt := 109) (len := 3) rfl (by omega) (by omega) (fun h70 => ?_) (fun h70 => ?_)
    · skip
      refine Wp.n (pc' := 110) 1 rfl ?_
      refine Wp.retI (len := 1) rfl rfl ?_
      exact RCI_s hC rfl
    · omega
  | succ n ih =>
    intro w κ2 hw hC hS
    obtain ⟨p0, p1, p2, p3, p4⟩ := walk_b ok (w := w) (by omega)
    have hcl := cnt_le (K := K) (a := kw K w 4) (t := kw K w (3 + kw K w 3)) (y := kw K w 2) (load := kw K w 1) (v := S.2.2 s w)
    rw [show fnd (frdP K (S.2.2 s)) (n + 1) w = if frdP K (S.2.2 s) w = true then some w else fnd (frdP K (S.2.2 s)) n (w + 1) from rfl, frd_eq ok h11 (by omega)]
    refine Wp.n (pc' := 64) 2 rfl ?_
    refine Wp.get (len := 3) rfl (hO _) rfl ?_
    refine Wp.get (len := 3) rfl (ra_obj (hRc _)) rfl ?_
    refine Wp.top (rc_wk hK) ?_
    refine Wp.nc3 (x := w) (y := kh K 4) (tgt := 109) (len := 3) rfl (by omega) (by omega) (fun h70 => ?_) (fun h70 => ?_)
    · omega
    · skip
      refine Wp.n (pc' := 75) 2 rfl ?_
      refine Wp.get (len := 3) rfl (hO _) rfl ?_
      refine Wp.n (pc' := 79) 1 rfl ?_
      refine Wp.callV (len := 3) rfl rfl rfl (hO _) rfl (by decide) rfl (k_findForWalk hD hk (w := w) (by omega)) ?_
      rintro _ _ ⟨rfl, κ3, rfl, hS3, hW⟩
      have hSC3 : SC κ3 S := ⟨hS.1, fun t ht => by
        obtain ⟨q1, q2, q3⟩ := hS.2 t ht
        rw [hS3.2.1 16 rfl, hS3.2.1 15 rfl, hS3.2.2.2]
        exact ⟨q1, q2, q3⟩⟩
      refine Wp.n (pc' := 83) 1 rfl ?_
      refine Wp.get (len := 3) rfl (hO _) rfl ?_
      refine Wp.n (pc' := 87) 1 rfl ?_
      refine Wp.get (len := 3) rfl (hO _) rfl ?_
      refine Wp.n (pc' := 92) 2 rfl ?_
      refine Wp.ecallV (len := 3) rfl rfl rfl (rfl) rfl (by decide) rfl (k_valueAt hSC3 hs (i := w) (by omega)) ?_
      refine Wp.ecallV (len := 3) rfl rfl rfl (rfl) rfl (by decide) rfl (t_count hk p0 p2 p3 hW p4 (S.2.2 s w)) ?_
      refine Wp.nz1 (x := List.foldl (cnt1 K (kw K w 4) (kw K w (3 + kw K w 3)) (kw K w 2) (kw K w 1) (S.2.2 s w)) 0 (allW K (kw K w 2) (kw K w 4) (kw K w (3 + kw K w 3)))) (tgt := 103) (len := 3) rfl (by omega) (fun h98 => ?_) (fun h98 => ?_)
      · skip
        refine Wp.incN (x := w) (len := 3) rfl rfl ?_
        refine Wp.n (pc' := 62) 1 rfl ?_
        rw [if_neg (by rw [decide_eq_true_iff]; exact h98)]
        exact ih (w + 1) κ3 (by omega) (ScC_t hC hS3) hSC3
      · skip
        refine Wp.n (pc' := 102) 1 rfl ?_
        refine Wp.retI (len := 1) rfl rfl ?_
        rw [if_pos (decide_eq_true h98)]
        exact RCI_s (ScC_t hC hS3) rfl

theorem k_ford (hD : HD M) (hk : RK M 36 K) (h11 : kh K 11 = 0) (hS : SC κ S) (x : Int32) : Wp (d + 13) md_139 0 [some (.ref 32), some (.int x), none] [] (cset M κ) (RCI M κ (fordA K S x)) := by
  obtain ⟨ρ, hR, hK, hDC, ok, hr1, hr2⟩ := id hk
  obtain ⟨b0, b1, b2, b3, b4, b5, b6, b7, b8, b9, b10, b11, b12⟩ := ok_h ok
  obtain ⟨ow, hDo⟩ := hD.1
  have hO : ∀ κ : CS, cset M κ 32 = .inr (9, hdl ow) := fun κ => (cset_o (by omega)).trans hDo
  have hRc : ∀ κ : CS, RA (cset M κ) 36 ρ := fun κ => RA_c hR hr1 hr2
  unfold fordA
  refine Wp.n (pc' := 1) 1 rfl ?_
  refine Wp.get (len := 3) rfl (hO _) rfl ?_
  refine Wp.ecallV (len := 3) rfl rfl rfl (ra_obj (hRc _)) rfl (by decide) rfl (k_exists (RK_c hk)) ?_
  refine Wp.ifb0 (tgt := 21) (len := 3) rfl (fun h7 => ?_) (fun h7 => ?_)
  · skip
    refine Wp.n (pc' := 23) 1 rfl ?_
    refine Wp.retI (len := 1) rfl rfl ?_
    first
      | (rw [if_neg (fun q => of_decide_eq_false h7 q.2)]; exact RCI_r rfl)
      | (rw [if_neg (fun q => by rw [h18] at q; exact absurd q.1 (by decide))]; exact RCI_r rfl)
  · skip
    refine Wp.n (pc' := 11) 1 rfl ?_
    refine Wp.get (len := 3) rfl (hO _) rfl ?_
    refine Wp.n (pc' := 15) 1 rfl ?_
    refine Wp.ecallV (len := 3) rfl rfl rfl (rfl) rfl (by decide) rfl (k_has _) ?_
    refine Wp.ifb1 (tgt := 24) (len := 3) rfl (fun h18 => ?_) (fun h18 => ?_)
    · skip
      obtain ⟨s, hs, rfl⟩ := isN_of h18
      have s60 := hS.1 s hs
      rw [if_pos ⟨h18, of_decide_eq_true h7⟩, nI_clamp (by omega)]
      refine Wp.n (pc' := 25) 1 rfl ?_
      refine Wp.get (len := 3) rfl (hO _) rfl ?_
      refine Wp.n (pc' := 29) 1 rfl ?_
      refine Wp.ecallV (len := 3) rfl rfl rfl (rfl) rfl (by decide) rfl (k_isBare hS hs) ?_
      refine Wp.ifb0 (tgt := 38) (len := 3) rfl (fun h32 => ?_) (fun h32 => ?_)
      · skip
        rw [if_neg (of_decide_eq_false h32)]
        refine Wp.n (pc' := 39) 1 rfl ?_
        refine Wp.get (len := 3) rfl (hO _) rfl ?_
        refine Wp.get (len := 3) rfl (rfl) rfl ?_
        refine Wp.n (pc' := 46) 1 rfl ?_
        refine Wp.ialdN (j := s) (len := 1) rfl (rfl) rfl (by omega) (by decide) ?_
        refine Wp.top (hS.2 s hs).2.1 ?_
        refine Wp.n (pc' := 48) 1 rfl ?_
        refine Wp.get (len := 3) rfl (hO _) rfl ?_
        refine Wp.get (len := 3) rfl (ra_obj (hRc _)) rfl ?_
        refine Wp.top (rc_wk hK) ?_
        refine Wp.nc0 (x := S.2.1 s) (y := kh K 4) (tgt := 60) (len := 3) rfl (by omega) (by omega) (fun h54 => ?_) (fun h54 => ?_)
        · skip
          rw [if_neg (fun q => q h54)]
          refine Wp.n (pc' := 62) 2 rfl ?_
          exact k_ford_l hD hk h11 hs h54 (kh K 4) 0 κ (by omega) ScC_r hS
        · skip
          refine Wp.n (pc' := 59) 1 rfl ?_
          refine Wp.retI (len := 1) rfl rfl ?_
          rw [if_pos h54]
          exact RCI_r rfl
      · skip
        refine Wp.n (pc' := 37) 1 rfl ?_
        refine Wp.retI (len := 1) rfl rfl ?_
        rw [if_pos (of_decide_eq_true h32)]
        exact RCI_r rfl
    · skip
      refine Wp.n (pc' := 23) 1 rfl ?_
      refine Wp.retI (len := 1) rfl rfl ?_
      first
        | (rw [if_neg (fun q => of_decide_eq_false h7 q.2)]; exact RCI_r rfl)
        | (rw [if_neg (fun q => by rw [h18] at q; exact absurd q.1 (by decide))]; exact RCI_r rfl)

end SLC
end
section
/-! IMAGES: keep and back. -/
def keepA (x : Int32) : Int32 := if isN 3 x = true then 0 else -2
def keepN (I : Nat → Option KD) (K : KD) (x : Int32) : Nat → Option KD := if isN 3 x = true then va_up I x.toNatClampNeg (some K) else I
def backA (I : Nat → Option KD) (x : Int32) : Int32 := if isN 3 x = true then (match I x.toNatClampNeg with | none => -6 | some _ => 0) else -2
def backN (I : Nat → Option KD) (K : KD) (x : Int32) : KD := if isN 3 x = true then (match I x.toNatClampNeg with | none => K | some K' => K') else K
/-- the reference's images -/
def IMm (σ : MS) (I : Nat → Option KD) : Prop := ∀ k, k < 3 → (I k = none ∧ σ.2.2.1 12 k = 0) ∨ ∃ K, I k = some K ∧ σ.2.2.1 12 k = 1 ∧ RepM σ (1 + k) K ∧ KOK K ∧ kh K 11 = 0
section IMG
variable {d : Nat} {M : AM} {σ σ' : MS} {K : KD} {I : Nat → Option KD} {κ : CS} {Q : Option Value → AM → Prop}
theorem rm12 {s : Nat} {v : Nat → Int32} (h : RepM σ s K) : RepM (aset σ 12 v) s K := h
theorem m_keep (hM : MK σ K) (h11 : kh K 11 = 0) (hI : IMm σ I) (x : Int32) : Wp (d + 2) md_261 0 [some (.ref 287), some (.int x)] [] (mset M σ) (fun v M' => v = some (.int (keepA x)) ∧ ∃ σ', M' = mset M σ' ∧ MK σ' K ∧ IMm σ' (keepN I K x) ∧ σ'.1 = σ.1 ∧ σ'.2.1 = σ.2.1 ∧ (∀ k, List.elem k [5, 6, 7, 9, 10, 11, 12] = false → σ'.2.2.1 k = σ.2.2.1 k) ∧ (∀ k, k ≠ 8 → σ'.2.2.2 k = σ.2.2.2 k)) := by
  have ok := hM.2.1
  have hσ0 := hM.2.2.2
  unfold keepA keepN
  refine Wp.n (pc' := 2) 2 rfl ?_
  refine Wp.mput0 (len := 3) rfl hσ0 ?_
  refine Wp.n (pc' := 11) 4 rfl ?_
  refine Wp.ecallS (len := 3) rfl rfl rfl rfl (m_in _ _ _) ?_
  refine Wp.ifb1 (tgt := 20) (len := 3) rfl (fun h14 => ?_) (fun h14 => ?_)
  · rw [in_isN (k := 3) (by decide)] at h14
    obtain ⟨k, hk, rfl⟩ := isN_of h14
    rw [if_pos h14, if_pos h14, nI_clamp (by omega)]
    refine Wp.n (pc' := 24) 4 rfl ?_
    refine Wp.iaddN (x := 1) (y := k) (len := 1) rfl ?_
    refine Wp.callV (len := 3) rfl rfl rfl (rfl) rfl (by decide) rfl (m_copyKingdom (a := 0) (b := 1 + k) (by decide) (by omega) (by omega)) ?_
    rintro _ _ ⟨rfl, τ, rfl, hC⟩
    refine Wp.n (pc' := 34) 4 rfl ?_
    refine Wp.mbast12 (len := 1) rfl hk ?_
    refine Wp.n (pc' := 36) 1 rfl ?_
    refine Wp.retI (len := 1) rfl rfl ?_
    have e12 : τ.2.2.1 12 = σ.2.2.1 12 := hC.2.2.1 12 rfl
    refine ⟨rfl, _, rfl, ⟨rm12 (CK_o hC ok (show (0:Nat) ≠ 1 + k by omega) hM.1), ok, by show τ.1 25 = _; rw [hC.1]; exact hM.2.2.1, by show τ.1 0 = _; rw [hC.1]; exact hσ0⟩, fun j hj => ?_, hC.1, hC.2.1, fun q hq => ?_, hC.2.2.2.1⟩
    · by_cases c : j = k
      · subst c
        refine Or.inr ⟨K, va_up_self _ _ _, ?_, rm12 (CK_t hC ok hM.1), ok, h11⟩
        rw [aset_get, pk_us]
        rfl
      · have e1 : (aset τ 12 (upd (τ.2.2.1 12) k (anar 3 1))).2.2.1 12 j = σ.2.2.1 12 j := by rw [aset_get, pk_un c, e12]
        rw [e1, va_up_ne _ _ c]
        rcases hI j hj with q | ⟨K', q1, q2, q3, q4, q5⟩
        · exact Or.inl q
        · exact Or.inr ⟨K', q1, q2, rm12 (CK_o hC q4 (show 1 + j ≠ 1 + k by omega) q3), q4, q5⟩
    · show va_up τ.2.2.1 12 _ q = _
      rw [va_up_ne _ _ (fun e => by rw [e] at hq; cases hq)]
      refine hC.2.2.1 q (elem_sub (F' := [5, 6, 7, 9, 10, 11, 12]) rfl hq)
  · rw [in_isN (k := 3) (by decide)] at h14
    refine Wp.n (pc' := 19) 1 rfl ?_
    refine Wp.retI (len := 1) rfl rfl ?_
    rw [if_neg (by rw [h14]; decide), if_neg (by rw [h14]; decide)]
    exact ⟨rfl, σ, rfl, hM, hI, rfl, rfl, fun _ _ => rfl, fun _ _ => rfl⟩

theorem m_back (hM : MK σ K) (h11 : kh K 11 = 0) (hI : IMm σ I) (x : Int32) : Wp (d + 2) md_262 0 [some (.ref 287), some (.int x)] [] (mset M σ) (fun v M' => v = some (.int (backA I x)) ∧ ∃ σ', M' = mset M σ' ∧ MK σ' (backN I K x) ∧ IMm σ' I ∧ σ'.1 = σ.1 ∧ σ'.2.1 = σ.2.1 ∧ (∀ k, List.elem k [5, 6, 7, 9, 10, 11, 12] = false → σ'.2.2.1 k = σ.2.2.1 k) ∧ (∀ k, k ≠ 8 → σ'.2.2.2 k = σ.2.2.2 k)) := by
  have ok := hM.2.1
  have hσ0 := hM.2.2.2
  unfold backA backN
  refine Wp.n (pc' := 2) 2 rfl ?_
  refine Wp.mput0 (len := 3) rfl hσ0 ?_
  refine Wp.n (pc' := 11) 4 rfl ?_
  refine Wp.ecallS (len := 3) rfl rfl rfl rfl (m_in _ _ _) ?_
  refine Wp.ifb1 (tgt := 20) (len := 3) rfl (fun h14 => ?_) (fun h14 => ?_)
  · rw [in_isN (k := 3) (by decide)] at h14
    obtain ⟨k, hk, rfl⟩ := isN_of h14
    rw [if_pos h14, if_pos h14, nI_clamp (by omega)]
    refine Wp.n (pc' := 25) 3 rfl ?_
    refine Wp.baldN (j := k) (len := 1) rfl rfl rfl (hk) (by decide) ?_
    rcases hI k hk with ⟨e, e0⟩ | ⟨K2, e, e1, hR2, ok2, h112⟩
    · rw [e, e0]
      refine Wp.if1 (tgt := 32) (len := 3) rfl (fun h26 => ?_) (fun h26 => ?_)
      · exact absurd rfl h26
      · skip
        refine Wp.n (pc' := 31) 1 rfl ?_
        refine Wp.retI (len := 1) rfl rfl ?_
        exact ⟨rfl, σ, rfl, hM, hI, rfl, rfl, fun _ _ => rfl, fun _ _ => rfl⟩
    · rw [e, e1]
      refine Wp.if1 (tgt := 32) (len := 3) rfl (fun h26 => ?_) (fun h26 => ?_)
      · skip
        refine Wp.n (pc' := 35) 3 rfl ?_
        refine Wp.iaddN (x := 1) (y := k) (len := 1) rfl ?_
        refine Wp.n (pc' := 37) 1 rfl ?_
        refine Wp.callV (len := 3) rfl rfl rfl (rfl) rfl (by decide) rfl (m_copyKingdom (a := 1 + k) (b := 0) (by omega) (by decide) (by omega)) ?_
        rintro _ _ ⟨rfl, τ, rfl, hC⟩
        refine Wp.n (pc' := 41) 1 rfl ?_
        refine Wp.retI (len := 1) rfl rfl ?_
        refine ⟨rfl, τ, rfl, ⟨CK_t hC ok2 hR2, ok2, by rw [hC.1, hM.2.2.1, h11]; show nI 0 = nI (kh K2 11); rw [h112], by rw [hC.1]; exact hσ0⟩, fun j hj => ?_, hC.1, hC.2.1, fun q hq => hC.2.2.1 q (elem_sub (F' := [5, 6, 7, 9, 10, 11, 12]) rfl hq), hC.2.2.2.1⟩
        rw [hC.2.2.1 12 rfl]
        rcases hI j hj with q | ⟨K', q1, q2, q3, q4, q5⟩
        · exact Or.inl q
        · exact Or.inr ⟨K', q1, q2, CK_o hC q4 (by omega) q3, q4, q5⟩
      · exact absurd h26 (by decide)
  · rw [in_isN (k := 3) (by decide)] at h14
    refine Wp.n (pc' := 19) 1 rfl ?_
    refine Wp.retI (len := 1) rfl rfl ?_
    rw [if_neg (by rw [h14]; decide), if_neg (by rw [h14]; decide)]
    exact ⟨rfl, σ, rfl, hM, hI, rfl, rfl, fun _ _ => rfl, fun _ _ => rfl⟩

theorem ca_same {κ : CS} {s : Nat} : ca κ s (κ.2.1 s) = κ := by
  unfold ca
  rw [show va_up κ.2.1 s (κ.2.1 s) = κ.2.1 from by
    funext j
    by_cases c : j = s
    · rw [c, va_up_self]
    · rw [va_up_ne _ _ c]]
/-- the class's images -/
def HI (M : AM) : Prop := M 130 = .inl (6, 3, .inr (.inr (.inr (.inr (fun i => if i < 3 then some (131 + 47 * i) else none)))))
def IMc (M : AM) (κ : CS) (I : Nat → Option KD) : Prop := (∀ k, k < 3 → ∃ ρ, RA M (131 + 47 * k) ρ) ∧ ∀ k, k < 3 → (I k = none ∧ κ.2.1 3 k = 0) ∨ ∃ K, I k = some K ∧ κ.2.1 3 k = 1 ∧ RK M (131 + 47 * k) K ∧ kh K 11 = 0
theorem k_keep (hD : HD M) (hk : RK M 36 K) (h11 : kh K 11 = 0) (hH : HI M) (hI : IMc M κ I) (x : Int32) : Wp (d + 10) md_144 0 [some (.ref 32), some (.int x)] [] (cset M κ) (fun v M' => v = some (.int (keepA x)) ∧ ∃ M2 f, M' = cset M2 (ca κ 3 f) ∧ IMc M2 (ca κ 3 f) (keepN I K x) ∧ ∀ q, q < 131 ∨ 272 ≤ q → M2 q = M q) := by
  obtain ⟨ρ, hR, hK, hDC, ok, hr1, hr2⟩ := id hk
  have b0 := (ok_h ok).1
  obtain ⟨ow, hDo⟩ := hD.1
  have hO : ∀ κ : CS, cset M κ 32 = .inr (9, hdl ow) := fun κ => (cset_o (by omega)).trans hDo
  have hH2 : ∀ κ : CS, cset M κ 130 = .inl (6, 3, .inr (.inr (.inr (.inr (fun i => if i < 3 then some (131 + 47 * i) else none))))) := fun κ => (cset_o (by omega)).trans hH
  unfold keepA keepN
  refine Wp.n (pc' := 3) 3 rfl ?_
  refine Wp.ecallS (len := 3) rfl rfl rfl rfl (k_isWithinN (hi := 2) x (by decide)) ?_
  refine Wp.ifb1 (tgt := 12) (len := 3) rfl (fun h6 => ?_) (fun h6 => ?_)
  · skip
    obtain ⟨k, hk3, rfl⟩ := isN_of h6
    obtain ⟨ρk, hρk⟩ := hI.1 k hk3
    have hT : ∀ κ : CS, cset M κ (131 + 47 * k) = .inr (3, rfs (131 + 47 * k) ρk) := fun κ => (cset_o (by omega)).trans (ra_obj hρk)
    rw [if_pos h6, if_pos h6, nI_clamp (by omega)]
    refine Wp.n (pc' := 13) 1 rfl ?_
    refine Wp.get (len := 3) rfl (hO _) rfl ?_
    refine Wp.n (pc' := 17) 1 rfl ?_
    refine Wp.aaldN (j := k) (len := 1) rfl (hH2 _) rfl (by omega) (by decide) (if_pos (by omega)) ?_
    refine Wp.n (pc' := 19) 1 rfl ?_
    refine Wp.get (len := 3) rfl (hO _) rfl ?_
    refine Wp.callV (len := 3) rfl rfl rfl (hT _) rfl (by omega) rfl (k_become (RA_c hρk (by omega) (by omega)) (RA_c hR (by decide) (by decide)) (by omega) (by omega) (by decide) hK ok h11) ?_
    rintro _ _ ⟨rfl, ρ2, rfl, hK2, hd2⟩
    rw [rset_c (by omega) (by omega)]
    have hO2 : rset M (131 + 47 * k) ρ2 32 = .inr (9, hdl ow) := (rset_ne (by omega)).trans hDo
    refine Wp.n (pc' := 26) 1 rfl ?_
    refine Wp.get (len := 3) rfl ((cset_o (by omega)).trans hO2) rfl ?_
    refine Wp.n (pc' := 31) 2 rfl ?_
    refine Wp.cbast3 (len := 1) rfl hk3 ?_
    refine Wp.n (pc' := 33) 1 rfl ?_
    refine Wp.retI (len := 1) rfl rfl ?_
    have hkk : RK (rset M (131 + 47 * k) ρ2) (131 + 47 * k) K := ⟨ρ2, rset_ra, hK2, fun p q hp hq => by rw [hd2 _ (by omega)]; exact hDC p q hp hq, ok, by omega, by omega⟩
    refine ⟨rfl, rset M (131 + 47 * k) ρ2, _, rfl, ⟨fun j hj => ?_, fun j hj => ?_⟩, fun q hq => rset_ne (by omega)⟩
    · by_cases c : j = k
      · subst c; exact ⟨ρ2, rset_ra⟩
      · obtain ⟨ρj, hρj⟩ := hI.1 j hj
        exact ⟨ρj, RA_of hρj (fun q a b => rset_ne (by omega))⟩
    · by_cases c : j = k
      · subst c
        refine Or.inr ⟨K, va_up_self _ _ _, ?_, hkk, h11⟩
        rw [ca_get, pk_us]
        rfl
      · rw [ca_get, pk_un c, va_up_ne _ _ c]
        rcases hI.2 j hj with q | ⟨K', q1, q2, q3, q4⟩
        · exact Or.inl q
        · exact Or.inr ⟨K', q1, q2, RK_of q3 (fun q a b => rset_ne (by omega)), q4⟩
  · skip
    refine Wp.n (pc' := 11) 1 rfl ?_
    refine Wp.retI (len := 1) rfl rfl ?_
    rw [if_neg (by rw [h6]; decide), if_neg (by rw [h6]; decide)]
    refine ⟨rfl, M, κ.2.1 3, ?_, ?_, fun _ _ => rfl⟩
    · rw [ca_same]
    · rw [ca_same]; exact hI

theorem k_back (hD : HD M) (hk : RK M 36 K) (hH : HI M) (hI : IMc M κ I) (x : Int32) : Wp (d + 10) md_145 0 [some (.ref 32), some (.int x)] [] (cset M κ) (fun v M' => v = some (.int (backA I x)) ∧ ∃ M2, M' = cset M2 κ ∧ RK M2 36 (backN I K x) ∧ ∀ q, q < 36 ∨ 83 ≤ q → M2 q = M q) := by
  obtain ⟨ρ, hR, hK, hDC, ok, hr1, hr2⟩ := id hk
  obtain ⟨ow, hDo⟩ := hD.1
  have hO : ∀ κ : CS, cset M κ 32 = .inr (9, hdl ow) := fun κ => (cset_o (by omega)).trans hDo
  have hH2 : ∀ κ : CS, cset M κ 130 = .inl (6, 3, .inr (.inr (.inr (.inr (fun i => if i < 3 then some (131 + 47 * i) else none))))) := fun κ => (cset_o (by omega)).trans hH
  unfold backA backN
  refine Wp.n (pc' := 3) 3 rfl ?_
  refine Wp.ecallS (len := 3) rfl rfl rfl rfl (k_isWithinN (hi := 2) x (by decide)) ?_
  refine Wp.ifb1 (tgt := 12) (len := 3) rfl (fun h6 => ?_) (fun h6 => ?_)
  · skip
    obtain ⟨k, hk3, rfl⟩ := isN_of h6
    rw [if_pos h6, if_pos h6, nI_clamp (by omega)]
    refine Wp.n (pc' := 13) 1 rfl ?_
    refine Wp.get (len := 3) rfl (hO _) rfl ?_
    refine Wp.n (pc' := 17) 1 rfl ?_
    refine Wp.baldN (j := k) (len := 1) rfl (rfl) rfl (hk3) (by decide) ?_
    rcases hI.2 k hk3 with ⟨e, e0⟩ | ⟨K2, e, e1, ⟨ρ2, hR2, hK2, hDC2, ok2, _, _⟩, h112⟩
    · rw [e, e0]
      refine Wp.if1 (tgt := 24) (len := 3) rfl (fun h18 => ?_) (fun h18 => ?_)
      · exact absurd rfl h18
      · skip
        refine Wp.n (pc' := 23) 1 rfl ?_
        refine Wp.retI (len := 1) rfl rfl ?_
        exact ⟨rfl, M, rfl, hk, fun _ _ => rfl⟩
    · rw [e, e1]
      refine Wp.if1 (tgt := 24) (len := 3) rfl (fun h18 => ?_) (fun h18 => ?_)
      · skip
        refine Wp.n (pc' := 25) 1 rfl ?_
        refine Wp.get (len := 3) rfl (hO _) rfl ?_
        refine Wp.n (pc' := 29) 1 rfl ?_
        refine Wp.get (len := 3) rfl (hO _) rfl ?_
        refine Wp.n (pc' := 33) 1 rfl ?_
        refine Wp.aaldN (j := k) (len := 1) rfl (hH2 _) rfl (by omega) (by decide) (if_pos (by omega)) ?_
        refine Wp.callV (len := 3) rfl rfl rfl (ra_obj (RA_c hR (by decide) (by decide))) rfl (by decide) rfl (k_become (RA_c hR (by decide) (by decide)) (RA_c hR2 (by omega) (by omega)) (by omega) (by decide) (by omega) hK2 ok2 h112) ?_
        rintro _ _ ⟨rfl, ρ3, rfl, hK3, hd3⟩
        rw [rset_c (by decide) (by decide)]
        refine Wp.n (pc' := 38) 1 rfl ?_
        refine Wp.retI (len := 1) rfl rfl ?_
        have b02 := (ok_h ok2).1
        exact ⟨rfl, rset M 36 ρ3, rfl, ⟨ρ3, rset_ra, hK3, fun p q hp hq => by have hp' : p < kh K2 0 := hp; have hq' : q < kh K2 0 := hq; rw [hd3 _ (by omega)]; exact hDC2 p q hp hq, ok2, by decide, by decide⟩, fun q hq => rset_ne (by omega)⟩
      · exact absurd h18 (by decide)
  · skip
    refine Wp.n (pc' := 11) 1 rfl ?_
    refine Wp.retI (len := 1) rfl rfl ?_
    rw [if_neg (by rw [h6]; decide), if_neg (by rw [h6]; decide)]
    exact ⟨rfl, M, rfl, hk, fun _ _ => rfl⟩

end IMG
end
