/-! HOW MANY BITS: the JDK's bitCount. -/
theorem and_split {y m b k : Nat} (hb : b < 256) (hk : k < 256) : (256 * y + b) &&& (256 * m + k) = 256 * (y &&& m) + (b &&& k) := by
  have hbk : b &&& k < 256 := Nat.lt_of_le_of_lt Nat.and_le_left hb
  apply Nat.eq_of_testBit_eq
  intro i
  rw [Nat.testBit_and, show (256 : Nat) = 2 ^ 8 from rfl, Nat.testBit_two_pow_mul_add _ hb, Nat.testBit_two_pow_mul_add _ hk, Nat.testBit_two_pow_mul_add _ hbk, Nat.testBit_and]
  by_cases c : i < 8
  · rw [if_pos c, if_pos c, if_pos c]
  · rw [if_neg c, if_neg c, if_neg c]
    exact (Nat.testBit_and _ _ _).symm
def sA (m x : Nat) : Nat := x - (x / 2 &&& m)
def sB (m x : Nat) : Nat := (x &&& m) + (x / 4 &&& m)
def sC (m x : Nat) : Nat := (x + x / 16) &&& m
theorem tA : ∀ b, b < 256 → ∀ q, q < 2 → ((128 * q + b / 2) &&& 85) = (b / 2 &&& 85) := by decide +kernel
theorem tB : ∀ b, b < 256 → ∀ q, q < 4 → ((64 * q + b / 4) &&& 51) = (b / 4 &&& 51) := by decide +kernel
theorem tT : ∀ x, x < 256 → sA 85 x < 256 ∧ sB 51 (sA 85 x) ≤ 68 ∧ sB 51 (sA 85 x) % 16 ≤ 4 ∧ sC 15 (sB 51 (sA 85 x)) = pop x := by decide +kernel
theorem LA8 {y m b : Nat} (hb : b < 256) : sA (256 * m + 85) (256 * y + b) = 256 * sA m y + sA 85 b := by
  unfold sA
  have e : (256 * y + b) / 2 = 256 * (y / 2) + (128 * (y % 2) + b / 2) := by omega
  have h1 : 128 * (y % 2) + b / 2 < 256 := by omega
  rw [e, and_split h1 (by decide), tA b hb (y % 2) (Nat.mod_lt _ (by decide))]
  have h2 : y / 2 &&& m ≤ y / 2 := Nat.and_le_left
  have h3 : b / 2 &&& 85 ≤ b / 2 := Nat.and_le_left
  omega
theorem LB8 {y m b : Nat} (hb : b < 256) : sB (256 * m + 51) (256 * y + b) = 256 * sB m y + sB 51 b := by
  unfold sB
  have e : (256 * y + b) / 4 = 256 * (y / 4) + (64 * (y % 4) + b / 4) := by omega
  have h1 : 64 * (y % 4) + b / 4 < 256 := by omega
  rw [e, and_split h1 (by decide), and_split hb (by decide), tB b hb (y % 4) (Nat.mod_lt _ (by decide))]
  omega
theorem LC8 {y m b : Nat} (hb : b ≤ 68) (hy : y % 16 ≤ 4) : sC (256 * m + 15) (256 * y + b) = 256 * sC m y + sC 15 b := by
  unfold sC
  have e : 256 * y + b + (256 * y + b) / 16 = 256 * (y + y / 16) + (b + 16 * (y % 16) + b / 16) := by omega
  have h1 : b + 16 * (y % 16) + b / 16 < 256 := by omega
  rw [e, and_split h1 (by decide)]
  have e2 : (b + 16 * (y % 16) + b / 16) &&& 15 = (b + b / 16) &&& 15 := by
    rw [show (15 : Nat) = 2 ^ 4 - 1 from rfl, Nat.and_two_pow_sub_one_eq_mod, Nat.and_two_pow_sub_one_eq_mod]
    omega
  rw [e2]
def pop4 (x : Nat) : Nat := pop (x % 256) + pop (x / 256 % 256) + pop (x / 65536 % 256) + pop (x / 16777216)
theorem swar {x : Nat} (hx : x < 4294967296) : sA 1431655765 x < 4294967296 ∧ sB 858993459 (sA 1431655765 x) < 4294967296 ∧ sC 252645135 (sB 858993459 (sA 1431655765 x)) = 256 * (256 * (256 * pop (x / 16777216) + pop (x / 65536 % 256)) + pop (x / 256 % 256)) + pop (x % 256) := by
  obtain ⟨x0, h0⟩ : ∃ z, x % 256 = z := ⟨_, rfl⟩
  obtain ⟨x1, h1⟩ : ∃ z, x / 256 % 256 = z := ⟨_, rfl⟩
  obtain ⟨x2, h2⟩ : ∃ z, x / 65536 % 256 = z := ⟨_, rfl⟩
  obtain ⟨x3, h3⟩ : ∃ z, x / 16777216 = z := ⟨_, rfl⟩
  have ex : x = 256 * (256 * (256 * x3 + x2) + x1) + x0 := by omega
  rw [h0, h1, h2, h3]
  obtain ⟨a0, p0, q0, r0⟩ := tT x0 (by omega)
  obtain ⟨a1, p1, q1, r1⟩ := tT x1 (by omega)
  obtain ⟨a2, p2, q2, r2⟩ := tT x2 (by omega)
  obtain ⟨a3, p3, q3, r3⟩ := tT x3 (by omega)
  have eA : sA 1431655765 x = 256 * (256 * (256 * sA 85 x3 + sA 85 x2) + sA 85 x1) + sA 85 x0 := by
    rw [ex, show (1431655765 : Nat) = 256 * (256 * (256 * 85 + 85) + 85) + 85 from rfl, LA8 (by omega), LA8 (by omega), LA8 (by omega)]
  have eB : sB 858993459 (sA 1431655765 x) = 256 * (256 * (256 * sB 51 (sA 85 x3) + sB 51 (sA 85 x2)) + sB 51 (sA 85 x1)) + sB 51 (sA 85 x0) := by
    rw [eA, show (858993459 : Nat) = 256 * (256 * (256 * 51 + 51) + 51) + 51 from rfl, LB8 a0, LB8 a1, LB8 a2]
  refine ⟨by omega, by omega, ?_⟩
  rw [eB, show (252645135 : Nat) = 256 * (256 * (256 * 15 + 15) + 15) + 15 from rfl, LC8 p0 (by omega), LC8 p1 (by omega), LC8 p2 q3, r0, r1, r2, r3]
section BITC
variable {d : Nat} {M : AM}
theorem us_k : ∀ k, k < 32 → (((nI k).toUInt32 &&& Int32.toUInt32 31).toBitVec % 32).toNat = k := by decide +kernel
theorem n_ushr {n k : Nat} (hk : k < 32) (hn : n < 2 ^ 32) : ((nI n).toUInt32 >>> ((nI k).toUInt32 &&& Int32.toUInt32 31)).toInt32 = nI (n / 2 ^ k) := pk_ushrN hn _ k (us_k k hk)
theorem j_bitCount {x : Nat} (hx : x < 2 ^ 31) : Ev d md_264 0 [some (.int (nI x))] [] M (some (.int (nI (pop4 x))), M) := by
  obtain ⟨hA, hB, hC⟩ := swar (x := x) (by omega)
  have hp : ∀ z, pop z ≤ 8 := fun z => pop_b
  have g0 := hp (x % 256)
  have g1 := hp (x / 256 % 256)
  have g2 := hp (x / 65536 % 256)
  have g3 := hp (x / 16777216)
  refine Wp.toEv ?_
  refine Wp.n (pc' := 4) 4 rfl ?_
  refine Wp.top (n_ushr (n := x) (k := 1) (by decide) (by omega)) ?_
  refine Wp.n (pc' := 8) 2 rfl ?_
  refine Wp.top (n_and (x / 2 ^ 1) 1431655765) ?_
  refine Wp.isubN (x := x) (y := x / 2 ^ 1 &&& 1431655765) (len := 1) rfl (Nat.le_trans Nat.and_le_left (Nat.div_le_self _ _)) ?_
  refine Wp.n (pc' := 15) 4 rfl ?_
  refine Wp.top (n_and (sA 1431655765 x) 858993459) ?_
  refine Wp.n (pc' := 18) 3 rfl ?_
  refine Wp.top (n_ushr (n := sA 1431655765 x) (k := 2) (by decide) (by omega)) ?_
  refine Wp.n (pc' := 22) 2 rfl ?_
  refine Wp.top (n_and (sA 1431655765 x / 2 ^ 2) 858993459) ?_
  refine Wp.iaddN (x := sA 1431655765 x &&& 858993459) (y := sA 1431655765 x / 2 ^ 2 &&& 858993459) (len := 1) rfl ?_
  refine Wp.n (pc' := 28) 5 rfl ?_
  refine Wp.top (n_ushr (n := sB 858993459 (sA 1431655765 x)) (k := 4) (by decide) (by omega)) ?_
  refine Wp.iaddN (x := sB 858993459 (sA 1431655765 x)) (y := sB 858993459 (sA 1431655765 x) / 2 ^ 4) (len := 1) rfl ?_
  refine Wp.n (pc' := 33) 2 rfl ?_
  refine Wp.top (show _ = nI (sC 252645135 (sB 858993459 (sA 1431655765 x))) from n_and _ _) ?_
  rw [hC]
  obtain ⟨c, hc⟩ : ∃ c, 256 * (256 * (256 * pop (x / 16777216) + pop (x / 65536 % 256)) + pop (x / 256 % 256)) + pop (x % 256) = c := ⟨_, rfl⟩
  rw [hc]
  refine Wp.n (pc' := 39) 5 rfl ?_
  refine Wp.top (n_ushr (n := c) (k := 8) (by decide) (by omega)) ?_
  refine Wp.iaddN (x := c) (y := c / 2 ^ 8) (len := 1) rfl ?_
  refine Wp.n (pc' := 46) 5 rfl ?_
  refine Wp.top (n_ushr (n := c + c / 2 ^ 8) (k := 16) (by decide) (by omega)) ?_
  refine Wp.iaddN (x := c + c / 2 ^ 8) (y := (c + c / 2 ^ 8) / 2 ^ 16) (len := 1) rfl ?_
  refine Wp.n (pc' := 52) 4 rfl ?_
  refine Wp.retI (len := 1) rfl rfl ?_
  refine ⟨?_, rfl⟩
  rw [show (63 : Int32) = nI 63 from rfl, n_and, show (63 : Nat) = 2 ^ 6 - 1 from rfl, Nat.and_two_pow_sub_one_eq_mod]
  have e : (c + c / 2 ^ 8 + (c + c / 2 ^ 8) / 2 ^ 16) % 2 ^ 6 = pop4 x := by
    unfold pop4
    obtain ⟨p0, e0⟩ : ∃ z, pop (x % 256) = z := ⟨_, rfl⟩
    obtain ⟨p1, e1⟩ : ∃ z, pop (x / 256 % 256) = z := ⟨_, rfl⟩
    obtain ⟨p2, e2⟩ : ∃ z, pop (x / 65536 % 256) = z := ⟨_, rfl⟩
    obtain ⟨p3, e3⟩ : ∃ z, pop (x / 16777216) = z := ⟨_, rfl⟩
    rw [e0, e1, e2, e3] at hc
    rw [e0] at g0
    rw [e1] at g1
    rw [e2] at g2
    rw [e3] at g3
    rw [e0, e1, e2, e3]
    have f1 : c / 2 ^ 8 = 256 * (256 * p3 + p2) + p1 := by
      rw [← hc, show (2 : Nat) ^ 8 = 256 from rfl]
      omega
    have f2 : (c + c / 2 ^ 8) / 2 ^ 16 = 256 * p3 + (p2 + p3) := by
      rw [f1, ← hc, show (2 : Nat) ^ 16 = 65536 from rfl]
      omega
    rw [f2, f1, ← hc, show (2 : Nat) ^ 6 = 64 from rfl]
    omega
  rw [e]
theorem pop4_8 {x : Nat} (hx : x < 256) : pop4 x = pop x := by
  unfold pop4
  rw [show x % 256 = x by omega, show x / 256 % 256 = 0 by omega, show x / 65536 % 256 = 0 by omega, show x / 16777216 = 0 by omega]
  rfl
theorem tbn (F y : Nat) : (F.testBit y).toNat = F / 2 ^ y % 2 := by
  rw [Nat.testBit_eq_decide_div_mod_eq]
  have : F / 2 ^ y % 2 < 2 := Nat.mod_lt _ (by decide)
  by_cases h : F / 2 ^ y % 2 = 1
  · rw [h]; rfl
  · rw [decide_eq_false h]
    show 0 = _
    omega
theorem pop_tb (v : Nat) : pop v = (v.testBit 0).toNat + (v.testBit 1).toNat + (v.testBit 2).toNat + (v.testBit 3).toNat + (v.testBit 4).toNat + (v.testBit 5).toNat + (v.testBit 6).toNat + (v.testBit 7).toNat := by
  unfold pop
  rw [tbn, tbn, tbn, tbn, tbn, tbn, tbn, tbn]
  show _ = v / 1 % 2 + v / 2 % 2 + v / 4 % 2 + v / 8 % 2 + v / 16 % 2 + v / 32 % 2 + v / 64 % 2 + v / 128 % 2
  rw [Nat.div_one]
theorem pop_sh (F k : Nat) : pop (F / 2 ^ k % 2 ^ 8) = (F.testBit (k + 0)).toNat + (F.testBit (k + 1)).toNat + (F.testBit (k + 2)).toNat + (F.testBit (k + 3)).toNat + (F.testBit (k + 4)).toNat + (F.testBit (k + 5)).toNat + (F.testBit (k + 6)).toNat + (F.testBit (k + 7)).toNat := by
  have e : ∀ i, i < 8 → (F / 2 ^ k % 2 ^ 8).testBit i = F.testBit (k + i) := by
    intro i hi
    rw [Nat.testBit_mod_two_pow, decide_eq_true hi, Bool.true_and, Nat.testBit_div_two_pow, Nat.add_comm]
  rw [pop_tb, e 0 (by decide), e 1 (by decide), e 2 (by decide), e 3 (by decide), e 4 (by decide), e 5 (by decide), e 6 (by decide), e 7 (by decide)]
theorem pop4_fld {F : Nat} (hF : F < 2 ^ 30) : pop4 F = fldN F := by
  have h0 := pop_sh F 0
  have h1 := pop_sh F 8
  have h2 := pop_sh F 16
  have h3 := pop_sh F 24
  have z30 : F.testBit (24 + 6) = false := Nat.testBit_lt_two_pow (by omega)
  have z31 : F.testBit (24 + 7) = false := Nat.testBit_lt_two_pow (by omega)
  rw [z30, z31] at h3
  have e3 : F / 2 ^ 24 % 2 ^ 8 = F / 16777216 := by omega
  have e0 : F / 2 ^ 0 % 2 ^ 8 = F % 256 := by omega
  rw [e3] at h3
  rw [e0] at h0
  have hf : fldN F = 0 + (F.testBit 0).toNat + (F.testBit 1).toNat + (F.testBit 2).toNat + (F.testBit 3).toNat + (F.testBit 4).toNat + (F.testBit 5).toNat + (F.testBit 6).toNat + (F.testBit 7).toNat + (F.testBit 8).toNat + (F.testBit 9).toNat + (F.testBit 10).toNat + (F.testBit 11).toNat + (F.testBit 12).toNat + (F.testBit 13).toNat + (F.testBit 14).toNat + (F.testBit 15).toNat + (F.testBit 16).toNat + (F.testBit 17).toNat + (F.testBit 18).toNat + (F.testBit 19).toNat + (F.testBit 20).toNat + (F.testBit 21).toNat + (F.testBit 22).toNat + (F.testBit 23).toNat + (F.testBit 24).toNat + (F.testBit 25).toNat + (F.testBit 26).toNat + (F.testBit 27).toNat + (F.testBit 28).toNat + (F.testBit 29).toNat := rfl
  rw [hf]
  unfold pop4
  rw [h0, h3, show F / 256 % 256 = F / 2 ^ 8 % 2 ^ 8 from rfl, h1, show F / 65536 % 256 = F / 2 ^ 16 % 2 ^ 8 from rfl, h2]
  simp only [Nat.zero_add, Bool.toNat_false, Nat.add_zero, Nat.reduceAdd]
  omega
end BITC
