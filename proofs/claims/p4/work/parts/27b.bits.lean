/-! BITS of naturals as ints and longs. -/
theorem n_and (a b : Nat) : nI a &&& nI b = nI (a &&& b) := by
  apply Int32.toBitVec_inj.1
  show BitVec.ofNat 32 a &&& BitVec.ofNat 32 b = BitVec.ofNat 32 (a &&& b)
  apply BitVec.eq_of_getLsbD_eq
  intro i hi
  simp [hi]
theorem n_or (a b : Nat) : nI a ||| nI b = nI (a ||| b) := by
  apply Int32.toBitVec_inj.1
  show BitVec.ofNat 32 a ||| BitVec.ofNat 32 b = BitVec.ofNat 32 (a ||| b)
  apply BitVec.eq_of_getLsbD_eq
  intro i hi
  simp [hi]
theorem n_sh1 : ∀ y, y < 31 → (1 : Int32) <<< (nI y &&& 31) = nI (2 ^ y) := by decide +kernel
theorem n_pow {y : Nat} (h : y < 31) : 2 ^ y < 2 ^ 31 := Nat.pow_lt_pow_right (by decide) h
theorem n_tb (F y : Nat) : F &&& 2 ^ y = 0 ↔ F.testBit y = false := by
  constructor
  · intro h
    have := congrArg (fun n => n.testBit y) h
    simpa [Nat.testBit_and, Nat.testBit_two_pow_self] using this
  · intro h
    apply Nat.eq_of_testBit_eq
    intro i
    rw [Nat.testBit_and, Nat.testBit_two_pow, Nat.zero_testBit]
    by_cases e : y = i
    · subst e; rw [h]; rfl
    · simp [e]
theorem n_bit {F y : Nat} (hF : F < 2 ^ 31) (hy : y < 31) : nI F &&& ((1 : Int32) <<< (nI y &&& 31)) = 0 ↔ F.testBit y = false := by
  rw [n_sh1 y hy, n_and, ← n_tb]
  have h : F &&& 2 ^ y < 2 ^ 31 := Nat.lt_of_le_of_lt Nat.and_le_left hF
  exact nI_eq (b := 0) h (by decide)
theorem l_cnt : ∀ k, k < 64 → ((nI k).toInt64 &&& 63) = lN k := by decide +kernel
theorem l_smod : ∀ k, k < 64 → ((lN k).toBitVec.smod 64).toNat = k := by decide +kernel
theorem l_toInt {n : Nat} (h : n < 2 ^ 63) : (lN n).toInt = (n : Int) := by
  have e : (lN n).toBitVec.toNat = n := by
    show (BitVec.ofNat 64 n).toNat = n
    rw [BitVec.toNat_ofNat]
    exact Nat.mod_eq_of_lt (by omega)
  have c := BitVec.toInt_eq_toNat_cond (lN n).toBitVec
  rw [e] at c
  show (lN n).toBitVec.toInt = _
  rw [c, if_pos (by omega)]
theorem l_inj {a b : Nat} (ha : a < 2 ^ 63) (hb : b < 2 ^ 63) : lN a = lN b ↔ a = b := by
  rw [l_eq, l_toInt ha, l_toInt hb]
  omega
theorem l_shr {a y : Nat} (h : a < 2 ^ 62) (hy : y < 64) : lN a >>> ((nI y).toInt64 &&& 63) = lN (a / 2 ^ y) := by
  rw [l_cnt y hy]
  apply Int64.toInt_inj.mp
  have hd : a / 2 ^ y ≤ a := Nat.div_le_self _ _
  have e : (lN a >>> lN y).toInt = (lN a).toInt >>> y := by
    have h1 := l_smod y hy
    conv => rhs; rw [← h1]
    exact BitVec.toInt_sshiftRight ..
  rw [e, Int.shiftRight_eq_div_pow, l_toInt (by omega), l_toInt (by omega)]
  norm_cast
theorem l_and (a b : Nat) : lN a &&& lN b = lN (a &&& b) := by
  apply Int64.toBitVec_inj.1
  show BitVec.ofNat 64 a &&& BitVec.ofNat 64 b = BitVec.ofNat 64 (a &&& b)
  apply BitVec.eq_of_getLsbD_eq
  intro i hi
  simp [hi]
theorem l_or (a b : Nat) : lN a ||| lN b = lN (a ||| b) := by
  apply Int64.toBitVec_inj.1
  show BitVec.ofNat 64 a ||| BitVec.ofNat 64 b = BitVec.ofNat 64 (a ||| b)
  apply BitVec.eq_of_getLsbD_eq
  intro i hi
  simp [hi]
theorem l_sh1 : ∀ y, y < 31 → (1 : Int64) <<< ((nI y).toInt64 &&& 63) = lN (2 ^ y) := by decide +kernel
theorem l_bit {F y : Nat} (hF : F < 2 ^ 31) (hy : y < 31) : (lN F >>> ((nI y).toInt64 &&& 63)) &&& 1 = lN (F.testBit y).toNat := by
  rw [l_shr (by omega) (by omega), show (1 : Int64) = lN 1 from rfl, l_and, Nat.and_one_is_mod]
  congr 1
  rw [Nat.testBit_eq_decide_div_mod_eq]
  have : F / 2 ^ y % 2 < 2 := Nat.mod_lt _ (by decide)
  by_cases h : F / 2 ^ y % 2 = 1
  · simp [h]
  · simp [h]; omega
theorem n_bitI {F y : Nat} (hF : F < 2 ^ 31) (hy : y < 31) : (nI F >>> (nI y &&& 31)) &&& 1 = nI (F.testBit y).toNat := by
  have hs : ∀ y, y < 31 → ((nI y &&& 31).toBitVec.smod 32).toNat = y := by decide +kernel
  rw [pk_shrN hF _ y (hs y hy), show (1 : Int32) = nI 1 from rfl, n_and, Nat.and_one_is_mod]
  congr 1
  rw [Nat.testBit_eq_decide_div_mod_eq]
  have : F / 2 ^ y % 2 < 2 := Nat.mod_lt _ (by decide)
  by_cases h : F / 2 ^ y % 2 = 1
  · simp [h]
  · simp [h]; omega
