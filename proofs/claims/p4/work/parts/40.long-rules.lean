/-! RULES FOR LONGS that are naturals. -/
theorem l_div {a b : Nat} (ha : a < 2 ^ 63) (hb : b < 2 ^ 63) (h0 : 0 < b) : lN a / lN b = lN (a / b) := pk_lDiv ha h0 hb
theorem l_rem {a b : Nat} (ha : a < 2 ^ 63) (hb : b < 2 ^ 63) (h0 : 0 < b) : lN a - lN a / lN b * lN b = lN (a % b) := pk_lRem ha h0 hb
section LR
variable {d : Nat} {X : MD} {pc len : Nat} {l : AL} {st : List Value} {M : AM} {Q : Option Value → AM → Prop} {a b : Nat} {v : Value}
theorem Wp.laddM {x y : Nat} (hc : cdx X pc = some (.inr (.inl .ladd), len)) (k : Wp d X (pc + len) l (.long (lN (x + y)) :: st) M Q) : Wp d X pc l (.long (lN y) :: .long (lN x) :: st) M Q := by
  refine Wp.s (pc' := pc + len) (l' := l) (st' := .long (lN x + lN y) :: st) (M' := M) ?_ (Wp.topL (lN_add x y) k)
  unfold sstep
  rw [hc]
  rfl
theorem Wp.lmulM {x y : Nat} (hc : cdx X pc = some (.inr (.inl .lmul), len)) (k : Wp d X (pc + len) l (.long (lN (x * y)) :: st) M Q) : Wp d X pc l (.long (lN y) :: .long (lN x) :: st) M Q := by
  refine Wp.s (pc' := pc + len) (l' := l) (st' := .long (lN x * lN y) :: st) (M' := M) ?_ (Wp.topL (lN_mul x y) k)
  unfold sstep
  rw [hc]
  rfl
theorem Wp.lsubM {x y : Nat} (hc : cdx X pc = some (.inr (.inl .lsub), len)) (h : y ≤ x) (k : Wp d X (pc + len) l (.long (lN (x - y)) :: st) M Q) : Wp d X pc l (.long (lN y) :: .long (lN x) :: st) M Q := by
  refine Wp.s (pc' := pc + len) (l' := l) (st' := .long (lN x - lN y) :: st) (M' := M) ?_ (Wp.topL (lN_sub h) k)
  unfold sstep
  rw [hc]
  rfl
theorem l_ne0 {y : Nat} (h : 0 < y) (h2 : y < 2 ^ 63) : (lN y == 0) = false := by
  rw [beq_eq_false_iff_ne]
  intro q
  have := (l_inj (b := 0) h2 (by decide)).mp q
  omega
theorem Wp.ldivM {x y : Nat} (hc : cdx X pc = some (.inr (.inl .ldiv), len)) (hx : x < 2 ^ 63) (hy : y < 2 ^ 63) (h0 : 0 < y) (k : Wp d X (pc + len) l (.long (lN (x / y)) :: st) M Q) : Wp d X pc l (.long (lN y) :: .long (lN x) :: st) M Q := by
  refine Wp.s (pc' := pc + len) (l' := l) (st' := .long (lN x / lN y) :: st) (M' := M) ?_ (Wp.topL (l_div hx hy h0) k)
  unfold sstep
  rw [hc]
  simp only [pstep, l_ne0 h0 hy, cond_false]
theorem Wp.lremM {x y : Nat} (hc : cdx X pc = some (.inr (.inl .lrem), len)) (hx : x < 2 ^ 63) (hy : y < 2 ^ 63) (h0 : 0 < y) (k : Wp d X (pc + len) l (.long (lN (x % y)) :: st) M Q) : Wp d X pc l (.long (lN y) :: .long (lN x) :: st) M Q := by
  refine Wp.s (pc' := pc + len) (l' := l) (st' := .long (lN x - lN x / lN y * lN y) :: st) (M' := M) ?_ (Wp.topL (l_rem hx hy h0) k)
  unfold sstep
  rw [hc]
  simp only [pstep, l_ne0 h0 hy, cond_false]
theorem Wp.i2lM {x : Nat} (hc : cdx X pc = some (.inr (.inl .i2l), len)) (hx : x < 2 ^ 31) (k : Wp d X (pc + len) l (.long (lN x) :: st) M Q) : Wp d X pc l (.int (nI x) :: st) M Q := by
  refine Wp.s (pc' := pc + len) (l' := l) (st' := .long (nI x).toInt64 :: st) (M' := M) ?_ (Wp.topL (nI_l hx) k)
  unfold sstep
  rw [hc]
  rfl
theorem Wp.l2iM {x : Nat} (hc : cdx X pc = some (.inr (.inl .l2i), len)) (k : Wp d X (pc + len) l (.int (nI x) :: st) M Q) : Wp d X pc l (.long (lN x) :: st) M Q := by
  refine Wp.s (pc' := pc + len) (l' := l) (st' := .int (lN x).toInt32 :: st) (M' := M) ?_ (Wp.top (lN_i x) k)
  unfold sstep
  rw [hc]
  rfl
theorem Wp.cz0 {x y tgt : Nat} (hc : cdx X pc = some (.inr (.inr (20, tgt, b, v)), len)) (hx : x < 2 ^ 63) (hy : y < 2 ^ 63) (kt : x = y → Wp d X tgt l st M Q) (kf : x ≠ y → Wp d X (pc + len) l st M Q) : Wp d X pc l (.int (lg_cmp (lN x) (lN y)) :: st) M Q := Wp.if0 hc (fun h => kt ((l_inj hx hy).mp ((cmp_eq _ _).mp h))) (fun h => kf (fun q => h ((cmp_eq _ _).mpr (by rw [q]))))
theorem Wp.cz1 {x y tgt : Nat} (hc : cdx X pc = some (.inr (.inr (21, tgt, b, v)), len)) (hx : x < 2 ^ 63) (hy : y < 2 ^ 63) (kt : x ≠ y → Wp d X tgt l st M Q) (kf : x = y → Wp d X (pc + len) l st M Q) : Wp d X pc l (.int (lg_cmp (lN x) (lN y)) :: st) M Q := Wp.if1 hc (fun h => kt (fun q => h ((cmp_eq _ _).mpr (by rw [q])))) (fun h => kf ((l_inj hx hy).mp ((cmp_eq _ _).mp h)))
theorem cmp_ltM {x y : Nat} (hx : x < 2 ^ 63) (hy : y < 2 ^ 63) : lg_cmp (lN x) (lN y) < 0 ↔ x < y := by
  rw [cmp_lt, l_toInt hx, l_toInt hy]
  omega
theorem cmp_gtM {x y : Nat} (hx : x < 2 ^ 63) (hy : y < 2 ^ 63) : 0 < lg_cmp (lN x) (lN y) ↔ y < x := by
  rw [cmp_gt, l_toInt hx, l_toInt hy]
  omega
theorem Wp.cz2 {x y tgt : Nat} (hc : cdx X pc = some (.inr (.inr (22, tgt, b, v)), len)) (hx : x < 2 ^ 63) (hy : y < 2 ^ 63) (kt : x < y → Wp d X tgt l st M Q) (kf : y ≤ x → Wp d X (pc + len) l st M Q) : Wp d X pc l (.int (lg_cmp (lN x) (lN y)) :: st) M Q := Wp.if2 hc (fun h => kt ((cmp_ltM hx hy).mp h)) (fun h => kf (Nat.not_lt.mp (fun q => h ((cmp_ltM hx hy).mpr q))))
theorem Wp.cz3 {x y tgt : Nat} (hc : cdx X pc = some (.inr (.inr (23, tgt, b, v)), len)) (hx : x < 2 ^ 63) (hy : y < 2 ^ 63) (kt : y ≤ x → Wp d X tgt l st M Q) (kf : x < y → Wp d X (pc + len) l st M Q) : Wp d X pc l (.int (lg_cmp (lN x) (lN y)) :: st) M Q := by
  refine Wp.if3 hc (fun h => kt (Nat.not_lt.mp (fun q => ?_))) (fun h => kf ((cmp_ltM hx hy).mp ?_))
  · have h1 := (cmp_ltM hx hy).mpr q
    rw [i_le] at h
    rw [i_lt] at h1
    omega
  · rw [i_le] at h
    rw [i_lt]
    omega
theorem Wp.cz4 {x y tgt : Nat} (hc : cdx X pc = some (.inr (.inr (24, tgt, b, v)), len)) (hx : x < 2 ^ 63) (hy : y < 2 ^ 63) (kt : y < x → Wp d X tgt l st M Q) (kf : x ≤ y → Wp d X (pc + len) l st M Q) : Wp d X pc l (.int (lg_cmp (lN x) (lN y)) :: st) M Q := Wp.if4 hc (fun h => kt ((cmp_gtM hx hy).mp h)) (fun h => kf (Nat.not_lt.mp (fun q => h ((cmp_gtM hx hy).mpr q))))
theorem Wp.cz5 {x y tgt : Nat} (hc : cdx X pc = some (.inr (.inr (25, tgt, b, v)), len)) (hx : x < 2 ^ 63) (hy : y < 2 ^ 63) (kt : x ≤ y → Wp d X tgt l st M Q) (kf : y < x → Wp d X (pc + len) l st M Q) : Wp d X pc l (.int (lg_cmp (lN x) (lN y)) :: st) M Q := by
  refine Wp.if5 hc (fun h => kt (Nat.not_lt.mp (fun q => ?_))) (fun h => kf ((cmp_gtM hx hy).mp ?_))
  · have h1 := (cmp_gtM hx hy).mpr q
    rw [i_le] at h
    rw [i_lt] at h1
    omega
  · rw [i_le] at h
    rw [i_lt]
    omega
end LR
