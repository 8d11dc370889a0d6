/-! RULES IN NATURALS: what lies on the stack is nI of a natural. -/
theorem n_sub {a b : Nat} (h : b ≤ a) : nI a - nI b = nI (a - b) := pk_sub h
section NR
variable {d : Nat} {X : MD} {pc len : Nat} {l : AL} {st : List Value} {M : AM} {Q : Option Value → AM → Prop} {a b : Nat} {v : Value}
theorem Wp.top {x y : Int32} (h : x = y) (k : Wp d X pc l (.int y :: st) M Q) : Wp d X pc l (.int x :: st) M Q := h ▸ k
theorem Wp.topL {x y : Int64} (h : x = y) (k : Wp d X pc l (.long y :: st) M Q) : Wp d X pc l (.long x :: st) M Q := h ▸ k
theorem Wp.iaddN {x y : Nat} (hc : cdx X pc = some (.inr (.inl .iadd), len)) (k : Wp d X (pc + len) l (.int (nI (x + y)) :: st) M Q) : Wp d X pc l (.int (nI y) :: .int (nI x) :: st) M Q := by
  refine Wp.s (pc' := pc + len) (l' := l) (st' := .int (nI x + nI y) :: st) (M' := M) ?_ (Wp.top (nI_add x y) k)
  unfold sstep
  rw [hc]
  rfl
theorem Wp.imulN {x y : Nat} (hc : cdx X pc = some (.inr (.inl .imul), len)) (k : Wp d X (pc + len) l (.int (nI (x * y)) :: st) M Q) : Wp d X pc l (.int (nI y) :: .int (nI x) :: st) M Q := by
  refine Wp.s (pc' := pc + len) (l' := l) (st' := .int (nI x * nI y) :: st) (M' := M) ?_ (Wp.top (pk_mul x y) k)
  unfold sstep
  rw [hc]
  rfl
theorem Wp.isubN {x y : Nat} (hc : cdx X pc = some (.inr (.inl .isub), len)) (h : y ≤ x) (k : Wp d X (pc + len) l (.int (nI (x - y)) :: st) M Q) : Wp d X pc l (.int (nI y) :: .int (nI x) :: st) M Q := by
  refine Wp.s (pc' := pc + len) (l' := l) (st' := .int (nI x - nI y) :: st) (M' := M) ?_ (Wp.top (pk_sub h) k)
  unfold sstep
  rw [hc]
  rfl
theorem Wp.incN {x : Nat} (hc : cdx X pc = some (.inr (.inr (46, a, b, .int 1)), len)) (hg : gl l a = some (.int (nI x))) (k : Wp d X (pc + len) (st1 l a (.int (nI (x + 1)))) st M Q) : Wp d X pc l st M Q := by
  refine Wp.s (pc' := pc + len) (l' := st1 l a (.int (nI x + 1))) (st' := st) (M' := M) ?_ (by rw [nI_1]; exact k)
  unfold sstep
  rw [hc]
  show (match gl l a, (Value.int 1) with | some (.int x), .int y => _ | _, _ => _) = _
  rw [hg]
-- compared
theorem Wp.nc0 {x y tgt : Nat} (hc : cdx X pc = some (.inr (.inr (26, tgt, b, v)), len)) (hx : x < 2 ^ 31) (hy : y < 2 ^ 31) (kt : x = y → Wp d X tgt l st M Q) (kf : x ≠ y → Wp d X (pc + len) l st M Q) : Wp d X pc l (.int (nI y) :: .int (nI x) :: st) M Q := Wp.ic0 hc (fun h => kt ((nI_eq hx hy).mp h)) (fun h => kf (fun q => h (q ▸ rfl)))
theorem Wp.nc1 {x y tgt : Nat} (hc : cdx X pc = some (.inr (.inr (27, tgt, b, v)), len)) (hx : x < 2 ^ 31) (hy : y < 2 ^ 31) (kt : x ≠ y → Wp d X tgt l st M Q) (kf : x = y → Wp d X (pc + len) l st M Q) : Wp d X pc l (.int (nI y) :: .int (nI x) :: st) M Q := Wp.ic1 hc (fun h => kt (fun q => h (q ▸ rfl))) (fun h => kf ((nI_eq hx hy).mp h))
theorem Wp.nc2 {x y tgt : Nat} (hc : cdx X pc = some (.inr (.inr (28, tgt, b, v)), len)) (hx : x < 2 ^ 31) (hy : y < 2 ^ 31) (kt : x < y → Wp d X tgt l st M Q) (kf : y ≤ x → Wp d X (pc + len) l st M Q) : Wp d X pc l (.int (nI y) :: .int (nI x) :: st) M Q := Wp.ic2 hc (fun h => kt ((nI_ltI hx hy).mp h)) (fun h => kf (Nat.not_lt.mp (fun q => h ((nI_ltI hx hy).mpr q))))
theorem Wp.nc3 {x y tgt : Nat} (hc : cdx X pc = some (.inr (.inr (29, tgt, b, v)), len)) (hx : x < 2 ^ 31) (hy : y < 2 ^ 31) (kt : y ≤ x → Wp d X tgt l st M Q) (kf : x < y → Wp d X (pc + len) l st M Q) : Wp d X pc l (.int (nI y) :: .int (nI x) :: st) M Q := Wp.ic3 hc (fun h => kt ((nI_leI hy hx).mp h)) (fun h => kf (Nat.not_le.mp (fun q => h ((nI_leI hy hx).mpr q))))
theorem Wp.nc4 {x y tgt : Nat} (hc : cdx X pc = some (.inr (.inr (30, tgt, b, v)), len)) (hx : x < 2 ^ 31) (hy : y < 2 ^ 31) (kt : y < x → Wp d X tgt l st M Q) (kf : x ≤ y → Wp d X (pc + len) l st M Q) : Wp d X pc l (.int (nI y) :: .int (nI x) :: st) M Q := Wp.ic4 hc (fun h => kt ((nI_ltI hy hx).mp h)) (fun h => kf (Nat.not_lt.mp (fun q => h ((nI_ltI hy hx).mpr q))))
theorem Wp.nc5 {x y tgt : Nat} (hc : cdx X pc = some (.inr (.inr (31, tgt, b, v)), len)) (hx : x < 2 ^ 31) (hy : y < 2 ^ 31) (kt : x ≤ y → Wp d X tgt l st M Q) (kf : y < x → Wp d X (pc + len) l st M Q) : Wp d X pc l (.int (nI y) :: .int (nI x) :: st) M Q := Wp.ic5 hc (fun h => kt ((nI_leI hx hy).mp h)) (fun h => kf (Nat.not_le.mp (fun q => h ((nI_leI hx hy).mpr q))))
theorem Wp.nz0 {x tgt : Nat} (hc : cdx X pc = some (.inr (.inr (20, tgt, b, v)), len)) (hx : x < 2 ^ 31) (kt : x = 0 → Wp d X tgt l st M Q) (kf : x ≠ 0 → Wp d X (pc + len) l st M Q) : Wp d X pc l (.int (nI x) :: st) M Q := Wp.if0 hc (fun h => kt ((nI_eq (b := 0) hx (by decide)).mp h)) (fun h => kf (fun q => h (by rw [q]; rfl)))
theorem Wp.nz1 {x tgt : Nat} (hc : cdx X pc = some (.inr (.inr (21, tgt, b, v)), len)) (hx : x < 2 ^ 31) (kt : x ≠ 0 → Wp d X tgt l st M Q) (kf : x = 0 → Wp d X (pc + len) l st M Q) : Wp d X pc l (.int (nI x) :: st) M Q := Wp.if1 hc (fun h => kt (fun q => h (by rw [q]; rfl))) (fun h => kf ((nI_eq (b := 0) hx (by decide)).mp h))
theorem Wp.nz2 {x tgt : Nat} (hc : cdx X pc = some (.inr (.inr (22, tgt, b, v)), len)) (hx : x < 2 ^ 31) (kf : Wp d X (pc + len) l st M Q) : Wp d X pc l (.int (nI x) :: st) M Q := Wp.if2 hc (fun h => absurd h (nI_pos hx)) (fun _ => kf)
theorem Wp.nz3 {x tgt : Nat} (hc : cdx X pc = some (.inr (.inr (23, tgt, b, v)), len)) (hx : x < 2 ^ 31) (kf : Wp d X tgt l st M Q) : Wp d X pc l (.int (nI x) :: st) M Q := Wp.if3 hc (fun _ => kf) (fun h => absurd (nI_pos' hx) h)
theorem Wp.nz4 {x tgt : Nat} (hc : cdx X pc = some (.inr (.inr (24, tgt, b, v)), len)) (hx : x < 2 ^ 31) (kt : 0 < x → Wp d X tgt l st M Q) (kf : x = 0 → Wp d X (pc + len) l st M Q) : Wp d X pc l (.int (nI x) :: st) M Q := Wp.if4 hc (fun h => kt ((nI_ltI (a := 0) (by decide) hx).mp h)) (fun h => kf (Nat.eq_zero_of_not_pos (fun q => h ((nI_ltI (a := 0) (by decide) hx).mpr q))))
theorem Wp.nz5 {x tgt : Nat} (hc : cdx X pc = some (.inr (.inr (25, tgt, b, v)), len)) (hx : x < 2 ^ 31) (kt : x = 0 → Wp d X tgt l st M Q) (kf : 0 < x → Wp d X (pc + len) l st M Q) : Wp d X pc l (.int (nI x) :: st) M Q := Wp.if5 hc (fun h => kt (Nat.eq_zero_of_not_pos (fun q => absurd h (nI_nle q hx)))) (fun h => kf (Nat.pos_of_ne_zero (fun q => h (by rw [q]; exact Int32.le_refl _))))
-- rows
theorem Wp.ialdN {k n t j : Nat} {f : Nat → Int32} (hc : cdx X pc = some (.inr (.inl .iaload), len)) (hM : M k = .inl (t, n, .inl f)) (ht : (Nat.beq t 0 || Nat.beq t 7) = true) (hj : j < n) (hn : n < 2 ^ 31) (h : Wp d X (pc + len) l (.int (f j) :: st) M Q) : Wp d X pc l (.int (nI j) :: .ref k :: st) M Q := Wp.iald hc hM ht (vp_in_nI hj hn) (by rw [nI_clamp (Nat.lt_trans hj hn)]; exact h)
theorem Wp.baldN {k n t j : Nat} {f : Nat → Int32} (hc : cdx X pc = some (.inr (.inl .baload), len)) (hM : M k = .inl (t, n, .inl f)) (ht : (Nat.beq t 2 || Nat.beq t 3) = true) (hj : j < n) (hn : n < 2 ^ 31) (h : Wp d X (pc + len) l (.int (f j) :: st) M Q) : Wp d X pc l (.int (nI j) :: .ref k :: st) M Q := Wp.bald hc hM ht (vp_in_nI hj hn) (by rw [nI_clamp (Nat.lt_trans hj hn)]; exact h)
theorem Wp.laldN {k n j : Nat} {f : Nat → Int64} (hc : cdx X pc = some (.inr (.inl .laload), len)) (hM : M k = .inl (1, n, .inr (.inl f))) (hj : j < n) (hn : n < 2 ^ 31) (h : Wp d X (pc + len) l (.long (f j) :: st) M Q) : Wp d X pc l (.int (nI j) :: .ref k :: st) M Q := Wp.lald hc hM (vp_in_nI hj hn) (by rw [nI_clamp (Nat.lt_trans hj hn)]; exact h)
theorem Wp.aaldN {k n t j q : Nat} {f : Nat → Option Nat} (hc : cdx X pc = some (.inr (.inl .aaload), len)) (hM : M k = .inl (t, n, .inr (.inr (.inr (.inr f))))) (ht : (Nat.ble 4 t && Nat.ble t 6) = true) (hj : j < n) (hn : n < 2 ^ 31) (hq : f j = some q) (h : Wp d X (pc + len) l (.ref q :: st) M Q) : Wp d X pc l (.int (nI j) :: .ref k :: st) M Q := Wp.aald hc hM ht (vp_in_nI hj hn) (by rw [nI_clamp (Nat.lt_trans hj hn), hq]; exact h)
theorem Wp.iastN {k n j : Nat} {f : Nat → Int32} {x : Int32} (hc : cdx X pc = some (.inr (.inl .iastore), len)) (hM : M k = .inl (0, n, .inl f)) (hj : j < n) (hn : n < 2 ^ 31) (h : Wp d X (pc + len) l st (va_up M k (.inl (0, n, .inl (upd f j x)))) Q) : Wp d X pc l (.int x :: .int (nI j) :: .ref k :: st) M Q := Wp.iast hc hM (vp_in_nI hj hn) (by rw [nI_clamp (Nat.lt_trans hj hn)]; exact h)
theorem Wp.bastN {k n t j : Nat} {f : Nat → Int32} {x : Int32} (hc : cdx X pc = some (.inr (.inl .bastore), len)) (hM : M k = .inl (t, n, .inl f)) (ht : (Nat.beq t 2 || Nat.beq t 3) = true) (hj : j < n) (hn : n < 2 ^ 31) (h : Wp d X (pc + len) l st (va_up M k (.inl (t, n, .inl (upd f j (anar t x))))) Q) : Wp d X pc l (.int x :: .int (nI j) :: .ref k :: st) M Q := Wp.bast hc hM ht (vp_in_nI hj hn) (by rw [nI_clamp (Nat.lt_trans hj hn)]; exact h)
theorem Wp.lastN {k n j : Nat} {f : Nat → Int64} {x : Int64} (hc : cdx X pc = some (.inr (.inl .lastore), len)) (hM : M k = .inl (1, n, .inr (.inl f))) (hj : j < n) (hn : n < 2 ^ 31) (h : Wp d X (pc + len) l st (va_up M k (.inl (1, n, .inr (.inl (vp_updL f j x))))) Q) : Wp d X pc l (.long x :: .int (nI j) :: .ref k :: st) M Q := Wp.last hc hM (vp_in_nI hj hn) (by rw [nI_clamp (Nat.lt_trans hj hn)]; exact h)
-- a switch, a null
theorem Wp.sw {x : Int32} {t : Nat} (hc : cdx X pc = some (.inr (.inr (35, a, b, v)), len)) (ht : swx swl a x = some t) (k : Wp d X t l st M Q) : Wp d X pc l (.int x :: st) M Q := by
  refine Wp.s (pc' := t) (l' := l) (st' := st) (M' := M) ?_ k
  unfold sstep
  rw [hc]
  show (match swx swl a x with | some t => _ | none => _) = _
  rw [ht]
-- the reference
variable {σ : MS}
theorem Wp.mialdN {k n j : Nat} (hc : cdx X pc = some (.inr (.inl .iaload), len)) (hk : mtl_ k = (0, n)) (hn : (Nat.blt 0 n && Nat.blt n 100000) = true) (hj : j < n) (h : Wp d X (pc + len) l (.int (σ.2.2.1 k j) :: st) (mset M σ) Q) : Wp d X pc l (.int (nI j) :: .ref (k + 288) :: st) (mset M σ) Q := by
  rw [Bool.and_eq_true] at hn
  have h1 : 0 < n := Nat.le_of_ble_eq_true hn.1
  have h2 : n < 100000 := Nat.le_of_ble_eq_true hn.2
  exact Wp.miald hc hk (by omega) (vp_in_nI hj (by omega)) (by rw [nI_clamp (by omega)]; exact h)
theorem Wp.miastN {k n j : Nat} {x : Int32} (hc : cdx X pc = some (.inr (.inl .iastore), len)) (hk : mtl_ k = (0, n)) (hn : (Nat.blt 0 n && Nat.blt n 100000) = true) (hj : j < n) (h : Wp d X (pc + len) l st (mset M (aset σ k (upd (σ.2.2.1 k) j x))) Q) : Wp d X pc l (.int x :: .int (nI j) :: .ref (k + 288) :: st) (mset M σ) Q := by
  rw [Bool.and_eq_true] at hn
  have h1 : 0 < n := Nat.le_of_ble_eq_true hn.1
  have h2 : n < 100000 := Nat.le_of_ble_eq_true hn.2
  exact Wp.miast hc hk (by omega) (vp_in_nI hj (by omega)) (by rw [nI_clamp (by omega)]; exact h)
theorem Wp.mlaldN {k n j : Nat} (hc : cdx X pc = some (.inr (.inl .laload), len)) (hk : mtl_ k = (1, n)) (hn : Nat.blt n 100000 = true) (hj : j < n) (h : Wp d X (pc + len) l (.long (σ.2.2.2 k j) :: st) (mset M σ) Q) : Wp d X pc l (.int (nI j) :: .ref (k + 288) :: st) (mset M σ) Q := by
  have h2 : n < 100000 := Nat.le_of_ble_eq_true hn
  exact Wp.mlald hc hk (vp_in_nI hj (by omega)) (by rw [nI_clamp (by omega)]; exact h)
theorem Wp.mlastN {k n j : Nat} {x : Int64} (hc : cdx X pc = some (.inr (.inl .lastore), len)) (hk : mtl_ k = (1, n)) (hn : Nat.blt n 100000 = true) (hj : j < n) (h : Wp d X (pc + len) l st (mset M (lset σ k (vp_updL (σ.2.2.2 k) j x))) Q) : Wp d X pc l (.long x :: .int (nI j) :: .ref (k + 288) :: st) (mset M σ) Q := by
  have h2 : n < 100000 := Nat.le_of_ble_eq_true hn
  exact Wp.mlast hc hk (vp_in_nI hj (by omega)) (by rw [nI_clamp (by omega)]; exact h)
-- a realm in memory
variable {r : Nat} {ρ : RC}
theorem ra_ev {w : Option Value} (h : RA M r ρ) (e : Ev d X pc l st (rset M r ρ) (w, rset M r ρ)) : Ev d X pc l st M (w, M) := by
  rw [show rset M r ρ = M from h] at e
  exact e
theorem ra_obj (h : RA M r ρ) : M r = .inr (3, rfs r ρ) := by rw [← show rset M r ρ = M from h]; exact rs_obj
theorem ra_law (h : RA M r ρ) : M (r + 1) = .inr (0, lfs (rlw ρ)) := by rw [← show rset M r ρ = M from h]; exact rs_law
theorem ra_roads (h : RA M r ρ) : M (r + 2) = .inl (4, 12, .inr (.inr (.inr (.inr (fun i => if i < 12 then some (r + 3 + i) else none))))) := by rw [← show rset M r ρ = M from h]; exact rs_roads
theorem ra_road {i : Nat} (h : RA M r ρ) (hi : i < 12) : M (r + 3 + i) = .inr (1, kfs i (rlk ρ i)) := by rw [← show rset M r ρ = M from h]; exact rs_road hi
theorem ra_lanes (h : RA M r ρ) : M (r + 15) = .inl (4, 9, .inr (.inr (.inr (.inr (fun i => if i < 9 then some (r + 16 + i) else none))))) := by rw [← show rset M r ρ = M from h]; exact rs_lanes
theorem ra_lane {i : Nat} (h : RA M r ρ) (hi : i < 9) : M (r + 16 + i) = .inr (1, kfs i (rlk ρ (12 + i))) := by rw [← show rset M r ρ = M from h]; exact rs_lane hi
theorem ra_walks (h : RA M r ρ) : M (r + 25) = .inl (5, 10, .inr (.inr (.inr (.inr (fun i => if i < 10 then some (r + 26 + 2 * i) else none))))) := by rw [← show rset M r ρ = M from h]; exact rs_walks
theorem ra_walk {i : Nat} (h : RA M r ρ) (hi : i < 10) : M (r + 26 + 2 * i) = .inr (7, wfs (rwk ρ i) (r + 27 + 2 * i)) := by rw [← show rset M r ρ = M from h]; exact rs_walk hi
theorem ra_stops {i : Nat} (h : RA M r ρ) (hi : i < 10) : M (r + 27 + 2 * i) = .inl (0, 7, .inl (rst ρ i)) := by rw [← show rset M r ρ = M from h]; exact rs_stops hi
theorem ra_dist (h : RA M r ρ) : M (r + 46) = .inl (0, 49, .inl (rds ρ)) := by rw [← show rset M r ρ = M from h]; exact rs_dist
theorem rset_ra : RA (rset M r ρ) r ρ := by
  show rset (rset M r ρ) r ρ = rset M r ρ
  funext q
  unfold rset
  by_cases h : r ≤ q ∧ q < r + 47
  · rw [if_pos h, if_pos h]
  · simp only [if_neg h]
end NR
