/-! Numbers as integers, and small rules. -/
theorem i_le (x y : Int32) : x ≤ y ↔ x.toInt ≤ y.toInt := Int32.le_iff_toInt_le
theorem i_lt (x y : Int32) : x < y ↔ x.toInt < y.toInt := Int32.lt_iff_toInt_lt
theorem i_eq (x y : Int32) : x = y ↔ x.toInt = y.toInt := Int32.toInt_inj.symm
theorem l_le (x y : Int64) : x ≤ y ↔ x.toInt ≤ y.toInt := Int64.le_iff_toInt_le
theorem l_lt (x y : Int64) : x < y ↔ x.toInt < y.toInt := Int64.lt_iff_toInt_lt
theorem l_eq (x y : Int64) : x = y ↔ x.toInt = y.toInt := Int64.toInt_inj.symm
theorem il_toInt (x : Int32) : x.toInt64.toInt = x.toInt := by simp
theorem cmp_lt (x y : Int64) : lg_cmp x y < 0 ↔ x.toInt < y.toInt := by
  rw [← l_lt]
  unfold lg_cmp
  by_cases h1 : x > y
  · rw [if_pos h1]
    have h2 : y.toInt < x.toInt := (l_lt _ _).mp h1
    rw [l_lt]
    exact ⟨fun h => absurd h (by decide), fun h => by omega⟩
  · rw [if_neg h1]
    have h2 : ¬ y.toInt < x.toInt := fun h => h1 ((l_lt _ _).mpr h)
    by_cases h3 : x = y
    · rw [if_pos h3, l_lt]
      rw [l_eq] at h3
      exact ⟨fun h => absurd h (by decide), fun h => by omega⟩
    · rw [if_neg h3, l_lt]
      rw [l_eq] at h3
      exact ⟨fun _ => by omega, fun _ => by decide⟩
theorem cmp_gt (x y : Int64) : 0 < lg_cmp x y ↔ y.toInt < x.toInt := by
  rw [← l_lt]
  unfold lg_cmp
  by_cases h1 : x > y
  · rw [if_pos h1]
    exact ⟨fun _ => h1, fun _ => by decide⟩
  · rw [if_neg h1]
    by_cases h3 : x = y
    · rw [if_pos h3]
      exact ⟨fun h => absurd h (by decide), fun h => absurd h h1⟩
    · rw [if_neg h3]
      exact ⟨fun h => absurd h (by decide), fun h => absurd h h1⟩
theorem cmp_eq (x y : Int64) : lg_cmp x y = 0 ↔ x = y := by
  unfold lg_cmp
  by_cases h1 : x > y
  · rw [if_pos h1]
    exact ⟨fun h => absurd h (by decide), fun h => by subst h; exact absurd ((l_lt _ _).mp h1) (by omega)⟩
  · rw [if_neg h1]
    by_cases h3 : x = y
    · rw [if_pos h3]; exact ⟨fun _ => h3, fun _ => rfl⟩
    · rw [if_neg h3]
      exact ⟨fun h => absurd h (by decide), fun h => absurd h h3⟩
theorem bI_t {p : Prop} [Decidable p] (h : p) : bI (decide p) = 1 := by rw [decide_eq_true h]; rfl
theorem bI_f {p : Prop} [Decidable p] (h : ¬ p) : bI (decide p) = 0 := by rw [decide_eq_false h]; rfl
theorem vin {x : Int32} {n : Nat} (h0 : 0 ≤ x.toInt) (h1 : x.toInt < n) : vp_in x n := vp_in_iff.mpr ⟨h0, h1⟩
theorem clamp_toInt {x : Int32} (h0 : 0 ≤ x.toInt) : (x.toNatClampNeg : Int) = x.toInt := by
  show ((x.toInt.toNat : Nat) : Int) = x.toInt
  omega
section RULES
variable {d : Nat} {X : MD} {pc len : Nat} {l : AL} {st : List Value} {M : AM} {r : AR} {b : Nat} {v : Value}
/-- ifeq, ifne of a boolean -/
theorem Ev.ifb0 {c : Bool} {tgt : Nat} (hc : cdx X pc = some (.inr (.inr (20, tgt, b, v)), len)) (kt : c = false → Ev d X tgt l st M r) (kf : c = true → Ev d X (pc + len) l st M r) : Ev d X pc l (.int (bI c) :: st) M r := by
  refine Ev.if0 hc (fun h => kt ?_) (fun h => kf ?_)
  · cases c with
    | false => rfl
    | true => exact absurd h (by decide)
  · cases c with
    | true => rfl
    | false => exact absurd rfl h
theorem Ev.ifb1 {c : Bool} {tgt : Nat} (hc : cdx X pc = some (.inr (.inr (21, tgt, b, v)), len)) (kt : c = true → Ev d X tgt l st M r) (kf : c = false → Ev d X (pc + len) l st M r) : Ev d X pc l (.int (bI c) :: st) M r := by
  refine Ev.if1 hc (fun h => kt ?_) (fun h => kf ?_)
  · cases c with
    | true => rfl
    | false => exact absurd rfl h
  · cases c with
    | false => rfl
    | true => exact absurd h (by decide)
/-- a return of an int, a boolean, nothing; the answer is proved to be the one that is asked -/
theorem Ev.retI {x y : Int32} (hc : cdx X pc = some (.inr (.inl .ireturn), len)) (ht : md_r X = 1) (h : y = x) : Ev d X pc l [.int x] M (some (.int y), M) := by
  subst h
  refine Ev.ret hc ?_
  rw [ht]
  rfl
theorem Ev.retZ {x : Int32} {c : Bool} (hc : cdx X pc = some (.inr (.inl .ireturn), len)) (ht : md_r X = 2) (h : bI c = x) : Ev d X pc l [.int x] M (some (.int (bI c)), M) := by
  subst h
  refine Ev.ret hc ?_
  rw [ht]
  cases c <;> rfl
theorem Ev.retL {x y : Int64} (hc : cdx X pc = some (.inr (.inl .lreturn), len)) (ht : md_r X = 3) (h : y = x) : Ev d X pc l [.long x] M (some (.long y), M) := by
  subst h
  refine Ev.ret hc ?_
  rw [ht]
  rfl
theorem Ev.retV {M' : AM} (hc : cdx X pc = some (.inr (.inl .return_), len)) (ht : md_r X = 0) (h : M' = M) : Ev d X pc l [] M (none, M') := by
  subst h
  refine Ev.ret hc ?_
  rw [ht]
  rfl
theorem Ev.retR {x y : Nat} (hc : cdx X pc = some (.inr (.inl .areturn), len)) (ht : md_r X = 4) (h : y = x) : Ev d X pc l [.ref x] M (some (.ref y), M) := by
  subst h
  refine Ev.ret hc ?_
  rw [ht]
  rfl
theorem Ev.retN (hc : cdx X pc = some (.inr (.inl .areturn), len)) (ht : md_r X = 4) : Ev d X pc l [.null] M (some .null, M) := by
  refine Ev.ret hc ?_
  rw [ht]
  rfl
/-- 'thrown' is 0 and stays it -/
theorem Ev.mput0 {σ : MS} (hc : cdx X pc = some (.inr (.inr (1, 10, 0, v)), len)) (h0 : σ.1 0 = 0) (h : Ev d X (pc + len) l st (mset M σ) r) : Ev d X pc l (.int 0 :: .ref 287 :: st) (mset M σ) r := by
  refine Ev.mput (j := 0) hc rfl ?_
  have e : fset σ 0 0 = σ := by
    unfold fset
    have : upd σ.1 0 0 = σ.1 := by
      funext k
      unfold upd
      by_cases hk : k = 0
      · subst hk; simp [h0]
      · simp [hk]
    rw [this]
  rw [e]
  exact h
end RULES
/-- in(v, low, high) -/
theorem m_in {d : Nat} {M : AM} (a b c : Int64) : Ev d md_152 0 [some (.long a), none, some (.long b), none, some (.long c), none] [] M (some (.int (bI (decide (b.toInt ≤ a.toInt ∧ a.toInt ≤ c.toInt)))), M) := by
  refine Ev.n (pc' := 3) 3 rfl ?_
  refine Ev.if2 (tgt := 17) (len := 3) rfl (fun h3 => ?_) (fun h3 => ?_)
  · rw [cmp_lt] at h3
    refine Ev.n (pc' := 18) 1 rfl ?_
    exact Ev.retZ (len := 1) rfl rfl (bI_f (by omega))
  · rw [cmp_lt] at h3
    refine Ev.n (pc' := 10) 3 rfl ?_
    refine Ev.if4 (tgt := 17) (len := 3) rfl (fun h10 => ?_) (fun h10 => ?_)
    · rw [cmp_gt] at h10
      refine Ev.n (pc' := 18) 1 rfl ?_
      exact Ev.retZ (len := 1) rfl rfl (bI_f (by omega))
    · rw [cmp_gt] at h10
      refine Ev.n (pc' := 18) 2 rfl ?_
      exact Ev.retZ (len := 1) rfl rfl (bI_t (by omega))
theorem m_isSlot {d : Nat} {M : AM} (x : Int32) : Ev (d + 1) md_151 0 [some (.int x)] [] M (some (.int (bI (decide (0 ≤ x.toInt ∧ x.toInt ≤ 3)))), M) := by
  refine Ev.n (pc' := 6) 4 rfl ?_
  refine Ev.callS (len := 3) rfl rfl rfl rfl (m_in _ _ _) ?_
  refine Ev.retZ (len := 1) rfl rfl ?_
  rw [il_toInt]
  rfl
