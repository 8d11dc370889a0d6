/-! Small methods of the reference. -/
theorem m_cut {d : Nat} {M : AM} (x : Int64) (w : Int32) : Ev (d) md_154 0 [some (.long x), none, some (.int w)] [] (M) (some (.long (if w = 0 then x.toInt32.toInt8.toInt32.toInt64 else if w = 1 then x.toInt32.toInt16.toInt32.toInt64 else if w = 2 then x.toInt32.toInt64 else x)), M) := by
  refine Ev.n (pc' := 1) 1 rfl ?_
  refine Ev.if1 (tgt := 11) (len := 3) rfl (fun h1 => ?_) (fun h1 => ?_)
  · skip
    refine Ev.n (pc' := 13) 2 rfl ?_
    refine Ev.ic1 (tgt := 23) (len := 3) rfl (fun h13 => ?_) (fun h13 => ?_)
    · skip
      refine Ev.n (pc' := 25) 2 rfl ?_
      refine Ev.ic1 (tgt := 34) (len := 3) rfl (fun h25 => ?_) (fun h25 => ?_)
      · skip
        refine Ev.n (pc' := 35) 1 rfl ?_
        refine Ev.retL (len := 1) rfl rfl ?_
        simp_all
      · skip
        refine Ev.n (pc' := 35) 4 rfl ?_
        refine Ev.retL (len := 1) rfl rfl ?_
        simp_all
    · skip
      refine Ev.n (pc' := 35) 5 rfl ?_
      refine Ev.retL (len := 1) rfl rfl ?_
      simp_all
  · skip
    refine Ev.n (pc' := 35) 5 rfl ?_
    refine Ev.retL (len := 1) rfl rfl ?_
    simp_all

theorem m_isLoad {d : Nat} {M : AM} (x : Int32) : Ev (d + 1) md_232 0 [some (.int x)] [] (M) (some (.int (bI (decide (1 ≤ x.toInt ∧ x.toInt ≤ 9)))), M) := by
  refine Ev.n (pc' := 6) 4 rfl ?_
  refine Ev.callS (len := 3) rfl rfl rfl rfl (m_in _ _ _) ?_
  refine Ev.retZ (len := 1) rfl rfl ?_
  rw [il_toInt]
  rfl

theorem m_isMore {d : Nat} {M : AM} (x : Int32) : Ev (d + 1) md_238 0 [some (.int x)] [] (M) (some (.int (bI (decide (1 ≤ x.toInt ∧ x.toInt ≤ 99)))), M) := by
  refine Ev.n (pc' := 6) 4 rfl ?_
  refine Ev.callS (len := 3) rfl rfl rfl rfl (m_in _ _ _) ?_
  refine Ev.retZ (len := 1) rfl rfl ?_
  rw [il_toInt]
  rfl

theorem m_isSeed {d : Nat} {M : AM} (x : Int32) : Ev (d + 1) md_257 0 [some (.int x)] [] (M) (some (.int (bI (decide (0 ≤ x.toInt ∧ x.toInt ≤ 2000000000)))), M) := by
  refine Ev.n (pc' := 6) 4 rfl ?_
  refine Ev.callS (len := 3) rfl rfl rfl rfl (m_in _ _ _) ?_
  refine Ev.retZ (len := 1) rfl rfl ?_
  rw [il_toInt]
  rfl

theorem m_isPlace {d : Nat} {M : AM} (σ : MS) (x : Int32) : Ev (d + 1) md_187 0 [some (.ref 287), some (.int x)] [] (mset M σ) (some (.int (bI (decide (0 ≤ x.toInt ∧ x.toInt ≤ ((σ.2.2.1 6 0) - 1).toInt)))), mset M σ) := by
  refine Ev.n (pc' := 8) 6 rfl ?_
  refine Ev.miald (len := 1) rfl rfl (by decide) (vin (by decide) (by decide)) ?_
  refine Ev.n (pc' := 12) 3 rfl ?_
  refine Ev.callS (len := 3) rfl rfl rfl rfl (m_in _ _ _) ?_
  refine Ev.retZ (len := 1) rfl rfl ?_
  simp only [il_toInt]
  rfl

theorem m_isDay {d : Nat} {M : AM} (σ : MS) (x : Int32) : Ev (d + 1) md_193 0 [some (.ref 287), some (.int x)] [] (mset M σ) (some (.int (bI (decide (0 ≤ x.toInt ∧ x.toInt ≤ ((σ.2.2.1 6 1) - 1).toInt)))), mset M σ) := by
  refine Ev.n (pc' := 8) 6 rfl ?_
  refine Ev.miald (len := 1) rfl rfl (by decide) (vin (by decide) (by decide)) ?_
  refine Ev.n (pc' := 12) 3 rfl ?_
  refine Ev.callS (len := 3) rfl rfl rfl rfl (m_in _ _ _) ?_
  refine Ev.retZ (len := 1) rfl rfl ?_
  simp only [il_toInt]
  rfl

theorem m_isWalk {d : Nat} {M : AM} (σ : MS) (x : Int32) : Ev (d + 1) md_199 0 [some (.ref 287), some (.int x)] [] (mset M σ) (some (.int (bI (decide (0 ≤ x.toInt ∧ x.toInt ≤ ((σ.2.2.1 6 4) - 1).toInt)))), mset M σ) := by
  refine Ev.n (pc' := 8) 6 rfl ?_
  refine Ev.miald (len := 1) rfl rfl (by decide) (vin (by decide) (by decide)) ?_
  refine Ev.n (pc' := 12) 3 rfl ?_
  refine Ev.callS (len := 3) rfl rfl rfl rfl (m_in _ _ _) ?_
  refine Ev.retZ (len := 1) rfl rfl ?_
  simp only [il_toInt]
  rfl

theorem tst1 (x : Int32) (h : x.toInt < (60 : Int32).toInt) (h2 : (-2 : Int32).toInt ≤ x.toInt) : x.toInt < 60 ∧ -2 ≤ x.toInt := by
  simp only [Int32.reduceToInt] at h h2
  omega
theorem tst2 (x : Int32) (h : ¬ x < 60) (h2 : -2 ≤ x) : 60 ≤ x.toInt := by
  simp only [i_lt, i_le, Int32.reduceToInt] at h h2
  omega
theorem tst3 (x : Int64) (h : ¬ x < 60) (h2 : -2 ≤ x) : 60 ≤ x.toInt := by
  simp only [l_lt, l_le, Int64.reduceToInt] at h h2
  omega
theorem tst4 (σ : MS) (h : ¬ σ.2.2.1 5 (Int32.toNatClampNeg 0) ≤ 0) (h9 : σ.2.2.1 5 (Int32.toNatClampNeg 7) ≤ 0) : 0 < (σ.2.2.1 5 0).toInt := by
  simp only [i_lt, i_le, Int32.reduceToInt, Int32.reduceToNatClampNeg] at h h9
  omega
theorem m_of {d : Nat} {M : AM} (σ : MS) (w what : Nat) (h : 11 * w + what < 550) : Ev (d) md_200 0 [some (.ref 287), some (.int (nI w)), some (.int (nI what))] [] (mset M σ) (some (.int (σ.2.2.1 11 (11 * w + what))), mset M σ) := by
  refine Ev.n (pc' := 10) 7 rfl ?_
  refine Ev.miald (len := 1) rfl rfl (by decide) ((by rw [show (11 : Int32) * nI w + nI what = nI (11 * w + what) by rw [← nI_add, ← pk_mul]; rfl]; exact vp_in_nI h (by omega))) ?_
  refine Ev.retI (len := 1) rfl rfl ?_
  rw [show (11 : Int32) * nI w + nI what = nI (11 * w + what) by rw [← nI_add, ← pk_mul]; rfl, nI_clamp (by omega)]
