/-! Small methods of the class. -/
theorem c_hasPlace {d : Nat} {M : AM} {r : Nat} {ρ : RC} (x : Int32) : Ev (d) md_33 0 [some (.ref r), some (.int x)] [] (rset M r ρ) (some (.int (bI (decide (0 ≤ x.toInt ∧ x.toInt < (rhd ρ 0).toInt)))), rset M r ρ) := by
  refine Ev.n (pc' := 1) 1 rfl ?_
  refine Ev.if2 (tgt := 16) (len := 3) rfl (fun h1 => ?_) (fun h1 => ?_)
  · try simp only [i_lt, i_le, Int32.reduceToInt, Int32.reduceToNatClampNeg] at h1
    refine Ev.n (pc' := 17) 1 rfl ?_
    refine Ev.retZ (len := 1) rfl rfl ?_
    first | exact bI_t (by omega) | exact bI_f (by omega)
  · try simp only [i_lt, i_le, Int32.reduceToInt, Int32.reduceToNatClampNeg] at h1
    refine Ev.n (pc' := 6) 2 rfl ?_
    refine Ev.get (len := 3) rfl rs_obj rfl ?_
    refine Ev.ic3 (tgt := 16) (len := 3) rfl (fun h9 => ?_) (fun h9 => ?_)
    · try simp only [i_lt, i_le, Int32.reduceToInt, Int32.reduceToNatClampNeg] at h9
      refine Ev.n (pc' := 17) 1 rfl ?_
      refine Ev.retZ (len := 1) rfl rfl ?_
      first | exact bI_t (by omega) | exact bI_f (by omega)
    · try simp only [i_lt, i_le, Int32.reduceToInt, Int32.reduceToNatClampNeg] at h9
      refine Ev.n (pc' := 17) 2 rfl ?_
      refine Ev.retZ (len := 1) rfl rfl ?_
      first | exact bI_t (by omega) | exact bI_f (by omega)

theorem c_hasDay {d : Nat} {M : AM} {r : Nat} {ρ : RC} (x : Int32) : Ev (d) md_38 0 [some (.ref r), some (.int x)] [] (rset M r ρ) (some (.int (bI (decide (0 ≤ x.toInt ∧ x.toInt < (rhd ρ 1).toInt)))), rset M r ρ) := by
  refine Ev.n (pc' := 1) 1 rfl ?_
  refine Ev.if2 (tgt := 16) (len := 3) rfl (fun h1 => ?_) (fun h1 => ?_)
  · try simp only [i_lt, i_le, Int32.reduceToInt, Int32.reduceToNatClampNeg] at h1
    refine Ev.n (pc' := 17) 1 rfl ?_
    refine Ev.retZ (len := 1) rfl rfl ?_
    first | exact bI_t (by omega) | exact bI_f (by omega)
  · try simp only [i_lt, i_le, Int32.reduceToInt, Int32.reduceToNatClampNeg] at h1
    refine Ev.n (pc' := 6) 2 rfl ?_
    refine Ev.get (len := 3) rfl rs_obj rfl ?_
    refine Ev.ic3 (tgt := 16) (len := 3) rfl (fun h9 => ?_) (fun h9 => ?_)
    · try simp only [i_lt, i_le, Int32.reduceToInt, Int32.reduceToNatClampNeg] at h9
      refine Ev.n (pc' := 17) 1 rfl ?_
      refine Ev.retZ (len := 1) rfl rfl ?_
      first | exact bI_t (by omega) | exact bI_f (by omega)
    · try simp only [i_lt, i_le, Int32.reduceToInt, Int32.reduceToNatClampNeg] at h9
      refine Ev.n (pc' := 17) 2 rfl ?_
      refine Ev.retZ (len := 1) rfl rfl ?_
      first | exact bI_t (by omega) | exact bI_f (by omega)

theorem c_hasRoad {d : Nat} {M : AM} {r : Nat} {ρ : RC} (x : Int32) : Ev (d) md_48 0 [some (.ref r), some (.int x)] [] (rset M r ρ) (some (.int (bI (decide (0 ≤ x.toInt ∧ x.toInt < (rhd ρ 6).toInt)))), rset M r ρ) := by
  refine Ev.n (pc' := 1) 1 rfl ?_
  refine Ev.if2 (tgt := 16) (len := 3) rfl (fun h1 => ?_) (fun h1 => ?_)
  · try simp only [i_lt, i_le, Int32.reduceToInt, Int32.reduceToNatClampNeg] at h1
    refine Ev.n (pc' := 17) 1 rfl ?_
    refine Ev.retZ (len := 1) rfl rfl ?_
    first | exact bI_t (by omega) | exact bI_f (by omega)
  · try simp only [i_lt, i_le, Int32.reduceToInt, Int32.reduceToNatClampNeg] at h1
    refine Ev.n (pc' := 6) 2 rfl ?_
    refine Ev.get (len := 3) rfl rs_obj rfl ?_
    refine Ev.ic3 (tgt := 16) (len := 3) rfl (fun h9 => ?_) (fun h9 => ?_)
    · try simp only [i_lt, i_le, Int32.reduceToInt, Int32.reduceToNatClampNeg] at h9
      refine Ev.n (pc' := 17) 1 rfl ?_
      refine Ev.retZ (len := 1) rfl rfl ?_
      first | exact bI_t (by omega) | exact bI_f (by omega)
    · try simp only [i_lt, i_le, Int32.reduceToInt, Int32.reduceToNatClampNeg] at h9
      refine Ev.n (pc' := 17) 2 rfl ?_
      refine Ev.retZ (len := 1) rfl rfl ?_
      first | exact bI_t (by omega) | exact bI_f (by omega)

theorem c_hasLane {d : Nat} {M : AM} {r : Nat} {ρ : RC} (x : Int32) : Ev (d) md_37 0 [some (.ref r), some (.int x)] [] (rset M r ρ) (some (.int (bI (decide (0 ≤ x.toInt ∧ x.toInt < (rhd ρ 8).toInt)))), rset M r ρ) := by
  refine Ev.n (pc' := 1) 1 rfl ?_
  refine Ev.if2 (tgt := 16) (len := 3) rfl (fun h1 => ?_) (fun h1 => ?_)
  · try simp only [i_lt, i_le, Int32.reduceToInt, Int32.reduceToNatClampNeg] at h1
    refine Ev.n (pc' := 17) 1 rfl ?_
    refine Ev.retZ (len := 1) rfl rfl ?_
    first | exact bI_t (by omega) | exact bI_f (by omega)
  · try simp only [i_lt, i_le, Int32.reduceToInt, Int32.reduceToNatClampNeg] at h1
    refine Ev.n (pc' := 6) 2 rfl ?_
    refine Ev.get (len := 3) rfl rs_obj rfl ?_
    refine Ev.ic3 (tgt := 16) (len := 3) rfl (fun h9 => ?_) (fun h9 => ?_)
    · try simp only [i_lt, i_le, Int32.reduceToInt, Int32.reduceToNatClampNeg] at h9
      refine Ev.n (pc' := 17) 1 rfl ?_
      refine Ev.retZ (len := 1) rfl rfl ?_
      first | exact bI_t (by omega) | exact bI_f (by omega)
    · try simp only [i_lt, i_le, Int32.reduceToInt, Int32.reduceToNatClampNeg] at h9
      refine Ev.n (pc' := 17) 2 rfl ?_
      refine Ev.retZ (len := 1) rfl rfl ?_
      first | exact bI_t (by omega) | exact bI_f (by omega)

theorem c_hasWalk {d : Nat} {M : AM} {r : Nat} {ρ : RC} (x : Int32) : Ev (d) md_41 0 [some (.ref r), some (.int x)] [] (rset M r ρ) (some (.int (bI (decide (0 ≤ x.toInt ∧ x.toInt < (rhd ρ 10).toInt)))), rset M r ρ) := by
  refine Ev.n (pc' := 1) 1 rfl ?_
  refine Ev.if2 (tgt := 16) (len := 3) rfl (fun h1 => ?_) (fun h1 => ?_)
  · try simp only [i_lt, i_le, Int32.reduceToInt, Int32.reduceToNatClampNeg] at h1
    refine Ev.n (pc' := 17) 1 rfl ?_
    refine Ev.retZ (len := 1) rfl rfl ?_
    first | exact bI_t (by omega) | exact bI_f (by omega)
  · try simp only [i_lt, i_le, Int32.reduceToInt, Int32.reduceToNatClampNeg] at h1
    refine Ev.n (pc' := 6) 2 rfl ?_
    refine Ev.get (len := 3) rfl rs_obj rfl ?_
    refine Ev.ic3 (tgt := 16) (len := 3) rfl (fun h9 => ?_) (fun h9 => ?_)
    · try simp only [i_lt, i_le, Int32.reduceToInt, Int32.reduceToNatClampNeg] at h9
      refine Ev.n (pc' := 17) 1 rfl ?_
      refine Ev.retZ (len := 1) rfl rfl ?_
      first | exact bI_t (by omega) | exact bI_f (by omega)
    · try simp only [i_lt, i_le, Int32.reduceToInt, Int32.reduceToNatClampNeg] at h9
      refine Ev.n (pc' := 17) 2 rfl ?_
      refine Ev.retZ (len := 1) rfl rfl ?_
      first | exact bI_t (by omega) | exact bI_f (by omega)

theorem c_exists {d : Nat} {M : AM} {r : Nat} {ρ : RC} : Ev (d) md_42 0 [some (.ref r)] [] (rset M r ρ) (some (.int (bI (decide (0 < (rhd ρ 0).toInt)))), rset M r ρ) := by
  refine Ev.n (pc' := 1) 1 rfl ?_
  refine Ev.get (len := 3) rfl rs_obj rfl ?_
  refine Ev.if5 (tgt := 11) (len := 3) rfl (fun h4 => ?_) (fun h4 => ?_)
  · try simp only [i_lt, i_le, Int32.reduceToInt, Int32.reduceToNatClampNeg] at h4
    refine Ev.n (pc' := 12) 1 rfl ?_
    refine Ev.retZ (len := 1) rfl rfl ?_
    first | exact bI_t (by omega) | exact bI_f (by omega)
  · try simp only [i_lt, i_le, Int32.reduceToInt, Int32.reduceToNatClampNeg] at h4
    refine Ev.n (pc' := 12) 2 rfl ?_
    refine Ev.retZ (len := 1) rfl rfl ?_
    first | exact bI_t (by omega) | exact bI_f (by omega)

theorem c_isWithin {d : Nat} {M : AM} (n a b : Int32) : Ev (d) md_117 0 [some (.int n), some (.int a), some (.int b)] [] (M) (some (.int (bI (decide (a.toInt ≤ n.toInt ∧ n.toInt ≤ b.toInt)))), M) := by
  refine Ev.n (pc' := 2) 2 rfl ?_
  refine Ev.ic2 (tgt := 14) (len := 3) rfl (fun h2 => ?_) (fun h2 => ?_)
  · try simp only [i_lt, i_le, Int32.reduceToInt, Int32.reduceToNatClampNeg] at h2
    refine Ev.n (pc' := 15) 1 rfl ?_
    refine Ev.retZ (len := 1) rfl rfl ?_
    first | exact bI_t (by omega) | exact bI_f (by omega)
  · try simp only [i_lt, i_le, Int32.reduceToInt, Int32.reduceToNatClampNeg] at h2
    refine Ev.n (pc' := 7) 2 rfl ?_
    refine Ev.ic4 (tgt := 14) (len := 3) rfl (fun h7 => ?_) (fun h7 => ?_)
    · try simp only [i_lt, i_le, Int32.reduceToInt, Int32.reduceToNatClampNeg] at h7
      refine Ev.n (pc' := 15) 1 rfl ?_
      refine Ev.retZ (len := 1) rfl rfl ?_
      first | exact bI_t (by omega) | exact bI_f (by omega)
    · try simp only [i_lt, i_le, Int32.reduceToInt, Int32.reduceToNatClampNeg] at h7
      refine Ev.n (pc' := 15) 2 rfl ?_
      refine Ev.retZ (len := 1) rfl rfl ?_
      first | exact bI_t (by omega) | exact bI_f (by omega)

theorem c_isThought {d : Nat} {M : AM} (n : Int32) : Ev (d + 1) md_126 0 [some (.int n)] [] (M) (some (.int (bI (decide (1 ≤ n.toInt ∧ n.toInt ≤ 99)))), M) := by
  refine Ev.n (pc' := 4) 3 rfl ?_
  refine Ev.callS (len := 3) rfl rfl rfl rfl (c_isWithin _ _ _) ?_
  refine Ev.retZ (len := 1) rfl rfl ?_
  simp only [Int32.reduceToInt]

theorem c_isLoad {d : Nat} {M : AM} (n : Int32) : Ev (d + 1) md_116 0 [some (.int n)] [] (M) (some (.int (bI (decide (1 ≤ n.toInt ∧ n.toInt ≤ 9)))), M) := by
  refine Ev.n (pc' := 4) 3 rfl ?_
  refine Ev.callS (len := 3) rfl rfl rfl rfl (c_isWithin _ _ _) ?_
  refine Ev.retZ (len := 1) rfl rfl ?_
  simp only [Int32.reduceToInt]

theorem c_isSum {d : Nat} {M : AM} (n : Int32) : Ev (d + 1) md_121 0 [some (.int n)] [] (M) (some (.int (bI (decide (0 ≤ n.toInt ∧ n.toInt ≤ 3)))), M) := by
  refine Ev.n (pc' := 3) 3 rfl ?_
  refine Ev.callS (len := 3) rfl rfl rfl rfl (c_isWithin _ _ _) ?_
  refine Ev.retZ (len := 1) rfl rfl ?_
  simp only [Int32.reduceToInt]

theorem c_pairOf {d : Nat} {M : AM} (a b : Nat) : Ev (d) md_91 0 [some (.int (nI a)), some (.int (nI b))] [] (M) (some (.int (nI (7 * a + b))), M) := by
  refine Ev.n (pc' := 6) 5 rfl ?_
  refine Ev.retI (len := 1) rfl rfl ?_
  rw [← nI_add, ← pk_mul, Int32.mul_comm]
  rfl

theorem c_dutyOn {d : Nat} {M : AM} {r : Nat} {ρ : RC} (s l y : Int32) : Ev (d) md_3 0 [some (.ref (r + 1)), some (.int s), some (.int l), some (.int y), none] [] (rset M r ρ) (some (.int (if s.toInt ≤ (rlw ρ 1).toInt ∨ (y - y / 7 * 7 = 6 ∧ rlw ρ 3 = 0) then 0 else (s - rlw ρ 1) * rlw ρ 0 * (if rlw ρ 4 = 1 then l else 1))), rset M r ρ) := by
  refine Ev.n (pc' := 3) 2 rfl ?_
  refine Ev.s (pc' := 4) rfl ?_
  refine Ev.n (pc' := 6) 1 rfl ?_
  refine Ev.ic1 (tgt := 13) (len := 3) rfl (fun h6 => ?_) (fun h6 => ?_)
  · skip
    refine Ev.n (pc' := 18) 4 rfl ?_
    refine Ev.get (len := 3) rfl rs_law rfl ?_
    refine Ev.ic5 (tgt := 36) (len := 3) rfl (fun h21 => ?_) (fun h21 => ?_)
    · try simp only [i_lt, i_le, Int32.reduceToInt, Int32.reduceToNatClampNeg] at h21
      refine Ev.n (pc' := 37) 1 rfl ?_
      refine Ev.retI (len := 1) rfl rfl ?_
      first
        | (rw [if_neg (by rintro (h | ⟨h, h'⟩) <;> first | omega | contradiction)]; simp_all; done)
        | (rw [if_pos (by first | exact Or.inl (by omega) | exact Or.inr ⟨by assumption, by assumption⟩)])
    · try simp only [i_lt, i_le, Int32.reduceToInt, Int32.reduceToNatClampNeg] at h21
      refine Ev.n (pc' := 26) 1 rfl ?_
      refine Ev.if0 (tgt := 38) (len := 3) rfl (fun h26 => ?_) (fun h26 => ?_)
      · skip
        refine Ev.n (pc' := 40) 2 rfl ?_
        refine Ev.get (len := 3) rfl rs_law rfl ?_
        refine Ev.n (pc' := 45) 2 rfl ?_
        refine Ev.get (len := 3) rfl rs_law rfl ?_
        refine Ev.n (pc' := 50) 2 rfl ?_
        refine Ev.get (len := 3) rfl rs_law rfl ?_
        refine Ev.n (pc' := 54) 1 rfl ?_
        refine Ev.ic1 (tgt := 61) (len := 3) rfl (fun h54 => ?_) (fun h54 => ?_)
        · skip
          refine Ev.n (pc' := 63) 2 rfl ?_
          refine Ev.retI (len := 1) rfl rfl ?_
          first
            | (rw [if_neg (by rintro (h | ⟨h, h'⟩) <;> first | omega | contradiction)]; simp_all; done)
            | (rw [if_pos (by first | exact Or.inl (by omega) | exact Or.inr ⟨by assumption, by assumption⟩)])
        · skip
          refine Ev.n (pc' := 63) 3 rfl ?_
          refine Ev.retI (len := 1) rfl rfl ?_
          first
            | (rw [if_neg (by rintro (h | ⟨h, h'⟩) <;> first | omega | contradiction)]; simp_all; done)
            | (rw [if_pos (by first | exact Or.inl (by omega) | exact Or.inr ⟨by assumption, by assumption⟩)])
      · skip
        refine Ev.n (pc' := 30) 1 rfl ?_
        refine Ev.get (len := 3) rfl rs_law rfl ?_
        refine Ev.if1 (tgt := 38) (len := 3) rfl (fun h33 => ?_) (fun h33 => ?_)
        · skip
          refine Ev.n (pc' := 40) 2 rfl ?_
          refine Ev.get (len := 3) rfl rs_law rfl ?_
          refine Ev.n (pc' := 45) 2 rfl ?_
          refine Ev.get (len := 3) rfl rs_law rfl ?_
          refine Ev.n (pc' := 50) 2 rfl ?_
          refine Ev.get (len := 3) rfl rs_law rfl ?_
          refine Ev.n (pc' := 54) 1 rfl ?_
          refine Ev.ic1 (tgt := 61) (len := 3) rfl (fun h54 => ?_) (fun h54 => ?_)
          · skip
            refine Ev.n (pc' := 63) 2 rfl ?_
            refine Ev.retI (len := 1) rfl rfl ?_
            first
              | (rw [if_neg (by rintro (h | ⟨h, h'⟩) <;> first | omega | contradiction)]; simp_all; done)
              | (rw [if_pos (by first | exact Or.inl (by omega) | exact Or.inr ⟨by assumption, by assumption⟩)])
          · skip
            refine Ev.n (pc' := 63) 3 rfl ?_
            refine Ev.retI (len := 1) rfl rfl ?_
            first
              | (rw [if_neg (by rintro (h | ⟨h, h'⟩) <;> first | omega | contradiction)]; simp_all; done)
              | (rw [if_pos (by first | exact Or.inl (by omega) | exact Or.inr ⟨by assumption, by assumption⟩)])
        · skip
          refine Ev.n (pc' := 37) 1 rfl ?_
          refine Ev.retI (len := 1) rfl rfl ?_
          first
            | (rw [if_neg (by rintro (h | ⟨h, h'⟩) <;> first | omega | contradiction)]; simp_all; done)
            | (rw [if_pos (by first | exact Or.inl (by omega) | exact Or.inr ⟨by assumption, by assumption⟩)])
  · skip
    refine Ev.n (pc' := 18) 5 rfl ?_
    refine Ev.get (len := 3) rfl rs_law rfl ?_
    refine Ev.ic5 (tgt := 36) (len := 3) rfl (fun h21 => ?_) (fun h21 => ?_)
    · try simp only [i_lt, i_le, Int32.reduceToInt, Int32.reduceToNatClampNeg] at h21
      refine Ev.n (pc' := 37) 1 rfl ?_
      refine Ev.retI (len := 1) rfl rfl ?_
      first
        | (rw [if_neg (by rintro (h | ⟨h, h'⟩) <;> first | omega | contradiction)]; simp_all; done)
        | (rw [if_pos (by first | exact Or.inl (by omega) | exact Or.inr ⟨by assumption, by assumption⟩)])
    · try simp only [i_lt, i_le, Int32.reduceToInt, Int32.reduceToNatClampNeg] at h21
      refine Ev.n (pc' := 26) 1 rfl ?_
      refine Ev.if0 (tgt := 38) (len := 3) rfl (fun h26 => ?_) (fun h26 => ?_)
      · skip
        refine Ev.n (pc' := 40) 2 rfl ?_
        refine Ev.get (len := 3) rfl rs_law rfl ?_
        refine Ev.n (pc' := 45) 2 rfl ?_
        refine Ev.get (len := 3) rfl rs_law rfl ?_
        refine Ev.n (pc' := 50) 2 rfl ?_
        refine Ev.get (len := 3) rfl rs_law rfl ?_
        refine Ev.n (pc' := 54) 1 rfl ?_
        refine Ev.ic1 (tgt := 61) (len := 3) rfl (fun h54 => ?_) (fun h54 => ?_)
        · skip
          refine Ev.n (pc' := 63) 2 rfl ?_
          refine Ev.retI (len := 1) rfl rfl ?_
          first
            | (rw [if_neg (by rintro (h | ⟨h, h'⟩) <;> first | omega | contradiction)]; simp_all; done)
            | (rw [if_pos (by first | exact Or.inl (by omega) | exact Or.inr ⟨by assumption, by assumption⟩)])
        · skip
          refine Ev.n (pc' := 63) 3 rfl ?_
          refine Ev.retI (len := 1) rfl rfl ?_
          first
            | (rw [if_neg (by rintro (h | ⟨h, h'⟩) <;> first | omega | contradiction)]; simp_all; done)
            | (rw [if_pos (by first | exact Or.inl (by omega) | exact Or.inr ⟨by assumption, by assumption⟩)])
      · skip
        refine Ev.n (pc' := 30) 1 rfl ?_
        refine Ev.get (len := 3) rfl rs_law rfl ?_
        refine Ev.if1 (tgt := 38) (len := 3) rfl (fun h33 => ?_) (fun h33 => ?_)
        · skip
          refine Ev.n (pc' := 40) 2 rfl ?_
          refine Ev.get (len := 3) rfl rs_law rfl ?_
          refine Ev.n (pc' := 45) 2 rfl ?_
          refine Ev.get (len := 3) rfl rs_law rfl ?_
          refine Ev.n (pc' := 50) 2 rfl ?_
          refine Ev.get (len := 3) rfl rs_law rfl ?_
          refine Ev.n (pc' := 54) 1 rfl ?_
          refine Ev.ic1 (tgt := 61) (len := 3) rfl (fun h54 => ?_) (fun h54 => ?_)
          · skip
            refine Ev.n (pc' := 63) 2 rfl ?_
            refine Ev.retI (len := 1) rfl rfl ?_
            first
              | (rw [if_neg (by rintro (h | ⟨h, h'⟩) <;> first | omega | contradiction)]; simp_all; done)
              | (rw [if_pos (by first | exact Or.inl (by omega) | exact Or.inr ⟨by assumption, by assumption⟩)])
          · skip
            refine Ev.n (pc' := 63) 3 rfl ?_
            refine Ev.retI (len := 1) rfl rfl ?_
            first
              | (rw [if_neg (by rintro (h | ⟨h, h'⟩) <;> first | omega | contradiction)]; simp_all; done)
              | (rw [if_pos (by first | exact Or.inl (by omega) | exact Or.inr ⟨by assumption, by assumption⟩)])
        · skip
          refine Ev.n (pc' := 37) 1 rfl ?_
          refine Ev.retI (len := 1) rfl rfl ?_
          first
            | (rw [if_neg (by rintro (h | ⟨h, h'⟩) <;> first | omega | contradiction)]; simp_all; done)
            | (rw [if_pos (by first | exact Or.inl (by omega) | exact Or.inr ⟨by assumption, by assumption⟩)])

theorem c_sparedOf {d : Nat} {M : AM} (a b : Int32) : Ev (d + 8) md_43 0 [some (.int a), some (.int b)] [] (M) (some (.int (if a = -1 then 0 else if (0 : Int32) < a - b then a - b else 0)), M) := by
  refine Ev.n (pc' := 2) 2 rfl ?_
  refine Ev.ic1 (tgt := 9) (len := 3) rfl (fun h2 => ?_) (fun h2 => ?_)
  · skip
    refine Ev.n (pc' := 13) 4 rfl ?_
    refine Ev.bi (len := 3) rfl (by decide) rfl (by omega) ?_
    refine Ev.retI (len := 1) rfl rfl ?_
    simp_all
  · skip
    refine Ev.n (pc' := 16) 2 rfl ?_
    refine Ev.retI (len := 1) rfl rfl ?_
    simp_all

theorem c_laneBit_road {d : Nat} {M : AM} {r : Nat} {ρ : RC} {i : Nat} (hi : i < 12) : Ev (d) md_8 0 [some (.ref (r + 3 + i))] [] (rset M r ρ) (some (.int (if rlk ρ i 1 = 0 then 0 else (1 : Int32) <<< (nI i &&& 31))), rset M r ρ) := by
  refine Ev.n (pc' := 1) 1 rfl ?_
  refine Ev.get (len := 3) rfl (rs_road hi) rfl ?_
  refine Ev.if1 (tgt := 11) (len := 3) rfl (fun h4 => ?_) (fun h4 => ?_)
  · skip
    refine Ev.n (pc' := 13) 2 rfl ?_
    refine Ev.get (len := 3) rfl (rs_road hi) rfl ?_
    refine Ev.n (pc' := 17) 1 rfl ?_
    refine Ev.retI (len := 1) rfl rfl ?_
    simp_all
  · skip
    refine Ev.n (pc' := 17) 2 rfl ?_
    refine Ev.retI (len := 1) rfl rfl ?_
    simp_all

theorem c_laneBit_lane {d : Nat} {M : AM} {r : Nat} {ρ : RC} {i : Nat} (hi : i < 9) : Ev (d) md_8 0 [some (.ref (r + 16 + i))] [] (rset M r ρ) (some (.int (if rlk ρ (12 + i) 1 = 0 then 0 else (1 : Int32) <<< (nI i &&& 31))), rset M r ρ) := by
  refine Ev.n (pc' := 1) 1 rfl ?_
  refine Ev.get (len := 3) rfl (rs_lane hi) rfl ?_
  refine Ev.if1 (tgt := 11) (len := 3) rfl (fun h4 => ?_) (fun h4 => ?_)
  · skip
    refine Ev.n (pc' := 13) 2 rfl ?_
    refine Ev.get (len := 3) rfl (rs_lane hi) rfl ?_
    refine Ev.n (pc' := 17) 1 rfl ?_
    refine Ev.retI (len := 1) rfl rfl ?_
    simp_all
  · skip
    refine Ev.n (pc' := 17) 2 rfl ?_
    refine Ev.retI (len := 1) rfl rfl ?_
    simp_all

theorem c_stopAt {d : Nat} {M : AM} {r : Nat} {ρ : RC} {i : Nat} (hi : i < 10) (x : Int32) : Ev (d) md_69 0 [some (.ref (r + 26 + 2 * i)), some (.int x)] [] (rset M r ρ) (some (.int (if 0 ≤ x.toInt ∧ x.toInt ≤ 6 then rst ρ i x.toNatClampNeg else 0)), rset M r ρ) := by
  refine Ev.n (pc' := 1) 1 rfl ?_
  refine Ev.if2 (tgt := 19) (len := 3) rfl (fun h1 => ?_) (fun h1 => ?_)
  · try simp only [i_lt, i_le, Int32.reduceToInt, Int32.reduceToNatClampNeg] at h1
    refine Ev.n (pc' := 20) 1 rfl ?_
    refine Ev.retI (len := 1) rfl rfl ?_
    first | rw [if_pos (by omega)] | rw [if_neg (by omega)]
  · try simp only [i_lt, i_le, Int32.reduceToInt, Int32.reduceToNatClampNeg] at h1
    refine Ev.n (pc' := 7) 2 rfl ?_
    refine Ev.ic4 (tgt := 19) (len := 3) rfl (fun h7 => ?_) (fun h7 => ?_)
    · try simp only [i_lt, i_le, Int32.reduceToInt, Int32.reduceToNatClampNeg] at h7
      refine Ev.n (pc' := 20) 1 rfl ?_
      refine Ev.retI (len := 1) rfl rfl ?_
      first | rw [if_pos (by omega)] | rw [if_neg (by omega)]
    · try simp only [i_lt, i_le, Int32.reduceToInt, Int32.reduceToNatClampNeg] at h7
      refine Ev.n (pc' := 11) 1 rfl ?_
      refine Ev.get (len := 3) rfl (by first | exact rs_walk hi | exact rs_stops hi) rfl ?_
      refine Ev.n (pc' := 15) 1 rfl ?_
      refine Ev.iald (len := 1) rfl (by first | exact rs_walk hi | exact rs_stops hi) rfl (vin (by omega) (by omega)) ?_
      refine Ev.n (pc' := 20) 1 rfl ?_
      refine Ev.retI (len := 1) rfl rfl ?_
      first | rw [if_pos (by omega)] | rw [if_neg (by omega)]

theorem c_first {d : Nat} {M : AM} {r : Nat} {ρ : RC} (h32 : 32 ≤ r) {i : Nat} (hi : i < 10) : Ev (d + 1) md_71 0 [some (.ref (r + 26 + 2 * i))] [] (rset M r ρ) (some (.int (rst ρ i 0)), rset M r ρ) := by
  refine Ev.n (pc' := 2) 2 rfl ?_
  refine Ev.callV (len := 3) rfl rfl rfl (rs_walk hi) rfl (by omega) rfl (c_stopAt hi _) ?_
  refine Ev.retI (len := 1) rfl rfl ?_
  rfl

theorem c_last {d : Nat} {M : AM} {r : Nat} {ρ : RC} (h32 : 32 ≤ r) {i : Nat} (hi : i < 10) : Ev (d + 1) md_72 0 [some (.ref (r + 26 + 2 * i))] [] (rset M r ρ) (some (.int (if 0 ≤ (rwk ρ i 3).toInt ∧ (rwk ρ i 3).toInt ≤ 6 then rst ρ i (rwk ρ i 3).toNatClampNeg else 0)), rset M r ρ) := by
  refine Ev.n (pc' := 2) 2 rfl ?_
  refine Ev.get (len := 3) rfl (rs_walk hi) rfl ?_
  refine Ev.callV (len := 3) rfl rfl rfl (rs_walk hi) rfl (by omega) rfl (c_stopAt hi _) ?_
  refine Ev.retI (len := 1) rfl rfl ?_
  rfl

theorem c_byRoad {d : Nat} {M : AM} {r : Nat} {ρ : RC} (a b : Nat) (ha : a < 7) (hb : b < 7) : Ev (d + 1) md_34 0 [some (.ref r), some (.int (nI a)), some (.int (nI b)), none] [] (rset M r ρ) (some (.int (if (rds ρ (7 * a + b)).toInt < 1000000 then rds ρ (7 * a + b) else -1)), rset M r ρ) := by
  refine Ev.n (pc' := 1) 1 rfl ?_
  refine Ev.get (len := 3) rfl (by first | exact rs_obj | exact rs_dist) rfl ?_
  refine Ev.n (pc' := 6) 2 rfl ?_
  refine Ev.callS (len := 3) rfl rfl rfl rfl (c_pairOf a b) ?_
  refine Ev.iald (len := 1) rfl (by first | exact rs_obj | exact rs_dist) rfl (vp_in_nI (by omega) (by omega)) ?_
  refine Ev.n (pc' := 14) 3 rfl ?_
  refine Ev.ic3 (tgt := 21) (len := 3) rfl (fun h14 => ?_) (fun h14 => ?_)
  · try simp only [i_lt, i_le, Int32.reduceToInt, Int32.reduceToNatClampNeg] at h14
    refine Ev.n (pc' := 22) 1 rfl ?_
    refine Ev.retI (len := 1) rfl rfl ?_
    rw [nI_clamp (by omega)] at *
    first | rw [if_pos (by omega)] | rw [if_neg (by omega)]
  · try simp only [i_lt, i_le, Int32.reduceToInt, Int32.reduceToNatClampNeg] at h14
    refine Ev.n (pc' := 22) 2 rfl ?_
    refine Ev.retI (len := 1) rfl rfl ?_
    rw [nI_clamp (by omega)] at *
    first | rw [if_pos (by omega)] | rw [if_neg (by omega)]

theorem c_placeIn {d : Nat} {M : AM} (w i : Int32) : Ev (d) md_77 0 [some (.int w), some (.int i)] [] (M) (some (.int ((w >>> (((3 : Int32) * i) &&& 31)) &&& 7)), M) := by
  refine Ev.n (pc' := 8) 7 rfl ?_
  refine Ev.retI (len := 1) rfl rfl ?_
  rfl
