/-! REALMS that become others; a new lane, a bent road, another law, in the class. -/
section RPUT
variable {d : Nat} {X : MD} {pc len : Nat} {l : AL} {st : List Value} {M : AM} {Q : Option Value → AM → Prop} {r : Nat} {ρ : RC} {v : Value}
theorem Wp.rput {x : Int32} (j : Nat) (hj : (Nat.ble j 3 || Nat.beq j 6 || Nat.beq j 8 || Nat.beq j 10) = true) (hc : cdx X pc = some (.inr (.inr (1, 3, j, v)), len)) (h : Wp d X (pc + len) l st (rset M r (hset ρ j x)) Q) : Wp d X pc l (.int x :: .ref r :: st) (rset M r ρ) Q := by
  have hj' : j = 0 ∨ j = 1 ∨ j = 2 ∨ j = 3 ∨ j = 6 ∨ j = 8 ∨ j = 10 := by
    rw [Bool.or_eq_true, Bool.or_eq_true, Bool.or_eq_true] at hj
    rcases hj with ((q | q) | q) | q
    · have := Nat.le_of_ble_eq_true q; omega
    · have := Nat.eq_of_beq_eq_true q; omega
    · have := Nat.eq_of_beq_eq_true q; omega
    · have := Nat.eq_of_beq_eq_true q; omega
  have e := ru_hd (M := M) (r := r) (ρ := ρ) (x := x) hj'
  rw [← e] at h
  rcases hj' with rfl | rfl | rfl | rfl | rfl | rfl | rfl <;> exact Wp.put hc rs_obj rfl h
theorem Wp.wput {x : Int32} (j : Nat) (hj : Nat.ble j 4 = true) (hc : cdx X pc = some (.inr (.inr (1, 0, j, v)), len)) (h : Wp d X (pc + len) l st (rset M r (wset ρ j x)) Q) : Wp d X pc l (.int x :: .ref (r + 1) :: st) (rset M r ρ) Q := by
  have h4 := Nat.le_of_ble_eq_true hj
  have e := ru_lw (M := M) (r := r) (ρ := ρ) (j := j) (x := x) (by omega)
  rw [← e] at h
  obtain rfl | rfl | rfl | rfl | rfl : j = 0 ∨ j = 1 ∨ j = 2 ∨ j = 3 ∨ j = 4 := by omega
  all_goals exact Wp.put hc rs_law rfl h
theorem Wp.kputR {x : Int32} {i : Nat} (j : Nat) (hj : (Nat.ble 1 j && Nat.ble j 6) = true) (hi : i < 12) (hc : cdx X pc = some (.inr (.inr (1, 1, j, v)), len)) (h : Wp d X (pc + len) l st (rset M r (kset ρ i j x)) Q) : Wp d X pc l (.int x :: .ref (r + 3 + i) :: st) (rset M r ρ) Q := by
  rw [Bool.and_eq_true] at hj
  have h1 := Nat.le_of_ble_eq_true hj.1
  have h6 := Nat.le_of_ble_eq_true hj.2
  have e := ru_road (M := M) (r := r) (ρ := ρ) (x := x) hi h1 h6
  rw [← e] at h
  obtain rfl | rfl | rfl | rfl | rfl | rfl : j = 1 ∨ j = 2 ∨ j = 3 ∨ j = 4 ∨ j = 5 ∨ j = 6 := by omega
  all_goals exact Wp.put hc (rs_road hi) rfl h
theorem Wp.kputL {x : Int32} {i : Nat} (j : Nat) (hj : (Nat.ble 1 j && Nat.ble j 6) = true) (hi : i < 9) (hc : cdx X pc = some (.inr (.inr (1, 1, j, v)), len)) (h : Wp d X (pc + len) l st (rset M r (kset ρ (12 + i) j x)) Q) : Wp d X pc l (.int x :: .ref (r + 16 + i) :: st) (rset M r ρ) Q := by
  rw [Bool.and_eq_true] at hj
  have h1 := Nat.le_of_ble_eq_true hj.1
  have h6 := Nat.le_of_ble_eq_true hj.2
  have e := ru_lane (M := M) (r := r) (ρ := ρ) (x := x) hi h1 h6
  rw [← e] at h
  obtain rfl | rfl | rfl | rfl | rfl | rfl : j = 1 ∨ j = 2 ∨ j = 3 ∨ j = 4 ∨ j = 5 ∨ j = 6 := by omega
  all_goals exact Wp.put hc (rs_lane hi) rfl h
theorem Wp.gput {x : Int32} {i : Nat} (j : Nat) (hj : Nat.ble j 3 = true) (hi : i < 10) (hc : cdx X pc = some (.inr (.inr (1, 7, j, v)), len)) (h : Wp d X (pc + len) l st (rset M r (gset ρ i j x)) Q) : Wp d X pc l (.int x :: .ref (r + 26 + 2 * i) :: st) (rset M r ρ) Q := by
  have h3 := Nat.le_of_ble_eq_true hj
  have e := ru_walk (M := M) (r := r) (ρ := ρ) (j := j) (x := x) hi h3
  rw [← e] at h
  obtain rfl | rfl | rfl | rfl : j = 0 ∨ j = 1 ∨ j = 2 ∨ j = 3 := by omega
  all_goals exact Wp.put hc (rs_walk hi) rfl h
theorem Wp.acopy {k0 k n0 n1 sp dp m : Nat} {a b : Nat} {f g : Nat → Int32} (hc : cdx X pc = some (.inr (.inr (9, a, b, v)), len)) (h0 : M k0 = .inl (0, n0, .inl f)) (h1 : M k = .inl (0, n1, .inl g)) (hs : sp + m ≤ n0) (hp : dp + m ≤ n1) (hn0 : n0 < 2 ^ 31) (hn1 : n1 < 2 ^ 31) (hr : Nat.blt 4 st.length = false) (hd : 8 ≤ d) (h : Wp d X (pc + len) l st (va_up M k (.inl (0, n1, .inl (va_cpy f g sp dp m)))) Q) : Wp d X pc l (.int (nI m) :: .int (nI dp) :: .ref k :: .int (nI sp) :: .ref k0 :: st) M Q := by
  refine Wp.bi hc (by decide) ?_ hd h
  show (bif decide (nI m < 0) || decide (nI dp < 0) || decide (nI sp < 0) || Nat.blt 4 st.length then none else (match M k0, M k with
      | .inl (t0, n0, .inl f), .inl (t1, n1, .inl g) => bif Nat.beq t0 0 && Nat.beq t1 0 && Nat.ble ((nI sp).toNatClampNeg + (nI m).toNatClampNeg) n0 && Nat.ble ((nI dp).toNatClampNeg + (nI m).toNatClampNeg) n1 then some (st, va_up M k (.inl (0, n1, .inl (va_cpy f g (nI sp).toNatClampNeg (nI dp).toNatClampNeg (nI m).toNatClampNeg)))) else none
      | .inl (t0, n0, .inr (.inl f)), .inl (t1, n1, .inr (.inl g)) => bif Nat.beq t0 1 && Nat.beq t1 1 && Nat.ble ((nI sp).toNatClampNeg + (nI m).toNatClampNeg) n0 && Nat.ble ((nI dp).toNatClampNeg + (nI m).toNatClampNeg) n1 then some (st, va_up M k (.inl (1, n1, .inr (.inl (va_cpy f g (nI sp).toNatClampNeg (nI dp).toNatClampNeg (nI m).toNatClampNeg))))) else none
      | _, _ => none)) = _
  rw [decide_eq_false (nI_pos (show m < 2 ^ 31 by omega)), decide_eq_false (nI_pos (show dp < 2 ^ 31 by omega)), decide_eq_false (nI_pos (show sp < 2 ^ 31 by omega)), hr, h0, h1, nI_clamp (show m < 2 ^ 31 by omega), nI_clamp (show dp < 2 ^ 31 by omega), nI_clamp (show sp < 2 ^ 31 by omega)]
  show (bif Nat.ble (sp + m) n0 && Nat.ble (dp + m) n1 then _ else _) = _
  rw [Nat.ble_eq_true_of_le hs, Nat.ble_eq_true_of_le hp]
  rfl
end RPUT
theorem rlk_ks {ρ : RC} {i j : Nat} {x : Int32} : rlk (kset ρ i j x) i = upd (rlk ρ i) j x := va_up_self _ _ _
theorem rlk_kn {ρ : RC} {i j q : Nat} {x : Int32} (h : q ≠ i) : rlk (kset ρ i j x) q = rlk ρ q := va_up_ne _ _ h
theorem rwk_gs {ρ : RC} {i j : Nat} {x : Int32} : rwk (gset ρ i j x) i = upd (rwk ρ i) j x := va_up_self _ _ _
theorem rwk_gn {ρ : RC} {i j q : Nat} {x : Int32} (h : q ≠ i) : rwk (gset ρ i j x) q = rwk ρ q := va_up_ne _ _ h
theorem rst_ts {ρ : RC} {i : Nat} {f : Nat → Int32} : rst (tset ρ i f) i = f := va_up_self _ _ _
theorem rst_tn {ρ : RC} {i q : Nat} {f : Nat → Int32} (h : q ≠ i) : rst (tset ρ i f) q = rst ρ q := va_up_ne _ _ h
theorem rwk_t {ρ : RC} {i : Nat} {f : Nat → Int32} : rwk (tset ρ i f) = rwk ρ := rfl
theorem rst_g {ρ : RC} {i j : Nat} {x : Int32} : rst (gset ρ i j x) = rst ρ := rfl
section BECOME
variable {d : Nat} {M : AM} {r s : Nat} {ρ ρs : RC} {K : KD} {Q : Option Value → AM → Prop}
theorem RA_s (hS : RA M s ρs) (hd : s + 47 ≤ r ∨ r + 47 ≤ s) (ρ : RC) : RA (rset M r ρ) s ρs := RA_of hS (fun k h1 h2 => rset_ne (by omega))
theorem rset_rset {M : AM} {r : Nat} {ρ ρ' : RC} : rset (rset M r ρ) r ρ' = rset M r ρ' := by
  funext k
  unfold rset
  by_cases h : r ≤ k ∧ k < r + 47
  · rw [if_pos h, if_pos h]
  · rw [if_neg h, if_neg h, if_neg h]
theorem k_lawBecome (hS : RA M s ρs) (hds : s + 47 ≤ r ∨ r + 47 ≤ s) : Wp d md_2 0 [some (.ref (r + 1)), some (.ref (s + 1))] [] (rset M r ρ) (fun v M' => v = none ∧ ∃ ρ', M' = rset M r ρ' ∧ ρ'.1 = ρ.1 ∧ ρ'.2.2 = ρ.2.2 ∧ ∀ j, j < 5 → rlw ρ' j = rlw ρs j) := by
  have hSc := RA_s (r := r) hS hds
  refine Wp.n (pc' := 2) 2 rfl ?_
  refine Wp.get (len := 3) rfl (ra_law (hSc _)) rfl ?_
  refine Wp.wput 0 rfl (len := 3) rfl ?_
  refine Wp.n (pc' := 10) 2 rfl ?_
  refine Wp.get (len := 3) rfl (ra_law (hSc _)) rfl ?_
  refine Wp.wput 1 rfl (len := 3) rfl ?_
  refine Wp.n (pc' := 18) 2 rfl ?_
  refine Wp.get (len := 3) rfl (ra_law (hSc _)) rfl ?_
  refine Wp.wput 2 rfl (len := 3) rfl ?_
  refine Wp.n (pc' := 26) 2 rfl ?_
  refine Wp.get (len := 3) rfl (ra_law (hSc _)) rfl ?_
  refine Wp.wput 3 rfl (len := 3) rfl ?_
  refine Wp.n (pc' := 34) 2 rfl ?_
  refine Wp.get (len := 3) rfl (ra_law (hSc _)) rfl ?_
  refine Wp.wput 4 rfl (len := 3) rfl ?_
  refine Wp.retV (len := 1) rfl rfl ?_
  refine ⟨rfl, _, rfl, rfl, rfl, fun j hj => ?_⟩
  match j, hj with
  | 0, _ => rfl
  | 1, _ => rfl
  | 2, _ => rfl
  | 3, _ => rfl
  | 4, _ => rfl


theorem k_roadBecome (hS : RA M s ρs) (hds : s + 47 ≤ r ∨ r + 47 ≤ s) {i : Nat} (hi : i < 12) : Wp d md_7 0 [some (.ref (r + 3 + i)), some (.ref (s + 3 + i))] [] (rset M r ρ) (fun v M' => v = none ∧ ∃ ρ', M' = rset M r ρ' ∧ ρ'.1 = ρ.1 ∧ ρ'.2.1 = ρ.2.1 ∧ ρ'.2.2.2 = ρ.2.2.2 ∧ (∀ q, q ≠ i → rlk ρ' q = rlk ρ q) ∧ ∀ j, 1 ≤ j → j ≤ 6 → rlk ρ' (i) j = rlk ρs (i) j) := by
  have hSc := RA_s (r := r) hS hds
  refine Wp.n (pc' := 2) 2 rfl ?_
  refine Wp.get (len := 3) rfl (ra_road (hSc _) hi) rfl ?_
  refine Wp.kputR 1 rfl hi (len := 3) rfl ?_
  refine Wp.n (pc' := 10) 2 rfl ?_
  refine Wp.get (len := 3) rfl (ra_road (hSc _) hi) rfl ?_
  refine Wp.kputR 2 rfl hi (len := 3) rfl ?_
  refine Wp.n (pc' := 18) 2 rfl ?_
  refine Wp.get (len := 3) rfl (ra_road (hSc _) hi) rfl ?_
  refine Wp.kputR 3 rfl hi (len := 3) rfl ?_
  refine Wp.n (pc' := 26) 2 rfl ?_
  refine Wp.get (len := 3) rfl (ra_road (hSc _) hi) rfl ?_
  refine Wp.kputR 4 rfl hi (len := 3) rfl ?_
  refine Wp.n (pc' := 34) 2 rfl ?_
  refine Wp.get (len := 3) rfl (ra_road (hSc _) hi) rfl ?_
  refine Wp.kputR 5 rfl hi (len := 3) rfl ?_
  refine Wp.n (pc' := 42) 2 rfl ?_
  refine Wp.get (len := 3) rfl (ra_road (hSc _) hi) rfl ?_
  refine Wp.kputR 6 rfl hi (len := 3) rfl ?_
  refine Wp.retV (len := 1) rfl rfl ?_
  refine ⟨rfl, _, rfl, rfl, rfl, rfl, fun q hq => ?_, fun j h1 h6 => ?_⟩
  · rw [rlk_kn hq, rlk_kn hq, rlk_kn hq, rlk_kn hq, rlk_kn hq, rlk_kn hq]
  · rw [rlk_ks, rlk_ks, rlk_ks, rlk_ks, rlk_ks, rlk_ks]
    obtain rfl | rfl | rfl | rfl | rfl | rfl : j = 1 ∨ j = 2 ∨ j = 3 ∨ j = 4 ∨ j = 5 ∨ j = 6 := by omega
    all_goals rfl

theorem k_laneBecome (hS : RA M s ρs) (hds : s + 47 ≤ r ∨ r + 47 ≤ s) {i : Nat} (hi : i < 9) : Wp d md_7 0 [some (.ref (r + 16 + i)), some (.ref (s + 16 + i))] [] (rset M r ρ) (fun v M' => v = none ∧ ∃ ρ', M' = rset M r ρ' ∧ ρ'.1 = ρ.1 ∧ ρ'.2.1 = ρ.2.1 ∧ ρ'.2.2.2 = ρ.2.2.2 ∧ (∀ q, q ≠ 12 + i → rlk ρ' q = rlk ρ q) ∧ ∀ j, 1 ≤ j → j ≤ 6 → rlk ρ' (12 + i) j = rlk ρs (12 + i) j) := by
  have hSc := RA_s (r := r) hS hds
  refine Wp.n (pc' := 2) 2 rfl ?_
  refine Wp.get (len := 3) rfl (ra_lane (hSc _) hi) rfl ?_
  refine Wp.kputL 1 rfl hi (len := 3) rfl ?_
  refine Wp.n (pc' := 10) 2 rfl ?_
  refine Wp.get (len := 3) rfl (ra_lane (hSc _) hi) rfl ?_
  refine Wp.kputL 2 rfl hi (len := 3) rfl ?_
  refine Wp.n (pc' := 18) 2 rfl ?_
  refine Wp.get (len := 3) rfl (ra_lane (hSc _) hi) rfl ?_
  refine Wp.kputL 3 rfl hi (len := 3) rfl ?_
  refine Wp.n (pc' := 26) 2 rfl ?_
  refine Wp.get (len := 3) rfl (ra_lane (hSc _) hi) rfl ?_
  refine Wp.kputL 4 rfl hi (len := 3) rfl ?_
  refine Wp.n (pc' := 34) 2 rfl ?_
  refine Wp.get (len := 3) rfl (ra_lane (hSc _) hi) rfl ?_
  refine Wp.kputL 5 rfl hi (len := 3) rfl ?_
  refine Wp.n (pc' := 42) 2 rfl ?_
  refine Wp.get (len := 3) rfl (ra_lane (hSc _) hi) rfl ?_
  refine Wp.kputL 6 rfl hi (len := 3) rfl ?_
  refine Wp.retV (len := 1) rfl rfl ?_
  refine ⟨rfl, _, rfl, rfl, rfl, rfl, fun q hq => ?_, fun j h1 h6 => ?_⟩
  · rw [rlk_kn hq, rlk_kn hq, rlk_kn hq, rlk_kn hq, rlk_kn hq, rlk_kn hq]
  · rw [rlk_ks, rlk_ks, rlk_ks, rlk_ks, rlk_ks, rlk_ks]
    obtain rfl | rfl | rfl | rfl | rfl | rfl : j = 1 ∨ j = 2 ∨ j = 3 ∨ j = 4 ∨ j = 5 ∨ j = 6 := by omega
    all_goals rfl

theorem k_walkBecome (hS : RA M s ρs) (hds : s + 47 ≤ r ∨ r + 47 ≤ s) {i : Nat} (hi : i < 10) : Wp (d + 8) md_70 0 [some (.ref (r + 26 + 2 * i)), some (.ref (s + 26 + 2 * i))] [] (rset M r ρ) (fun v M' => v = none ∧ ∃ ρ', M' = rset M r ρ' ∧ ρ'.1 = ρ.1 ∧ ρ'.2.1 = ρ.2.1 ∧ rlk ρ' = rlk ρ ∧ rds ρ' = rds ρ ∧ (∀ q, q ≠ i → rwk ρ' q = rwk ρ q ∧ rst ρ' q = rst ρ q) ∧ (∀ j, j ≤ 3 → rwk ρ' i j = rwk ρs i j) ∧ ∀ j, j < 7 → rst ρ' i j = rst ρs i j) := by
  have hSc := RA_s (r := r) hS hds
  refine Wp.n (pc' := 2) 2 rfl ?_
  refine Wp.get (len := 3) rfl (ra_walk (hSc _) hi) rfl ?_
  refine Wp.gput 0 rfl hi (len := 3) rfl ?_
  refine Wp.n (pc' := 10) 2 rfl ?_
  refine Wp.get (len := 3) rfl (ra_walk (hSc _) hi) rfl ?_
  refine Wp.gput 1 rfl hi (len := 3) rfl ?_
  refine Wp.n (pc' := 18) 2 rfl ?_
  refine Wp.get (len := 3) rfl (ra_walk (hSc _) hi) rfl ?_
  refine Wp.gput 2 rfl hi (len := 3) rfl ?_
  refine Wp.n (pc' := 26) 2 rfl ?_
  refine Wp.get (len := 3) rfl (ra_walk (hSc _) hi) rfl ?_
  refine Wp.gput 3 rfl hi (len := 3) rfl ?_
  refine Wp.n (pc' := 33) 1 rfl ?_
  refine Wp.get (len := 3) rfl (ra_walk (hSc _) hi) rfl ?_
  refine Wp.n (pc' := 38) 2 rfl ?_
  refine Wp.get (len := 3) rfl (rs_walk hi) rfl ?_
  refine Wp.n (pc' := 44) 2 rfl ?_
  refine Wp.acopy (sp := 0) (dp := 0) (m := 7) (len := 3) rfl (ra_stops (hSc _) hi) (rs_stops hi) (by decide) (by decide) (by decide) (by decide) rfl (by omega) ?_
  rw [ru_stops hi]
  refine Wp.retV (len := 1) rfl rfl ?_
  refine ⟨rfl, _, rfl, rfl, rfl, rfl, rfl, fun q hq => ⟨?_, ?_⟩, fun j hj => ?_, fun j hj => ?_⟩
  · rw [rwk_t, rwk_gn hq, rwk_gn hq, rwk_gn hq, rwk_gn hq]
  · rw [rst_tn hq, rst_g, rst_g, rst_g, rst_g]
  · rw [rwk_t, rwk_gs, rwk_gs, rwk_gs, rwk_gs]
    obtain rfl | rfl | rfl | rfl : j = 0 ∨ j = 1 ∨ j = 2 ∨ j = 3 := by omega
    all_goals rfl
  · rw [rst_ts, pk_cpy_in (Nat.zero_le _) (by omega), show 0 + (j - 0) = j by omega]

/-- what a realm has taken over of another -/
def BC (ρ' ρs : RC) (a b c : Nat) : Prop := (∀ q, q < a → ∀ j, 1 ≤ j → j ≤ 6 → rlk ρ' q j = rlk ρs q j) ∧ (∀ q, q < b → ∀ j, 1 ≤ j → j ≤ 6 → rlk ρ' (12 + q) j = rlk ρs (12 + q) j) ∧ ∀ q, q < c → (∀ j, j ≤ 3 → rwk ρ' q j = rwk ρs q j) ∧ ∀ j, j < 7 → rst ρ' q j = rst ρs q j
theorem k_become_1 (hS : RA M s ρs) (hds : s + 47 ≤ r ∨ r + 47 ≤ s) (hr : 32 ≤ r) {m : Nat} (hm : m ≤ 12) : ∀ (n i : Nat) (ρ : RC), i + n = m → rhd ρ 6 = nI m → BC ρ ρs i 0 0 → (∀ ρ', ρ'.1 = ρ.1 → ρ'.2.1 = ρ.2.1 → BC ρ' ρs m 0 0 → Wp (d + 9) md_32 82 [some (.ref r), some (.ref s), some (.int (nI m))] [] (rset M r ρ') Q) → Wp (d + 9) md_32 53 [some (.ref r), some (.ref s), some (.int (nI i))] [] (rset M r ρ) Q := by
  have hSc := RA_s (r := r) hS hds
  intro n
  induction n with
  | zero =>
    intro i ρ hi hh hB kk
    refine Wp.n (pc' := 55) 2 rfl ?_
    refine Wp.get (len := 3) rfl (rs_obj) rfl ?_
    refine Wp.top hh ?_
    refine Wp.nc3 (x := i) (y := m) (tgt := 82) (len := 3) rfl (by omega) (by omega) (fun h58 => ?_) (fun h58 => ?_)
    · skip
      obtain rfl : i = m := by omega
      exact kk ρ rfl rfl hB
    · omega
  | succ n ih =>
    intro i ρ hi hh hB kk
    refine Wp.n (pc' := 55) 2 rfl ?_
    refine Wp.get (len := 3) rfl (rs_obj) rfl ?_
    refine Wp.top hh ?_
    refine Wp.nc3 (x := i) (y := m) (tgt := 82) (len := 3) rfl (by omega) (by omega) (fun h58 => ?_) (fun h58 => ?_)
    · omega
    · skip
      refine Wp.n (pc' := 62) 1 rfl ?_
      refine Wp.get (len := 3) rfl (rs_obj) rfl ?_
      refine Wp.n (pc' := 66) 1 rfl ?_
      refine Wp.aaldN (j := i) (len := 1) rfl (rs_roads) rfl (by omega) (by decide) (if_pos (by omega)) ?_
      refine Wp.n (pc' := 68) 1 rfl ?_
      refine Wp.get (len := 3) rfl (ra_obj (hSc _)) rfl ?_
      refine Wp.n (pc' := 72) 1 rfl ?_
      refine Wp.aaldN (j := i) (len := 1) rfl (ra_roads (hSc _)) rfl (by omega) (by decide) (if_pos (by omega)) ?_
      refine Wp.callV (len := 3) rfl rfl rfl (rs_road (by omega)) rfl (by omega) rfl (k_roadBecome hS hds (by omega)) ?_
      rintro _ _ ⟨rfl, ρ2, rfl, e1, e2, e3, e4, e5⟩
      refine Wp.incN (x := i) (len := 3) rfl rfl ?_
      refine Wp.n (pc' := 53) 1 rfl ?_
      refine ih (i + 1) ρ2 (by omega) (by show ρ2.1 6 = _; rw [e1]; exact hh) ⟨fun q hq j h1 h6 => ?_, fun q hq => absurd hq (Nat.not_lt_zero q), fun q hq => absurd hq (Nat.not_lt_zero q)⟩ (fun ρ3 g1 g2 g3 => kk ρ3 (g1.trans e1) (g2.trans e2) g3)
      by_cases c : q = i
      · rw [c]; exact e5 j h1 h6
      · rw [e4 q c]; exact hB.1 q (by omega) j h1 h6

theorem k_become_2 (hS : RA M s ρs) (hds : s + 47 ≤ r ∨ r + 47 ≤ s) (hr : 32 ≤ r) {m a : Nat} (hm : m ≤ 9) (ha : a ≤ 12) : ∀ (n i : Nat) (ρ : RC), i + n = m → rhd ρ 8 = nI m → BC ρ ρs a i 0 → (∀ ρ', ρ'.1 = ρ.1 → ρ'.2.1 = ρ.2.1 → BC ρ' ρs a m 0 → Wp (d + 9) md_32 121 [some (.ref r), some (.ref s), some (.int (nI m))] [] (rset M r ρ') Q) → Wp (d + 9) md_32 92 [some (.ref r), some (.ref s), some (.int (nI i))] [] (rset M r ρ) Q := by
  have hSc := RA_s (r := r) hS hds
  intro n
  induction n with
  | zero =>
    intro i ρ hi hh hB kk
    refine Wp.n (pc' := 94) 2 rfl ?_
    refine Wp.get (len := 3) rfl (rs_obj) rfl ?_
    refine Wp.top hh ?_
    refine Wp.nc3 (x := i) (y := m) (tgt := 121) (len := 3) rfl (by omega) (by omega) (fun h97 => ?_) (fun h97 => ?_)
    · skip
      obtain rfl : i = m := by omega
      exact kk ρ rfl rfl hB
    · omega
  | succ n ih =>
    intro i ρ hi hh hB kk
    refine Wp.n (pc' := 94) 2 rfl ?_
    refine Wp.get (len := 3) rfl (rs_obj) rfl ?_
    refine Wp.top hh ?_
    refine Wp.nc3 (x := i) (y := m) (tgt := 121) (len := 3) rfl (by omega) (by omega) (fun h97 => ?_) (fun h97 => ?_)
    · omega
    · skip
      refine Wp.n (pc' := 101) 1 rfl ?_
      refine Wp.get (len := 3) rfl (rs_obj) rfl ?_
      refine Wp.n (pc' := 105) 1 rfl ?_
      refine Wp.aaldN (j := i) (len := 1) rfl (rs_lanes) rfl (by omega) (by decide) (if_pos (by omega)) ?_
      refine Wp.n (pc' := 107) 1 rfl ?_
      refine Wp.get (len := 3) rfl (ra_obj (hSc _)) rfl ?_
      refine Wp.n (pc' := 111) 1 rfl ?_
      refine Wp.aaldN (j := i) (len := 1) rfl (ra_lanes (hSc _)) rfl (by omega) (by decide) (if_pos (by omega)) ?_
      refine Wp.callV (len := 3) rfl rfl rfl (rs_lane (by omega)) rfl (by omega) rfl (k_laneBecome hS hds (by omega)) ?_
      rintro _ _ ⟨rfl, ρ2, rfl, e1, e2, e3, e4, e5⟩
      refine Wp.incN (x := i) (len := 3) rfl rfl ?_
      refine Wp.n (pc' := 92) 1 rfl ?_
      refine ih (i + 1) ρ2 (by omega) (by show ρ2.1 8 = _; rw [e1]; exact hh) ⟨fun q hq j h1 h6 => ?_, fun q hq j h1 h6 => ?_, fun q hq => absurd hq (Nat.not_lt_zero q)⟩ (fun ρ3 g1 g2 g3 => kk ρ3 (g1.trans e1) (g2.trans e2) g3)
      · rw [e4 q (by omega)]; exact hB.1 q hq j h1 h6
      · by_cases c : q = i
        · rw [c]; exact e5 j h1 h6
        · rw [e4 (12 + q) (by omega)]; exact hB.2.1 q (by omega) j h1 h6

theorem k_become_3 (hS : RA M s ρs) (hds : s + 47 ≤ r ∨ r + 47 ≤ s) (hr : 32 ≤ r) {m a b : Nat} (hm : m ≤ 10) : ∀ (n i : Nat) (ρ : RC), i + n = m → rhd ρ 10 = nI m → BC ρ ρs a b i → (∀ ρ', ρ'.1 = ρ.1 → ρ'.2.1 = ρ.2.1 → BC ρ' ρs a b m → Wp (d + 9) md_32 160 [some (.ref r), some (.ref s), some (.int (nI m))] [] (rset M r ρ') Q) → Wp (d + 9) md_32 131 [some (.ref r), some (.ref s), some (.int (nI i))] [] (rset M r ρ) Q := by
  have hSc := RA_s (r := r) hS hds
  intro n
  induction n with
  | zero =>
    intro i ρ hi hh hB kk
    refine Wp.n (pc' := 133) 2 rfl ?_
    refine Wp.get (len := 3) rfl (rs_obj) rfl ?_
    refine Wp.top hh ?_
    refine Wp.nc3 (x := i) (y := m) (tgt := 160) (len := 3) rfl (by omega) (by omega) (fun h136 => ?_) (fun h136 => ?_)
    · skip
      obtain rfl : i = m := by omega
      exact kk ρ rfl rfl hB
    · omega
  | succ n ih =>
    intro i ρ hi hh hB kk
    refine Wp.n (pc' := 133) 2 rfl ?_
    refine Wp.get (len := 3) rfl (rs_obj) rfl ?_
    refine Wp.top hh ?_
    refine Wp.nc3 (x := i) (y := m) (tgt := 160) (len := 3) rfl (by omega) (by omega) (fun h136 => ?_) (fun h136 => ?_)
    · omega
    · skip
      refine Wp.n (pc' := 140) 1 rfl ?_
      refine Wp.get (len := 3) rfl (rs_obj) rfl ?_
      refine Wp.n (pc' := 144) 1 rfl ?_
      refine Wp.aaldN (j := i) (len := 1) rfl (rs_walks) rfl (by omega) (by decide) (if_pos (by omega)) ?_
      refine Wp.n (pc' := 146) 1 rfl ?_
      refine Wp.get (len := 3) rfl (ra_obj (hSc _)) rfl ?_
      refine Wp.n (pc' := 150) 1 rfl ?_
      refine Wp.aaldN (j := i) (len := 1) rfl (ra_walks (hSc _)) rfl (by omega) (by decide) (if_pos (by omega)) ?_
      refine Wp.callV (len := 3) rfl rfl rfl (rs_walk (by omega)) rfl (by omega) rfl (k_walkBecome hS hds (by omega)) ?_
      rintro _ _ ⟨rfl, ρ2, rfl, e1, e2, e3, e4, e5, e6, e7⟩
      refine Wp.incN (x := i) (len := 3) rfl rfl ?_
      refine Wp.n (pc' := 131) 1 rfl ?_
      refine ih (i + 1) ρ2 (by omega) (by show ρ2.1 10 = _; rw [e1]; exact hh) ⟨fun q hq j h1 h6 => ?_, fun q hq j h1 h6 => ?_, fun q hq => ?_⟩ (fun ρ3 g1 g2 g3 => kk ρ3 (g1.trans e1) (g2.trans e2) g3)
      · rw [e3]; exact hB.1 q hq j h1 h6
      · rw [e3]; exact hB.2.1 q hq j h1 h6
      · by_cases c : q = i
        · rw [c]; exact ⟨e6, e7⟩
        · rw [(e5 q c).1, (e5 q c).2]; exact hB.2.2 q (by omega)

theorem k_become (hR : RA M r ρ) (hS : RA M s ρs) (hds : s + 47 ≤ r ∨ r + 47 ≤ s) (hr : 32 ≤ r) (hs32 : 32 ≤ s) (hK : RepC ρs K) (ok : KOK K) (h11 : kh K 11 = 0) : Wp (d + 9) md_32 0 [some (.ref r), some (.ref s), none] [] M (fun v M' => v = none ∧ ∃ ρ', M' = rset M r ρ' ∧ RepC ρ' K ∧ ∀ i, i < 49 → rds ρ' i = rds ρs i) := by
  obtain ⟨b0, b1, b2, b3, b4, b5, b6, b7, b8, b9, b10, b11, b12⟩ := ok_h ok
  have hSc := RA_s (r := r) hS hds
  rw [show M = rset M r ρ from hR.symm, show rset (rset M r ρ) r = rset M r from by funext ρ'; exact rset_rset]
  refine Wp.n (pc' := 2) 2 rfl ?_
  refine Wp.get (len := 3) rfl (ra_obj (hSc _)) rfl ?_
  refine Wp.top (rc_pl hK) ?_
  refine Wp.rput 0 rfl (len := 3) rfl ?_
  refine Wp.n (pc' := 10) 2 rfl ?_
  refine Wp.get (len := 3) rfl (ra_obj (hSc _)) rfl ?_
  refine Wp.top (rc_dy hK) ?_
  refine Wp.rput 1 rfl (len := 3) rfl ?_
  refine Wp.n (pc' := 18) 2 rfl ?_
  refine Wp.get (len := 3) rfl (ra_obj (hSc _)) rfl ?_
  refine Wp.top (rc_ln hK) ?_
  refine Wp.rput 2 rfl (len := 3) rfl ?_
  refine Wp.n (pc' := 26) 2 rfl ?_
  refine Wp.get (len := 3) rfl (ra_obj (hSc _)) rfl ?_
  refine Wp.top (rc_fl hK) ?_
  refine Wp.rput 3 rfl (len := 3) rfl ?_
  refine Wp.n (pc' := 33) 1 rfl ?_
  refine Wp.get (len := 3) rfl (rs_obj) rfl ?_
  refine Wp.n (pc' := 37) 1 rfl ?_
  refine Wp.get (len := 3) rfl (ra_obj (hSc _)) rfl ?_
  refine Wp.callV (len := 3) rfl rfl rfl (rs_law) rfl (by omega) rfl (k_lawBecome hS hds) ?_
  rintro _ _ ⟨rfl, ρ1, rfl, a1, a2, a3⟩
  have hd0 : ∀ j, rhd ρ1 j = upd (upd (upd (upd (rhd ρ) 0 (nI (kh K 0))) 1 (nI (kh K 1))) 2 (nI (kh K 5))) 3 (nI (kh K 12)) j := fun j => congrFun a1 j
  refine Wp.n (pc' := 45) 2 rfl ?_
  refine Wp.get (len := 3) rfl (ra_obj (hSc _)) rfl ?_
  refine Wp.top (rc_rd hK) ?_
  refine Wp.rput 6 rfl (len := 3) rfl ?_
  refine Wp.n (pc' := 53) 2 rfl ?_
  refine k_become_1 hS hds hr b2 (kh K 2) 0 _ (by omega) rfl ⟨fun q hq => absurd hq (Nat.not_lt_zero q), fun q hq => absurd hq (Nat.not_lt_zero q), fun q hq => absurd hq (Nat.not_lt_zero q)⟩ (fun ρ2 c1 c2 c3 => ?_)
  refine Wp.n (pc' := 84) 2 rfl ?_
  refine Wp.get (len := 3) rfl (ra_obj (hSc _)) rfl ?_
  refine Wp.top (show _ = nI (kh K 3) from by rw [show rhd ρs 8 = _ from rc_la hK, h11, Nat.add_zero]) ?_
  refine Wp.rput 8 rfl (len := 3) rfl ?_
  refine Wp.n (pc' := 92) 2 rfl ?_
  refine k_become_2 hS hds hr (m := kh K 3) (a := kh K 2) (by omega) b2 (kh K 3) 0 _ (by omega) rfl ⟨c3.1, fun q hq => absurd hq (Nat.not_lt_zero q), fun q hq => absurd hq (Nat.not_lt_zero q)⟩ (fun ρ3 f1 f2 f3 => ?_)
  refine Wp.n (pc' := 123) 2 rfl ?_
  refine Wp.get (len := 3) rfl (ra_obj (hSc _)) rfl ?_
  refine Wp.top (rc_wk hK) ?_
  refine Wp.rput 10 rfl (len := 3) rfl ?_
  refine Wp.n (pc' := 131) 2 rfl ?_
  refine k_become_3 hS hds hr (m := kh K 4) (a := kh K 2) (b := kh K 3) b4 (kh K 4) 0 _ (by omega) rfl ⟨f3.1, f3.2.1, fun q hq => absurd hq (Nat.not_lt_zero q)⟩ (fun ρ4 g1 g2 g3 => ?_)
  refine Wp.n (pc' := 161) 1 rfl ?_
  refine Wp.get (len := 3) rfl (ra_obj (hSc _)) rfl ?_
  refine Wp.n (pc' := 166) 2 rfl ?_
  refine Wp.get (len := 3) rfl (rs_obj) rfl ?_
  refine Wp.n (pc' := 172) 2 rfl ?_
  refine Wp.acopy (sp := 0) (dp := 0) (m := 49) (len := 3) rfl (ra_dist (hSc _)) rs_dist (by decide) (by decide) (by decide) (by decide) rfl (by omega) ?_
  rw [ru_dist]
  refine Wp.retV (len := 1) rfl rfl ?_
  have hd4 : ∀ j, rhd ρ4 j = upd (upd (upd (rhd ρ1) 6 (nI (kh K 2))) 8 (nI (kh K 3))) 10 (nI (kh K 4)) j := fun j => by
    show ρ4.1 j = _
    rw [g1]
    show upd (ρ3.1) 10 _ j = _
    rw [f1]
    show upd (upd (ρ2.1) 8 _) 10 _ j = _
    rw [c1]
    rfl
  have hw4 : ∀ j, rlw ρ4 j = rlw ρ1 j := fun j => by
    show ρ4.2.1 j = _
    rw [g2]
    show ρ3.2.1 j = _
    rw [f2]
    show ρ2.2.1 j = _
    rw [c2]
    rfl
  refine ⟨rfl, _, rfl, ⟨?_, ?_, ?_, ?_, ?_, ?_, ?_, fun h0 j hj => ?_, fun i hi => ?_, fun l hl => ?_, fun i hi => ?_⟩, fun i hi => ?_⟩
  · show rhd ρ4 0 = _
    rw [hd4]; exact hd0 0
  · show rhd ρ4 1 = _
    rw [hd4]; exact hd0 1
  · show rhd ρ4 2 = _
    rw [hd4]; exact hd0 2
  · show rhd ρ4 3 = _
    rw [hd4]; exact hd0 3
  · show rhd ρ4 6 = _
    rw [hd4]; rfl
  · show rhd ρ4 8 = _
    rw [hd4, h11, Nat.add_zero]; rfl
  · show rhd ρ4 10 = _
    rw [hd4]; rfl
  · show rlw ρ4 j = _
    rw [hw4, a3 j hj]; exact rc_law hK h0 hj
  · obtain ⟨q1, q2, q3, q4⟩ := rc_road hK hi
    show rlk ρ4 i 1 = 0 ∧ rlk ρ4 i 2 = _ ∧ rlk ρ4 i 3 = _ ∧ rlk ρ4 i 6 = 0
    rw [g3.1 i hi 1 (by decide) (by decide), g3.1 i hi 2 (by decide) (by decide), g3.1 i hi 3 (by decide) (by decide), g3.1 i hi 6 (by decide) (by decide)]
    exact ⟨q1, q2, q3, q4⟩
  · have hl3 : l < kh K 3 := by omega
    have q := rc_lane hK hl
    rw [show phL K l = l from if_neg (by omega)] at q ⊢
    show rlk ρ4 (12 + l) 1 = _ ∧ rlk ρ4 (12 + l) 2 = _ ∧ rlk ρ4 (12 + l) 3 = _ ∧ rlk ρ4 (12 + l) 4 = _ ∧ rlk ρ4 (12 + l) 5 = _ ∧ rlk ρ4 (12 + l) 6 = _
    rw [g3.2.1 l hl3 1 (by decide) (by decide), g3.2.1 l hl3 2 (by decide) (by decide), g3.2.1 l hl3 3 (by decide) (by decide), g3.2.1 l hl3 4 (by decide) (by decide), g3.2.1 l hl3 5 (by decide) (by decide), g3.2.1 l hl3 6 (by decide) (by decide)]
    exact q
  · obtain ⟨q1, q2, q3, q4, q5⟩ := rc_walk hK hi
    obtain ⟨p1, p2⟩ := g3.2.2 i hi
    have t7 := (ok_walk ok hi).2.2.2.2.2.1
    show rwk ρ4 i 0 = _ ∧ rwk ρ4 i 1 = _ ∧ rwk ρ4 i 2 = _ ∧ rwk ρ4 i 3 = _ ∧ ∀ j, j < kw K i 3 → rst ρ4 i j = _
    rw [p1 0 (by decide), p1 1 (by decide), p1 2 (by decide), p1 3 (by decide)]
    exact ⟨q1, q2, q3, q4, fun j hj => by rw [p2 j (by omega)]; exact q5 j hj⟩
  · show va_cpy (rds ρs) (rds ρ4) 0 0 49 i = _
    rw [pk_cpy_in (Nat.zero_le _) (by omega), show 0 + (i - 0) = i by omega]
  
  
  

end BECOME
