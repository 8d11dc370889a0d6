/-! THE KINGDOM, the class. -/
section KNC
variable {d : Nat} {M : AM} {κ κ' κ0 : CS} {T : TP} {st : St} {K : KD} {ρ ρ' : RC} {Q : Option Value → AM → Prop}
/-- what a new text may change of the class's state -/
def FKc (κ κ' : CS) : Prop := (∀ s, s ≠ 0 → s ≠ 2 → κ'.1 s = κ.1 s) ∧ κ'.2.1 = κ.2.1 ∧ κ'.2.2.1 = κ.2.2.1
theorem hO83 {ow : Int32} (hD : M 32 = .inr (9, hdl ow)) : cset (rset M 83 ρ) κ 32 = .inr (9, hdl ow) := (cset_o (by omega)).trans ((rset_ne (by omega)).trans hD)
theorem k_kin_l {ow : Int32} (hD : M 32 = .inr (9, hdl ow)) (hW : HW M) (hT : TC κ0 T) (hS : κ0.2.2.2 0 = some 33) (hG : κ0.2.2.2 1 = some 83) {r : St × KD} (kk : ∀ ρ' κ' i, FA κ0 κ' → LC κ' T r.1 → (gd r.1 = true → BdC ρ' r.2 ∧ PK r.2) → Wp (d + 14) md_90 47 [some (.ref 32), some (.int (nI i))] [] (cset (rset M 83 ρ') κ') Q) : ∀ (n : Nat) {i : Nat} {st : St} {K : KD} {ρ : RC} {κ : CS}, FA κ0 κ → LC κ T st → (gd st = true → BdC ρ K ∧ PK K) → (∀ s, st = .inr s → i ≤ s ∧ s ≤ T.1 ∧ kh K 5 = i ∧ T.1 - s < n) → i ≤ 2000 → prsT T n st K = r → Wp (d + 14) md_90 17 [some (.ref 32), some (.int (nI i))] [] (cset (rset M 83 ρ) κ) Q
  | n, i, .inl x, K, ρ, κ, f, l, hB, hs, hi, hr => by
    have e : r = (.inl x, K) := by
      rw [← hr]
      cases n <;> rfl
    subst e
    refine Wp.n (pc' := 21) 2 rfl ?_
    refine Wp.nc3 (x := i) (y := 2000) (tgt := 47) (len := 3) rfl (by omega) (by omega) (fun h21 => ?_) (fun h21 => ?_)
    · skip
      exact kk _ _ _ f l (fun q => by cases q)
    · skip
      refine Wp.n (pc' := 25) 1 rfl ?_
      refine Wp.get (len := 3) rfl (hO83 hD) rfl ?_
      refine Wp.ecallV (len := 3) rfl rfl rfl (rfl) rfl (by decide) rfl (k_hasLine l) ?_
      refine Wp.ifb0 (tgt := 47) (len := 3) rfl (fun h31 => ?_) (fun h31 => ?_)
      · skip
        exact kk _ _ _ f l (fun q => by cases q)
      · cases h31
  | 0, i, .inr s, K, ρ, κ, f, l, hB, hs, hi, hr => absurd (hs s rfl).2.2.2 (Nat.not_lt_zero _)
  | n + 1, i, .inr s, K, ρ, κ, f, l, hB, hs, hi, hr => by
    obtain ⟨hB1, hP⟩ := hB rfl
    obtain ⟨s1, s2, s3, s4⟩ := hs s rfl
    have t20 := hT.2.1
    have hG1 : κ.2.2.2 1 = some 83 := by rw [f.2]; exact hG
    have hS1 : κ.2.2.2 0 = some 33 := by rw [f.2]; exact hS
    have hT1 := f.tc hT
    by_cases c0 : tk T s = 0
    · have e : r = (.inr s, K) := by
        rw [← hr]
        exact if_pos c0
      subst e
      have hl : hlS T (.inr s) = false := decide_eq_false (fun q => q c0)
      refine Wp.n (pc' := 21) 2 rfl ?_
      refine Wp.nc3 (x := i) (y := 2000) (tgt := 47) (len := 3) rfl (by omega) (by omega) (fun h21 => ?_) (fun h21 => ?_)
      · skip
        exact kk _ _ _ f l (fun _ => ⟨hB1, hP⟩)
      · skip
        refine Wp.n (pc' := 25) 1 rfl ?_
        refine Wp.get (len := 3) rfl (hO83 hD) rfl ?_
        refine Wp.ecallV (len := 3) rfl rfl rfl (rfl) rfl (by decide) rfl (k_hasLine l) ?_
        refine Wp.ifb0 (tgt := 47) (len := 3) rfl (fun h31 => ?_) (fun h31 => ?_)
        · skip
          exact kk _ _ _ f l (fun _ => ⟨hB1, hP⟩)
        · rw [hl] at h31; cases h31
    · have hr2 : prsT T n (endS T (bodS T K s)) (incL (bodK T K s)) = r := by
        rw [← hr]
        exact (if_neg c0).symm
      have hl : hlS T (.inr s) = true := decide_eq_true c0
      have sT : s < T.1 := by
        have := Nat.not_le.mp (fun q => c0 ((tk_0 (T := T) (s := s)).mpr q))
        exact this
      refine Wp.n (pc' := 21) 2 rfl ?_
      refine Wp.nc3 (x := i) (y := 2000) (tgt := 47) (len := 3) rfl (by omega) (by omega) (fun h21 => ?_) (fun h21 => ?_)
      · omega
      · skip
        refine Wp.n (pc' := 25) 1 rfl ?_
        refine Wp.get (len := 3) rfl (hO83 hD) rfl ?_
        refine Wp.ecallV (len := 3) rfl rfl rfl (rfl) rfl (by decide) rfl (k_hasLine l) ?_
        refine Wp.ifb0 (tgt := 47) (len := 3) rfl (fun h31 => ?_) (fun h31 => ?_)
        · rw [hl] at h31; cases h31
        · skip
          refine Wp.n (pc' := 35) 1 rfl ?_
          refine Wp.get (len := 3) rfl (hO83 hD) rfl ?_
          refine Wp.callV (len := 3) rfl rfl rfl (rfl) rfl (by decide) rfl (k_readLine hT1 hS1 hG1 hW l hB1 hP) ?_
          rintro _ _ ⟨rfl, ρ1, κ1, rfl, f1, l1, b1⟩
          refine Wp.incN (x := i) (len := 3) rfl rfl ?_
          refine Wp.n (pc' := 17) 1 rfl ?_
          refine k_kin_l hD hW hT hS hG kk n (f.t f1) l1 (fun g => ⟨b1 g, PK_step hP (by omega) g⟩) (fun s' e => ?_) (by omega) hr2
          obtain ⟨q1, q2⟩ := step_lt (T := T) (K := K) (s := s) (s' := s') s2 e
          refine ⟨by omega, q2, ?_, by omega⟩
          show kh (bodK T K s) 5 + 1 = i + 1
          rw [bod_5, s3]
theorem k_kingdom (hD : HD M) (hW : HW M) (hk : RK M 36 K) (hR : ∃ ρ, RA M 83 ρ) (hT : TC κ T) : Wp (d + 15) md_90 0 [some (.ref 32), none] [] (cset M κ) (fun v M' => v = some (.int (kinA T)) ∧ ∃ M1 κ', M' = cset M1 κ' ∧ (∀ q, q < 36 ∨ 130 ≤ q → M1 q = M q) ∧ RK M1 36 (kinN T K) ∧ (∃ ρ, RA M1 83 ρ) ∧ FKc κ κ' ∧ FCl κ' (flt (kinR T).1) ∧ TC κ' (0, T.2)) := by
  obtain ⟨⟨ow, hD⟩, -⟩ := hD
  obtain ⟨ρ, hρ⟩ := hR
  have t20 := hT.2.1
  have hbl : bl T 0 ≤ T.1 := (tn_le (T := T) (p := isBl) (Nat.zero_le _)).2
  rw [show cset M κ = cset (rset M 83 ρ) κ by rw [show rset M 83 ρ = M from hρ]]
  refine Wp.n (pc' := 1) 1 rfl ?_
  refine Wp.get (len := 3) rfl (hO83 hD) rfl ?_
  refine Wp.n (pc' := 5) 1 rfl ?_
  refine Wp.get (len := 3) rfl (hO83 hD) rfl ?_
  refine Wp.n (pc' := 9) 1 rfl ?_
  refine Wp.get (len := 3) rfl (hO83 hD) rfl ?_
  refine Wp.callV (len := 3) rfl rfl rfl (rfl) rfl (by decide) rfl (k_readerBegin (d := d + 4) hT) ?_
  rintro _ _ ⟨rfl, ρ1, κ1, rfl, f1, l1, b1⟩
  refine Wp.n (pc' := 17) 2 rfl ?_
  have hT0 : TC (cr (cr κ 0 (some 33)) 1 (some 83)) T := hT
  refine k_kin_l (d := d + 1) (r := kinR T) hD hW hT0 rfl rfl (fun ρ2 κ2 i f2 l2 hB2 => ?_) 2001 (i := 0) f1 l1 (fun _ => ⟨b1, PK_K0⟩) (fun s q => ?_) (by decide) rfl
  · have fk : FKc κ (cf κ2 0 1 (nI 0)) := ⟨fun s h0 h2 => (va_up_ne _ _ h0).trans (f2.1 s h2), by show κ2.2.1 = _; rw [f2.2]; rfl, by show κ2.2.2.1 = _; rw [f2.2]; rfl⟩
    have hT9 : TC (cf κ2 0 1 (nI 0)) (0, T.2) := ⟨rfl, Nat.zero_le _, fun i hi => absurd hi (Nat.not_lt_zero _)⟩
    rcases hq : (kinR T).1 with x | s
    · rw [hq] at l2
      have x1 := l2.2.1
      have x3 := l2.2.2.1
      have ng : ¬ gd (kinR T).1 = true := by rw [hq]; exact Bool.false_ne_true
      refine Wp.n (pc' := 48) 1 rfl ?_
      refine Wp.get (len := 3) rfl (hO83 hD) rfl ?_
      refine Wp.n (pc' := 52) 1 rfl ?_
      refine Wp.cput0 (len := 3) rfl ?_
      refine Wp.n (pc' := 56) 1 rfl ?_
      refine Wp.get (len := 3) rfl (hO83 hD) rfl ?_
      refine Wp.get (len := 3) rfl (rfl) rfl ?_
      refine Wp.top l2.1 ?_
      refine Wp.nz0 (x := x.1) (tgt := 68) (len := 3) rfl (by omega) (fun h62 => ?_) (fun h62 => ?_)
      · omega
      · skip
        refine Wp.n (pc' := 67) 1 rfl ?_
        refine Wp.retI (len := 1) rfl rfl ?_
        refine ⟨by unfold kinA; rw [if_neg ng], rset M 83 ρ2, _, rfl, fun q hq2 => rset_ne (by omega), ?_, ⟨ρ2, rset_ra⟩, fk, ⟨l2.1, l2.2.2.2.1⟩, hT9⟩
        unfold kinN
        rw [if_neg ng]
        exact RK_of hk (fun k a b => rset_ne (by omega))
    · rw [hq] at l2
      have yg : gd (kinR T).1 = true := by rw [hq]; rfl
      obtain ⟨bK, pK⟩ := hB2 yg
      have b0 := (ok_h pK.1).1
      refine Wp.n (pc' := 48) 1 rfl ?_
      refine Wp.get (len := 3) rfl (hO83 hD) rfl ?_
      refine Wp.n (pc' := 52) 1 rfl ?_
      refine Wp.cput0 (len := 3) rfl ?_
      refine Wp.n (pc' := 56) 1 rfl ?_
      refine Wp.get (len := 3) rfl (hO83 hD) rfl ?_
      refine Wp.get (len := 3) rfl (rfl) rfl ?_
      refine Wp.top l2.1 ?_
      refine Wp.nz0 (x := 0) (tgt := 68) (len := 3) rfl (by omega) (fun h62 => ?_) (fun h62 => ?_)
      · skip
        refine Wp.n (pc' := 69) 1 rfl ?_
        refine Wp.get (len := 3) rfl (hO83 hD) rfl ?_
        refine Wp.callV (len := 3) rfl rfl rfl (dobj) rfl (by decide) rfl (k_reckonRoads bK.1 pK.1 (by decide) (RA_c rset_ra (by decide) (by decide))) ?_
        rintro _ _ ⟨rfl, f, rfl, hf⟩
        rw [rset_c (by decide) (by decide), rset_rset]
        obtain ⟨ρk, hRk, hKk, hDk, okk, _, _⟩ := id hk
        have hobj : M 36 = .inr (3, rfs 36 ρk) := by rw [← show rset M 36 ρk = M from hRk]; exact rs_obj
        refine Wp.n (pc' := 76) 1 rfl ?_
        refine Wp.get (len := 3) rfl (hO83 hD) rfl ?_
        refine Wp.n (pc' := 80) 1 rfl ?_
        refine Wp.get (len := 3) rfl (hO83 hD) rfl ?_
        refine Wp.callV (len := 3) rfl rfl rfl ((cset_o (by omega)).trans ((rset_ne (by omega)).trans hobj)) rfl (by decide) rfl (k_become (ρ := ρk) (RA_c (RA_of hRk (fun k a b => rset_ne (by omega))) (by decide) (by decide)) (RA_c rset_ra (by decide) (by decide)) (by decide) (by decide) (by decide) (show RepC (dset ρ2 f) (kinR T).2 from bK.1) pK.1 pK.2.1) ?_
        rintro _ _ ⟨rfl, ρ3, rfl, RC3, hd3⟩
        rw [rset_c (by decide) (by decide)]
        refine Wp.n (pc' := 87) 1 rfl ?_
        refine Wp.get (len := 3) rfl ((cset_o (by omega)).trans ((rset_ne (by omega)).trans ((rset_ne (by omega)).trans hD))) rfl ?_
        refine Wp.get (len := 3) rfl ((cset_o (by omega)).trans rs_obj) rfl ?_
        refine Wp.top RC3.2.2.1 ?_
        refine Wp.retI (len := 1) rfl rfl ?_
        refine ⟨by unfold kinA; rw [if_pos yg], rset (rset M 83 (dset ρ2 f)) 36 ρ3, _, rfl, fun q hq2 => (rset_ne (by omega)).trans (rset_ne (by omega)), ?_, ⟨dset ρ2 f, RA_of rset_ra (fun k a b => rset_ne (by omega))⟩, fk, ⟨l2.1, l2.2.1⟩, hT9⟩
        unfold kinN
        rw [if_pos yg]
        refine ⟨ρ3, rset_ra, RC3, fun x y hx hy => ?_, pK.1, by decide, by decide⟩
        rw [hd3 _ (by omega)]
        exact hf x y hx hy
      · omega
  · cases q
    exact ⟨Nat.zero_le _, hbl, rfl, by omega⟩
end KNC
