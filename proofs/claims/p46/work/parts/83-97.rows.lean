section
/-! THE OTHER PLACE, the class. -/
section COP
variable {d : Nat} {M : AM} {κ κ' : CS} {T : TP} {st : St} {K : KD} {ρ ρ' : RC} {Q : Option Value → AM → Prop}
theorem k_roadAny_l {n0 : Nat} (h6 : rhd ρ 6 = nI n0) (hn0 : n0 ≤ 12) {a b c : Int32} : ∀ (n i : Nat), i + n = n0 → Wp d md_29 11 [some (.ref 83), some (.int a), some (.int b), some (.int c), some (.int (nI i))] [] (cset (rset M 83 ρ) κ) (fun v M' => (∃ o, v = some (va_rf o)) ∧ M' = cset (rset M 83 ρ) κ)
  | 0, i, hi => by
    refine Wp.n (pc' := 14) 2 rfl ?_
    refine Wp.get (len := 3) rfl (dobj) rfl ?_
    refine Wp.top h6 ?_
    refine Wp.nc3 (x := i) (y := n0) (tgt := 48) (len := 3) rfl (by omega) (by omega) (fun h17 => ?_) (fun h17 => ?_)
    · skip
      refine Wp.n (pc' := 49) 1 rfl ?_
      refine Wp.retN (len := 1) rfl rfl ?_
      exact ⟨⟨none, rfl⟩, rfl⟩
    · omega
  | n + 1, i, hi => by
    refine Wp.n (pc' := 14) 2 rfl ?_
    refine Wp.get (len := 3) rfl (dobj) rfl ?_
    refine Wp.top h6 ?_
    refine Wp.nc3 (x := i) (y := n0) (tgt := 48) (len := 3) rfl (by omega) (by omega) (fun h17 => ?_) (fun h17 => ?_)
    · omega
    · skip
      refine Wp.n (pc' := 21) 1 rfl ?_
      refine Wp.get (len := 3) rfl (dobj) rfl ?_
      refine Wp.n (pc' := 26) 1 rfl ?_
      refine Wp.aaldN (j := i) (len := 1) rfl (droads) rfl (by omega) (by decide) (if_pos (by omega)) ?_
      refine Wp.get (len := 3) rfl (droad (by omega)) rfl ?_
      refine Wp.n (pc' := 31) 1 rfl ?_
      refine Wp.ic1 (tgt := 42) (len := 3) rfl (fun h31 => ?_) (fun h31 => ?_)
      · skip
        refine Wp.incN (x := i) (len := 3) rfl rfl ?_
        refine Wp.n (pc' := 11) 1 rfl ?_
        exact k_roadAny_l h6 hn0 n (i + 1) (by omega)
      · skip
        refine Wp.n (pc' := 35) 1 rfl ?_
        refine Wp.get (len := 3) rfl (dobj) rfl ?_
        refine Wp.n (pc' := 40) 1 rfl ?_
        refine Wp.aaldN (j := i) (len := 1) rfl (droads) rfl (by omega) (by decide) (if_pos (by omega)) ?_
        refine Wp.retR (len := 1) rfl rfl ?_
        exact ⟨⟨some _, rfl⟩, rfl⟩
theorem k_roadAny {n0 : Nat} (h6 : rhd ρ 6 = nI n0) (hn0 : n0 ≤ 12) (a b : Int32) : Wp d md_29 0 [some (.ref 83), some (.int a), some (.int b), none, none] [] (cset (rset M 83 ρ) κ) (fun v M' => (∃ o, v = some (va_rf o)) ∧ M' = cset (rset M 83 ρ) κ) := by
  refine Wp.n (pc' := 11) 10 rfl ?_
  exact k_roadAny_l h6 hn0 n0 0 (by omega)
theorem k_op_b {n0 : Nat} (h6 : rhd ρ 6 = nI n0) (hn0 : n0 ≤ 12) (hT : TC κ T) (hG : κ.2.2.2 1 = some 83) {z : Nat × Nat} (hL : LC κ T (.inl z)) {a at_ x : Int32} {w : Bool} (kk : ∀ κ', FA κ κ' → LC κ' T (.inl z) → Q (some (.int x)) (cset (rset M 83 ρ) κ')) : Wp (d + 11) md_22 21 [some (.ref 35), some (.int a), some (.int (bI w)), some (.int at_), some (.int x)] [] (cset (rset M 83 ρ) κ) Q := by
  have fin : ∀ κ1, FA κ κ1 → LC κ1 T (.inl z) → Wp (d + 11) md_22 50 [some (.ref 35), some (.int a), some (.int (bI w)), some (.int at_), some (.int x)] [] (cset (rset M 83 ρ) κ1) Q := by
    intro κ1 f1 l1
    refine Wp.n (pc' := 52) 1 rfl ?_
    refine Wp.retI (len := 1) rfl rfl ?_
    exact kk κ1 f1 l1
  have bad : Wp (d + 11) md_22 44 [some (.ref 35), some (.int a), some (.int (bI w)), some (.int at_), some (.int x)] [] (cset (rset M 83 ρ) κ) Q := by
    refine Wp.n (pc' := 47) 3 rfl ?_
    refine Wp.callV (len := 3) rfl rfl rfl (rfl) rfl (by decide) rfl (k_fail (p := 0) (k := 2) hT hL (by decide) _ (fun q => by cases q)) ?_
    rintro _ _ ⟨rfl, κ1, rfl, f1, l1⟩
    change LC κ1 T (.inl z) at l1
    exact fin κ1 f1 l1
  refine Wp.n (pc' := 24) 2 rfl ?_
  refine Wp.ic0 (tgt := 44) (len := 3) rfl (fun h24 => ?_) (fun h24 => ?_)
  · skip
    exact bad
  · skip
    refine Wp.n (pc' := 28) 1 rfl ?_
    refine Wp.ifb0 (tgt := 50) (len := 3) rfl (fun h28 => ?_) (fun h28 => ?_)
    · skip
      exact fin κ FA.r hL
    · skip
      refine Wp.n (pc' := 32) 1 rfl ?_
      refine Wp.get (len := 3) rfl (rfl) rfl ?_
      refine Wp.topR hG ?_
      refine Wp.n (pc' := 38) 2 rfl ?_
      refine Wp.callV (len := 3) rfl rfl rfl (dobj) rfl (by decide) rfl (k_roadAny h6 hn0 _ _) ?_
      rintro _ _ ⟨⟨o, rfl⟩, rfl⟩
      rcases o with _ | o
      · refine Wp.s (pc' := 50) rfl ?_
        exact fin κ FA.r hL
      · refine Wp.s (pc' := 44) rfl ?_
        exact bad
end COP
end
section
/-! THE OTHER PLACE, the class, whole. -/
section COP2
variable {d : Nat} {M : AM} {κ κ' : CS} {T : TP} {st : St} {K : KD} {ρ ρ' : RC} {Q : Option Value → AM → Prop}
theorem nm_ot {P : Nat} {f : Nat → Bool} {z : Nat × Nat} (hP : 1 ≤ P) (h : nmS T 0 (P - 1) st = .inl z) : otS T P f st = .inl z := by
  rcases st with x | s
  · exact h
  · by_cases c : tk T s = 2
    · by_cases c2 : 0 ≤ vl T s ∧ vl T s ≤ P - 1
      · rw [show nmS T 0 (P - 1) (.inr s) = .inr (nx T s) from (if_pos c).trans (if_pos c2)] at h
        cases h
      · rw [show nmS T 0 (P - 1) (.inr s) = .inl (2, s) from (if_pos c).trans (if_neg c2)] at h
        rw [← h]
        exact (if_pos c).trans (if_neg (fun q => by omega))
    · rw [show nmS T 0 (P - 1) (.inr s) = .inl (1, s) from if_neg c] at h
      rw [← h]
      exact if_neg c
theorem nm_inr {lo hi s s' : Nat} (h : nmS T lo hi (.inr s) = .inr s') : tk T s = 2 ∧ vl T s ≤ hi ∧ s' = nx T s := by
  by_cases c : tk T s = 2
  · by_cases c2 : lo ≤ vl T s ∧ vl T s ≤ hi
    · rw [show nmS T lo hi (.inr s) = .inr (nx T s) from (if_pos c).trans (if_pos c2)] at h
      cases h
      exact ⟨c, c2.2, rfl⟩
    · rw [show nmS T lo hi (.inr s) = .inl (2, s) from (if_pos c).trans (if_neg c2)] at h
      cases h
  · rw [show nmS T lo hi (.inr s) = .inl (1, s) from if_neg c] at h
    cases h
theorem k_takeOther (hT : TC κ T) (hS : κ.2.2.2 0 = some 33) (hG : κ.2.2.2 1 = some 83) (hL : LC κ T st) (hK : RepC ρ K) (ok : KOK K) (hP : 2 ≤ kh K 0) {a32 : Int32} {w : Bool} {a : Nat} {f : Nat → Bool} (ha : gd st = true → a32 = nI a ∧ a < 7) (hf : gd st = true → ∀ v, f v = (decide (v ≠ a) && (!w || !(roadK K a v).isSome))) : Wp (d + 11) md_22 0 [some (.ref 35), some (.int a32), some (.int (bI w)), none, none] [] (cset (rset M 83 ρ) κ) (fun v M' => ∃ x, v = some (.int x) ∧ (gd (otS T (kh K 0) f st) = true → x = nI (nmV T st)) ∧ RdC (rset M 83 ρ) κ T (otS T (kh K 0) f st) M') := by
  have b0 := (ok_h ok).1
  have b2 := (ok_h ok).2.2.1
  refine Wp.n (pc' := 1) 1 rfl ?_
  refine Wp.get (len := 3) rfl (rfl) rfl ?_
  refine Wp.n (pc' := 8) 4 rfl ?_
  refine Wp.get (len := 3) rfl (rfl) rfl ?_
  refine Wp.topR hG ?_
  refine Wp.get (len := 3) rfl (dobj) rfl ?_
  refine Wp.top hK.1 ?_
  refine Wp.n (pc' := 15) 1 rfl ?_
  refine Wp.isubN (x := kh K 0) (y := 1) (len := 1) rfl (by omega) ?_
  refine Wp.callV (len := 3) rfl rfl rfl (rfl) rfl (by decide) rfl (k_takeNumber (d := d) (lo := 0) (hi := kh K 0 - 1) hT hS hL (fun q => ⟨rfl, rfl, by omega, by omega⟩)) ?_
  rintro _ _ ⟨x, rfl, hx, κ1, rfl, f1, l1⟩
  have hG1 : κ1.2.2.2 1 = some 83 := by rw [f1.2]; exact hG
  refine Wp.n (pc' := 21) 1 rfl ?_
  rcases hq : nmS T 0 (kh K 0 - 1) st with z | s'
  · rw [hq] at l1
    rw [nm_ot (f := f) (by omega) hq]
    exact k_op_b hK.2.2.2.2.1 b2 (f1.tc hT) hG1 l1 (fun κ2 f2 l2 => ⟨x, rfl, fun q => (by cases q), κ2, rfl, f1.t f2, l2⟩)
  · rcases st with y | s
    · cases hq
    obtain ⟨t2, v2, rfl⟩ := nm_inr hq
    rw [hq] at l1 hx
    obtain rfl := hx rfl
    obtain ⟨rfl, a7⟩ := ha rfl
    have fv := hf rfl (vl T s)
    have z5 : κ.1 2 5 = nI s := hL.2.2.2.1
    have v31 : vl T s < 2 ^ 31 := by omega
    have bad : f (vl T s) = false → Wp (d + 11) md_22 44 [some (.ref 35), some (.int (nI a)), some (.int (bI w)), some (.int (κ.1 2 5)), some (.int (nI (vl T s)))] [] (cset (rset M 83 ρ) κ1) (fun v M' => ∃ x, v = some (.int x) ∧ (gd (otS T (kh K 0) f (.inr s)) = true → x = nI (nmV T (.inr s))) ∧ RdC (rset M 83 ρ) κ T (otS T (kh K 0) f (.inr s)) M') := by
      intro ff
      have eo : otS T (kh K 0) f (.inr s) = .inl (2, s) := (if_pos t2).trans (if_neg (fun q => by rw [ff] at q; cases q.2))
      rw [eo]
      refine Wp.n (pc' := 47) 3 rfl ?_
      refine Wp.callV (len := 3) rfl rfl rfl (rfl) rfl (by decide) rfl (k_fail (p := s) (k := 2) (f1.tc hT) l1 (by decide) _ (fun _ => z5)) ?_
      rintro _ _ ⟨rfl, κ2, rfl, f2, l2⟩
      change LC κ2 T (.inl (2, s)) at l2
      refine Wp.n (pc' := 52) 1 rfl ?_
      refine Wp.retI (len := 1) rfl rfl ?_
      exact ⟨_, rfl, fun q => (by cases q), κ2, rfl, f1.t f2, l2⟩
    have good : f (vl T s) = true → Wp (d + 11) md_22 50 [some (.ref 35), some (.int (nI a)), some (.int (bI w)), some (.int (κ.1 2 5)), some (.int (nI (vl T s)))] [] (cset (rset M 83 ρ) κ1) (fun v M' => ∃ x, v = some (.int x) ∧ (gd (otS T (kh K 0) f (.inr s)) = true → x = nI (nmV T (.inr s))) ∧ RdC (rset M 83 ρ) κ T (otS T (kh K 0) f (.inr s)) M') := by
      intro ff
      have eo : otS T (kh K 0) f (.inr s) = .inr (nx T s) := (if_pos t2).trans (if_pos ⟨by omega, ff⟩)
      rw [eo]
      refine Wp.n (pc' := 52) 1 rfl ?_
      refine Wp.retI (len := 1) rfl rfl ?_
      exact ⟨_, rfl, fun _ => rfl, κ1, rfl, f1, l1⟩
    refine Wp.n (pc' := 24) 2 rfl ?_
    refine Wp.nc0 (x := vl T s) (y := a) (tgt := 44) (len := 3) rfl (by omega) (by omega) (fun h24 => ?_) (fun h24 => ?_)
    · skip
      exact bad (by rw [fv, decide_eq_false (fun q => q h24)]; rfl)
    · skip
      refine Wp.n (pc' := 28) 1 rfl ?_
      refine Wp.ifb0 (tgt := 50) (len := 3) rfl (fun h28 => ?_) (fun h28 => ?_)
      · skip
        exact good (by rw [fv, decide_eq_true h24, h28]; rfl)
      · skip
        refine Wp.n (pc' := 32) 1 rfl ?_
        refine Wp.get (len := 3) rfl (rfl) rfl ?_
        refine Wp.topR hG1 ?_
        refine Wp.n (pc' := 38) 2 rfl ?_
        refine Wp.ecallV (len := 3) rfl rfl rfl (dobj) rfl (by decide) rfl (k_roadOf (M := cset (rset M 83 ρ) κ1) (r := 83) (RA_c rset_ra (by decide) (by decide)) hK ok (a := a) (b := vl T s) a7 (by omega)) ?_
        rcases hr : roadK K a (vl T s) with _ | i
        · refine Wp.s (pc' := 50) rfl ?_
          exact good (by rw [fv, decide_eq_true h24, hr, h28]; rfl)
        · refine Wp.s (pc' := 44) rfl ?_
          exact bad (by rw [fv, hr, h28, decide_eq_true h24]; rfl)
end COP2
end
section
/-! A LINK OF THE DRAFT is being written (q: 0..11 a road, 12..20 a lane; p: where it lies). -/
def lkA (q p : Nat) : Prop := (q < 12 ∧ p = 83 + 3 + q) ∨ (12 ≤ q ∧ q < 21 ∧ p = 83 + 16 + (q - 12))
def LkF (q : Nat) (g : Nat → Int32) (ρ ρ' : RC) : Prop := ρ'.1 = ρ.1 ∧ ρ'.2.1 = ρ.2.1 ∧ ρ'.2.2.2 = ρ.2.2.2 ∧ (∀ i, i ≠ q → rlk ρ' i = rlk ρ i) ∧ rlk ρ' q = g
section LKD
variable {d : Nat} {X : MD} {pc len q p b : Nat} {l : AL} {sk : List Value} {M : AM} {κ κ' : CS} {T : TP} {st : St} {K : KD} {ρ ρ' ρ0 : RC} {g : Nat → Int32} {v : Value} {Q : Option Value → AM → Prop}
theorem LkF.r : LkF q (rlk ρ q) ρ ρ := ⟨rfl, rfl, rfl, fun _ _ => rfl, rfl⟩
theorem LkF.s (h : LkF q g ρ0 ρ) {j : Nat} {x : Int32} : LkF q (upd g j x) ρ0 (kset ρ q j x) := ⟨h.1, h.2.1, h.2.2.1, fun i hi => (rlk_kn hi).trans (h.2.2.2.1 i hi), by rw [rlk_ks, h.2.2.2.2]⟩
theorem dk_get (hA : lkA q p) : ∃ n, cset (rset M 83 ρ) κ p = .inr (1, kfs n (rlk ρ q)) := by
  rcases hA with ⟨h, rfl⟩ | ⟨h1, h2, rfl⟩
  · exact ⟨q, droad h⟩
  · have w := dlane (M := M) (ρ := ρ) (κ := κ) (i := q - 12) (by omega)
    rw [show 12 + (q - 12) = q by omega] at w
    exact ⟨q - 12, w⟩
theorem Wp.dk {x : Int32} (hA : lkA q p) (hF : LkF q g ρ0 ρ) (j : Nat) (hj : (Nat.ble 1 j && Nat.ble j 6) = true) (hc : cdx X pc = some (.inr (.inr (1, 1, j, v)), len)) (kk : ∀ ρ', LkF q (upd g j x) ρ0 ρ' → Wp d X (pc + len) l sk (cset (rset M 83 ρ') κ) Q) : Wp d X pc l (.int x :: .ref p :: sk) (cset (rset M 83 ρ) κ) Q := by
  rcases hA with ⟨h, rfl⟩ | ⟨h1, h2, rfl⟩
  · exact Wp.dkR j hj h hc (kk _ hF.s)
  · refine Wp.dkL (i := q - 12) j hj (by omega) hc ?_
    rw [show 12 + (q - 12) = q by omega]
    exact kk _ hF.s
theorem k_linkBeginD (hA : lkA q p) {x : Int32} : Wp d md_6 0 [some (.ref p), some (.int x)] [] (cset (rset M 83 ρ) κ) (fun v M' => v = none ∧ ∃ ρ' g, M' = cset (rset M 83 ρ') κ ∧ LkF q g ρ ρ' ∧ g 1 = x ∧ ∀ j, 2 ≤ j → j ≤ 6 → g j = 0) := by
  have F0 : LkF q (rlk ρ q) ρ ρ := LkF.r
  refine Wp.n (pc' := 2) 2 rfl ?_
  refine Wp.dk hA F0 1 rfl (len := 3) rfl (fun ρ1 F1 => ?_)
  refine Wp.n (pc' := 7) 2 rfl ?_
  refine Wp.dk hA F1 2 rfl (len := 3) rfl (fun ρ2 F2 => ?_)
  refine Wp.n (pc' := 12) 2 rfl ?_
  refine Wp.dk hA F2 3 rfl (len := 3) rfl (fun ρ3 F3 => ?_)
  refine Wp.n (pc' := 17) 2 rfl ?_
  refine Wp.dk hA F3 4 rfl (len := 3) rfl (fun ρ4 F4 => ?_)
  refine Wp.n (pc' := 22) 2 rfl ?_
  refine Wp.dk hA F4 5 rfl (len := 3) rfl (fun ρ5 F5 => ?_)
  refine Wp.n (pc' := 27) 2 rfl ?_
  refine Wp.dk hA F5 6 rfl (len := 3) rfl (fun ρ6 F6 => ?_)
  refine Wp.retV (len := 1) rfl rfl ?_
  refine ⟨rfl, ρ6, _, rfl, F6, rfl, fun j h2 h6 => ?_⟩
  obtain rfl | rfl | rfl | rfl | rfl : j = 2 ∨ j = 3 ∨ j = 4 ∨ j = 5 ∨ j = 6 := by omega
  all_goals rfl
/-- where the next link is kept -/
def lkQ (K : KD) (k : Nat) : Nat := if k = 0 then kh K 2 else 12 + kh K 3
def lkP (K : KD) (k : Nat) : Nat := if k = 0 then 83 + 3 + kh K 2 else 83 + 16 + kh K 3
def lkO (K : KD) (k : Nat) : Option Nat := if k = 0 then (if kh K 2 < 12 then some (83 + 3 + kh K 2) else none) else (if kh K 3 < 8 then some (83 + 16 + kh K 3) else none)
theorem k_spareLink (hK : RepC ρ K) (ok : KOK K) (h11 : kh K 11 = 0) {k : Nat} (hk : k ≤ 3) : Ev d md_28 0 [some (.ref 83), some (.int (nI k))] [] (cset (rset M 83 ρ) κ) (some (va_rf (lkO K k)), cset (rset M 83 ρ) κ) := by
  refine Wp.toEv ?_
  have b2 := (ok_h ok).2.2.1
  have b3 := (ok_h ok).2.2.2.1
  have e8 : rhd ρ 8 = nI (kh K 3) := by rw [hK.2.2.2.2.2.1, h11, Nat.add_zero]
  have e6 := hK.2.2.2.2.1
  refine Wp.n (pc' := 1) 1 rfl ?_
  refine Wp.nz1 (x := k) (tgt := 27) (len := 3) rfl (by omega) (fun h1 => ?_) (fun h1 => ?_)
  · skip
    refine Wp.n (pc' := 28) 1 rfl ?_
    refine Wp.get (len := 3) rfl (dobj) rfl ?_
    refine Wp.top e8 ?_
    refine Wp.n (pc' := 33) 1 rfl ?_
    refine Wp.nc3 (x := kh K 3) (y := 8) (tgt := 48) (len := 3) rfl (by omega) (by omega) (fun h33 => ?_) (fun h33 => ?_)
    · skip
      refine Wp.n (pc' := 49) 1 rfl ?_
      refine Wp.retN (len := 1) rfl rfl ?_
      first
        | (have e : lkO K k = some (83 + 3 + kh K 2) := (if_pos (by omega)).trans (if_pos (by omega))
           rw [e]; exact ⟨rfl, rfl⟩)
        | (have e : lkO K k = some (83 + 16 + kh K 3) := (if_neg (by omega)).trans (if_pos (by omega))
           rw [e]; exact ⟨rfl, rfl⟩)
        | (have e : lkO K k = none := (if_pos (by omega)).trans (if_neg (by omega))
           rw [e]; exact ⟨rfl, rfl⟩)
        | (have e : lkO K k = none := (if_neg (by omega)).trans (if_neg (by omega))
           rw [e]; exact ⟨rfl, rfl⟩)
    · skip
      refine Wp.n (pc' := 37) 1 rfl ?_
      refine Wp.get (len := 3) rfl (dobj) rfl ?_
      refine Wp.n (pc' := 41) 1 rfl ?_
      refine Wp.get (len := 3) rfl (dobj) rfl ?_
      refine Wp.top e8 ?_
      refine Wp.aaldN (j := kh K 3) (len := 1) rfl (dlanes) rfl (by omega) (by decide) (if_pos (by omega)) ?_
      refine Wp.n (pc' := 49) 1 rfl ?_
      refine Wp.retR (len := 1) rfl rfl ?_
      first
        | (have e : lkO K k = some (83 + 3 + kh K 2) := (if_pos (by omega)).trans (if_pos (by omega))
           rw [e]; exact ⟨rfl, rfl⟩)
        | (have e : lkO K k = some (83 + 16 + kh K 3) := (if_neg (by omega)).trans (if_pos (by omega))
           rw [e]; exact ⟨rfl, rfl⟩)
        | (have e : lkO K k = none := (if_pos (by omega)).trans (if_neg (by omega))
           rw [e]; exact ⟨rfl, rfl⟩)
        | (have e : lkO K k = none := (if_neg (by omega)).trans (if_neg (by omega))
           rw [e]; exact ⟨rfl, rfl⟩)
  · skip
    refine Wp.n (pc' := 5) 1 rfl ?_
    refine Wp.get (len := 3) rfl (dobj) rfl ?_
    refine Wp.top e6 ?_
    refine Wp.n (pc' := 10) 1 rfl ?_
    refine Wp.nc3 (x := kh K 2) (y := 12) (tgt := 25) (len := 3) rfl (by omega) (by omega) (fun h10 => ?_) (fun h10 => ?_)
    · skip
      refine Wp.n (pc' := 26) 1 rfl ?_
      refine Wp.retN (len := 1) rfl rfl ?_
      first
        | (have e : lkO K k = some (83 + 3 + kh K 2) := (if_pos (by omega)).trans (if_pos (by omega))
           rw [e]; exact ⟨rfl, rfl⟩)
        | (have e : lkO K k = some (83 + 16 + kh K 3) := (if_neg (by omega)).trans (if_pos (by omega))
           rw [e]; exact ⟨rfl, rfl⟩)
        | (have e : lkO K k = none := (if_pos (by omega)).trans (if_neg (by omega))
           rw [e]; exact ⟨rfl, rfl⟩)
        | (have e : lkO K k = none := (if_neg (by omega)).trans (if_neg (by omega))
           rw [e]; exact ⟨rfl, rfl⟩)
    · skip
      refine Wp.n (pc' := 14) 1 rfl ?_
      refine Wp.get (len := 3) rfl (dobj) rfl ?_
      refine Wp.n (pc' := 18) 1 rfl ?_
      refine Wp.get (len := 3) rfl (dobj) rfl ?_
      refine Wp.top e6 ?_
      refine Wp.aaldN (j := kh K 2) (len := 1) rfl (droads) rfl (by omega) (by decide) (if_pos (by omega)) ?_
      refine Wp.n (pc' := 26) 1 rfl ?_
      refine Wp.retR (len := 1) rfl rfl ?_
      first
        | (have e : lkO K k = some (83 + 3 + kh K 2) := (if_pos (by omega)).trans (if_pos (by omega))
           rw [e]; exact ⟨rfl, rfl⟩)
        | (have e : lkO K k = some (83 + 16 + kh K 3) := (if_neg (by omega)).trans (if_pos (by omega))
           rw [e]; exact ⟨rfl, rfl⟩)
        | (have e : lkO K k = none := (if_pos (by omega)).trans (if_neg (by omega))
           rw [e]; exact ⟨rfl, rfl⟩)
        | (have e : lkO K k = none := (if_neg (by omega)).trans (if_neg (by omega))
           rw [e]; exact ⟨rfl, rfl⟩)
end LKD
end
section
/-! LINES, the class: roads. -/
section CLR
variable {d : Nat} {M : AM} {κ κ' : CS} {T : TP} {st : St} {K : KD} {ρ ρ' : RC} {g : Nat → Int32} {Q : Option Value → AM → Prop}
theorem RepC_r (hK : RepC ρ K) (ok : KOK K) (h11 : kh K 11 = 0) (F : LkF (kh K 2) g ρ ρ') (h2 : kh K 2 < 12) : RepC ρ' K := by
  obtain ⟨f1, f2, f3, f4, f5⟩ := F
  obtain ⟨r0, r1, r2, r3, r6, r8, r10, rl, rr, rn_, rw_⟩ := hK
  have b3 := (ok_h ok).2.2.2.1
  unfold RepC rhd rlw rwk rst at *
  rw [f1, f2, f3]
  refine ⟨r0, r1, r2, r3, r6, r8, r10, rl, fun i hi => ?_, fun l hl => ?_, rw_⟩
  · rw [f4 i (by omega)]; exact rr i hi
  · rw [f4 (12 + phL K l) (by unfold phL; split <;> omega)]; exact rn_ l hl
theorem k_takeSpare0 {n : Nat} (h6 : rhd ρ 6 = nI n) : Ev d md_30 0 [some (.ref 83), some (.int (nI 0))] [] (cset (rset M 83 ρ) κ) (none, cset (rset M 83 (hset ρ 6 (nI (n + 1)))) κ) := by
  refine Wp.toEv ?_
  refine Wp.n (pc' := 1) 1 rfl ?_
  refine Wp.nz1 (x := 0) (tgt := 17) (len := 3) rfl (by omega) (fun h1 => ?_) (fun h1 => ?_)
  · omega
  · skip
    refine Wp.n (pc' := 6) 2 rfl ?_
    refine Wp.get (len := 3) rfl (dobj) rfl ?_
    refine Wp.top h6 ?_
    refine Wp.n (pc' := 10) 1 rfl ?_
    refine Wp.iaddN (x := n) (y := 1) (len := 1) rfl ?_
    refine Wp.dput (len := 3) 6 rfl rfl ?_
    refine Wp.n (pc' := 27) 1 rfl ?_
    refine Wp.retV (len := 1) rfl rfl ?_
    exact ⟨rfl, rfl⟩
theorem k_road_e {a b c : Nat} {κ1 : CS} (hB : BdC ρ K) (ok : KOK K) (h2 : kh K 2 < 12) (hG : κ1.2.2.2 1 = some 83) (F : FA κ κ1) (l : LC κ1 T st) (L : LkF (kh K 2) g ρ ρ') (hv : gd st = true → g 1 = nI 0 ∧ g 2 = bitsE a b ∧ g 3 = nI c ∧ g 6 = 0) {x2 x3 x4 x5 : Option Value} : Wp (d + 12) md_21 194 [some (.ref 35), some (.int (nI 0)), x2, x3, x4, x5] [] (cset (rset M 83 ρ') κ1) (RCn M κ T st (addR K a b c)) := by
  have e6 : rhd ρ' 6 = nI (kh K 2) := by show ρ'.1 6 = _; rw [L.1]; exact hB.1.2.2.2.2.1
  rcases st with z | s
  · have z1 := l.2.1
    have z3 := l.2.2.1
    refine Wp.n (pc' := 195) 1 rfl ?_
    refine Wp.get (len := 3) rfl (rfl) rfl ?_
    refine Wp.top l.1 ?_
    refine Wp.nz1 (x := z.1) (tgt := 209) (len := 3) rfl (by omega) (fun h198 => ?_) (fun h198 => ?_)
    · skip
      refine Wp.retV (len := 1) rfl rfl ?_
      exact ⟨rfl, ρ', κ1, rfl, F, l, fun q => by cases q⟩
    · omega
  · obtain ⟨v1, v2, v3, v6⟩ := hv rfl
    refine Wp.n (pc' := 195) 1 rfl ?_
    refine Wp.get (len := 3) rfl (rfl) rfl ?_
    refine Wp.top l.1 ?_
    refine Wp.nz1 (x := 0) (tgt := 209) (len := 3) rfl (by omega) (fun h198 => ?_) (fun h198 => ?_)
    · omega
    · skip
      refine Wp.n (pc' := 202) 1 rfl ?_
      refine Wp.get (len := 3) rfl (rfl) rfl ?_
      refine Wp.topR hG ?_
      refine Wp.n (pc' := 206) 1 rfl ?_
      refine Wp.ecallV (len := 3) rfl rfl rfl (dobj) rfl (by decide) rfl (k_takeSpare0 e6) ?_
      refine Wp.retV (len := 1) rfl rfl ?_
      refine ⟨rfl, _, κ1, rfl, F, l, fun _ => ?_⟩
      have hK1 := RepC_r hB.1 ok hB.2.2 L h2
      obtain ⟨⟨r0, r1, r2, r3, r6, r8, r10, rl, rr, rn_, rw_⟩, hl, h11⟩ := hB
      obtain ⟨t0, t1, t2, t3, t6, t8, t10, tl, tr, tn_, tw_⟩ := hK1
      have hl' : ∀ j, j < 5 → rlw ρ' j = nI (kh K (6 + j)) := fun j hj => by show ρ'.2.1 j = _; rw [L.2.1]; exact hl j hj
      have ek : ∀ j, j ≠ 2 → kh (addR K a b c) j = kh K j := fun j hj => if_neg hj
      refine ⟨⟨t0, t1, t2, t3, rfl, t8, t10, fun _ j hj => ?_, fun i hi => ?_, tn_, tw_⟩, fun j hj => ?_, h11⟩
      · rw [ek (6 + j) (by omega)]; exact hl' j hj
      · have hi' : i < kh K 2 + 1 := hi
        have er : kr (addR K a b c) i = if i = kh K 2 then (fun j => if j = 0 then a else if j = 1 then b else c) else kr K i := rfl
        rw [er]
        by_cases q : i = kh K 2
        · rw [if_pos q, q]
          show rlk ρ' (kh K 2) 1 = 0 ∧ rlk ρ' (kh K 2) 2 = bitsE a b ∧ rlk ρ' (kh K 2) 3 = nI c ∧ rlk ρ' (kh K 2) 6 = 0
          rw [L.2.2.2.2]
          exact ⟨v1, v2, v3, v6⟩
        · rw [if_neg q]
          exact tr i (by omega)
      · rw [ek (6 + j) (by omega)]; exact hl' j hj
theorem k_readRoad {s : Nat} (hT : TC κ T) (hS : κ.2.2.2 0 = some 33) (hG : κ.2.2.2 1 = some 83) (hW : HW M) (hL : LC κ T (.inr s)) (hB : BdC ρ K) (ok : KOK K) (hP : 2 ≤ kh K 0) (h2 : kh K 2 < 12) : Wp (d + 12) md_21 0 [some (.ref 35), some (.int (nI 0)), none, none, none, none] [] (cset (rset M 83 ρ) κ) (RCn M κ T (rd4 T K (.inr (nx T s))) (rdK T K (.inr (nx T s)))) := by
  have b0 := (ok_h ok).1
  have F0 : FA κ κ := FA.r
  have hA : lkA (kh K 2) (83 + 3 + kh K 2) := Or.inl ⟨h2, rfl⟩
  have hO : lkO K 0 = some (83 + 3 + kh K 2) := (if_pos rfl).trans (if_pos h2)
  refine Wp.n (pc' := 1) 1 rfl ?_
  refine Wp.get (len := 3) rfl (rfl) rfl ?_
  refine Wp.topR hG ?_
  refine Wp.n (pc' := 5) 1 rfl ?_
  refine Wp.ecallV (len := 3) rfl rfl rfl (dobj) rfl (by decide) rfl (k_spareLink (k := 0) hB.1 ok hB.2.2 (by decide)) ?_
  refine Wp.topR hO ?_
  refine Wp.n (pc' := 10) 2 rfl ?_
  refine Wp.s (pc' := 23) rfl ?_
  refine Wp.n (pc' := 25) 2 rfl ?_
  refine Wp.callV (len := 3) rfl rfl rfl (droad h2) rfl (by omega) rfl (k_linkBeginD hA) ?_
  rintro _ _ ⟨rfl, ρ1, g, rfl, L1, g1, g2⟩
  have hK1 := RepC_r hB.1 ok hB.2.2 L1 h2
  refine Wp.n (pc' := 29) 1 rfl ?_
  refine Wp.callV (len := 3) rfl rfl rfl (rfl) rfl (by decide) rfl (k_advance hT hS hL) ?_
  rintro _ _ ⟨rfl, κ1, rfl, f1, l1⟩
  have F1 := F0.t f1
  have hG1 : κ1.2.2.2 1 = some 83 := by rw [F1.2]; exact hG
  have hS1 : κ1.2.2.2 0 = some 33 := by rw [F1.2]; exact hS
  have hT1 := F1.tc hT
  refine Wp.n (pc' := 35) 3 rfl ?_
  refine Wp.get (len := 3) rfl (rfl) rfl ?_
  refine Wp.topR hG1 ?_
  refine Wp.get (len := 3) rfl (dobj) rfl ?_
  refine Wp.top (show ρ1.1 0 = nI (kh K 0) by rw [L1.1]; exact hB.1.1) ?_
  refine Wp.n (pc' := 42) 1 rfl ?_
  refine Wp.isubN (x := kh K 0) (y := 1) (len := 1) rfl (by omega) ?_
  refine Wp.callV (len := 3) rfl rfl rfl (rfl) rfl (by decide) rfl (k_takeNumber (lo := 0) (hi := kh K 0 - 1) hT1 hS1 l1 (fun q => ⟨rfl, rfl, by omega, by omega⟩)) ?_
  rintro _ _ ⟨a, rfl, ha, κ2, rfl, f2, l2⟩
  have F2 := F1.t f2
  have hG2 : κ2.2.2.2 1 = some 83 := by rw [F2.2]; exact hG
  have hS2 : κ2.2.2.2 0 = some 33 := by rw [F2.2]; exact hS
  have hT2 := F2.tc hT
  change LC κ2 T (rd1 T K (.inr (nx T s))) at l2
  refine Wp.n (pc' := 50) 3 rfl ?_
  refine Wp.callV (len := 3) rfl rfl rfl (rfl) rfl (by decide) rfl (k_tW 7 wno_7 (by decide) hT2 hS2 (HW_r hW) l2) ?_
  rintro _ _ ⟨rfl, κ3, rfl, f3, l3⟩
  have F3 := F2.t f3
  have hG3 : κ3.2.2.2 1 = some 83 := by rw [F3.2]; exact hG
  have hS3 : κ3.2.2.2 0 = some 33 := by rw [F3.2]; exact hS
  have hT3 := F3.tc hT
  change LC κ3 T (rd2 T K (.inr (nx T s))) at l3
  refine Wp.n (pc' := 56) 3 rfl ?_
  refine Wp.nz1 (x := 0) (tgt := 63) (len := 3) rfl (by omega) (fun h56 => ?_) (fun h56 => ?_)
  · omega
  · skip
    refine Wp.n (pc' := 64) 2 rfl ?_
    refine Wp.callV (len := 3) rfl rfl rfl (rfl) rfl (by decide) rfl (k_takeOther (w := true) (a := nmV T (.inr (nx T s))) (f := rdo T K (.inr (nx T s))) hT3 hS3 hG3 l3 hK1 ok hP (fun q => ⟨ha (gd_wd q), by have := nm_le (gd_wd (T := T) q); omega⟩) (fun q v => by unfold rdo; simp)) ?_
    rintro _ _ ⟨b, rfl, hb, κ4, rfl, f4, l4⟩
    have F4 := F3.t f4
    have hG4 : κ4.2.2.2 1 = some 83 := by rw [F4.2]; exact hG
    have hS4 : κ4.2.2.2 0 = some 33 := by rw [F4.2]; exact hS
    have hT4 := F4.tc hT
    change LC κ4 T (rd3 T K (.inr (nx T s))) at l4
    refine Wp.n (pc' := 78) 9 rfl ?_
    refine Wp.dk hA L1 2 rfl (len := 3) rfl (fun ρ2 L2 => ?_)
    refine Wp.n (pc' := 86) 4 rfl ?_
    refine Wp.callV (len := 3) rfl rfl rfl (rfl) rfl (by decide) rfl (k_takeNumber (lo := 1) (hi := 30) hT4 hS4 l4 (fun q => ⟨rfl, rfl, by decide, by decide⟩)) ?_
    rintro _ _ ⟨c, rfl, hc, κ5, rfl, f5, l5⟩
    have F5 := F4.t f5
    have hG5 : κ5.2.2.2 1 = some 83 := by rw [F5.2]; exact hG
    have hS5 : κ5.2.2.2 0 = some 33 := by rw [F5.2]; exact hS
    have hT5 := F5.tc hT
    change LC κ5 T (rd4 T K (.inr (nx T s))) at l5
    refine Wp.dk hA L2 3 rfl (len := 3) rfl (fun ρ3 L3 => ?_)
    refine Wp.n (pc' := 94) 2 rfl ?_
    refine Wp.nc1 (x := 0) (y := 1) (tgt := 148) (len := 3) rfl (by omega) (by omega) (fun h94 => ?_) (fun h94 => ?_)
    · skip
      refine Wp.n (pc' := 150) 2 rfl ?_
      refine Wp.nc0 (x := 0) (y := 1) (tgt := 158) (len := 3) rfl (by omega) (by omega) (fun h150 => ?_) (fun h150 => ?_)
      · omega
      · skip
        refine Wp.n (pc' := 155) 2 rfl ?_
        refine Wp.nc1 (x := 0) (y := 2) (tgt := 162) (len := 3) rfl (by omega) (by omega) (fun h155 => ?_) (fun h155 => ?_)
        · skip
          refine Wp.n (pc' := 167) 3 rfl ?_
          refine Wp.nz0 (x := 0) (tgt := 194) (len := 3) rfl (by omega) (fun h167 => ?_) (fun h167 => ?_)
          · skip
            refine k_road_e hB ok h2 hG5 F5 l5 L3 (fun q => ?_)
            have q3 : gd (rd3 T K (.inr (nx T s))) = true := gd_nm q
            have q1 : gd (rd1 T K (.inr (nx T s))) = true := gd_wd (gd_ot q3)
            obtain rfl := ha q1
            obtain rfl := hb q3
            obtain rfl := hc q
            exact ⟨g1, rfl, rfl, g2 6 (by decide) (by decide)⟩
          · omega
        · omega
    · omega
end CLR
end
section
/-! LINES, the class: a full row. -/
section CLO
variable {d : Nat} {M : AM} {κ κ' : CS} {T : TP} {st : St} {K : KD} {ρ ρ' : RC} {g : Nat → Int32} {Q : Option Value → AM → Prop}
theorem k_readFull {s k : Nat} (hT : TC κ T) (hG : κ.2.2.2 1 = some 83) (hL : LC κ T (.inr s)) (hB : BdC ρ K) (ok : KOK K) (hk : k ≤ 3) (hO : lkO K k = none) : Wp (d + 12) md_21 0 [some (.ref 35), some (.int (nI k)), none, none, none, none] [] (cset (rset M 83 ρ) κ) (RCn M κ T (.inl (3, s)) K) := by
  refine Wp.n (pc' := 1) 1 rfl ?_
  refine Wp.get (len := 3) rfl (rfl) rfl ?_
  refine Wp.topR hG ?_
  refine Wp.n (pc' := 5) 1 rfl ?_
  refine Wp.ecallV (len := 3) rfl rfl rfl (dobj) rfl (by decide) rfl (k_spareLink hB.1 ok hB.2.2 hk) ?_
  rw [hO]
  refine Wp.n (pc' := 10) 2 rfl ?_
  refine Wp.s (pc' := 13) rfl ?_
  refine Wp.n (pc' := 16) 3 rfl ?_
  refine Wp.get (len := 3) rfl (rfl) rfl ?_
  refine Wp.callV (len := 3) rfl rfl rfl (rfl) rfl (by decide) rfl (k_fail (p := s) (k := 3) hT hL (by decide) _ (fun _ => hL.2.2.2.1)) ?_
  rintro _ _ ⟨rfl, κ1, rfl, f1, l1⟩
  change LC κ1 T (.inl (3, s)) at l1
  refine Wp.retV (len := 1) rfl rfl ?_
  exact ⟨rfl, ρ, κ1, rfl, f1, l1, fun q => by cases q⟩
theorem RepC_l (hK : RepC ρ K) (ok : KOK K) (h11 : kh K 11 = 0) (F : LkF (12 + kh K 3) g ρ ρ') : RepC ρ' K := by
  obtain ⟨f1, f2, f3, f4, f5⟩ := F
  obtain ⟨r0, r1, r2, r3, r6, r8, r10, rl, rr, rn_, rw_⟩ := hK
  have b2 := (ok_h ok).2.2.1
  have b3 := (ok_h ok).2.2.2.1
  unfold RepC rhd rlw rwk rst at *
  rw [f1, f2, f3]
  refine ⟨r0, r1, r2, r3, r6, r8, r10, rl, fun i hi => ?_, fun l hl => ?_, rw_⟩
  · rw [f4 i (by omega)]; exact rr i hi
  · have e : phL K l = l := if_neg (by omega)
    have w := rn_ l hl
    rw [e] at w ⊢
    rw [f4 (12 + l) (by omega)]; exact w
theorem k_takeSpare1 {n k : Nat} (hk : 1 ≤ k ∧ k ≤ 3) (h8 : rhd ρ 8 = nI n) : Ev d md_30 0 [some (.ref 83), some (.int (nI k))] [] (cset (rset M 83 ρ) κ) (none, cset (rset M 83 (hset ρ 8 (nI (n + 1)))) κ) := by
  refine Wp.toEv ?_
  refine Wp.n (pc' := 1) 1 rfl ?_
  refine Wp.nz1 (x := k) (tgt := 17) (len := 3) rfl (by omega) (fun h1 => ?_) (fun h1 => ?_)
  · skip
    refine Wp.n (pc' := 19) 2 rfl ?_
    refine Wp.get (len := 3) rfl (dobj) rfl ?_
    refine Wp.top h8 ?_
    refine Wp.n (pc' := 23) 1 rfl ?_
    refine Wp.iaddN (x := n) (y := 1) (len := 1) rfl ?_
    refine Wp.dput (len := 3) 8 rfl rfl ?_
    refine Wp.retV (len := 1) rfl rfl ?_
    exact ⟨rfl, rfl⟩
  · omega
end CLO
end
section
/-! LINES, the class: the end of a lane's line. -/
section CLE
variable {d : Nat} {M : AM} {κ κ' : CS} {T : TP} {st : St} {K : KD} {ρ ρ' : RC} {g : Nat → Int32} {Q : Option Value → AM → Prop}
theorem k_lane_e {k : Nat} {G : Nat → Nat} {κ1 : CS} (hk : 1 ≤ k ∧ k ≤ 3) (hB : BdC ρ K) (ok : KOK K) (h3 : kh K 3 < 8) (hG : κ1.2.2.2 1 = some 83) (F : FA κ κ1) (l : LC κ1 T st) (L : LkF (12 + kh K 3) g ρ ρ') (hv : gd st = true → g 1 = nI (G 5 + 1) ∧ g 2 = bitsE (G 0) (G 1) ∧ g 3 = nI (G 2) ∧ g 4 = nI (G 3) ∧ g 5 = nI (G 4) ∧ g 6 = nI (G 6)) {x2 x3 x4 x5 : Option Value} : Wp (d + 12) md_21 194 [some (.ref 35), some (.int (nI k)), x2, x3, x4, x5] [] (cset (rset M 83 ρ') κ1) (RCn M κ T st (addL K G)) := by
  have e8 : rhd ρ' 8 = nI (kh K 3) := by
    show ρ'.1 8 = _
    rw [L.1]
    have w := hB.1.2.2.2.2.2.1
    rw [hB.2.2, Nat.add_zero] at w
    exact w
  rcases st with z | s
  · have z1 := l.2.1
    have z3 := l.2.2.1
    refine Wp.n (pc' := 195) 1 rfl ?_
    refine Wp.get (len := 3) rfl (rfl) rfl ?_
    refine Wp.top l.1 ?_
    refine Wp.nz1 (x := z.1) (tgt := 209) (len := 3) rfl (by omega) (fun h198 => ?_) (fun h198 => ?_)
    · skip
      refine Wp.retV (len := 1) rfl rfl ?_
      exact ⟨rfl, ρ', κ1, rfl, F, l, fun q => by cases q⟩
    · omega
  · have vv := hv rfl
    refine Wp.n (pc' := 195) 1 rfl ?_
    refine Wp.get (len := 3) rfl (rfl) rfl ?_
    refine Wp.top l.1 ?_
    refine Wp.nz1 (x := 0) (tgt := 209) (len := 3) rfl (by omega) (fun h198 => ?_) (fun h198 => ?_)
    · omega
    · skip
      refine Wp.n (pc' := 202) 1 rfl ?_
      refine Wp.get (len := 3) rfl (rfl) rfl ?_
      refine Wp.topR hG ?_
      refine Wp.n (pc' := 206) 1 rfl ?_
      refine Wp.ecallV (len := 3) rfl rfl rfl (dobj) rfl (by decide) rfl (k_takeSpare1 hk e8) ?_
      refine Wp.retV (len := 1) rfl rfl ?_
      refine ⟨rfl, _, κ1, rfl, F, l, fun _ => ?_⟩
      have hK1 := RepC_l hB.1 ok hB.2.2 L
      obtain ⟨_, hl, h11⟩ := hB
      obtain ⟨t0, t1, t2, t3, t6, t8, t10, tl, tr, tn_, tw_⟩ := hK1
      have hl' : ∀ j, j < 5 → rlw ρ' j = nI (kh K (6 + j)) := fun j hj => by show ρ'.2.1 j = _; rw [L.2.1]; exact hl j hj
      have ek : ∀ j, j ≠ 3 → kh (addL K G) j = kh K j := fun j hj => if_neg hj
      have e11 : kh (addL K G) 11 = 0 := h11
      refine ⟨⟨t0, t1, t2, t3, t6, ?_, t10, fun _ j hj => ?_, tr, fun i hi => ?_, tw_⟩, fun j hj => ?_, h11⟩
      · show nI (kh K 3 + 1) = nI (kh K 3 + 1 + kh K 11)
        rw [h11]
      · rw [ek (6 + j) (by omega)]; exact hl' j hj
      · rw [e11] at hi
        have hi' : i < kh K 3 + 1 := by
          rcases hi with hi | hi
          · exact hi
          · omega
        have ep : phL (addL K G) i = i := if_neg (by omega)
        have el : kl (addL K G) i = if i = kh K 3 then G else kl K i := rfl
        rw [ep, el]
        by_cases q : i = kh K 3
        · rw [if_pos q, q]
          show rlk ρ' (12 + kh K 3) 1 = _ ∧ rlk ρ' (12 + kh K 3) 2 = _ ∧ rlk ρ' (12 + kh K 3) 3 = _ ∧ rlk ρ' (12 + kh K 3) 4 = _ ∧ rlk ρ' (12 + kh K 3) 5 = _ ∧ rlk ρ' (12 + kh K 3) 6 = _
          rw [L.2.2.2.2]
          exact vv
        · rw [if_neg q]
          have w := tn_ i (Or.inl (by omega))
          rw [show phL K i = i from if_neg (by omega)] at w
          exact w
      · rw [ek (6 + j) (by omega)]; exact hl' j hj
end CLE
end
section
/-! LINES, the class: fords and boats, lanes. -/
section CLL
variable {d : Nat} {M : AM} {κ κ' : CS} {T : TP} {st : St} {K : KD} {ρ ρ' : RC} {g : Nat → Int32} {Q : Option Value → AM → Prop}
theorem k_readLane3 {s : Nat} (hT : TC κ T) (hS : κ.2.2.2 0 = some 33) (hG : κ.2.2.2 1 = some 83) (hW : HW M) (hL : LC κ T (.inr s)) (hB : BdC ρ K) (ok : KOK K) (hP : 2 ≤ kh K 0) (hD : 1 ≤ kh K 1) (h3 : kh K 3 < 8) : Wp (d + 12) md_21 0 [some (.ref 35), some (.int (nI 3)), none, none, none, none] [] (cset (rset M 83 ρ) κ) (RCn M κ T (ln7 T K 2 (.inr (nx T s))) (lnK T K 2 (.inr (nx T s)))) := by
  have b0 := (ok_h ok).1
  have b1 := (ok_h ok).2.1
  have F0 : FA κ κ := FA.r
  have hA : lkA (12 + kh K 3) (83 + 16 + kh K 3) := Or.inr ⟨by omega, by omega, by omega⟩
  have hO : lkO K 3 = some (83 + 16 + kh K 3) := (if_neg (by decide)).trans (if_pos h3)
  refine Wp.n (pc' := 1) 1 rfl ?_
  refine Wp.get (len := 3) rfl (rfl) rfl ?_
  refine Wp.topR hG ?_
  refine Wp.n (pc' := 5) 1 rfl ?_
  refine Wp.ecallV (len := 3) rfl rfl rfl (dobj) rfl (by decide) rfl (k_spareLink (k := 3) hB.1 ok hB.2.2 (by decide)) ?_
  refine Wp.topR hO ?_
  refine Wp.n (pc' := 10) 2 rfl ?_
  refine Wp.s (pc' := 23) rfl ?_
  refine Wp.n (pc' := 25) 2 rfl ?_
  refine Wp.callV (len := 3) rfl rfl rfl (dlane (by omega)) rfl (by omega) rfl (k_linkBeginD hA) ?_
  rintro _ _ ⟨rfl, ρ1, g, rfl, L1, g1, g2⟩
  have hK1 := RepC_l hB.1 ok hB.2.2 L1
  refine Wp.n (pc' := 29) 1 rfl ?_
  refine Wp.callV (len := 3) rfl rfl rfl (rfl) rfl (by decide) rfl (k_advance hT hS hL) ?_
  rintro _ _ ⟨rfl, κ1, rfl, f1, l1⟩
  have F1 := F0.t f1
  have hG1 : κ1.2.2.2 1 = some 83 := by rw [F1.2]; exact hG
  have hS1 : κ1.2.2.2 0 = some 33 := by rw [F1.2]; exact hS
  have hT1 := F1.tc hT
  refine Wp.n (pc' := 35) 3 rfl ?_
  refine Wp.get (len := 3) rfl (rfl) rfl ?_
  refine Wp.topR hG1 ?_
  refine Wp.get (len := 3) rfl (dobj) rfl ?_
  refine Wp.top (show ρ1.1 0 = nI (kh K 0) by rw [L1.1]; exact hB.1.1) ?_
  refine Wp.n (pc' := 42) 1 rfl ?_
  refine Wp.isubN (x := kh K 0) (y := 1) (len := 1) rfl (by omega) ?_
  refine Wp.callV (len := 3) rfl rfl rfl (rfl) rfl (by decide) rfl (k_takeNumber (lo := 0) (hi := kh K 0 - 1) hT1 hS1 l1 (fun q => ⟨rfl, rfl, by omega, by omega⟩)) ?_
  rintro _ _ ⟨a, rfl, ha, κ2, rfl, f2, l2⟩
  have F2 := F1.t f2
  have hG2 : κ2.2.2.2 1 = some 83 := by rw [F2.2]; exact hG
  have hS2 : κ2.2.2.2 0 = some 33 := by rw [F2.2]; exact hS
  have hT2 := F2.tc hT
  change LC κ2 T (rd1 T K (.inr (nx T s))) at l2
  refine Wp.n (pc' := 50) 3 rfl ?_
  refine Wp.callV (len := 3) rfl rfl rfl (rfl) rfl (by decide) rfl (k_tW 7 wno_7 (by decide) hT2 hS2 (HW_r hW) l2) ?_
  rintro _ _ ⟨rfl, κ3, rfl, f3, l3⟩
  have F3 := F2.t f3
  have hG3 : κ3.2.2.2 1 = some 83 := by rw [F3.2]; exact hG
  have hS3 : κ3.2.2.2 0 = some 33 := by rw [F3.2]; exact hS
  have hT3 := F3.tc hT
  change LC κ3 T (rd2 T K (.inr (nx T s))) at l3
  refine Wp.n (pc' := 56) 3 rfl ?_
  refine Wp.nz1 (x := 3) (tgt := 63) (len := 3) rfl (by omega) (fun h56 => ?_) (fun h56 => ?_)
  · skip
    refine Wp.n (pc' := 64) 1 rfl ?_
    refine Wp.callV (len := 3) rfl rfl rfl (rfl) rfl (by decide) rfl (k_takeOther (w := false) (a := nmV T (.inr (nx T s))) (f := lno T (.inr (nx T s))) hT3 hS3 hG3 l3 hK1 ok hP (fun q => ⟨ha (gd_wd q), by have := nm_le (gd_wd (T := T) q); omega⟩) (fun q v => by unfold lno; simp)) ?_
    rintro _ _ ⟨b, rfl, hb, κ4, rfl, f4, l4⟩
    have F4 := F3.t f4
    have hG4 : κ4.2.2.2 1 = some 83 := by rw [F4.2]; exact hG
    have hS4 : κ4.2.2.2 0 = some 33 := by rw [F4.2]; exact hS
    have hT4 := F4.tc hT
    change LC κ4 T (ln3 T K (.inr (nx T s))) at l4
    refine Wp.n (pc' := 78) 9 rfl ?_
    refine Wp.dk hA L1 2 rfl (len := 3) rfl (fun ρ2 L2 => ?_)
    refine Wp.n (pc' := 86) 4 rfl ?_
    refine Wp.callV (len := 3) rfl rfl rfl (rfl) rfl (by decide) rfl (k_takeNumber (lo := 1) (hi := 30) hT4 hS4 l4 (fun q => ⟨rfl, rfl, by decide, by decide⟩)) ?_
    rintro _ _ ⟨c, rfl, hc, κ5, rfl, f5, l5⟩
    have F5 := F4.t f5
    have hG5 : κ5.2.2.2 1 = some 83 := by rw [F5.2]; exact hG
    have hS5 : κ5.2.2.2 0 = some 33 := by rw [F5.2]; exact hS
    have hT5 := F5.tc hT
    change LC κ5 T (ln4 T K (.inr (nx T s))) at l5
    refine Wp.dk hA L2 3 rfl (len := 3) rfl (fun ρ3 L3 => ?_)
    refine Wp.n (pc' := 94) 2 rfl ?_
    refine Wp.nc1 (x := 3) (y := 1) (tgt := 148) (len := 3) rfl (by omega) (by omega) (fun h94 => ?_) (fun h94 => ?_)
    · skip
      refine Wp.n (pc' := 150) 2 rfl ?_
      refine Wp.nc0 (x := 3) (y := 1) (tgt := 158) (len := 3) rfl (by omega) (by omega) (fun h150 => ?_) (fun h150 => ?_)
      · omega
      · skip
        refine Wp.n (pc' := 155) 2 rfl ?_
        refine Wp.nc1 (x := 3) (y := 2) (tgt := 162) (len := 3) rfl (by omega) (by omega) (fun h155 => ?_) (fun h155 => ?_)
        · skip
          refine Wp.n (pc' := 167) 3 rfl ?_
          refine Wp.nz0 (x := 0) (tgt := 194) (len := 3) rfl (by omega) (fun h167 => ?_) (fun h167 => ?_)
          · skip
            have e6 : ln6 T K 2 (.inr (nx T s)) = ln4 T K (.inr (nx T s)) := if_neg (by decide)
            have hw : lnw T K 2 (.inr (nx T s)) = false := rfl
            have e7 : ln7 T K 2 (.inr (nx T s)) = ln4 T K (.inr (nx T s)) := (if_neg (by rw [hw]; decide)).trans e6
            rw [e7]
            refine k_lane_e (G := lnR T K 2 (.inr (nx T s))) (by decide) hB ok h3 hG5 F5 l5 L3 (fun q => ?_)
            have q3 : gd (ln3 T K (.inr (nx T s))) = true := gd_nm q
            have q1 : gd (rd1 T K (.inr (nx T s))) = true := gd_wd (gd_ot q3)
            obtain rfl := ha q1
            obtain rfl := hb q3
            obtain rfl := hc q
            exact ⟨g1, rfl, rfl, g2 4 (by decide) (by decide), g2 5 (by decide) (by decide), g2 6 (by decide) (by decide)⟩
          · omega
        · omega
    · omega
  · omega
end CLL
end
section
/-! LINES, the class: fords. -/
section CLO2
variable {d : Nat} {M : AM} {κ κ' : CS} {T : TP} {st : St} {K : KD} {ρ ρ' : RC} {g : Nat → Int32} {Q : Option Value → AM → Prop}
theorem k_readLane2 {s : Nat} (hT : TC κ T) (hS : κ.2.2.2 0 = some 33) (hG : κ.2.2.2 1 = some 83) (hW : HW M) (hL : LC κ T (.inr s)) (hB : BdC ρ K) (ok : KOK K) (hP : 2 ≤ kh K 0) (hD : 1 ≤ kh K 1) (h3 : kh K 3 < 8) : Wp (d + 12) md_21 0 [some (.ref 35), some (.int (nI 2)), none, none, none, none] [] (cset (rset M 83 ρ) κ) (RCn M κ T (ln7 T K 1 (.inr (nx T s))) (lnK T K 1 (.inr (nx T s)))) := by
  have b0 := (ok_h ok).1
  have b1 := (ok_h ok).2.1
  have F0 : FA κ κ := FA.r
  have hA : lkA (12 + kh K 3) (83 + 16 + kh K 3) := Or.inr ⟨by omega, by omega, by omega⟩
  have hO : lkO K 2 = some (83 + 16 + kh K 3) := (if_neg (by decide)).trans (if_pos h3)
  refine Wp.n (pc' := 1) 1 rfl ?_
  refine Wp.get (len := 3) rfl (rfl) rfl ?_
  refine Wp.topR hG ?_
  refine Wp.n (pc' := 5) 1 rfl ?_
  refine Wp.ecallV (len := 3) rfl rfl rfl (dobj) rfl (by decide) rfl (k_spareLink (k := 2) hB.1 ok hB.2.2 (by decide)) ?_
  refine Wp.topR hO ?_
  refine Wp.n (pc' := 10) 2 rfl ?_
  refine Wp.s (pc' := 23) rfl ?_
  refine Wp.n (pc' := 25) 2 rfl ?_
  refine Wp.callV (len := 3) rfl rfl rfl (dlane (by omega)) rfl (by omega) rfl (k_linkBeginD hA) ?_
  rintro _ _ ⟨rfl, ρ1, g, rfl, L1, g1, g2⟩
  have hK1 := RepC_l hB.1 ok hB.2.2 L1
  refine Wp.n (pc' := 29) 1 rfl ?_
  refine Wp.callV (len := 3) rfl rfl rfl (rfl) rfl (by decide) rfl (k_advance hT hS hL) ?_
  rintro _ _ ⟨rfl, κ1, rfl, f1, l1⟩
  have F1 := F0.t f1
  have hG1 : κ1.2.2.2 1 = some 83 := by rw [F1.2]; exact hG
  have hS1 : κ1.2.2.2 0 = some 33 := by rw [F1.2]; exact hS
  have hT1 := F1.tc hT
  refine Wp.n (pc' := 35) 3 rfl ?_
  refine Wp.get (len := 3) rfl (rfl) rfl ?_
  refine Wp.topR hG1 ?_
  refine Wp.get (len := 3) rfl (dobj) rfl ?_
  refine Wp.top (show ρ1.1 0 = nI (kh K 0) by rw [L1.1]; exact hB.1.1) ?_
  refine Wp.n (pc' := 42) 1 rfl ?_
  refine Wp.isubN (x := kh K 0) (y := 1) (len := 1) rfl (by omega) ?_
  refine Wp.callV (len := 3) rfl rfl rfl (rfl) rfl (by decide) rfl (k_takeNumber (lo := 0) (hi := kh K 0 - 1) hT1 hS1 l1 (fun q => ⟨rfl, rfl, by omega, by omega⟩)) ?_
  rintro _ _ ⟨a, rfl, ha, κ2, rfl, f2, l2⟩
  have F2 := F1.t f2
  have hG2 : κ2.2.2.2 1 = some 83 := by rw [F2.2]; exact hG
  have hS2 : κ2.2.2.2 0 = some 33 := by rw [F2.2]; exact hS
  have hT2 := F2.tc hT
  change LC κ2 T (rd1 T K (.inr (nx T s))) at l2
  refine Wp.n (pc' := 50) 3 rfl ?_
  refine Wp.callV (len := 3) rfl rfl rfl (rfl) rfl (by decide) rfl (k_tW 7 wno_7 (by decide) hT2 hS2 (HW_r hW) l2) ?_
  rintro _ _ ⟨rfl, κ3, rfl, f3, l3⟩
  have F3 := F2.t f3
  have hG3 : κ3.2.2.2 1 = some 83 := by rw [F3.2]; exact hG
  have hS3 : κ3.2.2.2 0 = some 33 := by rw [F3.2]; exact hS
  have hT3 := F3.tc hT
  change LC κ3 T (rd2 T K (.inr (nx T s))) at l3
  refine Wp.n (pc' := 56) 3 rfl ?_
  refine Wp.nz1 (x := 2) (tgt := 63) (len := 3) rfl (by omega) (fun h56 => ?_) (fun h56 => ?_)
  · skip
    refine Wp.n (pc' := 64) 1 rfl ?_
    refine Wp.callV (len := 3) rfl rfl rfl (rfl) rfl (by decide) rfl (k_takeOther (w := false) (a := nmV T (.inr (nx T s))) (f := lno T (.inr (nx T s))) hT3 hS3 hG3 l3 hK1 ok hP (fun q => ⟨ha (gd_wd q), by have := nm_le (gd_wd (T := T) q); omega⟩) (fun q v => by unfold lno; simp)) ?_
    rintro _ _ ⟨b, rfl, hb, κ4, rfl, f4, l4⟩
    have F4 := F3.t f4
    have hG4 : κ4.2.2.2 1 = some 83 := by rw [F4.2]; exact hG
    have hS4 : κ4.2.2.2 0 = some 33 := by rw [F4.2]; exact hS
    have hT4 := F4.tc hT
    change LC κ4 T (ln3 T K (.inr (nx T s))) at l4
    refine Wp.n (pc' := 78) 9 rfl ?_
    refine Wp.dk hA L1 2 rfl (len := 3) rfl (fun ρ2 L2 => ?_)
    refine Wp.n (pc' := 86) 4 rfl ?_
    refine Wp.callV (len := 3) rfl rfl rfl (rfl) rfl (by decide) rfl (k_takeNumber (lo := 1) (hi := 30) hT4 hS4 l4 (fun q => ⟨rfl, rfl, by decide, by decide⟩)) ?_
    rintro _ _ ⟨c, rfl, hc, κ5, rfl, f5, l5⟩
    have F5 := F4.t f5
    have hG5 : κ5.2.2.2 1 = some 83 := by rw [F5.2]; exact hG
    have hS5 : κ5.2.2.2 0 = some 33 := by rw [F5.2]; exact hS
    have hT5 := F5.tc hT
    change LC κ5 T (ln4 T K (.inr (nx T s))) at l5
    refine Wp.dk hA L2 3 rfl (len := 3) rfl (fun ρ3 L3 => ?_)
    refine Wp.n (pc' := 94) 2 rfl ?_
    refine Wp.nc1 (x := 2) (y := 1) (tgt := 148) (len := 3) rfl (by omega) (by omega) (fun h94 => ?_) (fun h94 => ?_)
    · skip
      refine Wp.n (pc' := 150) 2 rfl ?_
      refine Wp.nc0 (x := 2) (y := 1) (tgt := 158) (len := 3) rfl (by omega) (by omega) (fun h150 => ?_) (fun h150 => ?_)
      · omega
      · skip
        refine Wp.n (pc' := 155) 2 rfl ?_
        refine Wp.nc1 (x := 2) (y := 2) (tgt := 162) (len := 3) rfl (by omega) (by omega) (fun h155 => ?_) (fun h155 => ?_)
        · omega
        · skip
          refine Wp.n (pc' := 167) 4 rfl ?_
          refine Wp.nz0 (x := 1) (tgt := 194) (len := 3) rfl (by omega) (fun h167 => ?_) (fun h167 => ?_)
          · omega
          · skip
            obtain ⟨c1, e1, i1⟩ := k_iW (d := d + 2) 9 wno_9 (by decide) hT5 hS5 (HW_r (ρ := ρ3) hW) l5
            have e6 : ln6 T K 1 (.inr (nx T s)) = ln4 T K (.inr (nx T s)) := if_neg (by decide)
            refine Wp.n (pc' := 173) 2 rfl ?_
            refine Wp.ecallV (len := 3) rfl rfl rfl (rfl) rfl (by decide) rfl (e1) ?_
            refine Wp.ifb0 (tgt := 194) (len := 3) rfl (fun h176 => ?_) (fun h176 => ?_)
            · skip
              rcases hq : ln4 T K (.inr (nx T s)) with z | s4
              · have hw : lnw T K 1 (.inr (nx T s)) = false := by unfold lnw; rw [e6, hq]; rfl
                have e7 : ln7 T K 1 (.inr (nx T s)) = .inl z := (if_neg (by rw [hw]; decide)).trans (e6.trans hq)
                rw [e7]
                first
                  | (rw [hq] at l7
                     exact k_lane_e (st := .inl z) (by decide) hB ok h3 hG7 F7 l7 L4 (fun q => by cases q))
                  | (rw [hq] at l5
                     exact k_lane_e (st := .inl z) (by decide) hB ok h3 hG5 F5 l5 L3 (fun q => by cases q))
              · have g4 : gd (ln4 T K (.inr (nx T s))) = true := by rw [hq]; rfl
                have q3 : gd (ln3 T K (.inr (nx T s))) = true := gd_nm g4
                have q1 : gd (rd1 T K (.inr (nx T s))) = true := gd_wd (gd_ot q3)
                obtain rfl := ha q1
                obtain rfl := hb q3
                obtain rfl := hc g4
                have i2 : c1 = isW T s4 8935713994 := i1 s4 hq
                have hw : lnw T K 1 (.inr (nx T s)) = c1 := by unfold lnw; rw [e6, hq, i2]; rfl
                first
                  | (have hc1 : c1 = true := h176
                     have e7 : ln7 T K 1 (.inr (nx T s)) = nmS T 0 100 (adS T (ln4 T K (.inr (nx T s)))) := (if_pos (hw.trans hc1)).trans (by rw [e6])
                     rw [e7]
                     refine k_lane_e (G := lnR T K 1 (.inr (nx T s))) (by decide) hB ok h3 hG7 F7 l7 L4 (fun q => ?_)
                     refine ⟨g1, rfl, rfl, g2 4 (by decide) (by decide), g2 5 (by decide) (by decide), ?_⟩
                     show x = nI (if lnw T K 1 (.inr (nx T s)) = true then nmV T (adS T (ln6 T K 1 (.inr (nx T s)))) else 0)
                     rw [if_pos (hw.trans hc1), e6]
                     exact hx q)
                  | (have hc1 : c1 = false := h176
                     have e7 : ln7 T K 1 (.inr (nx T s)) = ln4 T K (.inr (nx T s)) := (if_neg (by rw [hw, hc1]; decide)).trans e6
                     rw [e7]
                     refine k_lane_e (G := lnR T K 1 (.inr (nx T s))) (by decide) hB ok h3 hG5 F5 l5 L3 (fun q => ?_)
                     refine ⟨g1, rfl, rfl, g2 4 (by decide) (by decide), g2 5 (by decide) (by decide), ?_⟩
                     show g 6 = nI (if lnw T K 1 (.inr (nx T s)) = true then nmV T (adS T (ln6 T K 1 (.inr (nx T s)))) else 0)
                     rw [if_neg (by rw [hw, hc1]; decide)]
                     exact g2 6 (by decide) (by decide))
            · skip
              refine Wp.n (pc' := 180) 1 rfl ?_
              refine Wp.callV (len := 3) rfl rfl rfl (rfl) rfl (by decide) rfl (k_advance hT5 hS5 l5) ?_
              rintro _ _ ⟨rfl, κ6, rfl, f6, l6⟩
              have F6 := F5.t f6
              have hG6 : κ6.2.2.2 1 = some 83 := by rw [F6.2]; exact hG
              have hS6 : κ6.2.2.2 0 = some 33 := by rw [F6.2]; exact hS
              have hT6 := F6.tc hT
              refine Wp.n (pc' := 188) 4 rfl ?_
              refine Wp.callV (len := 3) rfl rfl rfl (rfl) rfl (by decide) rfl (k_takeNumber (lo := 0) (hi := 100) hT6 hS6 l6 (fun q => ⟨rfl, rfl, by decide, by decide⟩)) ?_
              rintro _ _ ⟨x, rfl, hx, κ7, rfl, f7, l7⟩
              have F7 := F6.t f7
              have hG7 : κ7.2.2.2 1 = some 83 := by rw [F7.2]; exact hG
              have hS7 : κ7.2.2.2 0 = some 33 := by rw [F7.2]; exact hS
              have hT7 := F7.tc hT
              refine Wp.dk hA L3 6 rfl (len := 3) rfl (fun ρ4 L4 => ?_)
              rcases hq : ln4 T K (.inr (nx T s)) with z | s4
              · have hw : lnw T K 1 (.inr (nx T s)) = false := by unfold lnw; rw [e6, hq]; rfl
                have e7 : ln7 T K 1 (.inr (nx T s)) = .inl z := (if_neg (by rw [hw]; decide)).trans (e6.trans hq)
                rw [e7]
                first
                  | (rw [hq] at l7
                     exact k_lane_e (st := .inl z) (by decide) hB ok h3 hG7 F7 l7 L4 (fun q => by cases q))
                  | (rw [hq] at l5
                     exact k_lane_e (st := .inl z) (by decide) hB ok h3 hG5 F5 l5 L3 (fun q => by cases q))
              · have g4 : gd (ln4 T K (.inr (nx T s))) = true := by rw [hq]; rfl
                have q3 : gd (ln3 T K (.inr (nx T s))) = true := gd_nm g4
                have q1 : gd (rd1 T K (.inr (nx T s))) = true := gd_wd (gd_ot q3)
                obtain rfl := ha q1
                obtain rfl := hb q3
                obtain rfl := hc g4
                have i2 : c1 = isW T s4 8935713994 := i1 s4 hq
                have hw : lnw T K 1 (.inr (nx T s)) = c1 := by unfold lnw; rw [e6, hq, i2]; rfl
                first
                  | (have hc1 : c1 = true := h176
                     have e7 : ln7 T K 1 (.inr (nx T s)) = nmS T 0 100 (adS T (ln4 T K (.inr (nx T s)))) := (if_pos (hw.trans hc1)).trans (by rw [e6])
                     rw [e7]
                     refine k_lane_e (G := lnR T K 1 (.inr (nx T s))) (by decide) hB ok h3 hG7 F7 l7 L4 (fun q => ?_)
                     refine ⟨g1, rfl, rfl, g2 4 (by decide) (by decide), g2 5 (by decide) (by decide), ?_⟩
                     show x = nI (if lnw T K 1 (.inr (nx T s)) = true then nmV T (adS T (ln6 T K 1 (.inr (nx T s)))) else 0)
                     rw [if_pos (hw.trans hc1), e6]
                     exact hx q)
                  | (have hc1 : c1 = false := h176
                     have e7 : ln7 T K 1 (.inr (nx T s)) = ln4 T K (.inr (nx T s)) := (if_neg (by rw [hw, hc1]; decide)).trans e6
                     rw [e7]
                     refine k_lane_e (G := lnR T K 1 (.inr (nx T s))) (by decide) hB ok h3 hG5 F5 l5 L3 (fun q => ?_)
                     refine ⟨g1, rfl, rfl, g2 4 (by decide) (by decide), g2 5 (by decide) (by decide), ?_⟩
                     show g 6 = nI (if lnw T K 1 (.inr (nx T s)) = true then nmV T (adS T (ln6 T K 1 (.inr (nx T s)))) else 0)
                     rw [if_neg (by rw [hw, hc1]; decide)]
                     exact g2 6 (by decide) (by decide))
    · omega
  · omega
end CLO2
end
section
/-! LINES, the class: lanes. -/
section CLO3
variable {d : Nat} {M : AM} {κ κ' : CS} {T : TP} {st : St} {K : KD} {ρ ρ' : RC} {g : Nat → Int32} {Q : Option Value → AM → Prop}
theorem k_readLane1 {s : Nat} (hT : TC κ T) (hS : κ.2.2.2 0 = some 33) (hG : κ.2.2.2 1 = some 83) (hW : HW M) (hL : LC κ T (.inr s)) (hB : BdC ρ K) (ok : KOK K) (hP : 2 ≤ kh K 0) (hD : 1 ≤ kh K 1) (h3 : kh K 3 < 8) : Wp (d + 12) md_21 0 [some (.ref 35), some (.int (nI 1)), none, none, none, none] [] (cset (rset M 83 ρ) κ) (RCn M κ T (ln7 T K 0 (.inr (nx T s))) (lnK T K 0 (.inr (nx T s)))) := by
  have b0 := (ok_h ok).1
  have b1 := (ok_h ok).2.1
  have F0 : FA κ κ := FA.r
  have hA : lkA (12 + kh K 3) (83 + 16 + kh K 3) := Or.inr ⟨by omega, by omega, by omega⟩
  have hO : lkO K 1 = some (83 + 16 + kh K 3) := (if_neg (by decide)).trans (if_pos h3)
  refine Wp.n (pc' := 1) 1 rfl ?_
  refine Wp.get (len := 3) rfl (rfl) rfl ?_
  refine Wp.topR hG ?_
  refine Wp.n (pc' := 5) 1 rfl ?_
  refine Wp.ecallV (len := 3) rfl rfl rfl (dobj) rfl (by decide) rfl (k_spareLink (k := 1) hB.1 ok hB.2.2 (by decide)) ?_
  refine Wp.topR hO ?_
  refine Wp.n (pc' := 10) 2 rfl ?_
  refine Wp.s (pc' := 23) rfl ?_
  refine Wp.n (pc' := 25) 2 rfl ?_
  refine Wp.callV (len := 3) rfl rfl rfl (dlane (by omega)) rfl (by omega) rfl (k_linkBeginD hA) ?_
  rintro _ _ ⟨rfl, ρ1, g, rfl, L1, g1, g2⟩
  have hK1 := RepC_l hB.1 ok hB.2.2 L1
  refine Wp.n (pc' := 29) 1 rfl ?_
  refine Wp.callV (len := 3) rfl rfl rfl (rfl) rfl (by decide) rfl (k_advance hT hS hL) ?_
  rintro _ _ ⟨rfl, κ1, rfl, f1, l1⟩
  have F1 := F0.t f1
  have hG1 : κ1.2.2.2 1 = some 83 := by rw [F1.2]; exact hG
  have hS1 : κ1.2.2.2 0 = some 33 := by rw [F1.2]; exact hS
  have hT1 := F1.tc hT
  refine Wp.n (pc' := 35) 3 rfl ?_
  refine Wp.get (len := 3) rfl (rfl) rfl ?_
  refine Wp.topR hG1 ?_
  refine Wp.get (len := 3) rfl (dobj) rfl ?_
  refine Wp.top (show ρ1.1 0 = nI (kh K 0) by rw [L1.1]; exact hB.1.1) ?_
  refine Wp.n (pc' := 42) 1 rfl ?_
  refine Wp.isubN (x := kh K 0) (y := 1) (len := 1) rfl (by omega) ?_
  refine Wp.callV (len := 3) rfl rfl rfl (rfl) rfl (by decide) rfl (k_takeNumber (lo := 0) (hi := kh K 0 - 1) hT1 hS1 l1 (fun q => ⟨rfl, rfl, by omega, by omega⟩)) ?_
  rintro _ _ ⟨a, rfl, ha, κ2, rfl, f2, l2⟩
  have F2 := F1.t f2
  have hG2 : κ2.2.2.2 1 = some 83 := by rw [F2.2]; exact hG
  have hS2 : κ2.2.2.2 0 = some 33 := by rw [F2.2]; exact hS
  have hT2 := F2.tc hT
  change LC κ2 T (rd1 T K (.inr (nx T s))) at l2
  refine Wp.n (pc' := 50) 3 rfl ?_
  refine Wp.callV (len := 3) rfl rfl rfl (rfl) rfl (by decide) rfl (k_tW 7 wno_7 (by decide) hT2 hS2 (HW_r hW) l2) ?_
  rintro _ _ ⟨rfl, κ3, rfl, f3, l3⟩
  have F3 := F2.t f3
  have hG3 : κ3.2.2.2 1 = some 83 := by rw [F3.2]; exact hG
  have hS3 : κ3.2.2.2 0 = some 33 := by rw [F3.2]; exact hS
  have hT3 := F3.tc hT
  change LC κ3 T (rd2 T K (.inr (nx T s))) at l3
  refine Wp.n (pc' := 56) 3 rfl ?_
  refine Wp.nz1 (x := 1) (tgt := 63) (len := 3) rfl (by omega) (fun h56 => ?_) (fun h56 => ?_)
  · skip
    refine Wp.n (pc' := 64) 1 rfl ?_
    refine Wp.callV (len := 3) rfl rfl rfl (rfl) rfl (by decide) rfl (k_takeOther (w := false) (a := nmV T (.inr (nx T s))) (f := lno T (.inr (nx T s))) hT3 hS3 hG3 l3 hK1 ok hP (fun q => ⟨ha (gd_wd q), by have := nm_le (gd_wd (T := T) q); omega⟩) (fun q v => by unfold lno; simp)) ?_
    rintro _ _ ⟨b, rfl, hb, κ4, rfl, f4, l4⟩
    have F4 := F3.t f4
    have hG4 : κ4.2.2.2 1 = some 83 := by rw [F4.2]; exact hG
    have hS4 : κ4.2.2.2 0 = some 33 := by rw [F4.2]; exact hS
    have hT4 := F4.tc hT
    change LC κ4 T (ln3 T K (.inr (nx T s))) at l4
    refine Wp.n (pc' := 78) 9 rfl ?_
    refine Wp.dk hA L1 2 rfl (len := 3) rfl (fun ρ2 L2 => ?_)
    refine Wp.n (pc' := 86) 4 rfl ?_
    refine Wp.callV (len := 3) rfl rfl rfl (rfl) rfl (by decide) rfl (k_takeNumber (lo := 1) (hi := 30) hT4 hS4 l4 (fun q => ⟨rfl, rfl, by decide, by decide⟩)) ?_
    rintro _ _ ⟨c, rfl, hc, κ5, rfl, f5, l5⟩
    have F5 := F4.t f5
    have hG5 : κ5.2.2.2 1 = some 83 := by rw [F5.2]; exact hG
    have hS5 : κ5.2.2.2 0 = some 33 := by rw [F5.2]; exact hS
    have hT5 := F5.tc hT
    change LC κ5 T (ln4 T K (.inr (nx T s))) at l5
    refine Wp.dk hA L2 3 rfl (len := 3) rfl (fun ρ3 L3 => ?_)
    refine Wp.n (pc' := 94) 2 rfl ?_
    refine Wp.nc1 (x := 1) (y := 1) (tgt := 148) (len := 3) rfl (by omega) (by omega) (fun h94 => ?_) (fun h94 => ?_)
    · omega
    · skip
      refine Wp.n (pc' := 100) 2 rfl ?_
      refine Wp.callV (len := 3) rfl rfl rfl (rfl) rfl (by decide) rfl (k_tW 8 wno_8 (by decide) hT5 hS5 (HW_r hW) l5) ?_
      rintro _ _ ⟨rfl, κ6, rfl, f6, l6⟩
      have F6 := F5.t f6
      have hG6 : κ6.2.2.2 1 = some 83 := by rw [F6.2]; exact hG
      have hS6 : κ6.2.2.2 0 = some 33 := by rw [F6.2]; exact hS
      have hT6 := F6.tc hT
      change LC κ6 T (lnf T K (.inr (nx T s))) at l6
      refine Wp.n (pc' := 107) 4 rfl ?_
      refine Wp.get (len := 3) rfl (rfl) rfl ?_
      refine Wp.topR hG6 ?_
      refine Wp.get (len := 3) rfl (dobj) rfl ?_
      refine Wp.top (show ρ3.1 1 = nI (kh K 1) by rw [L3.1]; exact hB.1.2.1) ?_
      refine Wp.n (pc' := 114) 1 rfl ?_
      refine Wp.isubN (x := kh K 1) (y := 1) (len := 1) rfl (by omega) ?_
      refine Wp.callV (len := 3) rfl rfl rfl (rfl) rfl (by decide) rfl (k_takeNumber (lo := 0) (hi := kh K 1 - 1) hT6 hS6 l6 (fun q => ⟨rfl, rfl, by omega, by omega⟩)) ?_
      rintro _ _ ⟨e, rfl, he, κ7, rfl, f7, l7⟩
      have F7 := F6.t f7
      have hG7 : κ7.2.2.2 1 = some 83 := by rw [F7.2]; exact hG
      have hS7 : κ7.2.2.2 0 = some 33 := by rw [F7.2]; exact hS
      have hT7 := F7.tc hT
      change LC κ7 T (ln5 T K (.inr (nx T s))) at l7
      refine Wp.dk hA L3 4 rfl (len := 3) rfl (fun ρ4 L4 => ?_)
      refine Wp.n (pc' := 124) 2 rfl ?_
      refine Wp.callV (len := 3) rfl rfl rfl (rfl) rfl (by decide) rfl (k_tW 7 wno_7 (by decide) hT7 hS7 (HW_r hW) l7) ?_
      rintro _ _ ⟨rfl, κ8, rfl, f8, l8⟩
      have F8 := F7.t f8
      have hG8 : κ8.2.2.2 1 = some 83 := by rw [F8.2]; exact hG
      have hS8 : κ8.2.2.2 0 = some 33 := by rw [F8.2]; exact hS
      have hT8 := F8.tc hT
      change LC κ8 T (lnl T K (.inr (nx T s))) at l8
      refine Wp.n (pc' := 130) 3 rfl ?_
      refine Wp.get (len := 3) rfl (dlane (by omega)) rfl ?_
      refine Wp.top (show rlk ρ4 (12 + kh K 3) 4 = e by rw [L4.2.2.2.2]; rfl) ?_
      refine Wp.n (pc' := 134) 1 rfl ?_
      refine Wp.get (len := 3) rfl (rfl) rfl ?_
      refine Wp.topR hG8 ?_
      refine Wp.get (len := 3) rfl (dobj) rfl ?_
      refine Wp.top (show ρ4.1 1 = nI (kh K 1) by rw [L4.1]; exact hB.1.2.1) ?_
      refine Wp.n (pc' := 141) 1 rfl ?_
      refine Wp.isubN (x := kh K 1) (y := 1) (len := 1) rfl (by omega) ?_
      refine Wp.callV (len := 3) rfl rfl rfl (rfl) rfl (by decide) rfl (k_takeNumber (lo := nmV T (lnf T K (.inr (nx T s)))) (hi := kh K 1 - 1) hT8 hS8 l8 (fun q => ⟨he (gd_wd q), rfl, by omega, by have := nm_le (gd_wd (T := T) q); omega⟩)) ?_
      rintro _ _ ⟨y, rfl, hy, κ9, rfl, f9, l9⟩
      have F9 := F8.t f9
      have hG9 : κ9.2.2.2 1 = some 83 := by rw [F9.2]; exact hG
      have hS9 : κ9.2.2.2 0 = some 33 := by rw [F9.2]; exact hS
      have hT9 := F9.tc hT
      refine Wp.dk hA L4 5 rfl (len := 3) rfl (fun ρ5 L5 => ?_)
      refine Wp.n (pc' := 150) 2 rfl ?_
      refine Wp.nc0 (x := 1) (y := 1) (tgt := 158) (len := 3) rfl (by omega) (by omega) (fun h150 => ?_) (fun h150 => ?_)
      · skip
        refine Wp.n (pc' := 167) 4 rfl ?_
        refine Wp.nz0 (x := 1) (tgt := 194) (len := 3) rfl (by omega) (fun h167 => ?_) (fun h167 => ?_)
        · omega
        · skip
          have e6 : ln6 T K 0 (.inr (nx T s)) = nmS T (nmV T (lnf T K (.inr (nx T s)))) (kh K 1 - 1) (lnl T K (.inr (nx T s))) := if_pos rfl
          rw [← e6] at l9 hy
          obtain ⟨c1, e1, i1⟩ := k_iW (d := d + 2) 9 wno_9 (by decide) hT9 hS9 (HW_r (ρ := ρ5) hW) l9
          refine Wp.n (pc' := 173) 2 rfl ?_
          refine Wp.ecallV (len := 3) rfl rfl rfl (rfl) rfl (by decide) rfl (e1) ?_
          refine Wp.ifb0 (tgt := 194) (len := 3) rfl (fun h176 => ?_) (fun h176 => ?_)
          · skip
            rcases hq : ln6 T K 0 (.inr (nx T s)) with z | s4
            · have hw : lnw T K 0 (.inr (nx T s)) = false := by unfold lnw; rw [hq]; rfl
              have e7 : ln7 T K 0 (.inr (nx T s)) = .inl z := (if_neg (by rw [hw]; decide)).trans hq
              rw [e7]
              first
                | (rw [hq] at l11
                   exact k_lane_e (st := .inl z) (by decide) hB ok h3 hG11 F11 l11 L6 (fun q => by cases q))
                | (rw [hq] at l9
                   exact k_lane_e (st := .inl z) (by decide) hB ok h3 hG9 F9 l9 L5 (fun q => by cases q))
            · have g6 : gd (ln6 T K 0 (.inr (nx T s))) = true := by rw [hq]; rfl
              have g5 : gd (ln5 T K (.inr (nx T s))) = true := by rw [e6] at g6; exact gd_wd (gd_nm g6)
              have g4 : gd (ln4 T K (.inr (nx T s))) = true := gd_wd (gd_nm g5)
              have q3 : gd (ln3 T K (.inr (nx T s))) = true := gd_nm g4
              have q1 : gd (rd1 T K (.inr (nx T s))) = true := gd_wd (gd_ot q3)
              obtain rfl := ha q1
              obtain rfl := hb q3
              obtain rfl := hc g4
              obtain rfl := he g5
              obtain rfl := hy g6
              have i2 : c1 = isW T s4 8935713994 := i1 s4 hq
              have hw : lnw T K 0 (.inr (nx T s)) = c1 := by unfold lnw; rw [hq, i2]; rfl
              first
                | (have hc1 : c1 = true := h176
                   have e7 : ln7 T K 0 (.inr (nx T s)) = nmS T 0 100 (adS T (ln6 T K 0 (.inr (nx T s)))) := if_pos (hw.trans hc1)
                   rw [e7]
                   refine k_lane_e (G := lnR T K 0 (.inr (nx T s))) (by decide) hB ok h3 hG11 F11 l11 L6 (fun q => ?_)
                   refine ⟨g1, rfl, rfl, rfl, rfl, ?_⟩
                   show x = nI (if lnw T K 0 (.inr (nx T s)) = true then nmV T (adS T (ln6 T K 0 (.inr (nx T s)))) else 0)
                   rw [if_pos (hw.trans hc1)]
                   exact hx q)
                | (have hc1 : c1 = false := h176
                   have e7 : ln7 T K 0 (.inr (nx T s)) = ln6 T K 0 (.inr (nx T s)) := if_neg (by rw [hw, hc1]; decide)
                   rw [e7]
                   refine k_lane_e (G := lnR T K 0 (.inr (nx T s))) (by decide) hB ok h3 hG9 F9 l9 L5 (fun q => ?_)
                   refine ⟨g1, rfl, rfl, rfl, rfl, ?_⟩
                   show g 6 = nI (if lnw T K 0 (.inr (nx T s)) = true then nmV T (adS T (ln6 T K 0 (.inr (nx T s)))) else 0)
                   rw [if_neg (by rw [hw, hc1]; decide)]
                   exact g2 6 (by decide) (by decide))
          · skip
            refine Wp.n (pc' := 180) 1 rfl ?_
            refine Wp.callV (len := 3) rfl rfl rfl (rfl) rfl (by decide) rfl (k_advance hT9 hS9 l9) ?_
            rintro _ _ ⟨rfl, κ10, rfl, f10, l10⟩
            have F10 := F9.t f10
            have hG10 : κ10.2.2.2 1 = some 83 := by rw [F10.2]; exact hG
            have hS10 : κ10.2.2.2 0 = some 33 := by rw [F10.2]; exact hS
            have hT10 := F10.tc hT
            refine Wp.n (pc' := 188) 4 rfl ?_
            refine Wp.callV (len := 3) rfl rfl rfl (rfl) rfl (by decide) rfl (k_takeNumber (lo := 0) (hi := 100) hT10 hS10 l10 (fun q => ⟨rfl, rfl, by decide, by decide⟩)) ?_
            rintro _ _ ⟨x, rfl, hx, κ11, rfl, f11, l11⟩
            have F11 := F10.t f11
            have hG11 : κ11.2.2.2 1 = some 83 := by rw [F11.2]; exact hG
            have hS11 : κ11.2.2.2 0 = some 33 := by rw [F11.2]; exact hS
            have hT11 := F11.tc hT
            refine Wp.dk hA L5 6 rfl (len := 3) rfl (fun ρ6 L6 => ?_)
            rcases hq : ln6 T K 0 (.inr (nx T s)) with z | s4
            · have hw : lnw T K 0 (.inr (nx T s)) = false := by unfold lnw; rw [hq]; rfl
              have e7 : ln7 T K 0 (.inr (nx T s)) = .inl z := (if_neg (by rw [hw]; decide)).trans hq
              rw [e7]
              first
                | (rw [hq] at l11
                   exact k_lane_e (st := .inl z) (by decide) hB ok h3 hG11 F11 l11 L6 (fun q => by cases q))
                | (rw [hq] at l9
                   exact k_lane_e (st := .inl z) (by decide) hB ok h3 hG9 F9 l9 L5 (fun q => by cases q))
            · have g6 : gd (ln6 T K 0 (.inr (nx T s))) = true := by rw [hq]; rfl
              have g5 : gd (ln5 T K (.inr (nx T s))) = true := by rw [e6] at g6; exact gd_wd (gd_nm g6)
              have g4 : gd (ln4 T K (.inr (nx T s))) = true := gd_wd (gd_nm g5)
              have q3 : gd (ln3 T K (.inr (nx T s))) = true := gd_nm g4
              have q1 : gd (rd1 T K (.inr (nx T s))) = true := gd_wd (gd_ot q3)
              obtain rfl := ha q1
              obtain rfl := hb q3
              obtain rfl := hc g4
              obtain rfl := he g5
              obtain rfl := hy g6
              have i2 : c1 = isW T s4 8935713994 := i1 s4 hq
              have hw : lnw T K 0 (.inr (nx T s)) = c1 := by unfold lnw; rw [hq, i2]; rfl
              first
                | (have hc1 : c1 = true := h176
                   have e7 : ln7 T K 0 (.inr (nx T s)) = nmS T 0 100 (adS T (ln6 T K 0 (.inr (nx T s)))) := if_pos (hw.trans hc1)
                   rw [e7]
                   refine k_lane_e (G := lnR T K 0 (.inr (nx T s))) (by decide) hB ok h3 hG11 F11 l11 L6 (fun q => ?_)
                   refine ⟨g1, rfl, rfl, rfl, rfl, ?_⟩
                   show x = nI (if lnw T K 0 (.inr (nx T s)) = true then nmV T (adS T (ln6 T K 0 (.inr (nx T s)))) else 0)
                   rw [if_pos (hw.trans hc1)]
                   exact hx q)
                | (have hc1 : c1 = false := h176
                   have e7 : ln7 T K 0 (.inr (nx T s)) = ln6 T K 0 (.inr (nx T s)) := if_neg (by rw [hw, hc1]; decide)
                   rw [e7]
                   refine k_lane_e (G := lnR T K 0 (.inr (nx T s))) (by decide) hB ok h3 hG9 F9 l9 L5 (fun q => ?_)
                   refine ⟨g1, rfl, rfl, rfl, rfl, ?_⟩
                   show g 6 = nI (if lnw T K 0 (.inr (nx T s)) = true then nmV T (adS T (ln6 T K 0 (.inr (nx T s)))) else 0)
                   rw [if_neg (by rw [hw, hc1]; decide)]
                   exact g2 6 (by decide) (by decide))
      · omega
  · omega
end CLO3
end
section
/-! A WALK OF THE DRAFT is being written; its line, the class. -/
def WkF (w : Nat) (g h : Nat → Int32) (ρ ρ' : RC) : Prop := ρ'.1 = ρ.1 ∧ ρ'.2.1 = ρ.2.1 ∧ ρ'.2.2.1 = ρ.2.2.1 ∧ (∀ i, i ≠ w → rwk ρ' i = rwk ρ i ∧ rst ρ' i = rst ρ i) ∧ rwk ρ' w = g ∧ rst ρ' w = h
section WKD
variable {d : Nat} {X : MD} {pc len w : Nat} {l : AL} {sk : List Value} {M : AM} {κ κ' : CS} {T : TP} {st : St} {K : KD} {ρ ρ' ρ0 : RC} {g h : Nat → Int32} {v : Value} {Q : Option Value → AM → Prop}
theorem WkF.r : WkF w (rwk ρ w) (rst ρ w) ρ ρ := ⟨rfl, rfl, rfl, fun _ _ => ⟨rfl, rfl⟩, rfl, rfl⟩
theorem WkF.p (F : WkF w g h ρ0 ρ) {j : Nat} {x : Int32} : WkF w (upd g j x) h ρ0 (gset ρ w j x) := ⟨F.1, F.2.1, F.2.2.1, fun i hi => ⟨(rwk_gn hi).trans (F.2.2.2.1 i hi).1, (F.2.2.2.1 i hi).2⟩, by rw [rwk_gs, F.2.2.2.2.1], F.2.2.2.2.2⟩
theorem WkF.t (F : WkF w g h ρ0 ρ) {f : Nat → Int32} : WkF w g f ρ0 (tset ρ w f) := ⟨F.1, F.2.1, F.2.2.1, fun i hi => ⟨(F.2.2.2.1 i hi).1, (rst_tn hi).trans (F.2.2.2.1 i hi).2⟩, F.2.2.2.2.1, rst_ts⟩
theorem dwalks : cset (rset M 83 ρ) κ 108 = .inl (5, 10, .inr (.inr (.inr (.inr (fun i => if i < 10 then some (83 + 26 + 2 * i) else none))))) := (cset_o (by omega)).trans (rs_walks (r := 83))
theorem dwalk {i : Nat} (hi : i < 10) : cset (rset M 83 ρ) κ (83 + 26 + 2 * i) = .inr (7, wfs (rwk ρ i) (83 + 27 + 2 * i)) := (cset_o (by omega)).trans (rs_walk hi)
theorem Wp.dw {x : Int32} (hw : w < 10) (F : WkF w g h ρ0 ρ) (j : Nat) (hj : Nat.ble j 3 = true) (hc : cdx X pc = some (.inr (.inr (1, 7, j, v)), len)) (kk : ∀ ρ', WkF w (upd g j x) h ρ0 ρ' → Wp d X (pc + len) l sk (cset (rset M 83 ρ') κ) Q) : Wp d X pc l (.int x :: .ref (83 + 26 + 2 * w) :: sk) (cset (rset M 83 ρ) κ) Q := Wp.dgp j hj hw hc (kk _ F.p)
theorem Wp.ds {x : Int32} (hw : w < 10) (F : WkF w g h ρ0 ρ) {j : Nat} (hj : j < 7) (hc : cdx X pc = some (.inr (.inl .iastore), len)) (kk : ∀ ρ', WkF w g (upd h j x) ρ0 ρ' → Wp d X (pc + len) l sk (cset (rset M 83 ρ') κ) Q) : Wp d X pc l (.int x :: .int (nI j) :: .ref (83 + 27 + 2 * w) :: sk) (cset (rset M 83 ρ) κ) Q := by
  have k2 := kk _ (F.t (f := upd h j x))
  rw [← rset_c (by decide) (by decide)] at k2 ⊢
  refine Wp.iastN hc (rs_stops hw) hj (by decide) ?_
  rw [ru_stops hw, F.2.2.2.2.2]
  exact k2
theorem k_stopD (hw : w < 10) (F : WkF w g h ρ0 ρ) {j p : Nat} (hj : j < 7) (e : h j = nI p) : Ev d md_69 0 [some (.ref (83 + 26 + 2 * w)), some (.int (nI j))] [] (cset (rset M 83 ρ) κ) (some (.int (nI p)), cset (rset M 83 ρ) κ) := by
  have q := c_stopAt (d := d) (M := cset M κ) (ρ := ρ) (r := 83) (i := w) hw (nI j)
  rw [rset_c (by decide) (by decide), nI_toInt (by omega), if_pos (by omega), nI_clamp (by omega), F.2.2.2.2.2, e] at q
  exact q
theorem RepC_w (hK : RepC ρ K) (F : WkF (kh K 4) g h ρ ρ') : RepC ρ' K := by
  obtain ⟨f1, f2, f3, f4, f5, f6⟩ := F
  obtain ⟨r0, r1, r2, r3, r6, r8, r10, rl, rr, rn_, rw_⟩ := hK
  unfold RepC rhd rlw rlk at *
  rw [f1, f2, f3]
  refine ⟨r0, r1, r2, r3, r6, r8, r10, rl, rr, rn_, fun i hi => ?_⟩
  rw [(f4 i (by omega)).1, (f4 i (by omega)).2]
  exact rw_ i hi
theorem k_walk_e {G : Nat → Nat} {κ1 : CS} (hB : BdC ρ K) (hr : kh K 4 < 10) (hG : κ1.2.2.2 1 = some 83) (F : FA κ κ1) (l : LC κ1 T st) (W : WkF (kh K 4) g h ρ ρ') (hv : gd st = true → (g 0 = nI (G 0) ∧ g 1 = nI (G 1) ∧ g 2 = nI (G 2) ∧ g 3 = nI (G 3 - 1)) ∧ ∀ j, j < G 3 → h j = nI (G (4 + j))) {x1 x2 x3 x4 : Option Value} : Wp (d + 12) md_24 207 [some (.ref 35), x1, x2, x3, x4] [] (cset (rset M 83 ρ') κ1) (RCn M κ T st (addW K G)) := by
  have e10 : rhd ρ' 10 = nI (kh K 4) := by
    show ρ'.1 10 = _
    rw [W.1]
    exact hB.1.2.2.2.2.2.2.1
  rcases st with z | s
  · have z1 := l.2.1
    have z3 := l.2.2.1
    refine Wp.n (pc' := 208) 1 rfl ?_
    refine Wp.get (len := 3) rfl (rfl) rfl ?_
    refine Wp.top l.1 ?_
    refine Wp.nz1 (x := z.1) (tgt := 227) (len := 3) rfl (by omega) (fun h211 => ?_) (fun h211 => ?_)
    · skip
      refine Wp.retV (len := 1) rfl rfl ?_
      exact ⟨rfl, ρ', κ1, rfl, F, l, fun q => by cases q⟩
    · omega
  · have vv := hv rfl
    refine Wp.n (pc' := 208) 1 rfl ?_
    refine Wp.get (len := 3) rfl (rfl) rfl ?_
    refine Wp.top l.1 ?_
    refine Wp.nz1 (x := 0) (tgt := 227) (len := 3) rfl (by omega) (fun h211 => ?_) (fun h211 => ?_)
    · omega
    · skip
      refine Wp.n (pc' := 215) 1 rfl ?_
      refine Wp.get (len := 3) rfl (rfl) rfl ?_
      refine Wp.topR hG ?_
      refine Wp.n (pc' := 219) 1 rfl ?_
      refine Wp.get (len := 3) rfl (dobj) rfl ?_
      refine Wp.top e10 ?_
      refine Wp.n (pc' := 223) 1 rfl ?_
      refine Wp.iaddN (x := kh K 4) (y := 1) (len := 1) rfl ?_
      refine Wp.dput (len := 3) 10 rfl rfl ?_
      refine Wp.retV (len := 1) rfl rfl ?_
      refine ⟨rfl, _, κ1, rfl, F, l, fun _ => ?_⟩
      have hK1 := RepC_w hB.1 W
      obtain ⟨_, hl, h11⟩ := hB
      obtain ⟨t0, t1, t2, t3, t6, t8, t10, tl, tr, tn_, tw_⟩ := hK1
      have hl' : ∀ j, j < 5 → rlw ρ' j = nI (kh K (6 + j)) := fun j hj => by show ρ'.2.1 j = _; rw [W.2.1]; exact hl j hj
      have ek : ∀ j, j ≠ 4 → kh (addW K G) j = kh K j := fun j hj => if_neg hj
      refine ⟨⟨t0, t1, t2, t3, t6, t8, rfl, fun _ j hj => ?_, tr, tn_, fun i hi => ?_⟩, fun j hj => ?_, h11⟩
      · rw [ek (6 + j) (by omega)]; exact hl' j hj
      · have hi' : i < kh K 4 + 1 := hi
        have ew : kw (addW K G) i = if i = kh K 4 then G else kw K i := rfl
        rw [ew]
        by_cases q : i = kh K 4
        · rw [if_pos q, q]
          show rwk ρ' (kh K 4) 0 = _ ∧ rwk ρ' (kh K 4) 1 = _ ∧ rwk ρ' (kh K 4) 2 = _ ∧ rwk ρ' (kh K 4) 3 = _ ∧ ∀ j, j < G 3 → rst ρ' (kh K 4) j = _
          rw [W.2.2.2.2.1, W.2.2.2.2.2]
          exact ⟨vv.1.1, vv.1.2.1, vv.1.2.2.1, vv.1.2.2.2, vv.2⟩
        · rw [if_neg q]
          exact tw_ i (by omega)
      · rw [ek (6 + j) (by omega)]; exact hl' j hj
theorem k_walk_l (hT : TC κ T) (hS : κ.2.2.2 0 = some 33) (hG : κ.2.2.2 1 = some 83) (hB : BdC ρ K) (ok : KOK K) (hP : 2 ≤ kh K 0) (hr : kh K 4 < 10) {w0 w1 w2 : Nat} : ∀ (N i : Nat) {pl : Nat → Nat} {g h : Nat → Int32} {ρ' : RC} {κ' : CS} {s : Nat} {x3 x4 : Option Value}, N + i = 7 → 1 ≤ i → FA κ κ' → WkF (kh K 4) g h ρ ρ' → LC κ' T (.inr s) → g 0 = nI w0 ∧ g 1 = nI w1 ∧ g 2 = nI w2 → (∀ j, j < i → h j = nI (pl j)) → (∀ j, j < i → pl j < 7) → Wp (d + 12) md_24 154 [some (.ref 35), some (.ref (83 + 26 + 2 * kh K 4)), some (.int (nI i)), x3, x4] [] (cset (rset M 83 ρ') κ') (RCn M κ T (wlk T (kh K 0) N pl i (.inr s)).1 (addW K (wkG w0 w1 w2 (wlk T (kh K 0) N pl i (.inr s))))) := by
  intro N
  induction N with
  | zero =>
    intro i pl g h ρ' κ' s x3 x4 hN hi F0 W L hg hh hp
    have b0 := (ok_h ok).1
    have hK1 := RepC_w hB.1 W
    have hG0 : κ'.2.2.2 1 = some 83 := by rw [F0.2]; exact hG
    have hS0 : κ'.2.2.2 0 = some 33 := by rw [F0.2]; exact hS
    have hT0 := F0.tc hT
    refine Wp.n (pc' := 155) 1 rfl ?_
    refine Wp.get (len := 3) rfl (rfl) rfl ?_
    refine Wp.top L.2.2.2.1 ?_
    refine Wp.n (pc' := 163) 5 rfl ?_
    refine Wp.isubN (x := i) (y := 1) (len := 1) rfl (by omega) ?_
    refine Wp.ecallV (len := 3) rfl rfl rfl (dwalk hr) rfl (by omega) rfl (k_stopD hr W (j := i - 1) (p := pl (i - 1)) (by omega) (hh (i - 1) (by omega))) ?_
    refine Wp.n (pc' := 168) 1 rfl ?_
    refine Wp.callV (len := 3) rfl rfl rfl (rfl) rfl (by decide) rfl (k_takeOther (w := false) (a := pl (i - 1)) (f := wlo pl i) hT0 hS0 hG0 L hK1 ok hP (fun _ => ⟨rfl, hp (i - 1) (by omega)⟩) (fun _ v => by unfold wlo; simp)) ?_
    rintro _ _ ⟨x, rfl, hx, κ1, rfl, f1, l1⟩
    have F1 := F0.t f1
    have hG1 : κ1.2.2.2 1 = some 83 := by rw [F1.2]; exact hG
    have hS1 : κ1.2.2.2 0 = some 33 := by rw [F1.2]; exact hS
    have hT1 := F1.tc hT
    refine Wp.n (pc' := 176) 3 rfl ?_
    refine Wp.nc5 (x := i) (y := 6) (tgt := 188) (len := 3) rfl (by omega) (by omega) (fun h176 => ?_) (fun h176 => ?_)
    · omega
    · skip
      refine Wp.n (pc' := 182) 3 rfl ?_
      refine Wp.callV (len := 3) rfl rfl rfl (rfl) rfl (by decide) rfl (k_fail (p := s) (k := 3) hT1 l1 (by decide) _ (fun _ => rfl)) ?_
      rintro _ _ ⟨rfl, κ2, rfl, f2, l2⟩
      have F2 := F1.t f2
      have hG2 : κ2.2.2.2 1 = some 83 := by rw [F2.2]; exact hG
      have hS2 : κ2.2.2.2 0 = some 33 := by rw [F2.2]; exact hS
      have hT2 := F2.tc hT
      refine Wp.n (pc' := 201) 1 rfl ?_
      refine Wp.incN (x := i) (len := 3) rfl rfl ?_
      refine Wp.n (pc' := 131) 3 rfl ?_
      refine Wp.nc4 (x := i + 1) (y := 7) (tgt := 207) (len := 3) rfl (by omega) (by omega) (fun h131 => ?_) (fun h131 => ?_)
      · skip
        have e : (if gd (otS T (kh K 0) (wlo pl i) (.inr s)) = true then .inl (3, s) else otS T (kh K 0) (wlo pl i) (.inr s)) = (wlk T (kh K 0) 0 pl i (.inr s)).1 := by
          show _ = fl3 (.inr s) (otS T (kh K 0) (wlo pl i) (.inr s))
          rcases otS T (kh K 0) (wlo pl i) (.inr s) with z | s2 <;> rfl
        rw [e] at l2
        refine k_walk_e hB hr hG2 F2 l2 W (fun q => ?_)
        have e2 : gd (fl3 (.inr s) (otS T (kh K 0) (wlo pl i) (.inr s))) = true := q
        rcases hq : otS T (kh K 0) (wlo pl i) (.inr s) with z | s2
        · rw [hq] at e2; cases e2
        · rw [hq] at e2; cases e2
      · omega
  | succ n ih =>
    intro i pl g h ρ' κ' s x3 x4 hN hi F0 W L hg hh hp
    have b0 := (ok_h ok).1
    have hK1 := RepC_w hB.1 W
    have hG0 : κ'.2.2.2 1 = some 83 := by rw [F0.2]; exact hG
    have hS0 : κ'.2.2.2 0 = some 33 := by rw [F0.2]; exact hS
    have hT0 := F0.tc hT
    refine Wp.n (pc' := 155) 1 rfl ?_
    refine Wp.get (len := 3) rfl (rfl) rfl ?_
    refine Wp.top L.2.2.2.1 ?_
    refine Wp.n (pc' := 163) 5 rfl ?_
    refine Wp.isubN (x := i) (y := 1) (len := 1) rfl (by omega) ?_
    refine Wp.ecallV (len := 3) rfl rfl rfl (dwalk hr) rfl (by omega) rfl (k_stopD hr W (j := i - 1) (p := pl (i - 1)) (by omega) (hh (i - 1) (by omega))) ?_
    refine Wp.n (pc' := 168) 1 rfl ?_
    refine Wp.callV (len := 3) rfl rfl rfl (rfl) rfl (by decide) rfl (k_takeOther (w := false) (a := pl (i - 1)) (f := wlo pl i) hT0 hS0 hG0 L hK1 ok hP (fun _ => ⟨rfl, hp (i - 1) (by omega)⟩) (fun _ v => by unfold wlo; simp)) ?_
    rintro _ _ ⟨x, rfl, hx, κ1, rfl, f1, l1⟩
    have F1 := F0.t f1
    have hG1 : κ1.2.2.2 1 = some 83 := by rw [F1.2]; exact hG
    have hS1 : κ1.2.2.2 0 = some 33 := by rw [F1.2]; exact hS
    have hT1 := F1.tc hT
    refine Wp.n (pc' := 176) 3 rfl ?_
    refine Wp.nc5 (x := i) (y := 6) (tgt := 188) (len := 3) rfl (by omega) (by omega) (fun h176 => ?_) (fun h176 => ?_)
    · skip
      refine Wp.n (pc' := 189) 1 rfl ?_
      refine Wp.get (len := 3) rfl (dwalk hr) rfl ?_
      refine Wp.n (pc' := 195) 2 rfl ?_
      refine Wp.ds hr W (j := i) (by omega) (len := 1) rfl (fun ρ2 W2 => ?_)
      refine Wp.n (pc' := 198) 2 rfl ?_
      refine Wp.dw hr W2 3 rfl (len := 3) rfl (fun ρ3 W3 => ?_)
      refine Wp.incN (x := i) (len := 3) rfl rfl ?_
      refine Wp.n (pc' := 131) 3 rfl ?_
      refine Wp.nc4 (x := i + 1) (y := 7) (tgt := 207) (len := 3) rfl (by omega) (by omega) (fun h131 => ?_) (fun h131 => ?_)
      · omega
      · skip
        rcases hq : otS T (kh K 0) (wlo pl i) (.inr s) with z | s2
        · rw [hq] at l1
          have z1 := l1.2.1
          have z3 := l1.2.2.1
          have e : wlk T (kh K 0) (n + 1) pl i (.inr s) = (.inl z, pl, i) := by
            unfold wlk
            rw [hq]
          refine Wp.n (pc' := 135) 1 rfl ?_
          refine Wp.get (len := 3) rfl (rfl) rfl ?_
          refine Wp.top l1.1 ?_
          refine Wp.nz1 (x := z.1) (tgt := 207) (len := 3) rfl (by omega) (fun h138 => ?_) (fun h138 => ?_)
          · skip
            rw [e]
            exact k_walk_e (st := .inl z) hB hr hG1 F1 l1 W3 (fun q => by cases q)
          · omega
        · rw [hq] at l1 hx
          obtain rfl := hx rfl
          have hk := tk_le (T := T) (s := s2)
          have hck : ck (tk T s2) ≤ 5 := by unfold ck; split <;> omega
          have hc2 : ck (tk T s2) = 2 ↔ tk T s2 = 2 := by unfold ck; split <;> omega
          have hv := m_walk_c (j := i - 1) hq (by omega)
          have hn : ∀ j, j < i + 1 → upd h i (nI (nmV T (.inr s))) j = nI (nup pl i (nmV T (.inr s)) j) := fun j hj => by
            unfold nup
            by_cases c : j = i
            · rw [c, pk_us, if_pos rfl]
            · rw [pk_un c, if_neg c]; exact hh j (by omega)
          refine Wp.n (pc' := 135) 1 rfl ?_
          refine Wp.get (len := 3) rfl (rfl) rfl ?_
          refine Wp.top l1.1 ?_
          refine Wp.nz1 (x := 0) (tgt := 207) (len := 3) rfl (by omega) (fun h138 => ?_) (fun h138 => ?_)
          · omega
          · skip
            refine Wp.n (pc' := 143) 2 rfl ?_
            refine Wp.nc0 (x := i + 1) (y := 1) (tgt := 154) (len := 3) rfl (by omega) (by omega) (fun h143 => ?_) (fun h143 => ?_)
            · omega
            · skip
              refine Wp.n (pc' := 147) 1 rfl ?_
              refine Wp.get (len := 3) rfl (rfl) rfl ?_
              refine Wp.top l1.2.2.1 ?_
              refine Wp.n (pc' := 151) 1 rfl ?_
              refine Wp.nc1 (x := ck (tk T s2)) (y := 2) (tgt := 207) (len := 3) rfl (by omega) (by omega) (fun h151 => ?_) (fun h151 => ?_)
              · skip
                have e : wlk T (kh K 0) (n + 1) pl i (.inr s) = (.inr s2, nup pl i (nmV T (.inr s)), i + 1) := by
                  unfold wlk
                  rw [hq]
                  exact if_neg (by omega)
                rw [e]
                refine k_walk_e (st := .inr s2) (G := wkG w0 w1 w2 (.inr s2, nup pl i (nmV T (.inr s)), i + 1)) hB hr hG1 F1 l1 W3 (fun q => ⟨⟨hg.1, hg.2.1, hg.2.2, rfl⟩, fun j hj => ?_⟩)
                rw [wkG_4]
                exact hn j hj
              · skip
                have e : wlk T (kh K 0) (n + 1) pl i (.inr s) = wlk T (kh K 0) n (nup pl i (nmV T (.inr s))) (i + 1) (.inr s2) := by
                  rw [wlk, hq]
                  exact if_pos (by omega)
                rw [e]
                refine ih (i + 1) (by omega) (by omega) F1 W3 l1 hg hn (fun j hj => ?_)
                unfold nup
                by_cases c : j = i
                · rw [if_pos c]; show vl T s < 7; omega
                · rw [if_neg c]; exact hp j (by omega)
    · omega
theorem k_readWalkF {s : Nat} (hT : TC κ T) (hG : κ.2.2.2 1 = some 83) (hL : LC κ T (.inr s)) (hB : BdC ρ K) (h4 : kh K 4 = 10) : Wp (d + 12) md_24 0 [some (.ref 35), none, none, none, none] [] (cset (rset M 83 ρ) κ) (RCn M κ T (.inl (3, s)) K) := by
  refine Wp.n (pc' := 1) 1 rfl ?_
  refine Wp.get (len := 3) rfl (rfl) rfl ?_
  refine Wp.topR hG ?_
  refine Wp.get (len := 3) rfl (dobj) rfl ?_
  refine Wp.top hB.1.2.2.2.2.2.2.1 ?_
  refine Wp.n (pc' := 9) 1 rfl ?_
  refine Wp.nc2 (x := kh K 4) (y := 10) (tgt := 22) (len := 3) rfl (by omega) (by omega) (fun h9 => ?_) (fun h9 => ?_)
  · omega
  · skip
    refine Wp.n (pc' := 15) 3 rfl ?_
    refine Wp.get (len := 3) rfl (rfl) rfl ?_
    refine Wp.callV (len := 3) rfl rfl rfl (rfl) rfl (by decide) rfl (k_fail (p := s) (k := 3) hT hL (by decide) _ (fun _ => hL.2.2.2.1)) ?_
    rintro _ _ ⟨rfl, κ1, rfl, f1, l1⟩
    change LC κ1 T (.inl (3, s)) at l1
    refine Wp.retV (len := 1) rfl rfl ?_
    exact ⟨rfl, ρ, κ1, rfl, f1, l1, fun q => by cases q⟩
theorem k_readWalk {s : Nat} (hT : TC κ T) (hS : κ.2.2.2 0 = some 33) (hG : κ.2.2.2 1 = some 83) (hW : HW M) (hL : LC κ T (.inr s)) (hB : BdC ρ K) (ok : KOK K) (hP : 2 ≤ kh K 0) (hD : 1 ≤ kh K 1) (hr : kh K 4 < 10) : Wp (d + 12) md_24 0 [some (.ref 35), none, none, none, none] [] (cset (rset M 83 ρ) κ) (RCn M κ T (wkr T K (.inr (nx T s))).1 (wkK T K (.inr (nx T s)))) := by
  have b0 := (ok_h ok).1
  have b1 := (ok_h ok).2.1
  have F0 : FA κ κ := FA.r
  have W0 : WkF (kh K 4) (rwk ρ (kh K 4)) (rst ρ (kh K 4)) ρ ρ := WkF.r
  refine Wp.n (pc' := 1) 1 rfl ?_
  refine Wp.get (len := 3) rfl (rfl) rfl ?_
  refine Wp.topR hG ?_
  refine Wp.get (len := 3) rfl (dobj) rfl ?_
  refine Wp.top hB.1.2.2.2.2.2.2.1 ?_
  refine Wp.n (pc' := 9) 1 rfl ?_
  refine Wp.nc2 (x := kh K 4) (y := 10) (tgt := 22) (len := 3) rfl (by omega) (by omega) (fun h9 => ?_) (fun h9 => ?_)
  · skip
    refine Wp.n (pc' := 23) 1 rfl ?_
    refine Wp.get (len := 3) rfl (rfl) rfl ?_
    refine Wp.topR hG ?_
    refine Wp.get (len := 3) rfl (dobj) rfl ?_
    refine Wp.n (pc' := 30) 1 rfl ?_
    refine Wp.get (len := 3) rfl (rfl) rfl ?_
    refine Wp.topR hG ?_
    refine Wp.get (len := 3) rfl (dobj) rfl ?_
    refine Wp.top hB.1.2.2.2.2.2.2.1 ?_
    refine Wp.aaldN (j := kh K 4) (len := 1) rfl (dwalks) rfl (by omega) (by decide) (if_pos (by omega)) ?_
    refine Wp.n (pc' := 39) 2 rfl ?_
    refine Wp.callV (len := 3) rfl rfl rfl (rfl) rfl (by decide) rfl (k_advance hT hS hL) ?_
    rintro _ _ ⟨rfl, κ1, rfl, f1, l1⟩
    have F1 := F0.t f1
    have hG1 : κ1.2.2.2 1 = some 83 := by rw [F1.2]; exact hG
    have hS1 : κ1.2.2.2 0 = some 33 := by rw [F1.2]; exact hS
    have hT1 := F1.tc hT
    refine Wp.n (pc' := 46) 4 rfl ?_
    refine Wp.callV (len := 3) rfl rfl rfl (rfl) rfl (by decide) rfl (k_takeNumber (lo := 0) (hi := 4) hT1 hS1 l1 (fun q => ⟨rfl, rfl, by omega, by omega⟩)) ?_
    rintro _ _ ⟨a, rfl, ha, κ2, rfl, f2, l2⟩
    have F2 := F1.t f2
    have hG2 : κ2.2.2.2 1 = some 83 := by rw [F2.2]; exact hG
    have hS2 : κ2.2.2.2 0 = some 33 := by rw [F2.2]; exact hS
    have hT2 := F2.tc hT
    change LC κ2 T (wk1 T (.inr (nx T s))) at l2
    refine Wp.dw hr W0 0 rfl (len := 3) rfl (fun ρ1 W1 => ?_)
    refine Wp.n (pc' := 59) 5 rfl ?_
    refine Wp.callV (len := 3) rfl rfl rfl (rfl) rfl (by decide) rfl (k_tN 16 wno_16 (by decide) hT2 hS2 (HW_r hW) l2 (lo := 1) (hb := 9) (fun q => ⟨rfl, rfl, by decide, by decide⟩)) ?_
    rintro _ _ ⟨b, rfl, hb, κ3, rfl, f3, l3⟩
    have F3 := F2.t f3
    have hG3 : κ3.2.2.2 1 = some 83 := by rw [F3.2]; exact hG
    have hS3 : κ3.2.2.2 0 = some 33 := by rw [F3.2]; exact hS
    have hT3 := F3.tc hT
    change LC κ3 T (wk2 T (.inr (nx T s))) at l3
    refine Wp.dw hr W1 1 rfl (len := 3) rfl (fun ρ2 W2 => ?_)
    refine Wp.n (pc' := 68) 2 rfl ?_
    refine Wp.callV (len := 3) rfl rfl rfl (rfl) rfl (by decide) rfl (k_tW 14 wno_14 (by decide) hT3 hS3 (HW_r hW) l3) ?_
    rintro _ _ ⟨rfl, κ4, rfl, f4, l4⟩
    have F4 := F3.t f4
    have hG4 : κ4.2.2.2 1 = some 83 := by rw [F4.2]; exact hG
    have hS4 : κ4.2.2.2 0 = some 33 := by rw [F4.2]; exact hS
    have hT4 := F4.tc hT
    change LC κ4 T (wkb T (.inr (nx T s))) at l4
    refine Wp.n (pc' := 75) 4 rfl ?_
    refine Wp.get (len := 3) rfl (rfl) rfl ?_
    refine Wp.topR hG4 ?_
    refine Wp.get (len := 3) rfl (dobj) rfl ?_
    refine Wp.top (show ρ2.1 1 = nI (kh K 1) by rw [W2.1]; exact hB.1.2.1) ?_
    refine Wp.n (pc' := 82) 1 rfl ?_
    refine Wp.isubN (x := kh K 1) (y := 1) (len := 1) rfl (by omega) ?_
    refine Wp.callV (len := 3) rfl rfl rfl (rfl) rfl (by decide) rfl (k_takeNumber (lo := 0) (hi := kh K 1 - 1) hT4 hS4 l4 (fun q => ⟨rfl, rfl, by omega, by omega⟩)) ?_
    rintro _ _ ⟨c, rfl, hc, κ5, rfl, f5, l5⟩
    have F5 := F4.t f5
    have hG5 : κ5.2.2.2 1 = some 83 := by rw [F5.2]; exact hG
    have hS5 : κ5.2.2.2 0 = some 33 := by rw [F5.2]; exact hS
    have hT5 := F5.tc hT
    change LC κ5 T (wk3 T K (.inr (nx T s))) at l5
    refine Wp.dw hr W2 2 rfl (len := 3) rfl (fun ρ3 W3 => ?_)
    refine Wp.n (pc' := 92) 2 rfl ?_
    refine Wp.callV (len := 3) rfl rfl rfl (rfl) rfl (by decide) rfl (k_tW 8 wno_8 (by decide) hT5 hS5 (HW_r hW) l5) ?_
    rintro _ _ ⟨rfl, κ6, rfl, f6, l6⟩
    have F6 := F5.t f6
    have hG6 : κ6.2.2.2 1 = some 83 := by rw [F6.2]; exact hG
    have hS6 : κ6.2.2.2 0 = some 33 := by rw [F6.2]; exact hS
    have hT6 := F6.tc hT
    change LC κ6 T (wkc T K (.inr (nx T s))) at l6
    refine Wp.n (pc' := 96) 1 rfl ?_
    refine Wp.get (len := 3) rfl (dwalk hr) rfl ?_
    refine Wp.n (pc' := 103) 4 rfl ?_
    refine Wp.get (len := 3) rfl (rfl) rfl ?_
    refine Wp.topR hG6 ?_
    refine Wp.get (len := 3) rfl (dobj) rfl ?_
    refine Wp.top (show ρ3.1 0 = nI (kh K 0) by rw [W3.1]; exact hB.1.1) ?_
    refine Wp.n (pc' := 110) 1 rfl ?_
    refine Wp.isubN (x := kh K 0) (y := 1) (len := 1) rfl (by omega) ?_
    refine Wp.callV (len := 3) rfl rfl rfl (rfl) rfl (by decide) rfl (k_takeNumber (lo := 0) (hi := kh K 0 - 1) hT6 hS6 l6 (fun q => ⟨rfl, rfl, by omega, by omega⟩)) ?_
    rintro _ _ ⟨e, rfl, he, κ7, rfl, f7, l7⟩
    have F7 := F6.t f7
    have hG7 : κ7.2.2.2 1 = some 83 := by rw [F7.2]; exact hG
    have hS7 : κ7.2.2.2 0 = some 33 := by rw [F7.2]; exact hS
    have hT7 := F7.tc hT
    change LC κ7 T (wk4 T K (.inr (nx T s))) at l7
    refine Wp.ds hr W3 (j := 0) (by decide) (len := 1) rfl (fun ρ4 W4 => ?_)
    refine Wp.n (pc' := 118) 2 rfl ?_
    refine Wp.callV (len := 3) rfl rfl rfl (rfl) rfl (by decide) rfl (k_tW 17 wno_17 (by decide) hT7 hS7 (HW_r hW) l7) ?_
    rintro _ _ ⟨rfl, κ8, rfl, f8, l8⟩
    have F8 := F7.t f8
    have hG8 : κ8.2.2.2 1 = some 83 := by rw [F8.2]; exact hG
    have hS8 : κ8.2.2.2 0 = some 33 := by rw [F8.2]; exact hS
    have hT8 := F8.tc hT
    change LC κ8 T (wk5 T K (.inr (nx T s))) at l8
    refine Wp.n (pc' := 123) 2 rfl ?_
    refine Wp.dw hr W4 3 rfl (len := 3) rfl (fun ρ5 W5 => ?_)
    refine Wp.n (pc' := 131) 4 rfl ?_
    refine Wp.nc4 (x := 1) (y := 7) (tgt := 207) (len := 3) rfl (by omega) (by omega) (fun h131 => ?_) (fun h131 => ?_)
    · omega
    · skip
      rcases hq : wk5 T K (.inr (nx T s)) with z | s5
      · rw [hq] at l8
        have z1 := l8.2.1
        have z3 := l8.2.2.1
        have e : wkr T K (.inr (nx T s)) = (.inl z, fun _ => nmV T (wkc T K (.inr (nx T s))), 1) := by
          unfold wkr
          rw [hq]
          rfl
        refine Wp.n (pc' := 135) 1 rfl ?_
        refine Wp.get (len := 3) rfl (rfl) rfl ?_
        refine Wp.top l8.1 ?_
        refine Wp.nz1 (x := z.1) (tgt := 207) (len := 3) rfl (by omega) (fun h138 => ?_) (fun h138 => ?_)
        · skip
          unfold wkK
          rw [e]
          exact k_walk_e (st := .inl z) hB hr hG8 F8 l8 W5 (fun q => by cases q)
        · omega
      · rw [hq] at l8
        have e : wkr T K (.inr (nx T s)) = wlk T (kh K 0) 6 (fun _ => nmV T (wkc T K (.inr (nx T s)))) 1 (.inr s5) := by
          unfold wkr
          rw [hq]
        have g5 : gd (wk5 T K (.inr (nx T s))) = true := by rw [hq]; rfl
        have g4 : gd (wk4 T K (.inr (nx T s))) = true := gd_wd g5
        have g3 : gd (wk3 T K (.inr (nx T s))) = true := gd_wd (gd_nm g4)
        have g2 : gd (wk2 T (.inr (nx T s))) = true := gd_wd (gd_nm g3)
        have g1 : gd (wk1 T (.inr (nx T s))) = true := gd_wd (gd_nm g2)
        obtain rfl := ha g1
        obtain rfl := hb g2
        obtain rfl := hc g3
        obtain rfl := he g4
        have n4 := nm_le (T := T) (lo := 0) (hi := kh K 0 - 1) (st := wkc T K (.inr (nx T s))) g4
        refine Wp.n (pc' := 135) 1 rfl ?_
        refine Wp.get (len := 3) rfl (rfl) rfl ?_
        refine Wp.top l8.1 ?_
        refine Wp.nz1 (x := 0) (tgt := 207) (len := 3) rfl (by omega) (fun h138 => ?_) (fun h138 => ?_)
        · omega
        · skip
          refine Wp.n (pc' := 143) 2 rfl ?_
          refine Wp.nc0 (x := 1) (y := 1) (tgt := 154) (len := 3) rfl (by omega) (by omega) (fun h143 => ?_) (fun h143 => ?_)
          · skip
            unfold wkK
            rw [e]
            refine k_walk_l hT hS hG hB ok hP hr 6 1 rfl (by decide) F8 W5 l8 ⟨rfl, rfl, rfl⟩ (fun j hj => ?_) (fun j hj => ?_)
            · obtain rfl : j = 0 := by omega
              rfl
            · show nmV T (wkc T K (.inr (nx T s))) < 7
              omega
          · omega
  · omega
end WKD
end
section
/-! ANY LINE, the class. -/
section ALC
variable {d : Nat} {M : AM} {κ κ' : CS} {T : TP} {st : St} {K : KD} {ρ ρ' : RC} {Q : Option Value → AM → Prop}
theorem RCn_b {x : Nat × Nat} {K' : KD} {v : Option Value} {M' : AM} (h : RCn M κ T (.inl x) K v M') : RCn M κ T (.inl x) K' v M' := by
  obtain ⟨h1, ρ', κ', h2, h3, h4, h5⟩ := h
  exact ⟨h1, ρ', κ', h2, h3, h4, fun q => by cases q⟩
theorem k_link {s k : Nat} (hT : TC κ T) (hS : κ.2.2.2 0 = some 33) (hG : κ.2.2.2 1 = some 83) (hW : HW M) (hL : LC κ T (.inr s)) (hB : BdC ρ K) (ok : KOK K) (hP : 2 ≤ kh K 0) (hD : 1 ≤ kh K 1) (hk : k ≤ 3) (e : srt T s = k) : Wp (d + 12) md_21 0 [some (.ref 35), some (.int (nI k)), none, none, none, none] [] (cset (rset M 83 ρ) κ) (RCn M κ T (linS T K s) (linK T K s)) := by
  have b2 := (ok_h ok).2.2.1
  have b3 := (ok_h ok).2.2.2.1
  by_cases k0 : k = 0
  · subst k0
    have eS : linS T K s = (if kh K 2 = 12 then .inl (3, s) else rd4 T K (.inr (nx T s))) := if_pos e
    have eK : linK T K s = rdK T K (.inr (nx T s)) := if_pos e
    by_cases c : kh K 2 = 12
    · rw [eS, if_pos c]
      exact Wp.mono (k_readFull hT hG hL hB ok hk ((if_pos rfl).trans (if_neg (by omega)))) (fun v M' h => RCn_b h)
    · rw [eS, if_neg c, eK]
      exact k_readRoad hT hS hG hW hL hB ok hP (by omega)
  · obtain ⟨eS, eK⟩ := lin_1 (T := T) (K := K) (s := s) (k := k - 1) (by omega) (by omega)
    by_cases c : kh K 3 = 8
    · rw [eS, if_pos c]
      exact Wp.mono (k_readFull hT hG hL hB ok hk ((if_neg k0).trans (if_neg (by omega)))) (fun v M' h => RCn_b h)
    · rw [eS, if_neg c, eK]
      have k3 : k = 1 ∨ k = 2 ∨ k = 3 := by omega
      rcases k3 with rfl | rfl | rfl
      · exact k_readLane1 hT hS hG hW hL hB ok hP hD (by omega)
      · exact k_readLane2 hT hS hG hW hL hB ok hP hD (by omega)
      · exact k_readLane3 hT hS hG hW hL hB ok hP hD (by omega)
theorem k_walkAny {s : Nat} (hT : TC κ T) (hS : κ.2.2.2 0 = some 33) (hG : κ.2.2.2 1 = some 83) (hW : HW M) (hL : LC κ T (.inr s)) (hB : BdC ρ K) (ok : KOK K) (hP : 2 ≤ kh K 0) (hD : 1 ≤ kh K 1) (e : srt T s = 5) : Wp (d + 12) md_24 0 [some (.ref 35), none, none, none, none] [] (cset (rset M 83 ρ) κ) (RCn M κ T (linS T K s) (linK T K s)) := by
  have b4 := (ok_h ok).2.2.2.2.1
  obtain ⟨eS, eK⟩ := lin_5 (T := T) (K := K) (s := s) e
  by_cases c : kh K 4 = 10
  · rw [eS, if_pos c]
    exact Wp.mono (k_readWalkF hT hG hL hB c) (fun v M' h => RCn_b h)
  · rw [eS, if_neg c, eK]
    exact k_readWalk hT hS hG hW hL hB ok hP hD (by omega)
theorem BdC_inc (hB : BdC ρ K) : BdC (hset ρ 2 (nI (kh K 5 + 1))) (incL K) := by
  obtain ⟨⟨r0, r1, r2, r3, r6, r8, r10, rl, rr, rn_, rw_⟩, hl, h11⟩ := hB
  have ek : ∀ j, j ≠ 5 → kh (incL K) j = kh K j := fun j hj => if_neg hj
  have hl' : ∀ j, j < 5 → rlw ρ j = nI (kh (incL K) (6 + j)) := fun j hj => by rw [ek (6 + j) (by omega)]; exact hl j hj
  exact ⟨⟨r0, r1, rfl, r3, r6, r8, r10, fun _ => hl', rr, rn_, rw_⟩, hl', h11⟩
theorem k_line_e {κ1 : CS} (hT : TC κ T) (hS : κ.2.2.2 0 = some 33) (hG : κ.2.2.2 1 = some 83) (F0 : FA κ κ1) (l1 : LC κ1 T st) (hB : gd st = true → BdC ρ K) : Wp (d + 13) md_14 121 [some (.ref 35)] [] (cset (rset M 83 ρ) κ1) (RCn M κ T (endS T st) (incL K)) := by
  have hG1 : κ1.2.2.2 1 = some 83 := by rw [F0.2]; exact hG
  have hS1 : κ1.2.2.2 0 = some 33 := by rw [F0.2]; exact hS
  have hT1 := F0.tc hT
  have F1 := F0
  rcases st with z | s
  · obtain ⟨y1, y2, y3, y4, a, e, k, ya, ye, yae, yet, yk, yk5⟩ := id l1
    refine Wp.n (pc' := 122) 1 rfl ?_
    refine Wp.get (len := 3) rfl (rfl) rfl ?_
    refine Wp.top yk ?_
    refine Wp.n (pc' := 126) 1 rfl ?_
    refine Wp.nc0 (x := k) (y := 3) (tgt := 138) (len := 3) rfl (by omega) (by omega) (fun h126 => ?_) (fun h126 => ?_)
    · skip
      refine Wp.n (pc' := 139) 1 rfl ?_
      refine Wp.callV (len := 3) rfl rfl rfl (rfl) rfl (by decide) rfl (k_advance (st := .inl z) hT1 hS1 l1) ?_
      rintro _ _ ⟨rfl, κ3, rfl, f3, l3⟩
      have F3 := F1.t f3
      have hG3 : κ3.2.2.2 1 = some 83 := by rw [F3.2]; exact hG
      refine Wp.n (pc' := 143) 1 rfl ?_
      refine Wp.get (len := 3) rfl (rfl) rfl ?_
      refine Wp.topR hG3 ?_
      refine Wp.n (pc' := 147) 1 rfl ?_
      refine Wp.get (len := 3) rfl (dobj) rfl ?_
      refine Wp.n (pc' := 152) 2 rfl ?_
      refine Wp.dput (len := 3) 2 rfl rfl ?_
      refine Wp.retV (len := 1) rfl rfl ?_
      exact ⟨rfl, _, κ3, rfl, F3, l3, fun q => by cases q⟩
    · skip
      refine Wp.n (pc' := 132) 3 rfl ?_
      refine Wp.get (len := 3) rfl (rfl) rfl ?_
      refine Wp.callV (len := 3) rfl rfl rfl (rfl) rfl (by decide) rfl (k_fail (p := 0) (k := 1) hT1 l1 (by decide) _ (fun q => by cases q)) ?_
      rintro _ _ ⟨rfl, κ2, rfl, f2, l2⟩
      have F2 := F1.t f2
      have hG2 : κ2.2.2.2 1 = some 83 := by rw [F2.2]; exact hG
      have hS2 : κ2.2.2.2 0 = some 33 := by rw [F2.2]; exact hS
      have hT2 := F2.tc hT
      change LC κ2 T (.inl z) at l2
      refine Wp.n (pc' := 139) 1 rfl ?_
      refine Wp.callV (len := 3) rfl rfl rfl (rfl) rfl (by decide) rfl (k_advance (st := .inl z) hT2 hS2 l2) ?_
      rintro _ _ ⟨rfl, κ3, rfl, f3, l3⟩
      have F3 := F2.t f3
      have hG3 : κ3.2.2.2 1 = some 83 := by rw [F3.2]; exact hG
      refine Wp.n (pc' := 143) 1 rfl ?_
      refine Wp.get (len := 3) rfl (rfl) rfl ?_
      refine Wp.topR hG3 ?_
      refine Wp.n (pc' := 147) 1 rfl ?_
      refine Wp.get (len := 3) rfl (dobj) rfl ?_
      refine Wp.n (pc' := 152) 2 rfl ?_
      refine Wp.dput (len := 3) 2 rfl rfl ?_
      refine Wp.retV (len := 1) rfl rfl ?_
      exact ⟨rfl, _, κ3, rfl, F3, l3, fun q => by cases q⟩
  · have hk := tk_le (T := T) (s := s)
    have hck : ck (tk T s) ≤ 5 := by unfold ck; split <;> omega
    have hc3 : ck (tk T s) = 3 ↔ tk T s = 3 := by unfold ck; split <;> omega
    have e5 : rhd ρ 2 = nI (kh K 5) := (hB rfl).1.2.2.1
    refine Wp.n (pc' := 122) 1 rfl ?_
    refine Wp.get (len := 3) rfl (rfl) rfl ?_
    refine Wp.top l1.2.2.1 ?_
    refine Wp.n (pc' := 126) 1 rfl ?_
    refine Wp.nc0 (x := ck (tk T s)) (y := 3) (tgt := 138) (len := 3) rfl (by omega) (by omega) (fun h126 => ?_) (fun h126 => ?_)
    · skip
      refine Wp.n (pc' := 139) 1 rfl ?_
      refine Wp.callV (len := 3) rfl rfl rfl (rfl) rfl (by decide) rfl (k_advance hT1 hS1 l1) ?_
      rintro _ _ ⟨rfl, κ3, rfl, f3, l3⟩
      have F3 := F1.t f3
      have hG3 : κ3.2.2.2 1 = some 83 := by rw [F3.2]; exact hG
      refine Wp.n (pc' := 143) 1 rfl ?_
      refine Wp.get (len := 3) rfl (rfl) rfl ?_
      refine Wp.topR hG3 ?_
      refine Wp.n (pc' := 147) 1 rfl ?_
      refine Wp.get (len := 3) rfl (dobj) rfl ?_
      refine Wp.top e5 ?_
      refine Wp.n (pc' := 151) 1 rfl ?_
      refine Wp.iaddN (x := kh K 5) (y := 1) (len := 1) rfl ?_
      refine Wp.dput (len := 3) 2 rfl rfl ?_
      refine Wp.retV (len := 1) rfl rfl ?_
      have en_ : endS T (.inr s) = .inr (nx T s) := if_pos (by omega)
      rw [en_]
      exact ⟨rfl, _, κ3, rfl, F3, l3, fun _ => BdC_inc (hB rfl)⟩
    · skip
      refine Wp.n (pc' := 132) 3 rfl ?_
      refine Wp.get (len := 3) rfl (rfl) rfl ?_
      refine Wp.callV (len := 3) rfl rfl rfl (rfl) rfl (by decide) rfl (k_fail (p := s) (k := 1) hT1 l1 (by decide) _ (fun q => l1.2.2.2.1)) ?_
      rintro _ _ ⟨rfl, κ2, rfl, f2, l2⟩
      have F2 := F1.t f2
      have hG2 : κ2.2.2.2 1 = some 83 := by rw [F2.2]; exact hG
      have hS2 : κ2.2.2.2 0 = some 33 := by rw [F2.2]; exact hS
      have hT2 := F2.tc hT
      change LC κ2 T (.inl (1, s)) at l2
      refine Wp.n (pc' := 139) 1 rfl ?_
      refine Wp.callV (len := 3) rfl rfl rfl (rfl) rfl (by decide) rfl (k_advance (st := .inl (1, s)) hT2 hS2 l2) ?_
      rintro _ _ ⟨rfl, κ3, rfl, f3, l3⟩
      have F3 := F2.t f3
      have hG3 : κ3.2.2.2 1 = some 83 := by rw [F3.2]; exact hG
      refine Wp.n (pc' := 143) 1 rfl ?_
      refine Wp.get (len := 3) rfl (rfl) rfl ?_
      refine Wp.topR hG3 ?_
      refine Wp.n (pc' := 147) 1 rfl ?_
      refine Wp.get (len := 3) rfl (dobj) rfl ?_
      refine Wp.top e5 ?_
      refine Wp.n (pc' := 151) 1 rfl ?_
      refine Wp.iaddN (x := kh K 5) (y := 1) (len := 1) rfl ?_
      refine Wp.dput (len := 3) 2 rfl rfl ?_
      refine Wp.retV (len := 1) rfl rfl ?_
      have en_ : endS T (.inr s) = .inl (1, s) := if_neg (by omega)
      rw [en_]
      exact ⟨rfl, _, κ3, rfl, F3, l3, fun q => by cases q⟩
theorem k_readLine {s : Nat} (hT : TC κ T) (hS : κ.2.2.2 0 = some 33) (hG : κ.2.2.2 1 = some 83) (hW : HW M) (hL : LC κ T (.inr s)) (hB : BdC ρ K) (pk : PK K) : Wp (d + 13) md_14 0 [some (.ref 35)] [] (cset (rset M 83 ρ) κ) (RCn M κ T (endS T (bodS T K s)) (incL (bodK T K s))) := by
  obtain ⟨ok, h11, _, hPD, hK0⟩ := pk
  have b5 := (ok_h ok).2.2.2.2.2.1
  obtain ⟨c1, e1, i1⟩ := k_iW (d := d + 3) 6 wno_6 (by decide) hT hS (HW_r (ρ := ρ) hW) hL
  obtain ⟨c2, e2, i2⟩ := k_iW (d := d + 3) 10 wno_10 (by decide) hT hS (HW_r (ρ := ρ) hW) hL
  obtain ⟨c3, e3, i3⟩ := k_iW (d := d + 3) 11 wno_11 (by decide) hT hS (HW_r (ρ := ρ) hW) hL
  obtain ⟨c4, e4, i4⟩ := k_iW (d := d + 3) 12 wno_12 (by decide) hT hS (HW_r (ρ := ρ) hW) hL
  obtain ⟨c5, e5, i5⟩ := k_iW (d := d + 3) 13 wno_13 (by decide) hT hS (HW_r (ρ := ρ) hW) hL
  obtain ⟨c6, e6, i6⟩ := k_iW (d := d + 3) 15 wno_15 (by decide) hT hS (HW_r (ρ := ρ) hW) hL
  have w1 : c1 = isW T s 365260 := i1 s rfl
  have w2 : c2 = isW T s 237308 := i2 s rfl
  have w3 : c3 = isW T s 129523 := i3 s rfl
  have w4 : c4 = isW T s 50348 := i4 s rfl
  have w5 : c5 = isW T s 3436186 := i5 s rfl
  have w6 : c6 = isW T s 453773 := i6 s rfl
  refine Wp.n (pc' := 1) 1 rfl ?_
  refine Wp.get (len := 3) rfl (rfl) rfl ?_
  refine Wp.topR hG ?_
  refine Wp.get (len := 3) rfl (dobj) rfl ?_
  refine Wp.top hB.1.2.2.1 ?_
  refine Wp.nz1 (x := kh K 5) (tgt := 17) (len := 3) rfl (by omega) (fun h7 => ?_) (fun h7 => ?_)
  · have k5 : ¬ kh K 5 = 0 := h7
    obtain ⟨hP, hD⟩ := hPD (by omega)
    have eS : bodS T K s = linS T K s := if_neg k5
    have eK : bodK T K s = linK T K s := if_neg k5
    rw [eS, eK]
    refine Wp.n (pc' := 20) 2 rfl ?_
    refine Wp.ecallV (len := 3) rfl rfl rfl (rfl) rfl (by decide) rfl (e1) ?_
    refine Wp.ifb0 (tgt := 34) (len := 3) rfl (fun h23 => ?_) (fun h23 => ?_)
    · have n23 : ¬ isW T s 365260 = true := by rw [← w1, h23]; decide
      refine Wp.n (pc' := 37) 2 rfl ?_
      refine Wp.ecallV (len := 3) rfl rfl rfl (rfl) rfl (by decide) rfl (e2) ?_
      refine Wp.ifb0 (tgt := 51) (len := 3) rfl (fun h40 => ?_) (fun h40 => ?_)
      · have n40 : ¬ isW T s 237308 = true := by rw [← w2, h40]; decide
        refine Wp.n (pc' := 54) 2 rfl ?_
        refine Wp.ecallV (len := 3) rfl rfl rfl (rfl) rfl (by decide) rfl (e3) ?_
        refine Wp.ifb0 (tgt := 68) (len := 3) rfl (fun h57 => ?_) (fun h57 => ?_)
        · have n57 : ¬ isW T s 129523 = true := by rw [← w3, h57]; decide
          refine Wp.n (pc' := 71) 2 rfl ?_
          refine Wp.ecallV (len := 3) rfl rfl rfl (rfl) rfl (by decide) rfl (e4) ?_
          refine Wp.ifb0 (tgt := 85) (len := 3) rfl (fun h74 => ?_) (fun h74 => ?_)
          · have n74 : ¬ isW T s 50348 = true := by rw [← w4, h74]; decide
            refine Wp.n (pc' := 88) 2 rfl ?_
            refine Wp.ecallV (len := 3) rfl rfl rfl (rfl) rfl (by decide) rfl (e5) ?_
            refine Wp.ifb0 (tgt := 101) (len := 3) rfl (fun h91 => ?_) (fun h91 => ?_)
            · have n91 : ¬ isW T s 3436186 = true := by rw [← w5, h91]; decide
              refine Wp.n (pc' := 104) 2 rfl ?_
              refine Wp.ecallV (len := 3) rfl rfl rfl (rfl) rfl (by decide) rfl (e6) ?_
              refine Wp.ifb0 (tgt := 117) (len := 3) rfl (fun h107 => ?_) (fun h107 => ?_)
              · have n107 : ¬ isW T s 453773 = true := by rw [← w6, h107]; decide
                refine Wp.n (pc' := 118) 1 rfl ?_
                refine Wp.callV (len := 3) rfl rfl rfl (rfl) rfl (by decide) rfl (k_readLaw hT hS hG hW hL hB) ?_
                rintro _ _ ⟨rfl, ρ1, κ1, rfl, f1, l1, b1⟩
                obtain ⟨eS6, eK6⟩ := lin_6 (T := T) (K := K) (s := s) (by unfold srt; rw [if_neg n23, if_neg n40, if_neg n57, if_neg n74, if_neg n91, if_neg n107])
                rw [eS6, eK6]
                exact k_line_e hT hS hG f1 l1 b1
              · have p107 : isW T s 453773 = true := by rw [← w6, h107]
                refine Wp.n (pc' := 111) 1 rfl ?_
                refine Wp.callV (len := 3) rfl rfl rfl (rfl) rfl (by decide) rfl (k_walkAny hT hS hG hW hL hB ok hP hD (by unfold srt; rw [if_neg n23, if_neg n40, if_neg n57, if_neg n74, if_neg n91, if_pos p107])) ?_
                rintro _ _ ⟨rfl, ρ1, κ1, rfl, f1, l1, b1⟩
                refine Wp.n (pc' := 121) 1 rfl ?_
                exact k_line_e hT hS hG f1 l1 b1
            · have p91 : isW T s 3436186 = true := by rw [← w5, h91]
              refine Wp.n (pc' := 95) 1 rfl ?_
              refine Wp.callV (len := 3) rfl rfl rfl (rfl) rfl (by decide) rfl (k_readFlood hT hS hG hW hL hB ok hD) ?_
              rintro _ _ ⟨rfl, ρ1, κ1, rfl, f1, l1, b1⟩
              obtain ⟨eS4, eK4⟩ := lin_4 (T := T) (K := K) (s := s) (by unfold srt; rw [if_neg n23, if_neg n40, if_neg n57, if_neg n74, if_pos p91])
              rw [eS4, eK4]
              refine Wp.n (pc' := 121) 1 rfl ?_
              exact k_line_e hT hS hG f1 l1 b1
          · have p74 : isW T s 50348 = true := by rw [← w4, h74]
            refine Wp.n (pc' := 79) 2 rfl ?_
            refine Wp.callV (len := 3) rfl rfl rfl (rfl) rfl (by decide) rfl (k_link (k := 3) hT hS hG hW hL hB ok hP hD (by decide) (by unfold srt; rw [if_neg n23, if_neg n40, if_neg n57, if_pos p74])) ?_
            rintro _ _ ⟨rfl, ρ1, κ1, rfl, f1, l1, b1⟩
            refine Wp.n (pc' := 121) 1 rfl ?_
            exact k_line_e hT hS hG f1 l1 b1
        · have p57 : isW T s 129523 = true := by rw [← w3, h57]
          refine Wp.n (pc' := 62) 2 rfl ?_
          refine Wp.callV (len := 3) rfl rfl rfl (rfl) rfl (by decide) rfl (k_link (k := 2) hT hS hG hW hL hB ok hP hD (by decide) (by unfold srt; rw [if_neg n23, if_neg n40, if_pos p57])) ?_
          rintro _ _ ⟨rfl, ρ1, κ1, rfl, f1, l1, b1⟩
          refine Wp.n (pc' := 121) 1 rfl ?_
          exact k_line_e hT hS hG f1 l1 b1
      · have p40 : isW T s 237308 = true := by rw [← w2, h40]
        refine Wp.n (pc' := 45) 2 rfl ?_
        refine Wp.callV (len := 3) rfl rfl rfl (rfl) rfl (by decide) rfl (k_link (k := 1) hT hS hG hW hL hB ok hP hD (by decide) (by unfold srt; rw [if_neg n23, if_pos p40])) ?_
        rintro _ _ ⟨rfl, ρ1, κ1, rfl, f1, l1, b1⟩
        refine Wp.n (pc' := 121) 1 rfl ?_
        exact k_line_e hT hS hG f1 l1 b1
    · have p23 : isW T s 365260 = true := by rw [← w1, h23]
      refine Wp.n (pc' := 28) 2 rfl ?_
      refine Wp.callV (len := 3) rfl rfl rfl (rfl) rfl (by decide) rfl (k_link (k := 0) hT hS hG hW hL hB ok hP hD (by decide) (by unfold srt; rw [if_pos p23])) ?_
      rintro _ _ ⟨rfl, ρ1, κ1, rfl, f1, l1, b1⟩
      refine Wp.n (pc' := 121) 1 rfl ?_
      exact k_line_e hT hS hG f1 l1 b1
  · have k5 : kh K 5 = 0 := h7
    have eS : bodS T K s = pf6 T (.inr s) := if_pos k5
    have eK : bodK T K s = firK T (.inr s) := if_pos k5
    rw [eS, eK]
    obtain rfl := hK0 k5
    refine Wp.n (pc' := 11) 1 rfl ?_
    refine Wp.callV (len := 3) rfl rfl rfl (rfl) rfl (by decide) rfl (k_readKingdom hT hS hG hW hL hB) ?_
    rintro _ _ ⟨rfl, ρ1, κ1, rfl, f1, l1, b1⟩
    refine Wp.n (pc' := 121) 1 rfl ?_
    exact k_line_e hT hS hG f1 l1 b1
end ALC
end
section
/-! THE KINGDOM, the class. -/
section KNC
variable {d : Nat} {M : AM} {κ κ' κ0 : CS} {T : TP} {st : St} {K : KD} {ρ ρ' : RC} {Q : Option Value → AM → Prop}
/-- what a new text may change of the class's state -/
def FKc (κ κ' : CS) : Prop := (∀ s, s ≠ 0 → s ≠ 2 → κ'.1 s = κ.1 s) ∧ κ'.2.1 = κ.2.1 ∧ κ'.2.2.1 = κ.2.2.1
theorem hO83 {ow : Int32} (hD : M 32 = .inr (9, hdl ow)) : cset (rset M 83 ρ) κ 32 = .inr (9, hdl ow) := (cset_o (by omega)).trans ((rset_ne (by omega)).trans hD)
theorem k_kin_l {ow : Int32} (hD : M 32 = .inr (9, hdl ow)) (hW : HW M) (hT : TC κ0 T) (hS : κ0.2.2.2 0 = some 33) (hG : κ0.2.2.2 1 = some 83) {r : St × KD} (kk : ∀ ρ' κ' i, FA κ0 κ' → LC κ' T r.1 → (gd r.1 = true → BdC ρ' r.2 ∧ PK r.2) → Wp (d + 14) md_90 47 [some (.ref 32), some (.int (nI i))] [] (cset (rset M 83 ρ') κ') Q) : ∀ (n : Nat) {i : Nat} {st : St} {K : KD} {ρ : RC} {κ : CS}, FA κ0 κ → LC κ T st → (gd st = true → BdC ρ K ∧ PK K) → (∀ s, st = .inr s → i ≤ s ∧ s ≤ T.1 ∧ kh K 5 = i ∧ T.1 - s < n) → i ≤ 2000 → prsT T n st K = r → Wp (d + 14) md_90 17 [some (.ref 32), some (.int (nI i))] [] (cset (rset M 83 ρ) κ) Q
  | n, i, .inl x, K, ρ, κ, f, l, hB, hs, hi, hr => by
    have e : r = (.inl x, K) := by
      rw [← hr]
      cases n <;> rfl
    subst e
    refine Wp.n (pc' := 21) 2 rfl ?_
    refine Wp.nc3 (x := i) (y := 2000) (tgt := 47) (len := 3) rfl (by omega) (by omega) (fun h21 => ?_) (fun h21 => ?_)
    · skip
      exact kk _ _ _ f l (fun q => by cases q)
    · skip
      refine Wp.n (pc' := 25) 1 rfl ?_
      refine Wp.get (len := 3) rfl (hO83 hD) rfl ?_
      refine Wp.ecallV (len := 3) rfl rfl rfl (rfl) rfl (by decide) rfl (k_hasLine l) ?_
      refine Wp.ifb0 (tgt := 47) (len := 3) rfl (fun h31 => ?_) (fun h31 => ?_)
      · skip
        exact kk _ _ _ f l (fun q => by cases q)
      · cases h31
  | 0, i, .inr s, K, ρ, κ, f, l, hB, hs, hi, hr => absurd (hs s rfl).2.2.2 (Nat.not_lt_zero _)
  | n + 1, i, .inr s, K, ρ, κ, f, l, hB, hs, hi, hr => by
    obtain ⟨hB1, hP⟩ := hB rfl
    obtain ⟨s1, s2, s3, s4⟩ := hs s rfl
    have t20 := hT.2.1
    have hG1 : κ.2.2.2 1 = some 83 := by rw [f.2]; exact hG
    have hS1 : κ.2.2.2 0 = some 33 := by rw [f.2]; exact hS
    have hT1 := f.tc hT
    by_cases c0 : tk T s = 0
    · have e : r = (.inr s, K) := by
        rw [← hr]
        exact if_pos c0
      subst e
      have hl : hlS T (.inr s) = false := decide_eq_false (fun q => q c0)
      refine Wp.n (pc' := 21) 2 rfl ?_
      refine Wp.nc3 (x := i) (y := 2000) (tgt := 47) (len := 3) rfl (by omega) (by omega) (fun h21 => ?_) (fun h21 => ?_)
      · skip
        exact kk _ _ _ f l (fun _ => ⟨hB1, hP⟩)
      · skip
        refine Wp.n (pc' := 25) 1 rfl ?_
        refine Wp.get (len := 3) rfl (hO83 hD) rfl ?_
        refine Wp.ecallV (len := 3) rfl rfl rfl (rfl) rfl (by decide) rfl (k_hasLine l) ?_
        refine Wp.ifb0 (tgt := 47) (len := 3) rfl (fun h31 => ?_) (fun h31 => ?_)
        · skip
          exact kk _ _ _ f l (fun _ => ⟨hB1, hP⟩)
        · rw [hl] at h31; cases h31
    · have hr2 : prsT T n (endS T (bodS T K s)) (incL (bodK T K s)) = r := by
        rw [← hr]
        exact (if_neg c0).symm
      have hl : hlS T (.inr s) = true := decide_eq_true c0
      have sT : s < T.1 := by
        have := Nat.not_le.mp (fun q => c0 ((tk_0 (T := T) (s := s)).mpr q))
        exact this
      refine Wp.n (pc' := 21) 2 rfl ?_
      refine Wp.nc3 (x := i) (y := 2000) (tgt := 47) (len := 3) rfl (by omega) (by omega) (fun h21 => ?_) (fun h21 => ?_)
      · omega
      · skip
        refine Wp.n (pc' := 25) 1 rfl ?_
        refine Wp.get (len := 3) rfl (hO83 hD) rfl ?_
        refine Wp.ecallV (len := 3) rfl rfl rfl (rfl) rfl (by decide) rfl (k_hasLine l) ?_
        refine Wp.ifb0 (tgt := 47) (len := 3) rfl (fun h31 => ?_) (fun h31 => ?_)
        · rw [hl] at h31; cases h31
        · skip
          refine Wp.n (pc' := 35) 1 rfl ?_
          refine Wp.get (len := 3) rfl (hO83 hD) rfl ?_
          refine Wp.callV (len := 3) rfl rfl rfl (rfl) rfl (by decide) rfl (k_readLine hT1 hS1 hG1 hW l hB1 hP) ?_
          rintro _ _ ⟨rfl, ρ1, κ1, rfl, f1, l1, b1⟩
          refine Wp.incN (x := i) (len := 3) rfl rfl ?_
          refine Wp.n (pc' := 17) 1 rfl ?_
          refine k_kin_l hD hW hT hS hG kk n (f.t f1) l1 (fun g => ⟨b1 g, PK_step hP (by omega) g⟩) (fun s' e => ?_) (by omega) hr2
          obtain ⟨q1, q2⟩ := step_lt (T := T) (K := K) (s := s) (s' := s') s2 e
          refine ⟨by omega, q2, ?_, by omega⟩
          show kh (bodK T K s) 5 + 1 = i + 1
          rw [bod_5, s3]
theorem k_kingdom (hD : HD M) (hW : HW M) (hk : RK M 36 K) (hR : ∃ ρ, RA M 83 ρ) (hT : TC κ T) : Wp (d + 15) md_90 0 [some (.ref 32), none] [] (cset M κ) (fun v M' => v = some (.int (kinA T)) ∧ ∃ M1 κ', M' = cset M1 κ' ∧ (∀ q, q < 36 ∨ 130 ≤ q → M1 q = M q) ∧ RK M1 36 (kinN T K) ∧ (∃ ρ, RA M1 83 ρ) ∧ FKc κ κ' ∧ FCl κ' (flt (kinR T).1) ∧ TC κ' (0, T.2)) := by
  obtain ⟨⟨ow, hD⟩, -⟩ := hD
  obtain ⟨ρ, hρ⟩ := hR
  have t20 := hT.2.1
  have hbl : bl T 0 ≤ T.1 := (tn_le (T := T) (p := isBl) (Nat.zero_le _)).2
  rw [show cset M κ = cset (rset M 83 ρ) κ by rw [show rset M 83 ρ = M from hρ]]
  refine Wp.n (pc' := 1) 1 rfl ?_
  refine Wp.get (len := 3) rfl (hO83 hD) rfl ?_
  refine Wp.n (pc' := 5) 1 rfl ?_
  refine Wp.get (len := 3) rfl (hO83 hD) rfl ?_
  refine Wp.n (pc' := 9) 1 rfl ?_
  refine Wp.get (len := 3) rfl (hO83 hD) rfl ?_
  refine Wp.callV (len := 3) rfl rfl rfl (rfl) rfl (by decide) rfl (k_readerBegin (d := d + 4) hT) ?_
  rintro _ _ ⟨rfl, ρ1, κ1, rfl, f1, l1, b1⟩
  refine Wp.n (pc' := 17) 2 rfl ?_
  have hT0 : TC (cr (cr κ 0 (some 33)) 1 (some 83)) T := hT
  refine k_kin_l (d := d + 1) (r := kinR T) hD hW hT0 rfl rfl (fun ρ2 κ2 i f2 l2 hB2 => ?_) 2001 (i := 0) f1 l1 (fun _ => ⟨b1, PK_K0⟩) (fun s q => ?_) (by decide) rfl
  · have fk : FKc κ (cf κ2 0 1 (nI 0)) := ⟨fun s h0 h2 => (va_up_ne _ _ h0).trans (f2.1 s h2), by show κ2.2.1 = _; rw [f2.2]; rfl, by show κ2.2.2.1 = _; rw [f2.2]; rfl⟩
    have hT9 : TC (cf κ2 0 1 (nI 0)) (0, T.2) := ⟨rfl, Nat.zero_le _, fun i hi => absurd hi (Nat.not_lt_zero _)⟩
    rcases hq : (kinR T).1 with x | s
    · rw [hq] at l2
      have x1 := l2.2.1
      have x3 := l2.2.2.1
      have ng : ¬ gd (kinR T).1 = true := by rw [hq]; exact Bool.false_ne_true
      refine Wp.n (pc' := 48) 1 rfl ?_
      refine Wp.get (len := 3) rfl (hO83 hD) rfl ?_
      refine Wp.n (pc' := 52) 1 rfl ?_
      refine Wp.cput0 (len := 3) rfl ?_
      refine Wp.n (pc' := 56) 1 rfl ?_
      refine Wp.get (len := 3) rfl (hO83 hD) rfl ?_
      refine Wp.get (len := 3) rfl (rfl) rfl ?_
      refine Wp.top l2.1 ?_
      refine Wp.nz0 (x := x.1) (tgt := 68) (len := 3) rfl (by omega) (fun h62 => ?_) (fun h62 => ?_)
      · omega
      · skip
        refine Wp.n (pc' := 67) 1 rfl ?_
        refine Wp.retI (len := 1) rfl rfl ?_
        refine ⟨by unfold kinA; rw [if_neg ng], rset M 83 ρ2, _, rfl, fun q hq2 => rset_ne (by omega), ?_, ⟨ρ2, rset_ra⟩, fk, ⟨l2.1, l2.2.2.2.1⟩, hT9⟩
        unfold kinN
        rw [if_neg ng]
        exact RK_of hk (fun k a b => rset_ne (by omega))
    · rw [hq] at l2
      have yg : gd (kinR T).1 = true := by rw [hq]; rfl
      obtain ⟨bK, pK⟩ := hB2 yg
      have b0 := (ok_h pK.1).1
      refine Wp.n (pc' := 48) 1 rfl ?_
      refine Wp.get (len := 3) rfl (hO83 hD) rfl ?_
      refine Wp.n (pc' := 52) 1 rfl ?_
      refine Wp.cput0 (len := 3) rfl ?_
      refine Wp.n (pc' := 56) 1 rfl ?_
      refine Wp.get (len := 3) rfl (hO83 hD) rfl ?_
      refine Wp.get (len := 3) rfl (rfl) rfl ?_
      refine Wp.top l2.1 ?_
      refine Wp.nz0 (x := 0) (tgt := 68) (len := 3) rfl (by omega) (fun h62 => ?_) (fun h62 => ?_)
      · skip
        refine Wp.n (pc' := 69) 1 rfl ?_
        refine Wp.get (len := 3) rfl (hO83 hD) rfl ?_
        refine Wp.callV (len := 3) rfl rfl rfl (dobj) rfl (by decide) rfl (k_reckonRoads bK.1 pK.1 (by decide) (RA_c rset_ra (by decide) (by decide))) ?_
        rintro _ _ ⟨rfl, f, rfl, hf⟩
        rw [rset_c (by decide) (by decide), rset_rset]
        obtain ⟨ρk, hRk, hKk, hDk, okk, _, _⟩ := id hk
        have hobj : M 36 = .inr (3, rfs 36 ρk) := by rw [← show rset M 36 ρk = M from hRk]; exact rs_obj
        refine Wp.n (pc' := 76) 1 rfl ?_
        refine Wp.get (len := 3) rfl (hO83 hD) rfl ?_
        refine Wp.n (pc' := 80) 1 rfl ?_
        refine Wp.get (len := 3) rfl (hO83 hD) rfl ?_
        refine Wp.callV (len := 3) rfl rfl rfl ((cset_o (by omega)).trans ((rset_ne (by omega)).trans hobj)) rfl (by decide) rfl (k_become (ρ := ρk) (RA_c (RA_of hRk (fun k a b => rset_ne (by omega))) (by decide) (by decide)) (RA_c rset_ra (by decide) (by decide)) (by decide) (by decide) (by decide) (show RepC (dset ρ2 f) (kinR T).2 from bK.1) pK.1 pK.2.1) ?_
        rintro _ _ ⟨rfl, ρ3, rfl, RC3, hd3⟩
        rw [rset_c (by decide) (by decide)]
        refine Wp.n (pc' := 87) 1 rfl ?_
        refine Wp.get (len := 3) rfl ((cset_o (by omega)).trans ((rset_ne (by omega)).trans ((rset_ne (by omega)).trans hD))) rfl ?_
        refine Wp.get (len := 3) rfl ((cset_o (by omega)).trans rs_obj) rfl ?_
        refine Wp.top RC3.2.2.1 ?_
        refine Wp.retI (len := 1) rfl rfl ?_
        refine ⟨by unfold kinA; rw [if_pos yg], rset (rset M 83 (dset ρ2 f)) 36 ρ3, _, rfl, fun q hq2 => (rset_ne (by omega)).trans (rset_ne (by omega)), ?_, ⟨dset ρ2 f, RA_of rset_ra (fun k a b => rset_ne (by omega))⟩, fk, ⟨l2.1, l2.2.1⟩, hT9⟩
        unfold kinN
        rw [if_pos yg]
        refine ⟨ρ3, rset_ra, RC3, fun x y hx hy => ?_, pK.1, by decide, by decide⟩
        rw [hd3 _ (by omega)]
        exact hf x y hx hy
      · omega
  · cases q
    exact ⟨Nat.zero_le _, hbl, rfl, by omega⟩
end KNC
end
section
/-! MAKING OBJECTS: a memory with its two counters, rules for new cells; a block of cells. -/
def cx (M : AM) (n m : Nat) : AM := va_up (va_up M 0 (.inr (n, []))) 1 (.inr (m, []))
def rsE (M : AM) (r e : Nat) (f : Nat → AE) : AM := fun q => if r ≤ q ∧ q < r + e then f (q - r) else M q
def rwE (t w : Nat) (g : Nat → Nat) (j : Nat) : AE := .inl (t, w, .inr (.inr (.inr (.inr (fun i => if i < j then some (g i) else none)))))
section MKO
variable {d : Nat} {X : MD} {pc len a b : Nat} {l : AL} {st : List Value} {M M' : AM} {v : Value} {Q : Option Value → AM → Prop} {n m r e q k : Nat} {f g : Nat → AE}
theorem cx_o (h : 2 ≤ k) : cx M n m k = M k := (va_up_ne _ _ (by omega)).trans (va_up_ne _ _ (by omega))
theorem cx_up {c : AE} (h : 2 ≤ k) : va_up (cx M n m) k c = cx (va_up M k c) n m := by
  funext q
  by_cases h1 : q = k
  · rw [h1, va_up_self, cx_o h, va_up_self]
  · rw [va_up_ne _ _ h1]
    by_cases h2 : 2 ≤ q
    · rw [cx_o h2, cx_o h2, va_up_ne _ _ h1]
    · obtain rfl | rfl : q = 0 ∨ q = 1 := by omega
      · rfl
      · rfl
theorem mnew_cx {c : AE} {sz : Nat} : mnew (cx M n m) c sz = cx (va_up M (32 + n) c) (n + 1) (m + sz) := by
  show va_up (va_up (va_up (cx M n m) (32 + n) c) 0 (.inr (n + 1, []))) 1 (.inr (m + sz, [])) = _
  rw [cx_up (by omega)]
  funext q
  by_cases h2 : 2 ≤ q
  · rw [va_up_ne _ _ (by omega), va_up_ne _ _ (by omega), cx_o h2, cx_o h2]
  · obtain rfl | rfl : q = 0 ∨ q = 1 := by omega
    · rfl
    · rfl
theorem cx_eq {n' m' : Nat} (h1 : M = M') (h2 : n = n') (h3 : m = m') : cx M n m = cx M' n' m' := by subst h1 h2 h3; rfl
theorem Wp.cong (h : M = M') (w : Wp d X pc l st M' Q) : Wp d X pc l st M Q := h ▸ w
theorem nI_nn (h : k ≤ 100000) : (decide (nI k < 0) || Nat.blt 100000 (nI k).toNatClampNeg) = false := by
  have h1 : ¬ nI k < 0 := fun q => vp_in_nI (n := k) (N := k + 1) (by omega) (by omega) (Or.inl q)
  rw [decide_eq_false h1, nI_clamp (by omega)]
  cases hb : Nat.blt 100000 k with
  | false => rfl
  | true => exact absurd (show 100000 < k from Nat.le_of_ble_eq_true hb) (by omega)
theorem Wp.xnew (hc : cdx X pc = some (.inr (.inr (2, a, b, v)), len)) (hq : 32 + n = q) (h : Wp d X (pc + len) l (.ref q :: st) (cx (va_up M q (.inr (a, nfs a))) (n + 1) (m + fN a)) Q) : Wp d X pc l st (cx M n m) Q := by
  subst hq
  refine Wp.s (pc' := pc + len) (l' := l) (st' := .ref (32 + n) :: st) (M' := cx (va_up M (32 + n) (.inr (a, nfs a))) (n + 1) (m + fN a)) ?_ h
  unfold sstep
  rw [hc]
  show some (pc + len, l, .ref (32 + n) :: st, mnew (cx M n m) (.inr (a, nfs a)) (fN a)) = _
  rw [mnew_cx]
theorem Wp.xanew (hc : cdx X pc = some (.inr (.inr (3, a, b, v)), len)) (hk : k ≤ 100000) (hq : 32 + n = q) (h : Wp d X (pc + len) l (.ref q :: st) (cx (va_up M q (.inl (a, k, .inr (.inr (.inr (.inr (fun _ => none))))))) (n + 1) (m + k)) Q) : Wp d X pc l (.int (nI k) :: st) (cx M n m) Q := by
  subst hq
  refine Wp.s (pc' := pc + len) (l' := l) (st' := .ref (32 + n) :: st) (M' := cx (va_up M (32 + n) (.inl (a, k, .inr (.inr (.inr (.inr (fun _ => none))))))) (n + 1) (m + k)) ?_ h
  unfold sstep
  rw [hc]
  show (bif decide (nI k < 0) || Nat.blt 100000 (nI k).toNatClampNeg then none else some (pc + len, l, .ref (32 + n) :: st, mnew (cx M n m) (.inl (a, (nI k).toNatClampNeg, .inr (.inr (.inr (.inr (fun _ => none)))))) (nI k).toNatClampNeg)) = _
  rw [nI_nn hk, nI_clamp (by omega), mnew_cx]
  rfl
theorem Wp.xna0 (hc : cdx X pc = some (.inr (.inl (.newarray .int)), len)) (hk : k ≤ 100000) (hq : 32 + n = q) (h : Wp d X (pc + len) l (.ref q :: st) (cx (va_up M q (.inl (0, k, .inl (fun _ => 0)))) (n + 1) (m + k)) Q) : Wp d X pc l (.int (nI k) :: st) (cx M n m) Q := by
  subst hq
  refine Wp.s (pc' := pc + len) (l' := l) (st' := .ref (32 + n) :: st) (M' := cx (va_up M (32 + n) (.inl (0, k, .inl (fun _ => 0)))) (n + 1) (m + k)) ?_ h
  have e : mstep (.newarray .int) (.int (nI k) :: st) (cx M n m) = some (.ref (32 + n) :: st, cx (va_up M (32 + n) (.inl (0, k, .inl (fun _ => 0)))) (n + 1) (m + k)) := by
    show (bif decide (nI k < 0) || Nat.blt 100000 (nI k).toNatClampNeg then none else some (.ref (32 + n) :: st, mnew (cx M n m) (.inl (0, (nI k).toNatClampNeg, .inl (fun _ => 0))) (nI k).toNatClampNeg)) = _
    rw [nI_nn hk, nI_clamp (by omega), mnew_cx]
    rfl
  unfold sstep
  rw [hc]
  show (match mstep (.newarray .int) (.int (nI k) :: st) (cx M n m) with | some (st', M') => some (pc + len, l, st', M') | none => none) = _
  rw [e]
theorem Wp.xna1 (hc : cdx X pc = some (.inr (.inl (.newarray .long)), len)) (hk : k ≤ 100000) (hq : 32 + n = q) (h : Wp d X (pc + len) l (.ref q :: st) (cx (va_up M q (.inl (1, k, .inr (.inl (fun _ => 0))))) (n + 1) (m + k)) Q) : Wp d X pc l (.int (nI k) :: st) (cx M n m) Q := by
  subst hq
  refine Wp.s (pc' := pc + len) (l' := l) (st' := .ref (32 + n) :: st) (M' := cx (va_up M (32 + n) (.inl (1, k, .inr (.inl (fun _ => 0))))) (n + 1) (m + k)) ?_ h
  have e : mstep (.newarray .long) (.int (nI k) :: st) (cx M n m) = some (.ref (32 + n) :: st, cx (va_up M (32 + n) (.inl (1, k, .inr (.inl (fun _ => 0))))) (n + 1) (m + k)) := by
    show (bif decide (nI k < 0) || Nat.blt 100000 (nI k).toNatClampNeg then none else some (.ref (32 + n) :: st, mnew (cx M n m) (.inl (1, (nI k).toNatClampNeg, .inr (.inl (fun _ => 0)))) (nI k).toNatClampNeg)) = _
    rw [nI_nn hk, nI_clamp (by omega), mnew_cx]
    rfl
  unfold sstep
  rw [hc]
  show (match mstep (.newarray .long) (.int (nI k) :: st) (cx M n m) with | some (st', M') => some (pc + len, l, st', M') | none => none) = _
  rw [e]
theorem Wp.xna2 (hc : cdx X pc = some (.inr (.inl (.newarray .byte)), len)) (hk : k ≤ 100000) (hq : 32 + n = q) (h : Wp d X (pc + len) l (.ref q :: st) (cx (va_up M q (.inl (2, k, .inl (fun _ => 0)))) (n + 1) (m + k)) Q) : Wp d X pc l (.int (nI k) :: st) (cx M n m) Q := by
  subst hq
  refine Wp.s (pc' := pc + len) (l' := l) (st' := .ref (32 + n) :: st) (M' := cx (va_up M (32 + n) (.inl (2, k, .inl (fun _ => 0)))) (n + 1) (m + k)) ?_ h
  have e : mstep (.newarray .byte) (.int (nI k) :: st) (cx M n m) = some (.ref (32 + n) :: st, cx (va_up M (32 + n) (.inl (2, k, .inl (fun _ => 0)))) (n + 1) (m + k)) := by
    show (bif decide (nI k < 0) || Nat.blt 100000 (nI k).toNatClampNeg then none else some (.ref (32 + n) :: st, mnew (cx M n m) (.inl (2, (nI k).toNatClampNeg, .inl (fun _ => 0))) (nI k).toNatClampNeg)) = _
    rw [nI_nn hk, nI_clamp (by omega), mnew_cx]
    rfl
  unfold sstep
  rw [hc]
  show (match mstep (.newarray .byte) (.int (nI k) :: st) (cx M n m) with | some (st', M') => some (pc + len, l, st', M') | none => none) = _
  rw [e]
theorem Wp.xna3 (hc : cdx X pc = some (.inr (.inl (.newarray .boolean)), len)) (hk : k ≤ 100000) (hq : 32 + n = q) (h : Wp d X (pc + len) l (.ref q :: st) (cx (va_up M q (.inl (3, k, .inl (fun _ => 0)))) (n + 1) (m + k)) Q) : Wp d X pc l (.int (nI k) :: st) (cx M n m) Q := by
  subst hq
  refine Wp.s (pc' := pc + len) (l' := l) (st' := .ref (32 + n) :: st) (M' := cx (va_up M (32 + n) (.inl (3, k, .inl (fun _ => 0)))) (n + 1) (m + k)) ?_ h
  have e : mstep (.newarray .boolean) (.int (nI k) :: st) (cx M n m) = some (.ref (32 + n) :: st, cx (va_up M (32 + n) (.inl (3, k, .inl (fun _ => 0)))) (n + 1) (m + k)) := by
    show (bif decide (nI k < 0) || Nat.blt 100000 (nI k).toNatClampNeg then none else some (.ref (32 + n) :: st, mnew (cx M n m) (.inl (3, (nI k).toNatClampNeg, .inl (fun _ => 0))) (nI k).toNatClampNeg)) = _
    rw [nI_nn hk, nI_clamp (by omega), mnew_cx]
    rfl
  unfold sstep
  rw [hc]
  show (match mstep (.newarray .boolean) (.int (nI k) :: st) (cx M n m) with | some (st', M') => some (pc + len, l, st', M') | none => none) = _
  rw [e]
theorem Wp.xput {fs : List Value} {w : Value} (hc : cdx X pc = some (.inr (.inr (1, a, b, v)), len)) (hM : M k = .inr (a, fs)) (h2 : 2 ≤ k) (hok : (Nat.blt b fs.length && pfit (fcode a b) w && (bif (fTX a b).2.2.2 then md_i X && Nat.beq (md_o X) a else true)) = true) (h : Wp d X (pc + len) l st (cx (va_up M k (.inr (a, fs.set b w))) n m) Q) : Wp d X pc l (w :: .ref k :: st) (cx M n m) Q := by
  refine Wp.put hc ((cx_o h2).trans hM) hok ?_
  rw [cx_up h2]
  exact h
theorem Wp.xget {fs : List Value} {w : Value} (hc : cdx X pc = some (.inr (.inr (0, a, b, v)), len)) (hM : M k = .inr (a, fs)) (h2 : 2 ≤ k) (hv : gv fs b = some w) (h : Wp d X (pc + len) l (w :: st) (cx M n m) Q) : Wp d X pc l (.ref k :: st) (cx M n m) Q := Wp.get hc ((cx_o h2).trans hM) hv h
theorem Wp.xiast {w j : Nat} {g : Nat → Int32} {x : Int32} (hc : cdx X pc = some (.inr (.inl .iastore), len)) (hM : M k = .inl (0, w, .inl g)) (h2 : 2 ≤ k) (hj : j < w) (hw : w < 2 ^ 31) (h : Wp d X (pc + len) l st (cx (va_up M k (.inl (0, w, .inl (upd g j x)))) n m) Q) : Wp d X pc l (.int x :: .int (nI j) :: .ref k :: st) (cx M n m) Q := by
  refine Wp.iastN hc ((cx_o h2).trans hM) hj hw ?_
  rw [cx_up h2]
  exact h
theorem rwE_0 {t w : Nat} {g : Nat → Nat} : (.inl (t, w, .inr (.inr (.inr (.inr (fun _ => none))))) : AE) = rwE t w g 0 := by
  have e : (fun i => if i < 0 then some (g i) else none : Nat → Option Nat) = fun _ => none := by
    funext i
    exact if_neg (Nat.not_lt_zero _)
  unfold rwE
  rw [e]
theorem rwE_s {t w j p : Nat} {g : Nat → Nat} (h : g j = p) : (.inl (t, w, .inr (.inr (.inr (.inr (va_up (fun i => if i < j then some (g i) else none) j (some p)))))) : AE) = rwE t w g (j + 1) := by
  have e : va_up (fun i => if i < j then some (g i) else none : Nat → Option Nat) j (some p) = fun i => if i < j + 1 then some (g i) else none := by
    funext i
    by_cases c : i = j
    · rw [c, va_up_self, if_pos (by omega), h]
    · rw [va_up_ne _ _ c]
      by_cases c2 : i < j
      · rw [if_pos c2, if_pos (by omega)]
      · rw [if_neg c2, if_neg (by omega)]
  unfold rwE
  rw [e]
theorem Wp.xaast {t w j ci p : Nat} {g : Nat → Nat} {fs : List Value} (hc : cdx X pc = some (.inr (.inl .aastore), len)) (hM : M k = rwE t w g j) (hv : M p = .inr (ci, fs)) (hg : g j = p) (ht : (Nat.ble 4 t && Nat.ble t 6 && Nat.beq ci (tag_cls t)) = true) (h2 : 2 ≤ k) (h32 : 32 ≤ p) (hj : j < w) (hw : w < 2 ^ 31) (h : Wp d X (pc + len) l st (cx (va_up M k (rwE t w g (j + 1))) n m) Q) : Wp d X pc l (.ref p :: .int (nI j) :: .ref k :: st) (cx M n m) Q := by
  refine Wp.of (fun _ => Ev.aast hc ((cx_o h2).trans hM) ((cx_o (by omega)).trans hv) ht h32 (vp_in_nI hj hw)) ?_
  rw [nI_clamp (by omega), cx_up h2, rwE_s hg]
  exact h
-- a block
theorem rsE_at {i : Nat} (h : i < e) : rsE M r e f (r + i) = f i := by
  unfold rsE
  rw [if_pos ⟨by omega, by omega⟩, show r + i - r = i by omega]
theorem rsE_up {i : Nat} {c : AE} (h : i < e) : va_up (rsE M r e f) (r + i) c = rsE M r e (va_up f i c) := by
  funext q
  by_cases h1 : q = r + i
  · rw [h1, va_up_self, rsE_at h, va_up_self]
  · rw [va_up_ne _ _ h1]
    unfold rsE
    by_cases h2 : r ≤ q ∧ q < r + e
    · rw [if_pos h2, if_pos h2, va_up_ne _ _ (by omega)]
    · rw [if_neg h2, if_neg h2]
theorem rsE_new {c : AE} : va_up (rsE M r e f) (r + e) c = rsE M r (e + 1) (va_up f e c) := by
  funext q
  by_cases h1 : q = r + e
  · rw [h1, va_up_self, rsE_at (Nat.lt_succ_self _), va_up_self]
  · rw [va_up_ne _ _ h1]
    unfold rsE
    by_cases h2 : r ≤ q ∧ q < r + e
    · rw [if_pos h2, if_pos ⟨h2.1, by omega⟩, va_up_ne _ _ (by omega)]
    · rw [if_neg h2, if_neg (by omega)]
theorem rsE_eq {e' : Nat} (he : e = e') (h : ∀ k, k < e → f k = g k) : rsE M r e f = rsE M r e' g := by
  subst he
  funext q
  unfold rsE
  by_cases h2 : r ≤ q ∧ q < r + e
  · rw [if_pos h2, if_pos h2, h _ (by omega)]
  · rw [if_neg h2, if_neg h2]
theorem rsE_1 {c : AE} : va_up M r c = rsE M r 1 (fun _ => c) := by
  funext q
  by_cases h1 : q = r
  · rw [h1, va_up_self]
    exact (rsE_at (M := M) (r := r) (f := fun _ => c) (e := 1) (i := 0) (by decide)).symm
  · rw [va_up_ne _ _ h1]
    unfold rsE
    rw [if_neg (by omega)]
theorem bgt {i : Nat} (h32 : 32 ≤ r) (h : i < e) : cx (rsE M r e f) n m (r + i) = f i := (cx_o (by omega)).trans (rsE_at h)
theorem Wp.bnew (hc : cdx X pc = some (.inr (.inr (2, a, b, v)), len)) (hq : 32 + n = r + e) (h : Wp d X (pc + len) l (.ref (r + e) :: st) (cx (rsE M r (e + 1) (va_up f e (.inr (a, nfs a)))) (n + 1) (m + fN a)) Q) : Wp d X pc l st (cx (rsE M r e f) n m) Q := Wp.xnew hc hq (by rw [rsE_new]; exact h)
theorem Wp.banew (hc : cdx X pc = some (.inr (.inr (3, a, b, v)), len)) (hk : k ≤ 100000) (hq : 32 + n = r + e) (g : Nat → Nat) (h : Wp d X (pc + len) l (.ref (r + e) :: st) (cx (rsE M r (e + 1) (va_up f e (rwE a k g 0))) (n + 1) (m + k)) Q) : Wp d X pc l (.int (nI k) :: st) (cx (rsE M r e f) n m) Q := Wp.xanew hc hk hq (by rw [rsE_new, rwE_0 (g := g)]; exact h)
theorem Wp.bna0 (hc : cdx X pc = some (.inr (.inl (.newarray .int)), len)) (hk : k ≤ 100000) (hq : 32 + n = r + e) (h : Wp d X (pc + len) l (.ref (r + e) :: st) (cx (rsE M r (e + 1) (va_up f e (.inl (0, k, .inl (fun _ => 0))))) (n + 1) (m + k)) Q) : Wp d X pc l (.int (nI k) :: st) (cx (rsE M r e f) n m) Q := Wp.xna0 hc hk hq (by rw [rsE_new]; exact h)
theorem Wp.bput {i : Nat} {fs : List Value} {w : Value} (hc : cdx X pc = some (.inr (.inr (1, a, b, v)), len)) (h32 : 32 ≤ r) (hi : i < e) (hM : f i = .inr (a, fs)) (hok : (Nat.blt b fs.length && pfit (fcode a b) w && (bif (fTX a b).2.2.2 then md_i X && Nat.beq (md_o X) a else true)) = true) (h : Wp d X (pc + len) l st (cx (rsE M r e (va_up f i (.inr (a, fs.set b w)))) n m) Q) : Wp d X pc l (w :: .ref (r + i) :: st) (cx (rsE M r e f) n m) Q := Wp.xput hc ((rsE_at hi).trans hM) (by omega) hok (by rw [rsE_up hi]; exact h)
theorem Wp.baast {t w j ci i i' : Nat} {g : Nat → Nat} {fs : List Value} (hc : cdx X pc = some (.inr (.inl .aastore), len)) (h32 : 32 ≤ r) (hi : i < e) (hi' : i' < e) (hM : f i = rwE t w g j) (hv : f i' = .inr (ci, fs)) (hg : g j = r + i') (ht : (Nat.ble 4 t && Nat.ble t 6 && Nat.beq ci (tag_cls t)) = true) (hj : j < w) (hw : w < 2 ^ 31) (h : Wp d X (pc + len) l st (cx (rsE M r e (va_up f i (rwE t w g (j + 1)))) n m) Q) : Wp d X pc l (.ref (r + i') :: .int (nI j) :: .ref (r + i) :: st) (cx (rsE M r e f) n m) Q := Wp.xaast hc ((rsE_at hi).trans hM) ((rsE_at hi').trans hv) hg ht (by omega) (by omega) hj hw (by rw [rsE_up hi]; exact h)
theorem va_uu {α : Type} {f : Nat → α} {k : Nat} {x y : α} : va_up (va_up f k x) k y = va_up f k y := by
  funext q
  by_cases c : q = k
  · rw [c, va_up_self, va_up_self]
  · rw [va_up_ne _ _ c, va_up_ne _ _ c, va_up_ne _ _ c]
theorem k_lawInit {y : Nat} : Ev (d + 8) md_0 0 [some (.ref y)] [] M (none, M) := by
  refine Wp.toEv ?_
  refine Wp.n (pc' := 1) 1 rfl ?_
  refine Wp.bi (len := 3) rfl (by decide) rfl (by omega) ?_
  refine Wp.retV (len := 1) rfl rfl ?_
  exact ⟨rfl, rfl⟩
theorem k_lawBegin2 {i : Nat} (h32 : 32 ≤ r) (hi : i < e) (hM : f i = .inr (0, nfs 0)) : Ev d md_1 0 [some (.ref (r + i))] [] (cx (rsE M r e f) n m) (none, cx (rsE M r e (va_up f i (.inr (0, [.int 0, .int 0, .int 0, .int 1, .int 0])))) n m) := by
  refine Wp.toEv ?_
  refine Wp.n (pc' := 2) 2 rfl ?_
  refine Wp.bput (i := i) (fs := nfs 0) (len := 3) rfl h32 hi (hM) rfl ?_
  refine Wp.n (pc' := 7) 2 rfl ?_
  refine Wp.bput (i := i) (fs := [.int 0, .int 0, .int 0, .int 0, .int 0]) (len := 3) rfl h32 hi (va_up_self _ _ _) rfl ?_
  refine Wp.n (pc' := 12) 2 rfl ?_
  refine Wp.bput (i := i) (fs := [.int 0, .int 0, .int 0, .int 0, .int 0]) (len := 3) rfl h32 hi (va_up_self _ _ _) rfl ?_
  refine Wp.n (pc' := 17) 2 rfl ?_
  refine Wp.bput (i := i) (fs := [.int 0, .int 0, .int 0, .int 0, .int 0]) (len := 3) rfl h32 hi (va_up_self _ _ _) rfl ?_
  refine Wp.n (pc' := 22) 2 rfl ?_
  refine Wp.bput (i := i) (fs := [.int 0, .int 0, .int 0, .int 1, .int 0]) (len := 3) rfl h32 hi (va_up_self _ _ _) rfl ?_
  refine Wp.retV (len := 1) rfl rfl ?_
  refine ⟨rfl, ?_⟩
  rw [va_uu, va_uu, va_uu, va_uu]
  rfl
theorem k_linkInit {i : Nat} {x : Int32} (h32 : 32 ≤ r) (hi : i < e) (hM : f i = .inr (1, nfs 1)) : Ev (d + 8) md_5 0 [some (.ref (r + i)), some (.int x)] [] (cx (rsE M r e f) n m) (none, cx (rsE M r e (va_up f i (.inr (1, (nfs 1).set 0 (.int x))))) n m) := by
  refine Wp.toEv ?_
  refine Wp.n (pc' := 1) 1 rfl ?_
  refine Wp.bi (len := 3) rfl (by decide) rfl (by omega) ?_
  refine Wp.n (pc' := 6) 2 rfl ?_
  refine Wp.bput (i := i) (fs := nfs 1) (len := 3) rfl h32 hi hM rfl ?_
  refine Wp.retV (len := 1) rfl rfl ?_
  exact ⟨rfl, rfl⟩
theorem k_walkInit {i : Nat} (h32 : 32 ≤ r) (hi : i < e) (hM : f i = .inr (7, nfs 7)) (hq : 32 + n = r + e) : Ev (d + 8) md_68 0 [some (.ref (r + i))] [] (cx (rsE M r e f) n m) (none, cx (rsE M r (e + 1) (va_up (va_up f e (.inl (0, 7, .inl (fun _ => 0)))) i (.inr (7, (nfs 7).set 4 (.ref (r + e)))))) (n + 1) (m + 7)) := by
  refine Wp.toEv ?_
  refine Wp.n (pc' := 1) 1 rfl ?_
  refine Wp.bi (len := 3) rfl (by decide) rfl (by omega) ?_
  refine Wp.n (pc' := 7) 2 rfl ?_
  refine Wp.bna0 (k := 7) (len := 2) rfl (by decide) hq ?_
  refine Wp.bput (i := i) (fs := nfs 7) (len := 3) rfl h32 (by omega) ((va_up_ne _ _ (by omega)).trans hM) rfl ?_
  refine Wp.retV (len := 1) rfl rfl ?_
  exact ⟨rfl, rfl⟩
end MKO
end
section
/-! MAKING A REALM. -/
def rzr : RC := (fun _ => 0, fun j => if j = 3 then 1 else 0, fun _ _ => 0, fun _ _ => 0, fun _ _ => 0, fun _ => 0)
def Fz (r : Nat) (A : AE) (p : Nat) (R : AE) : Nat → AE := va_up (va_up (rcell r rzr) 0 A) p R
def zA1 (r : Nat) : List Value := [.int 0, .int 0, .int 0, .int 0, .ref (r + 1), .ref (r + 2), .int 0, .null, .int 0, .null, .int 0, .null]
def zA2 (r : Nat) : List Value := [.int 0, .int 0, .int 0, .int 0, .ref (r + 1), .ref (r + 2), .int 0, .ref (r + 15), .int 0, .null, .int 0, .null]
def zA3 (r : Nat) : List Value := [.int 0, .int 0, .int 0, .int 0, .ref (r + 1), .ref (r + 2), .int 0, .ref (r + 15), .int 0, .ref (r + 25), .int 0, .null]
section MKR
variable {d : Nat} {M : AM} {Q : Option Value → AM → Prop} {n m r : Nat} {A R : AE} {p k : Nat}
theorem Fz_0 (h : p ≠ 0) : Fz r A p R 0 = A := (va_up_ne _ _ (fun q => h q.symm)).trans (va_up_self _ _ _)
theorem Fz_p : Fz r A p R p = R := va_up_self _ _ _
theorem Fz_k (h0 : k ≠ 0) (hp : k ≠ p) : Fz r A p R k = rcell r rzr k := (va_up_ne _ _ hp).trans (va_up_ne _ _ h0)
theorem rz_road {i : Nat} (h : i < 12) : rcell r rzr (3 + i) = .inr (1, (nfs 1).set 0 (.int (nI i))) := by
  unfold rcell
  rw [if_neg (by omega), if_neg (by omega), if_neg (by omega), if_pos (by omega), show 3 + i - 3 = i by omega]
  rfl
theorem rz_lane {i : Nat} (h : i < 9) : rcell r rzr (16 + i) = .inr (1, (nfs 1).set 0 (.int (nI i))) := by
  unfold rcell
  rw [if_neg (by omega), if_neg (by omega), if_neg (by omega), if_neg (by omega), if_neg (by omega), if_pos (by omega), show 16 + i - 16 = i by omega]
  rfl
theorem rz_walk {i : Nat} (h : i < 10) : rcell r rzr (26 + 2 * i) = .inr (7, (nfs 7).set 4 (.ref (r + (26 + 2 * i + 1)))) := by
  unfold rcell
  rw [if_neg (by omega), if_neg (by omega), if_neg (by omega), if_neg (by omega), if_neg (by omega), if_neg (by omega), if_neg (by omega), if_pos (by omega), if_pos (by omega)]
  rfl
theorem rz_stops {i : Nat} (h : i < 10) : rcell r rzr (26 + 2 * i + 1) = .inl (0, 7, .inl (fun _ => 0)) := by
  unfold rcell
  rw [if_neg (by omega), if_neg (by omega), if_neg (by omega), if_neg (by omega), if_neg (by omega), if_neg (by omega), if_neg (by omega), if_pos (by omega), if_neg (by omega)]
  rfl
theorem k_ri_1 (h32 : 32 ≤ r) (kk : Wp (d + 9) md_26 59 [some (.ref r), some (.int (nI 12))] [] (cx (rsE M r (3 + 12) (Fz r (.inr (3, zA1 r)) 2 (rwE 4 12 (fun i => r + (3 + i)) 12))) (r - 32 + (3 + 12)) (m + 7 * 12)) Q) : ∀ (k i : Nat), i + k = 12 → Wp (d + 9) md_26 33 [some (.ref r), some (.int (nI i))] [] (cx (rsE M r (3 + i) (Fz r (.inr (3, zA1 r)) 2 (rwE 4 12 (fun i => r + (3 + i)) i))) (r - 32 + (3 + i)) (m + 7 * i)) Q := by
  intro k
  induction k with
  | zero =>
    intro i hi
    obtain rfl : i = 12 := by omega
    refine Wp.n (pc' := 36) 2 rfl ?_
    refine Wp.nc3 (x := 12) (y := 12) (tgt := 59) (len := 3) rfl (by omega) (by omega) (fun h36 => ?_) (fun h36 => ?_)
    · skip
      exact kk
    · omega
  | succ k ih =>
    intro i hi
    refine Wp.n (pc' := 36) 2 rfl ?_
    refine Wp.nc3 (x := i) (y := 12) (tgt := 59) (len := 3) rfl (by omega) (by omega) (fun h36 => ?_) (fun h36 => ?_)
    · omega
    · skip
      refine Wp.n (pc' := 40) 1 rfl ?_
      refine Wp.get (len := 3) rfl ((bgt (i := 0) h32 (by omega)).trans (Fz_0 (by decide))) rfl ?_
      refine Wp.n (pc' := 44) 1 rfl ?_
      refine Wp.bnew (e := 3 + i) (len := 3) rfl (by omega) ?_
      refine Wp.n (pc' := 49) 2 rfl ?_
      refine Wp.ecallI (len := 3) rfl rfl rfl rfl rfl (k_linkInit (d := d) (i := 3 + i) h32 (by omega) (va_up_self _ _ _)) ?_
      refine Wp.baast (i := 2) (i' := 3 + i) (len := 1) rfl h32 (by omega) (by omega) ((va_up_ne _ _ (by omega)).trans ((va_up_ne _ _ (by omega)).trans Fz_p)) (va_up_self _ _ _) rfl rfl (by omega) (by decide) ?_
      refine Wp.incN (x := i) (len := 3) rfl rfl ?_
      refine Wp.n (pc' := 33) 1 rfl ?_
      refine Wp.cong (cx_eq (rsE_eq (by omega) (fun q hq => ?_)) (by omega) (show m + 7 * i + 7 = m + 7 * (i + 1) by omega)) (ih (i + 1) (by omega))
      by_cases c1 : q = 2
      · rw [c1, va_up_self, Fz_p]
      · rw [va_up_ne _ _ c1]
        by_cases c2 : q = 3 + i
        · rw [c2, va_up_self, Fz_k (by omega) (by omega), rz_road (by omega)]
        · rw [va_up_ne _ _ c2, va_up_ne _ _ c2]
          by_cases c0 : q = 0
          · rw [c0, Fz_0 (by decide), Fz_0 (by decide)]
          · rw [Fz_k c0 c1, Fz_k c0 c1]
theorem k_ri_2 (h32 : 32 ≤ r) (kk : Wp (d + 9) md_26 96 [some (.ref r), some (.int (nI 9))] [] (cx (rsE M r (16 + 9) (Fz r (.inr (3, zA2 r)) 15 (rwE 4 9 (fun i => r + (16 + i)) 9))) (r - 32 + (16 + 9)) (m + 7 * 9)) Q) : ∀ (k i : Nat), i + k = 9 → Wp (d + 9) md_26 70 [some (.ref r), some (.int (nI i))] [] (cx (rsE M r (16 + i) (Fz r (.inr (3, zA2 r)) 15 (rwE 4 9 (fun i => r + (16 + i)) i))) (r - 32 + (16 + i)) (m + 7 * i)) Q := by
  intro k
  induction k with
  | zero =>
    intro i hi
    obtain rfl : i = 9 := by omega
    refine Wp.n (pc' := 73) 2 rfl ?_
    refine Wp.nc4 (x := 9) (y := 8) (tgt := 96) (len := 3) rfl (by omega) (by omega) (fun h73 => ?_) (fun h73 => ?_)
    · skip
      exact kk
    · omega
  | succ k ih =>
    intro i hi
    refine Wp.n (pc' := 73) 2 rfl ?_
    refine Wp.nc4 (x := i) (y := 8) (tgt := 96) (len := 3) rfl (by omega) (by omega) (fun h73 => ?_) (fun h73 => ?_)
    · omega
    · skip
      refine Wp.n (pc' := 77) 1 rfl ?_
      refine Wp.get (len := 3) rfl ((bgt (i := 0) h32 (by omega)).trans (Fz_0 (by decide))) rfl ?_
      refine Wp.n (pc' := 81) 1 rfl ?_
      refine Wp.bnew (e := 16 + i) (len := 3) rfl (by omega) ?_
      refine Wp.n (pc' := 86) 2 rfl ?_
      refine Wp.ecallI (len := 3) rfl rfl rfl rfl rfl (k_linkInit (d := d) (i := 16 + i) h32 (by omega) (va_up_self _ _ _)) ?_
      refine Wp.baast (i := 15) (i' := 16 + i) (len := 1) rfl h32 (by omega) (by omega) ((va_up_ne _ _ (by omega)).trans ((va_up_ne _ _ (by omega)).trans Fz_p)) (va_up_self _ _ _) rfl rfl (by omega) (by decide) ?_
      refine Wp.incN (x := i) (len := 3) rfl rfl ?_
      refine Wp.n (pc' := 70) 1 rfl ?_
      refine Wp.cong (cx_eq (rsE_eq (by omega) (fun q hq => ?_)) (by omega) (show m + 7 * i + 7 = m + 7 * (i + 1) by omega)) (ih (i + 1) (by omega))
      by_cases c1 : q = 15
      · rw [c1, va_up_self, Fz_p]
      · rw [va_up_ne _ _ c1]
        by_cases c2 : q = 16 + i
        · rw [c2, va_up_self, Fz_k (by omega) (by omega), rz_lane (by omega)]
        · rw [va_up_ne _ _ c2, va_up_ne _ _ c2]
          by_cases c0 : q = 0
          · rw [c0, Fz_0 (by decide), Fz_0 (by decide)]
          · rw [Fz_k c0 c1, Fz_k c0 c1]
theorem k_ri_3 (h32 : 32 ≤ r) (kk : Wp (d + 9) md_26 132 [some (.ref r), some (.int (nI 10))] [] (cx (rsE M r (26 + 2 * 10) (Fz r (.inr (3, zA3 r)) 25 (rwE 5 10 (fun i => r + (26 + 2 * i)) 10))) (r - 32 + (26 + 2 * 10)) (m + 12 * 10)) Q) : ∀ (k i : Nat), i + k = 10 → Wp (d + 9) md_26 107 [some (.ref r), some (.int (nI i))] [] (cx (rsE M r (26 + 2 * i) (Fz r (.inr (3, zA3 r)) 25 (rwE 5 10 (fun i => r + (26 + 2 * i)) i))) (r - 32 + (26 + 2 * i)) (m + 12 * i)) Q := by
  intro k
  induction k with
  | zero =>
    intro i hi
    obtain rfl : i = 10 := by omega
    refine Wp.n (pc' := 110) 2 rfl ?_
    refine Wp.nc3 (x := 10) (y := 10) (tgt := 132) (len := 3) rfl (by omega) (by omega) (fun h110 => ?_) (fun h110 => ?_)
    · skip
      exact kk
    · omega
  | succ k ih =>
    intro i hi
    refine Wp.n (pc' := 110) 2 rfl ?_
    refine Wp.nc3 (x := i) (y := 10) (tgt := 132) (len := 3) rfl (by omega) (by omega) (fun h110 => ?_) (fun h110 => ?_)
    · omega
    · skip
      refine Wp.n (pc' := 114) 1 rfl ?_
      refine Wp.get (len := 3) rfl ((bgt (i := 0) h32 (by omega)).trans (Fz_0 (by decide))) rfl ?_
      refine Wp.n (pc' := 118) 1 rfl ?_
      refine Wp.bnew (e := 26 + 2 * i) (len := 3) rfl (by omega) ?_
      refine Wp.n (pc' := 122) 1 rfl ?_
      refine Wp.ecallI (len := 3) rfl rfl rfl rfl rfl (k_walkInit (d := d) (i := 26 + 2 * i) (e := 26 + 2 * i + 1) h32 (by omega) (va_up_self _ _ _) (by omega)) ?_
      refine Wp.baast (i := 25) (i' := 26 + 2 * i) (len := 1) rfl h32 (by omega) (by omega) ((va_up_ne _ _ (by omega)).trans ((va_up_ne _ _ (by omega)).trans ((va_up_ne _ _ (by omega)).trans Fz_p))) (va_up_self _ _ _) rfl rfl (by omega) (by decide) ?_
      refine Wp.incN (x := i) (len := 3) rfl rfl ?_
      refine Wp.n (pc' := 107) 1 rfl ?_
      refine Wp.cong (cx_eq (rsE_eq (by omega) (fun q hq => ?_)) (by omega) (show m + 12 * i + 5 + 7 = m + 12 * (i + 1) by omega)) (ih (i + 1) (by omega))
      by_cases c1 : q = 25
      · rw [c1, va_up_self, Fz_p]
      · rw [va_up_ne _ _ c1]
        by_cases c2 : q = 26 + 2 * i
        · rw [c2, va_up_self, Fz_k (by omega) (by omega), rz_walk (by omega)]
        · rw [va_up_ne _ _ c2]
          by_cases c3 : q = 26 + 2 * i + 1
          · rw [c3, va_up_self, Fz_k (by omega) (by omega), rz_stops (by omega)]
          · rw [va_up_ne _ _ c3, va_up_ne _ _ c2]
            by_cases c0 : q = 0
            · rw [c0, Fz_0 (by decide), Fz_0 (by decide)]
            · rw [Fz_k c0 c1, Fz_k c0 c1]
theorem rz_2 : rcell r rzr 2 = rwE 4 12 (fun i => r + (3 + i)) 12 := by
  show (.inl (4, 12, .inr (.inr (.inr (.inr (fun i => if i < 12 then some (r + 3 + i) else none))))) : AE) = rwE 4 12 (fun i => r + (3 + i)) 12
  have e : (fun i => r + (3 + i)) = fun i => r + 3 + i := by funext i; omega
  rw [e]
  rfl
theorem rz_15 : rcell r rzr 15 = rwE 4 9 (fun i => r + (16 + i)) 9 := by
  show (.inl (4, 9, .inr (.inr (.inr (.inr (fun i => if i < 9 then some (r + 16 + i) else none))))) : AE) = rwE 4 9 (fun i => r + (16 + i)) 9
  have e : (fun i => r + (16 + i)) = fun i => r + 16 + i := by funext i; omega
  rw [e]
  rfl
theorem rz_25 : rcell r rzr 25 = rwE 5 10 (fun i => r + (26 + 2 * i)) 10 := by
  show (.inl (5, 10, .inr (.inr (.inr (.inr (fun i => if i < 10 then some (r + 26 + 2 * i) else none))))) : AE) = rwE 5 10 (fun i => r + (26 + 2 * i)) 10
  have e : (fun i => r + (26 + 2 * i)) = fun i => r + 26 + 2 * i := by funext i; omega
  rw [e]
  rfl
theorem k_realmInit (hn : 32 + n = r) : Wp (d + 9) md_26 0 [some (.ref r), none] [] (cx (va_up M r (.inr (3, nfs 3))) (n + 1) m) (fun v M' => v = none ∧ M' = cx (rset M r rzr) (n + 47) (m + 352)) := by
  have h32 : 32 ≤ r := by omega
  rw [rsE_1]
  refine Wp.n (pc' := 1) 1 rfl ?_
  refine Wp.bi (len := 3) rfl (by decide) rfl (by omega) ?_
  refine Wp.n (pc' := 5) 1 rfl ?_
  refine Wp.bnew (e := 1) (len := 3) rfl (by omega) ?_
  refine Wp.n (pc' := 9) 1 rfl ?_
  refine Wp.ecallI (len := 3) rfl rfl rfl rfl rfl (k_lawInit (d := d)) ?_
  refine Wp.bput (i := 0) (fs := nfs 3) (len := 3) rfl h32 (by omega) (rfl) rfl ?_
  refine Wp.n (pc' := 16) 1 rfl ?_
  refine Wp.get (len := 3) rfl ((bgt (i := 0) h32 (by omega)).trans (va_up_self _ _ _)) rfl ?_
  refine Wp.ecallV (len := 3) rfl rfl rfl ((bgt (i := 1) h32 (by omega)).trans (va_up_ne _ _ (by decide))) rfl (by omega) rfl (k_lawBegin2 (i := 1) h32 (by omega) rfl) ?_
  refine Wp.n (pc' := 25) 2 rfl ?_
  refine Wp.banew (k := 12) (e := 2) (len := 3) rfl (by decide) (by omega) (fun i => r + (3 + i)) ?_
  refine Wp.bput (i := 0) (fs := (nfs 3).set 4 (.ref (r + 1))) (len := 3) rfl h32 (by omega) (rfl) rfl ?_
  refine Wp.n (pc' := 33) 2 rfl ?_
  refine Wp.cong (M' := cx (rsE M r (3 + 0) (Fz r (.inr (3, zA1 r)) 2 (rwE 4 12 (fun i => r + (3 + i)) 0))) (r - 32 + (3 + 0)) ((m + 5 + 12) + 7 * 0)) (cx_eq (rsE_eq rfl (fun q hq => ?_)) (by omega) rfl) ?_
  · obtain rfl | rfl | rfl : q = 0 ∨ q = 1 ∨ q = 2 := by omega
    · rfl
    · rfl
    · rfl
  refine k_ri_1 h32 ?_ 12 0 rfl
  refine Wp.n (pc' := 62) 2 rfl ?_
  refine Wp.banew (k := 9) (e := 3 + 12) (len := 3) rfl (by decide) (by omega) (fun i => r + (16 + i)) ?_
  refine Wp.bput (i := 0) (fs := zA1 r) (len := 3) rfl h32 (by omega) (rfl) rfl ?_
  refine Wp.n (pc' := 70) 2 rfl ?_
  refine Wp.cong (M' := cx (rsE M r (16 + 0) (Fz r (.inr (3, zA2 r)) 15 (rwE 4 9 (fun i => r + (16 + i)) 0))) (r - 32 + (16 + 0)) ((m + 5 + 12 + 7 * 12 + 9) + 7 * 0)) (cx_eq (rsE_eq rfl (fun q hq => ?_)) (by omega) rfl) ?_
  · by_cases c0 : q = 0
    · rw [c0]; rfl
    · by_cases c15 : q = 15
      · rw [c15]; rfl
      · rw [Fz_k c0 c15, va_up_ne _ _ c0, va_up_ne _ _ c15]
        by_cases c2 : q = 2
        · rw [c2, Fz_p, rz_2]
        · rw [Fz_k c0 c2]
  refine k_ri_2 h32 ?_ 9 0 rfl
  refine Wp.n (pc' := 99) 2 rfl ?_
  refine Wp.banew (k := 10) (e := 16 + 9) (len := 3) rfl (by decide) (by omega) (fun i => r + (26 + 2 * i)) ?_
  refine Wp.bput (i := 0) (fs := zA2 r) (len := 3) rfl h32 (by omega) (rfl) rfl ?_
  refine Wp.n (pc' := 107) 2 rfl ?_
  refine Wp.cong (M' := cx (rsE M r (26 + 2 * 0) (Fz r (.inr (3, zA3 r)) 25 (rwE 5 10 (fun i => r + (26 + 2 * i)) 0))) (r - 32 + (26 + 2 * 0)) ((m + 5 + 12 + 7 * 12 + 9 + 7 * 9 + 10) + 12 * 0)) (cx_eq (rsE_eq rfl (fun q hq => ?_)) (by omega) rfl) ?_
  · by_cases c0 : q = 0
    · rw [c0]; rfl
    · by_cases c25 : q = 25
      · rw [c25]; rfl
      · rw [Fz_k c0 c25, va_up_ne _ _ c0, va_up_ne _ _ c25]
        by_cases c15 : q = 15
        · rw [c15, Fz_p, rz_15]
        · rw [Fz_k c0 c15]
  refine k_ri_3 h32 ?_ 10 0 rfl
  refine Wp.n (pc' := 135) 2 rfl ?_
  refine Wp.bna0 (k := 49) (e := 26 + 2 * 10) (len := 2) rfl (by decide) (by omega) ?_
  refine Wp.bput (i := 0) (fs := zA3 r) (len := 3) rfl h32 (by omega) (rfl) rfl ?_
  refine Wp.retV (len := 1) rfl rfl ?_
  refine ⟨rfl, ?_⟩
  show _ = cx (rsE M r 47 (rcell r rzr)) (n + 47) (m + 352)
  refine cx_eq (rsE_eq rfl (fun q hq => ?_)) (by omega) (by omega)
  by_cases c0 : q = 0
  · rw [c0]; rfl
  · rw [va_up_ne _ _ c0]
    by_cases c46 : q = 46
    · rw [c46]; rfl
    · rw [va_up_ne _ _ c46]
      by_cases c25 : q = 25
      · rw [c25, Fz_p, rz_25]
      · rw [Fz_k c0 c25]
end MKR
end
section
/-! MAKING THE TWO OBJECTS. -/
def u4z : Nat → Int32 := upd (upd (upd (upd (fun _ => 0) 0 (-1)) 1 (-1)) 2 (-1)) 3 (-1)
def κz : CS := (fun s j => if s = 2 ∧ j = 3 then -1 else 0, fun s => if s = 16 then u4z else fun _ => 0, fun _ => 0, fun _ => none)
def σz : MS := (fun j => if j = 15 then -1 else 0, 0, fun k => if k = 0 then u4z else fun _ => 0, fun _ _ => 0)
section MK2
variable {d : Nat} {M M1 : AM} {Q : Option Value → AM → Prop} {n m : Nat} {κ : CS} {σ : MS} {fs : List Value}
theorem cset_id (h33 : M 33 = ccell κ 0) (h34 : M 34 = ccell κ 1) (h35 : M 35 = ccell κ 2) (h272 : M 272 = ccell κ 3) (h273 : M 273 = ccell κ 4) (h274 : M 274 = ccell κ 5) (h275 : M 275 = ccell κ 6) (h276 : M 276 = ccell κ 7) (h277 : M 277 = ccell κ 8) (h278 : M 278 = ccell κ 9) (h279 : M 279 = ccell κ 10) (h280 : M 280 = ccell κ 11) (h281 : M 281 = ccell κ 12) (h282 : M 282 = ccell κ 13) (h283 : M 283 = ccell κ 14) (h284 : M 284 = ccell κ 15) (h285 : M 285 = ccell κ 16) : cset M κ = M := by
  funext q
  unfold cset
  by_cases c1 : q < 33
  · rw [if_pos c1]
  · rw [if_neg c1]
    by_cases c2 : q < 36
    · rw [if_pos c2]
      obtain rfl | rfl | rfl : q = 33 ∨ q = 34 ∨ q = 35 := by omega
      · exact h33.symm
      · exact h34.symm
      · exact h35.symm
    · rw [if_neg c2]
      by_cases c3 : q < 272
      · rw [if_pos c3]
      · rw [if_neg c3]
        by_cases c4 : q < 286
        · rw [if_pos c4]
          obtain rfl | rfl | rfl | rfl | rfl | rfl | rfl | rfl | rfl | rfl | rfl | rfl | rfl | rfl : q = 272 ∨ q = 273 ∨ q = 274 ∨ q = 275 ∨ q = 276 ∨ q = 277 ∨ q = 278 ∨ q = 279 ∨ q = 280 ∨ q = 281 ∨ q = 282 ∨ q = 283 ∨ q = 284 ∨ q = 285 := by omega
          · exact h272.symm
          · exact h273.symm
          · exact h274.symm
          · exact h275.symm
          · exact h276.symm
          · exact h277.symm
          · exact h278.symm
          · exact h279.symm
          · exact h280.symm
          · exact h281.symm
          · exact h282.symm
          · exact h283.symm
          · exact h284.symm
          · exact h285.symm
        · rw [if_neg c4]
theorem mset_id (h287 : M 287 = .inr (10, mfs σ)) (h288 : M 288 = marr σ 0) (h289 : M 289 = marr σ 1) (h290 : M 290 = marr σ 2) (h291 : M 291 = marr σ 3) (h292 : M 292 = marr σ 4) (h293 : M 293 = marr σ 5) (h294 : M 294 = marr σ 6) (h295 : M 295 = marr σ 7) (h296 : M 296 = marr σ 8) (h297 : M 297 = marr σ 9) (h298 : M 298 = marr σ 10) (h299 : M 299 = marr σ 11) (h300 : M 300 = marr σ 12) (h301 : M 301 = marr σ 13) (h302 : M 302 = marr σ 14) (h303 : M 303 = marr σ 15) (h304 : M 304 = marr σ 16) (h305 : M 305 = marr σ 17) : mset M σ = M := by
  funext q
  unfold mset
  by_cases c1 : q < 287
  · rw [if_pos c1]
  · rw [if_neg c1]
    by_cases c2 : q = 287
    · rw [if_pos c2, c2, h287]
    · rw [if_neg c2]
      by_cases c3 : q < 306
      · rw [if_pos c3]
        obtain rfl | rfl | rfl | rfl | rfl | rfl | rfl | rfl | rfl | rfl | rfl | rfl | rfl | rfl | rfl | rfl | rfl | rfl : q = 288 ∨ q = 289 ∨ q = 290 ∨ q = 291 ∨ q = 292 ∨ q = 293 ∨ q = 294 ∨ q = 295 ∨ q = 296 ∨ q = 297 ∨ q = 298 ∨ q = 299 ∨ q = 300 ∨ q = 301 ∨ q = 302 ∨ q = 303 ∨ q = 304 ∨ q = 305 := by omega
        · exact h288.symm
        · exact h289.symm
        · exact h290.symm
        · exact h291.symm
        · exact h292.symm
        · exact h293.symm
        · exact h294.symm
        · exact h295.symm
        · exact h296.symm
        · exact h297.symm
        · exact h298.symm
        · exact h299.symm
        · exact h300.symm
        · exact h301.symm
        · exact h302.symm
        · exact h303.symm
        · exact h304.symm
        · exact h305.symm
      · rw [if_neg c3]
theorem ag_u {P : Nat → Prop} {k : Nat} {e : AE} (hk : ¬ P k) (h : ∀ q, P q → M1 q = M q) : ∀ q, P q → va_up M1 k e q = M q := fun q hq => by
  have hne : q ≠ k := fun c => hk (by rw [← c]; exact hq)
  exact (va_up_ne _ _ hne).trans (h q hq)
theorem ag_r {P : Nat → Prop} {r : Nat} {ρ : RC} (hk : ∀ k, r ≤ k → k < r + 47 → ¬ P k) (h : ∀ q, P q → M1 q = M q) : ∀ q, P q → rset M1 r ρ q = M q := fun q hq => (rset_ne (by
  by_cases c : q < r
  · exact Or.inl c
  · by_cases c2 : r + 47 ≤ q
    · exact Or.inr c2
    · exact absurd hq (hk q (by omega) (by omega)))).trans (h q hq)
theorem ra_u {r k : Nat} {ρ : RC} {e : AE} (hk : k < r ∨ r + 47 ≤ k) (h : RA M r ρ) : RA (va_up M k e) r ρ := RA_of h (fun q a b => va_up_ne _ _ (by omega))
theorem ra_r {r r' : Nat} {ρ ρ' : RC} (hk : r' + 47 ≤ r ∨ r + 47 ≤ r') (h : RA M r ρ) : RA (rset M r' ρ') r ρ := RA_of h (fun q a b => rset_ne (by omega))
theorem k_tapeInit (hM : M 33 = .inr (5, nfs 5)) : Ev (d + 8) md_59 0 [some (.ref 33)] [] (cx M 2 m) (none, cx (va_up (va_up (M) 34 (.inl (2, 2000, .inl (fun _ => 0)))) 33 (.inr (5, (nfs 5).set 0 (.ref 34)))) 3 (m + 2000)) := by
  refine Wp.toEv ?_
  refine Wp.n (pc' := 1) 1 rfl ?_
  refine Wp.bi (len := 3) rfl (by decide) rfl (by omega) ?_
  refine Wp.n (pc' := 8) 2 rfl ?_
  refine Wp.xna2 (k := 2000) (q := 34) (len := 2) rfl (by decide) rfl ?_
  refine Wp.xput (k := 33) (fs := nfs 5) (len := 3) rfl (by first | exact hM | exact (va_up_ne _ _ (by decide)).trans hM | exact (va_up_ne _ _ (by decide)).trans (va_up_self _ _ _) | exact va_up_self _ _ _) (by decide) rfl ?_
  refine Wp.retV (len := 1) rfl rfl ?_
  exact ⟨rfl, rfl⟩
theorem k_readerInit (hM : M 35 = .inr (2, nfs 2)) : Ev (d + 8) md_9 0 [some (.ref 35)] [] (cx M 4 m) (none, cx (va_up (M) 35 (.inr (2, (nfs 2).set 3 (.int (-1))))) 4 (m)) := by
  refine Wp.toEv ?_
  refine Wp.n (pc' := 1) 1 rfl ?_
  refine Wp.bi (len := 3) rfl (by decide) rfl (by omega) ?_
  refine Wp.n (pc' := 6) 2 rfl ?_
  refine Wp.xput (k := 35) (fs := nfs 2) (len := 3) rfl (by first | exact hM | exact (va_up_ne _ _ (by decide)).trans hM | exact (va_up_ne _ _ (by decide)).trans (va_up_self _ _ _) | exact va_up_self _ _ _) (by decide) rfl ?_
  refine Wp.retV (len := 1) rfl rfl ?_
  exact ⟨rfl, rfl⟩
theorem k_waysInit (hM : M 273 = .inr (8, nfs 8)) : Ev (d + 8) md_73 0 [some (.ref 273)] [] (cx M 242 m) (none, cx (va_up (va_up (va_up (va_up (va_up (va_up (va_up (va_up (va_up (va_up (va_up (va_up (M) 274 (.inl (0, 326, .inl (fun _ => 0)))) 273 (.inr (8, (nfs 8).set 0 (.ref 274)))) 275 (.inl (0, 326, .inl (fun _ => 0)))) 273 (.inr (8, ((nfs 8).set 0 (.ref 274)).set 1 (.ref 275)))) 276 (.inl (0, 326, .inl (fun _ => 0)))) 273 (.inr (8, (((nfs 8).set 0 (.ref 274)).set 1 (.ref 275)).set 2 (.ref 276)))) 277 (.inl (0, 326, .inl (fun _ => 0)))) 273 (.inr (8, ((((nfs 8).set 0 (.ref 274)).set 1 (.ref 275)).set 2 (.ref 276)).set 3 (.ref 277)))) 278 (.inl (0, 49, .inl (fun _ => 0)))) 273 (.inr (8, (((((nfs 8).set 0 (.ref 274)).set 1 (.ref 275)).set 2 (.ref 276)).set 3 (.ref 277)).set 5 (.ref 278)))) 279 (.inl (0, 49, .inl (fun _ => 0)))) 273 (.inr (8, ((((((nfs 8).set 0 (.ref 274)).set 1 (.ref 275)).set 2 (.ref 276)).set 3 (.ref 277)).set 5 (.ref 278)).set 6 (.ref 279)))) 248 (m + 326 + 326 + 326 + 326 + 49 + 49)) := by
  refine Wp.toEv ?_
  refine Wp.n (pc' := 1) 1 rfl ?_
  refine Wp.bi (len := 3) rfl (by decide) rfl (by omega) ?_
  refine Wp.n (pc' := 8) 2 rfl ?_
  refine Wp.xna0 (k := 326) (q := 274) (len := 2) rfl (by decide) rfl ?_
  refine Wp.xput (k := 273) (fs := nfs 8) (len := 3) rfl (by first | exact hM | exact (va_up_ne _ _ (by decide)).trans hM | exact (va_up_ne _ _ (by decide)).trans (va_up_self _ _ _) | exact va_up_self _ _ _) (by decide) rfl ?_
  refine Wp.n (pc' := 17) 2 rfl ?_
  refine Wp.xna0 (k := 326) (q := 275) (len := 2) rfl (by decide) rfl ?_
  refine Wp.xput (k := 273) (fs := (nfs 8).set 0 (.ref 274)) (len := 3) rfl (by first | exact hM | exact (va_up_ne _ _ (by decide)).trans hM | exact (va_up_ne _ _ (by decide)).trans (va_up_self _ _ _) | exact va_up_self _ _ _) (by decide) rfl ?_
  refine Wp.n (pc' := 26) 2 rfl ?_
  refine Wp.xna0 (k := 326) (q := 276) (len := 2) rfl (by decide) rfl ?_
  refine Wp.xput (k := 273) (fs := ((nfs 8).set 0 (.ref 274)).set 1 (.ref 275)) (len := 3) rfl (by first | exact hM | exact (va_up_ne _ _ (by decide)).trans hM | exact (va_up_ne _ _ (by decide)).trans (va_up_self _ _ _) | exact va_up_self _ _ _) (by decide) rfl ?_
  refine Wp.n (pc' := 35) 2 rfl ?_
  refine Wp.xna0 (k := 326) (q := 277) (len := 2) rfl (by decide) rfl ?_
  refine Wp.xput (k := 273) (fs := (((nfs 8).set 0 (.ref 274)).set 1 (.ref 275)).set 2 (.ref 276)) (len := 3) rfl (by first | exact hM | exact (va_up_ne _ _ (by decide)).trans hM | exact (va_up_ne _ _ (by decide)).trans (va_up_self _ _ _) | exact va_up_self _ _ _) (by decide) rfl ?_
  refine Wp.n (pc' := 43) 2 rfl ?_
  refine Wp.xna0 (k := 49) (q := 278) (len := 2) rfl (by decide) rfl ?_
  refine Wp.xput (k := 273) (fs := ((((nfs 8).set 0 (.ref 274)).set 1 (.ref 275)).set 2 (.ref 276)).set 3 (.ref 277)) (len := 3) rfl (by first | exact hM | exact (va_up_ne _ _ (by decide)).trans hM | exact (va_up_ne _ _ (by decide)).trans (va_up_self _ _ _) | exact va_up_self _ _ _) (by decide) rfl ?_
  refine Wp.n (pc' := 51) 2 rfl ?_
  refine Wp.xna0 (k := 49) (q := 279) (len := 2) rfl (by decide) rfl ?_
  refine Wp.xput (k := 273) (fs := (((((nfs 8).set 0 (.ref 274)).set 1 (.ref 275)).set 2 (.ref 276)).set 3 (.ref 277)).set 5 (.ref 278)) (len := 3) rfl (by first | exact hM | exact (va_up_ne _ _ (by decide)).trans hM | exact (va_up_ne _ _ (by decide)).trans (va_up_self _ _ _) | exact va_up_self _ _ _) (by decide) rfl ?_
  refine Wp.retV (len := 1) rfl rfl ?_
  exact ⟨rfl, rfl⟩
theorem k_tripInit (hM : M 280 = .inr (6, nfs 6)) : Ev (d + 8) md_62 0 [some (.ref 280)] [] (cx M 249 m) (none, cx (va_up (va_up (M) 281 (.inl (0, 6, .inl (fun _ => 0)))) 280 (.inr (6, (nfs 6).set 6 (.ref 281)))) 250 (m + 6)) := by
  refine Wp.toEv ?_
  refine Wp.n (pc' := 1) 1 rfl ?_
  refine Wp.bi (len := 3) rfl (by decide) rfl (by omega) ?_
  refine Wp.n (pc' := 7) 2 rfl ?_
  refine Wp.xna0 (k := 6) (q := 281) (len := 2) rfl (by decide) rfl ?_
  refine Wp.xput (k := 280) (fs := nfs 6) (len := 3) rfl (by first | exact hM | exact (va_up_ne _ _ (by decide)).trans hM | exact (va_up_ne _ _ (by decide)).trans (va_up_self _ _ _) | exact va_up_self _ _ _) (by decide) rfl ?_
  refine Wp.retV (len := 1) rfl rfl ?_
  exact ⟨rfl, rfl⟩
theorem k_sl_1 {j : Nat} {g : Nat → Int32} (hj : j < 4) (h282 : M 282 = .inr (4, fs)) (hg : gv fs 2 = some (.ref 285)) (h285 : M 285 = .inl (0, 4, .inl g)) (kk : Wp d md_49 29 [some (.ref 282), some (.int (nI (j + 1)))] [] (cx (va_up M 285 (.inl (0, 4, .inl (upd g j (-1))))) n m) Q) : Wp d md_49 29 [some (.ref 282), some (.int (nI j))] [] (cx M n m) Q := by
  refine Wp.n (pc' := 31) 2 rfl ?_
  refine Wp.nc3 (x := j) (y := 4) (tgt := 47) (len := 3) rfl (by omega) (by omega) (fun h31 => ?_) (fun h31 => ?_)
  · omega
  · skip
    refine Wp.n (pc' := 35) 1 rfl ?_
    refine Wp.get (len := 3) rfl ((cx_o (by decide)).trans h282) hg ?_
    refine Wp.n (pc' := 40) 2 rfl ?_
    refine Wp.xiast (j := j) (len := 1) rfl h285 (by decide) hj (by decide) ?_
    refine Wp.incN (x := j) (len := 3) rfl rfl ?_
    refine Wp.n (pc' := 29) 1 rfl ?_
    exact kk
theorem k_slotsInit (hM : M 282 = .inr (4, nfs 4)) : Ev (d + 8) md_49 0 [some (.ref 282), none] [] (cx M 251 m) (none, cx (va_up (va_up (va_up (va_up (va_up (va_up (va_up (va_up (va_up (va_up (M) 283 (.inl (1, 240, .inr (.inl (fun _ => 0))))) 282 (.inr (4, (nfs 4).set 0 (.ref 283)))) 284 (.inl (0, 4, .inl (fun _ => 0)))) 282 (.inr (4, ((nfs 4).set 0 (.ref 283)).set 1 (.ref 284)))) 285 (.inl (0, 4, .inl (fun _ => 0)))) 282 (.inr (4, (((nfs 4).set 0 (.ref 283)).set 1 (.ref 284)).set 2 (.ref 285)))) 285 (.inl (0, 4, .inl (upd (fun _ => 0) 0 (-1))))) 285 (.inl (0, 4, .inl (upd (upd (fun _ => 0) 0 (-1)) 1 (-1))))) 285 (.inl (0, 4, .inl (upd (upd (upd (fun _ => 0) 0 (-1)) 1 (-1)) 2 (-1))))) 285 (.inl (0, 4, .inl (upd (upd (upd (upd (fun _ => 0) 0 (-1)) 1 (-1)) 2 (-1)) 3 (-1))))) 254 (m + 240 + 4 + 4)) := by
  refine Wp.toEv ?_
  refine Wp.n (pc' := 1) 1 rfl ?_
  refine Wp.bi (len := 3) rfl (by decide) rfl (by omega) ?_
  refine Wp.n (pc' := 8) 2 rfl ?_
  refine Wp.xna1 (k := 240) (q := 283) (len := 2) rfl (by decide) rfl ?_
  refine Wp.xput (k := 282) (fs := nfs 4) (len := 3) rfl (by first | exact hM | exact (va_up_ne _ _ (by decide)).trans hM | exact (va_up_ne _ _ (by decide)).trans (va_up_self _ _ _) | exact va_up_self _ _ _) (by decide) rfl ?_
  refine Wp.n (pc' := 15) 2 rfl ?_
  refine Wp.xna0 (k := 4) (q := 284) (len := 2) rfl (by decide) rfl ?_
  refine Wp.xput (k := 282) (fs := (nfs 4).set 0 (.ref 283)) (len := 3) rfl (by first | exact hM | exact (va_up_ne _ _ (by decide)).trans hM | exact (va_up_ne _ _ (by decide)).trans (va_up_self _ _ _) | exact va_up_self _ _ _) (by decide) rfl ?_
  refine Wp.n (pc' := 22) 2 rfl ?_
  refine Wp.xna0 (k := 4) (q := 285) (len := 2) rfl (by decide) rfl ?_
  refine Wp.xput (k := 282) (fs := ((nfs 4).set 0 (.ref 283)).set 1 (.ref 284)) (len := 3) rfl (by first | exact hM | exact (va_up_ne _ _ (by decide)).trans hM | exact (va_up_ne _ _ (by decide)).trans (va_up_self _ _ _) | exact va_up_self _ _ _) (by decide) rfl ?_
  refine Wp.n (pc' := 29) 2 rfl ?_
  refine k_sl_1 (j := 0) (by decide) rfl rfl rfl ?_
  refine k_sl_1 (j := 1) (by decide) rfl rfl rfl ?_
  refine k_sl_1 (j := 2) (by decide) rfl rfl rfl ?_
  refine k_sl_1 (j := 3) (by decide) rfl rfl rfl ?_
  refine Wp.n (pc' := 31) 2 rfl ?_
  refine Wp.nc3 (x := 4) (y := 4) (tgt := 47) (len := 3) rfl (by omega) (by omega) (fun h31 => ?_) (fun h31 => ?_)
  · skip
    refine Wp.retV (len := 1) rfl rfl ?_
    exact ⟨rfl, rfl⟩
  · omega
theorem k_md_1 {j : Nat} {g : Nat → Int32} (hj : j < 4) (h287 : M 287 = .inr (10, fs)) (hg : gv fs 1 = some (.ref 288)) (h288 : M 288 = .inl (0, 4, .inl g)) (kk : Wp d md_149 155 [some (.ref 287), some (.int (nI (j + 1)))] [] (cx (va_up M 288 (.inl (0, 4, .inl (upd g j (-1))))) n m) Q) : Wp d md_149 155 [some (.ref 287), some (.int (nI j))] [] (cx M n m) Q := by
  refine Wp.n (pc' := 157) 2 rfl ?_
  refine Wp.nc3 (x := j) (y := 4) (tgt := 173) (len := 3) rfl (by omega) (by omega) (fun h157 => ?_) (fun h157 => ?_)
  · omega
  · skip
    refine Wp.n (pc' := 161) 1 rfl ?_
    refine Wp.get (len := 3) rfl ((cx_o (by decide)).trans h287) hg ?_
    refine Wp.n (pc' := 166) 2 rfl ?_
    refine Wp.xiast (j := j) (len := 1) rfl h288 (by decide) hj (by decide) ?_
    refine Wp.incN (x := j) (len := 3) rfl rfl ?_
    refine Wp.n (pc' := 155) 1 rfl ?_
    exact kk
theorem sp_m {k : Nat} {e : AE} (hk : 287 ≤ k) (h : ∀ q, q < 287 → M1 q = M q) : ∀ q, q < 287 → va_up M1 k e q = M q := fun q hq => (va_up_ne _ _ (by omega)).trans (h q hq)
theorem k_modelInit (hM : M 287 = .inr (10, nfs 10)) : Wp (d + 8) md_149 0 [some (.ref 287), none] [] (cx M 256 m) (fun v M' => v = none ∧ ∃ Mf, M' = cx Mf 274 (m + 4 + 4 + 240 + 60 + 2000 + 5 + 25 + 25 + 5 + 180 + 315 + 550 + 3 + 7 + 7 + 6 + 7 + 10) ∧ mset Mf σz = Mf ∧ ∀ q, q < 287 → Mf q = M q) := by
  refine Wp.n (pc' := 1) 1 rfl ?_
  refine Wp.bi (len := 3) rfl (by decide) rfl (by omega) ?_
  refine Wp.n (pc' := 6) 2 rfl ?_
  refine Wp.xna0 (k := 4) (q := 288) (len := 2) rfl (by decide) rfl ?_
  refine Wp.xput (k := 287) (fs := nfs 10) (len := 3) rfl (by first | exact hM | exact (va_up_ne _ _ (by decide)).trans hM | exact (va_up_ne _ _ (by decide)).trans (va_up_self _ _ _) | exact va_up_self _ _ _) (by decide) rfl ?_
  refine Wp.n (pc' := 13) 2 rfl ?_
  refine Wp.xna0 (k := 4) (q := 289) (len := 2) rfl (by decide) rfl ?_
  refine Wp.xput (k := 287) (fs := (nfs 10).set 1 (.ref 288)) (len := 3) rfl (by first | exact hM | exact (va_up_ne _ _ (by decide)).trans hM | exact (va_up_ne _ _ (by decide)).trans (va_up_self _ _ _) | exact va_up_self _ _ _) (by decide) rfl ?_
  refine Wp.n (pc' := 22) 2 rfl ?_
  refine Wp.xna1 (k := 240) (q := 290) (len := 2) rfl (by decide) rfl ?_
  refine Wp.xput (k := 287) (fs := ((nfs 10).set 1 (.ref 288)).set 2 (.ref 289)) (len := 3) rfl (by first | exact hM | exact (va_up_ne _ _ (by decide)).trans hM | exact (va_up_ne _ _ (by decide)).trans (va_up_self _ _ _) | exact va_up_self _ _ _) (by decide) rfl ?_
  refine Wp.n (pc' := 30) 2 rfl ?_
  refine Wp.xna1 (k := 60) (q := 291) (len := 2) rfl (by decide) rfl ?_
  refine Wp.xput (k := 287) (fs := (((nfs 10).set 1 (.ref 288)).set 2 (.ref 289)).set 3 (.ref 290)) (len := 3) rfl (by first | exact hM | exact (va_up_ne _ _ (by decide)).trans hM | exact (va_up_ne _ _ (by decide)).trans (va_up_self _ _ _) | exact va_up_self _ _ _) (by decide) rfl ?_
  refine Wp.n (pc' := 39) 2 rfl ?_
  refine Wp.xna2 (k := 2000) (q := 292) (len := 2) rfl (by decide) rfl ?_
  refine Wp.xput (k := 287) (fs := ((((nfs 10).set 1 (.ref 288)).set 2 (.ref 289)).set 3 (.ref 290)).set 4 (.ref 291)) (len := 3) rfl (by first | exact hM | exact (va_up_ne _ _ (by decide)).trans hM | exact (va_up_ne _ _ (by decide)).trans (va_up_self _ _ _) | exact va_up_self _ _ _) (by decide) rfl ?_
  refine Wp.n (pc' := 46) 2 rfl ?_
  refine Wp.xput (k := 287) (fs := (((((nfs 10).set 1 (.ref 288)).set 2 (.ref 289)).set 3 (.ref 290)).set 4 (.ref 291)).set 5 (.ref 292)) (len := 3) rfl (by first | exact hM | exact (va_up_ne _ _ (by decide)).trans hM | exact (va_up_ne _ _ (by decide)).trans (va_up_self _ _ _) | exact va_up_self _ _ _) (by decide) rfl ?_
  refine Wp.n (pc' := 51) 2 rfl ?_
  refine Wp.xna0 (k := 5) (q := 293) (len := 2) rfl (by decide) rfl ?_
  refine Wp.xput (k := 287) (fs := ((((((nfs 10).set 1 (.ref 288)).set 2 (.ref 289)).set 3 (.ref 290)).set 4 (.ref 291)).set 5 (.ref 292)).set 15 (.int (-1))) (len := 3) rfl (by first | exact hM | exact (va_up_ne _ _ (by decide)).trans hM | exact (va_up_ne _ _ (by decide)).trans (va_up_self _ _ _) | exact va_up_self _ _ _) (by decide) rfl ?_
  refine Wp.n (pc' := 59) 2 rfl ?_
  refine Wp.xna0 (k := 25) (q := 294) (len := 2) rfl (by decide) rfl ?_
  refine Wp.xput (k := 287) (fs := (((((((nfs 10).set 1 (.ref 288)).set 2 (.ref 289)).set 3 (.ref 290)).set 4 (.ref 291)).set 5 (.ref 292)).set 15 (.int (-1))).set 16 (.ref 293)) (len := 3) rfl (by first | exact hM | exact (va_up_ne _ _ (by decide)).trans hM | exact (va_up_ne _ _ (by decide)).trans (va_up_self _ _ _) | exact va_up_self _ _ _) (by decide) rfl ?_
  refine Wp.n (pc' := 67) 2 rfl ?_
  refine Wp.xna0 (k := 25) (q := 295) (len := 2) rfl (by decide) rfl ?_
  refine Wp.xput (k := 287) (fs := ((((((((nfs 10).set 1 (.ref 288)).set 2 (.ref 289)).set 3 (.ref 290)).set 4 (.ref 291)).set 5 (.ref 292)).set 15 (.int (-1))).set 16 (.ref 293)).set 17 (.ref 294)) (len := 3) rfl (by first | exact hM | exact (va_up_ne _ _ (by decide)).trans hM | exact (va_up_ne _ _ (by decide)).trans (va_up_self _ _ _) | exact va_up_self _ _ _) (by decide) rfl ?_
  refine Wp.n (pc' := 74) 2 rfl ?_
  refine Wp.xna1 (k := 5) (q := 296) (len := 2) rfl (by decide) rfl ?_
  refine Wp.xput (k := 287) (fs := (((((((((nfs 10).set 1 (.ref 288)).set 2 (.ref 289)).set 3 (.ref 290)).set 4 (.ref 291)).set 5 (.ref 292)).set 15 (.int (-1))).set 16 (.ref 293)).set 17 (.ref 294)).set 18 (.ref 295)) (len := 3) rfl (by first | exact hM | exact (va_up_ne _ _ (by decide)).trans hM | exact (va_up_ne _ _ (by decide)).trans (va_up_self _ _ _) | exact va_up_self _ _ _) (by decide) rfl ?_
  refine Wp.n (pc' := 83) 2 rfl ?_
  refine Wp.xna0 (k := 180) (q := 297) (len := 2) rfl (by decide) rfl ?_
  refine Wp.xput (k := 287) (fs := ((((((((((nfs 10).set 1 (.ref 288)).set 2 (.ref 289)).set 3 (.ref 290)).set 4 (.ref 291)).set 5 (.ref 292)).set 15 (.int (-1))).set 16 (.ref 293)).set 17 (.ref 294)).set 18 (.ref 295)).set 19 (.ref 296)) (len := 3) rfl (by first | exact hM | exact (va_up_ne _ _ (by decide)).trans hM | exact (va_up_ne _ _ (by decide)).trans (va_up_self _ _ _) | exact va_up_self _ _ _) (by decide) rfl ?_
  refine Wp.n (pc' := 92) 2 rfl ?_
  refine Wp.xna0 (k := 315) (q := 298) (len := 2) rfl (by decide) rfl ?_
  refine Wp.xput (k := 287) (fs := (((((((((((nfs 10).set 1 (.ref 288)).set 2 (.ref 289)).set 3 (.ref 290)).set 4 (.ref 291)).set 5 (.ref 292)).set 15 (.int (-1))).set 16 (.ref 293)).set 17 (.ref 294)).set 18 (.ref 295)).set 19 (.ref 296)).set 20 (.ref 297)) (len := 3) rfl (by first | exact hM | exact (va_up_ne _ _ (by decide)).trans hM | exact (va_up_ne _ _ (by decide)).trans (va_up_self _ _ _) | exact va_up_self _ _ _) (by decide) rfl ?_
  refine Wp.n (pc' := 101) 2 rfl ?_
  refine Wp.xna0 (k := 550) (q := 299) (len := 2) rfl (by decide) rfl ?_
  refine Wp.xput (k := 287) (fs := ((((((((((((nfs 10).set 1 (.ref 288)).set 2 (.ref 289)).set 3 (.ref 290)).set 4 (.ref 291)).set 5 (.ref 292)).set 15 (.int (-1))).set 16 (.ref 293)).set 17 (.ref 294)).set 18 (.ref 295)).set 19 (.ref 296)).set 20 (.ref 297)).set 21 (.ref 298)) (len := 3) rfl (by first | exact hM | exact (va_up_ne _ _ (by decide)).trans hM | exact (va_up_ne _ _ (by decide)).trans (va_up_self _ _ _) | exact va_up_self _ _ _) (by decide) rfl ?_
  refine Wp.n (pc' := 108) 2 rfl ?_
  refine Wp.xna3 (k := 3) (q := 300) (len := 2) rfl (by decide) rfl ?_
  refine Wp.xput (k := 287) (fs := (((((((((((((nfs 10).set 1 (.ref 288)).set 2 (.ref 289)).set 3 (.ref 290)).set 4 (.ref 291)).set 5 (.ref 292)).set 15 (.int (-1))).set 16 (.ref 293)).set 17 (.ref 294)).set 18 (.ref 295)).set 19 (.ref 296)).set 20 (.ref 297)).set 21 (.ref 298)).set 22 (.ref 299)) (len := 3) rfl (by first | exact hM | exact (va_up_ne _ _ (by decide)).trans hM | exact (va_up_ne _ _ (by decide)).trans (va_up_self _ _ _) | exact va_up_self _ _ _) (by decide) rfl ?_
  refine Wp.n (pc' := 116) 2 rfl ?_
  refine Wp.xna0 (k := 7) (q := 301) (len := 2) rfl (by decide) rfl ?_
  refine Wp.xput (k := 287) (fs := ((((((((((((((nfs 10).set 1 (.ref 288)).set 2 (.ref 289)).set 3 (.ref 290)).set 4 (.ref 291)).set 5 (.ref 292)).set 15 (.int (-1))).set 16 (.ref 293)).set 17 (.ref 294)).set 18 (.ref 295)).set 19 (.ref 296)).set 20 (.ref 297)).set 21 (.ref 298)).set 22 (.ref 299)).set 23 (.ref 300)) (len := 3) rfl (by first | exact hM | exact (va_up_ne _ _ (by decide)).trans hM | exact (va_up_ne _ _ (by decide)).trans (va_up_self _ _ _) | exact va_up_self _ _ _) (by decide) rfl ?_
  refine Wp.n (pc' := 124) 2 rfl ?_
  refine Wp.xna0 (k := 7) (q := 302) (len := 2) rfl (by decide) rfl ?_
  refine Wp.xput (k := 287) (fs := (((((((((((((((nfs 10).set 1 (.ref 288)).set 2 (.ref 289)).set 3 (.ref 290)).set 4 (.ref 291)).set 5 (.ref 292)).set 15 (.int (-1))).set 16 (.ref 293)).set 17 (.ref 294)).set 18 (.ref 295)).set 19 (.ref 296)).set 20 (.ref 297)).set 21 (.ref 298)).set 22 (.ref 299)).set 23 (.ref 300)).set 24 (.ref 301)) (len := 3) rfl (by first | exact hM | exact (va_up_ne _ _ (by decide)).trans hM | exact (va_up_ne _ _ (by decide)).trans (va_up_self _ _ _) | exact va_up_self _ _ _) (by decide) rfl ?_
  refine Wp.n (pc' := 132) 2 rfl ?_
  refine Wp.xna0 (k := 6) (q := 303) (len := 2) rfl (by decide) rfl ?_
  refine Wp.xput (k := 287) (fs := ((((((((((((((((nfs 10).set 1 (.ref 288)).set 2 (.ref 289)).set 3 (.ref 290)).set 4 (.ref 291)).set 5 (.ref 292)).set 15 (.int (-1))).set 16 (.ref 293)).set 17 (.ref 294)).set 18 (.ref 295)).set 19 (.ref 296)).set 20 (.ref 297)).set 21 (.ref 298)).set 22 (.ref 299)).set 23 (.ref 300)).set 24 (.ref 301)).set 26 (.ref 302)) (len := 3) rfl (by first | exact hM | exact (va_up_ne _ _ (by decide)).trans hM | exact (va_up_ne _ _ (by decide)).trans (va_up_self _ _ _) | exact va_up_self _ _ _) (by decide) rfl ?_
  refine Wp.n (pc' := 140) 2 rfl ?_
  refine Wp.xna0 (k := 7) (q := 304) (len := 2) rfl (by decide) rfl ?_
  refine Wp.xput (k := 287) (fs := (((((((((((((((((nfs 10).set 1 (.ref 288)).set 2 (.ref 289)).set 3 (.ref 290)).set 4 (.ref 291)).set 5 (.ref 292)).set 15 (.int (-1))).set 16 (.ref 293)).set 17 (.ref 294)).set 18 (.ref 295)).set 19 (.ref 296)).set 20 (.ref 297)).set 21 (.ref 298)).set 22 (.ref 299)).set 23 (.ref 300)).set 24 (.ref 301)).set 26 (.ref 302)).set 31 (.ref 303)) (len := 3) rfl (by first | exact hM | exact (va_up_ne _ _ (by decide)).trans hM | exact (va_up_ne _ _ (by decide)).trans (va_up_self _ _ _) | exact va_up_self _ _ _) (by decide) rfl ?_
  refine Wp.n (pc' := 148) 2 rfl ?_
  refine Wp.xna0 (k := 10) (q := 305) (len := 2) rfl (by decide) rfl ?_
  refine Wp.xput (k := 287) (fs := ((((((((((((((((((nfs 10).set 1 (.ref 288)).set 2 (.ref 289)).set 3 (.ref 290)).set 4 (.ref 291)).set 5 (.ref 292)).set 15 (.int (-1))).set 16 (.ref 293)).set 17 (.ref 294)).set 18 (.ref 295)).set 19 (.ref 296)).set 20 (.ref 297)).set 21 (.ref 298)).set 22 (.ref 299)).set 23 (.ref 300)).set 24 (.ref 301)).set 26 (.ref 302)).set 31 (.ref 303)).set 43 (.ref 304)) (len := 3) rfl (by first | exact hM | exact (va_up_ne _ _ (by decide)).trans hM | exact (va_up_ne _ _ (by decide)).trans (va_up_self _ _ _) | exact va_up_self _ _ _) (by decide) rfl ?_
  refine Wp.n (pc' := 155) 2 rfl ?_
  refine k_md_1 (j := 0) (by decide) rfl rfl rfl ?_
  refine k_md_1 (j := 1) (by decide) rfl rfl rfl ?_
  refine k_md_1 (j := 2) (by decide) rfl rfl rfl ?_
  refine k_md_1 (j := 3) (by decide) rfl rfl rfl ?_
  refine Wp.n (pc' := 157) 2 rfl ?_
  refine Wp.nc3 (x := 4) (y := 4) (tgt := 173) (len := 3) rfl (by omega) (by omega) (fun h157 => ?_) (fun h157 => ?_)
  · skip
    refine Wp.retV (len := 1) rfl rfl ?_
    refine ⟨rfl, _, rfl, mset_id rfl rfl rfl rfl rfl rfl rfl rfl rfl rfl rfl rfl rfl rfl rfl rfl rfl rfl rfl, ?_⟩
    repeat (first | refine sp_m (by decide) ?_ | exact fun _ _ => rfl)
  · omega
end MK2
end
