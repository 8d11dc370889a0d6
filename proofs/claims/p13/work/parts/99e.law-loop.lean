/-! THE LAW'S LOOP, AND ITS BEGINNING. -/
section LGO
variable {d : Nat} {X : MD} {pc len L i : Nat} {l : AL} {st : List Value} {xs : Nat → Int32} {M M' : AM} {κ : CS} {σ : MS} {Z : Zt} {Q : Option Value → AM → Prop}
theorem Wp.alen {k t n : Nat} {w : (Nat → Int32) ⊕ (Nat → Int64) ⊕ (Nat → UInt32) ⊕ (Nat → UInt64) ⊕ (Nat → Option Nat)} (hc : cdx X pc = some (.inr (.inl .arraylength), len)) (hM : M k = .inl (t, n, w)) (ht : Nat.beq t 8 = false) (h : Wp d X (pc + len) l (.int (nI n) :: st) M Q) : Wp d X pc l (.ref k :: st) M Q := by
  refine Wp.s (pc' := pc + len) (l' := l) (st' := .int (nI n) :: st) (M' := M) ?_ h
  have e : mstep .arraylength (.ref k :: st) M = some (.int (nI n) :: st, M) := by
    simp only [mstep, hM, ht, cond_false]
    rfl
  unfold sstep
  rw [hc]
  show (match mstep .arraylength (.ref k :: st) M with | some (st', M') => some (pc + len, l, st', M') | none => none) = _
  rw [e]
theorem i_nat (x : Int32) : ∃ a : Nat, x = nI a := ⟨x.toBitVec.toNat, by
  apply Int32.toBitVec_inj.1
  show x.toBitVec = BitVec.ofNat 32 x.toBitVec.toNat
  rw [BitVec.ofNat_toNat, BitVec.setWidth_eq]⟩
theorem and63 (x : Int32) : ∃ c : Nat, c < 64 ∧ x &&& 63 = nI c := by
  obtain ⟨a, rfl⟩ := i_nat x
  refine ⟨a &&& 63, ?_, n_and a 63⟩
  have := Nat.and_le_right (n := a) (m := 63)
  omega
theorem sub6 : ∀ L, L < 6 → ∀ i, i < 6 → nI L - 6 < nI i := by decide +kernel
theorem law_case (hi : i + 6 ≤ L) (hL : L ≤ 3072) (h2 : M 2 = .inl (7, L, .inl xs)) (hC : CI M κ Z) (hM : MI σ Z) (hZ : ZG Z) (kk : LK M i Q) : ∀ c : Nat, c < 64 → Wp 60 md_263 33 [some (.ref 2), some (.ref 32), some (.ref 287), some (.int (nI i))] [.int (nI c)] (mset (cset M κ) σ) Q
  | 0, _ => Wp.sw (len := 195) (t := 228) rfl rfl (L_feed hi hL h2 hC hM hZ kk)
  | 1, _ => Wp.sw (len := 195) (t := 291) rfl rfl (L_end hi hL h2 hC hM hZ kk)
  | 2, _ => Wp.sw (len := 195) (t := 314) rfl rfl (L_kingdom hi hL h2 hC hM hZ kk)
  | 3, _ => Wp.sw (len := 195) (t := 327) rfl rfl (L_fault hi hL h2 hC hM hZ kk)
  | 4, _ => Wp.sw (len := 195) (t := 350) rfl rfl (L_road hi hL h2 hC hM hZ kk)
  | 5, _ => Wp.sw (len := 195) (t := 383) rfl rfl (L_way hi hL h2 hC hM hZ kk)
  | 6, _ => Wp.sw (len := 195) (t := 426) rfl rfl (L_open hi hL h2 hC hM hZ kk)
  | 7, _ => Wp.sw (len := 195) (t := 459) rfl rfl (L_joins hi hL h2 hC hM hZ kk)
  | 8, _ => Wp.sw (len := 195) (t := 502) rfl rfl (L_walk hi hL h2 hC hM hZ kk)
  | 9, _ => Wp.sw (len := 195) (t := 535) rfl rfl (L_unlawful hi hL h2 hC hM hZ kk)
  | 10, _ => Wp.sw (len := 195) (t := 548) rfl rfl (L_steps hi hL h2 hC hM hZ kk)
  | 11, _ => Wp.sw (len := 195) (t := 571) rfl rfl (L_length hi hL h2 hC hM hZ kk)
  | 12, _ => Wp.sw (len := 195) (t := 594) rfl rfl (L_saved hi hL h2 hC hM hZ kk)
  | 13, _ => Wp.sw (len := 195) (t := 617) rfl rfl (L_duty hi hL h2 hC hM hZ kk)
  | 14, _ => Wp.sw (len := 195) (t := 640) rfl rfl (L_lanes hi hL h2 hC hM hZ kk)
  | 15, _ => Wp.sw (len := 195) (t := 663) rfl rfl (L_owes hi hL h2 hC hM hZ kk)
  | 16, _ => Wp.sw (len := 195) (t := 686) rfl rfl (L_takings hi hL h2 hC hM hZ kk)
  | 17, _ => Wp.sw (len := 195) (t := 709) rfl rfl (L_chance hi hL h2 hC hM hZ kk)
  | 18, _ => Wp.sw (len := 195) (t := 742) rfl rfl (L_hope hi hL h2 hC hM hZ kk)
  | 19, _ => Wp.sw (len := 195) (t := 775) rfl rfl (L_shortest hi hL h2 hC hM hZ kk)
  | 20, _ => Wp.sw (len := 195) (t := 818) rfl rfl (L_hidden hi hL h2 hC hM hZ kk)
  | 21, _ => Wp.sw (len := 195) (t := 861) rfl rfl (L_best hi hL h2 hC hM hZ kk)
  | 22, _ => Wp.sw (len := 195) (t := 924) rfl rfl (L_goes hi hL h2 hC hM hZ kk)
  | 23, _ => Wp.sw (len := 195) (t := 987) rfl rfl (L_ways hi hL h2 hC hM hZ kk)
  | 24, _ => Wp.sw (len := 195) (t := 1030) rfl rfl (L_all hi hL h2 hC hM hZ kk)
  | 25, _ => Wp.sw (len := 195) (t := 1053) rfl rfl (L_lane hi hL h2 hC hM hZ kk)
  | 26, _ => Wp.sw (len := 195) (t := 1106) rfl rfl (L_help hi hL h2 hC hM hZ kk)
  | 27, _ => Wp.sw (len := 195) (t := 1129) rfl rfl (L_bend hi hL h2 hC hM hZ kk)
  | 28, _ => Wp.sw (len := 195) (t := 1172) rfl rfl (L_duke hi hL h2 hC hM hZ kk)
  | 29, _ => Wp.sw (len := 195) (t := 1195) rfl rfl (L_watchers hi hL h2 hC hM hZ kk)
  | 30, _ => Wp.sw (len := 195) (t := 1218) rfl rfl (L_by hi hL h2 hC hM hZ kk)
  | 31, _ => Wp.sw (len := 195) (t := 1251) rfl rfl (L_rate hi hL h2 hC hM hZ kk)
  | 32, _ => Wp.sw (len := 195) (t := 1274) rfl rfl (L_law hi hL h2 hC hM hZ kk)
  | 33, _ => Wp.sw (len := 195) (t := 1307) rfl rfl (L_paid hi hL h2 hC hM hZ kk)
  | 34, _ => Wp.sw (len := 195) (t := 1340) rfl rfl (L_sure hi hL h2 hC hM hZ kk)
  | 35, _ => Wp.sw (len := 195) (t := 1373) rfl rfl (L_ford hi hL h2 hC hM hZ kk)
  | 36, _ => Wp.sw (len := 195) (t := 1396) rfl rfl (L_must hi hL h2 hC hM hZ kk)
  | 37, _ => Wp.sw (len := 195) (t := 1449) rfl rfl (L_seen hi hL h2 hC hM hZ kk)
  | 38, _ => Wp.sw (len := 195) (t := 1482) rfl rfl (L_caught hi hL h2 hC hM hZ kk)
  | 39, _ => Wp.sw (len := 195) (t := 1515) rfl rfl (L_count hi hL h2 hC hM hZ kk)
  | 40, _ => Wp.sw (len := 195) (t := 1538) rfl rfl (L_keep hi hL h2 hC hM hZ kk)
  | 41, _ => Wp.sw (len := 195) (t := 1561) rfl rfl (L_back hi hL h2 hC hM hZ kk)
  | 42, _ => Wp.sw (len := 195) (t := 1584) rfl rfl (L_row hi hL h2 hC hM hZ kk)
  | 43, _ => Wp.sw (len := 195) (t := 1627) rfl rfl (L_write hi hL h2 hC hM hZ kk)
  | 44, _ => Wp.sw (len := 195) (t := 1700) rfl rfl (L_paste hi hL h2 hC hM hZ kk)
  | c + 45, hc => by
    have e : swx swl 9 (nI (c + 45)) = some 1763 := by
      have h1 : (nI (c + 45)).toInt = ((c + 45 : Nat) : Int) := nI_toInt (by omega)
      refine sw_def (lo := 0) rfl (Or.inr ?_)
      rw [h1]
      show (0 : Int) + ((45 : Nat) : Int) ≤ _
      omega
    exact Wp.sw (len := 195) (t := 1763) rfl e (kk M κ σ Z hC hM hZ (fun _ _ => rfl))
theorem law_end (h0 : cnt M 0 ≤ 600000) (h1 : cnt M 1 ≤ 7302250) : Wp 60 md_263 1769 [some (.ref 2), some (.ref 32), some (.ref 287), some (.int (nI i))] [] (mset (cset M κ) σ) (fun v M' => v = some (.int 1) ∧ cnt M' 0 ≤ 600000 ∧ cnt M' 1 ≤ 7302250) := by
  refine Wp.n (pc' := 1770) 1 rfl ?_
  refine Wp.retZ (len := 1) (c := true) rfl rfl rfl ?_
  exact ⟨rfl, h0, h1⟩
theorem law_go (hL : L ≤ 3072) : ∀ (N i : Nat) {M : AM} {κ : CS} {σ : MS} {Z : Zt}, L < i + N → i ≤ L → M 2 = .inl (7, L, .inl xs) → CI M κ Z → MI σ Z → ZG Z → cnt M 0 ≤ 600000 → cnt M 1 ≤ 7302250 → Wp 60 md_263 18 [some (.ref 2), some (.ref 32), some (.ref 287), some (.int (nI i))] [] (mset (cset M κ) σ) (fun v M' => v = some (.int 1) ∧ cnt M' 0 ≤ 600000 ∧ cnt M' 1 ≤ 7302250) := by
  intro N
  induction N with
  | zero => intro i M κ σ Z h1 h2; omega
  | succ N ih =>
    intro i M κ σ Z hN hi h2 hC hM hZ h0 h1
    have s0 : mset (cset M κ) σ 2 = .inl (7, L, .inl xs) := (if_pos (by decide)).trans ((cset_o (by omega)).trans h2)
    refine Wp.n (pc' := 20) 2 rfl ?_
    refine Wp.alen (len := 1) rfl s0 rfl ?_
    by_cases c6 : 6 ≤ L
    · refine Wp.n (pc' := 23) 1 rfl ?_
      refine Wp.isubN (x := L) (y := 6) (len := 1) rfl (by omega) ?_
      refine Wp.nc4 (x := i) (y := L - 6) (tgt := 1769) (len := 3) rfl (by omega) (by omega) (fun h24 => ?_) (fun h24 => ?_)
      · exact law_end h0 h1
      · refine Wp.n (pc' := 29) 2 rfl ?_
        refine Wp.ialdN (j := i) (len := 1) rfl s0 rfl (by omega) (by omega) ?_
        refine Wp.n (pc' := 33) 2 rfl ?_
        obtain ⟨c, hc, e⟩ := and63 (xs i)
        refine Wp.top e ?_
        refine law_case (by omega) (by omega) h2 hC hM hZ (fun M' κ' σ' Z' c' m' z' e' => ?_) c hc
        refine Wp.n (pc' := 18) 2 rfl ?_
        show Wp 60 md_263 18 [some (.ref 2), some (.ref 32), some (.ref 287), some (.int (nI i + nI 6))] [] (mset (cset M' κ') σ') _
        rw [nI_add]
        refine ih (i + 6) (by omega) (by omega) ((e' 2 (by omega)).trans h2) c' m' z' ?_ ?_
        · unfold cnt at h0 ⊢
          rw [e' 0 (by omega)]
          exact h0
        · unfold cnt at h1 ⊢
          rw [e' 1 (by omega)]
          exact h1
    · refine Wp.n (pc' := 24) 2 rfl ?_
      refine Wp.ic4 (tgt := 1769) (len := 3) rfl (fun h24 => ?_) (fun h24 => ?_)
      · exact law_end h0 h1
      · exact absurd (sub6 L (by omega) i (by omega)) h24
theorem cset_tr (h : cset M κ = M) (e : ∀ q, 33 ≤ q → q < 286 → M' q = M q) : cset M' κ = M' := by
  funext q
  by_cases c1 : q < 33
  · exact if_pos c1
  · by_cases c4 : q < 286
    · rw [e q (by omega) c4]
      conv => rhs; rw [← h]
      unfold cset
      rw [if_neg c1, if_neg c1]
      by_cases c2 : q < 36
      · rw [if_pos c2, if_pos c2]
      · rw [if_neg c2, if_neg c2]
        by_cases c3 : q < 272
        · rw [if_pos c3, if_pos c3, e q (by omega) c4]
        · rw [if_neg c3, if_neg c3, if_pos c4, if_pos c4]
    · unfold cset
      rw [if_neg c1, if_neg (by omega), if_neg (by omega), if_neg c4]
theorem mset_tr (h : mset M σ = M) (e : ∀ q, 287 ≤ q → M' q = M q) : mset M' σ = M' := by
  funext q
  by_cases c1 : q < 287
  · exact if_pos c1
  · rw [e q (by omega)]
    conv => rhs; rw [← h]
    unfold mset
    rw [if_neg c1, if_neg c1]
    by_cases c2 : q = 287
    · rw [if_pos c2, if_pos c2]
    · rw [if_neg c2, if_neg c2]
      by_cases c3 : q < 306
      · rw [if_pos c3, if_pos c3]
      · rw [if_neg c3, if_neg c3, e q (by omega)]
def Z0 : Zt := (K0, fun _ => none, (fun _ => -1, fun _ => 0, fun _ _ => 0), (0, fun _ => 0), (0, none))
theorem u4z_m {s : Nat} (h : s < 4) : u4z s = -1 := by
  obtain rfl | rfl | rfl | rfl : s = 0 ∨ s = 1 ∨ s = 2 ∨ s = 3 := by omega
  all_goals rfl
theorem ZG_0 : ZG Z0 := ⟨KG_PK PK_K0, fun k _ K e => by cases e⟩
theorem SC_0 : SC κz Z0.2.2.1 := ⟨fun s _ => Nat.zero_le _, fun s hs => ⟨u4z_m hs, rfl, fun i hi => absurd hi (Nat.not_lt_zero _)⟩⟩
theorem SM_0 : SM σz Z0.2.2.1 := ⟨fun s _ => Nat.zero_le _, fun s hs => ⟨u4z_m hs, rfl, fun i hi => absurd hi (Nat.not_lt_zero _)⟩⟩
theorem RepC_0 : RepC rzr K0 := by
  refine ⟨rfl, rfl, rfl, rfl, rfl, rfl, rfl, fun h => absurd h (by decide), fun i hi => absurd hi (Nat.not_lt_zero _), fun i hi => ?_, fun i hi => absurd hi (Nat.not_lt_zero _)⟩
  rcases hi with hi | hi
  · exact absurd hi (Nat.not_lt_zero _)
  · exact absurd hi.2 (by show ¬ (0 : Nat) = 1; decide)
theorem RepM_0 : RepM σz 0 K0 := by
  refine ⟨fun j hj => ?_, fun h => absurd h (by decide), rfl, rfl, fun i hi => absurd hi (Nat.not_lt_zero _), fun i hi => ?_, fun i hi => absurd hi (Nat.not_lt_zero _)⟩
  · show (0 : Int32) = nI (if j = 9 then 1 else 0)
    rw [if_neg (by omega)]
    rfl
  · rcases hi with hi | hi
    · exact absurd hi (Nat.not_lt_zero _)
    · exact absurd hi.2 (by show ¬ (0 : Nat) = 1; decide)
theorem MI_0 : MI σz Z0 := ⟨⟨RepM_0, KOK_K0, rfl, rfl⟩, fun k _ => Or.inl ⟨rfl, rfl⟩, SM_0, ⟨rfl, Nat.zero_le _, fun i hi => absurd hi (Nat.not_lt_zero _)⟩, ⟨rfl, rfl⟩⟩
theorem CI_0 (h1 : HD M) (h2 : HI M) (h3 : HW M) (r36 : RA M 36 rzr) (r83 : RA M 83 rzr) (r131 : RA M 131 rzr) (r178 : RA M 178 rzr) (r225 : RA M 225 rzr) : CI M κz Z0 := by
  refine ⟨h1, h2, h3, ⟨rzr, r36, RepC_0, fun x y hx hy => absurd hx (Nat.not_lt_zero _), KOK_K0, by decide, by decide⟩, ⟨rzr, r83⟩, ⟨fun k hk => ⟨rzr, ?_⟩, fun k _ => Or.inl ⟨rfl, rfl⟩⟩, SC_0, ⟨rfl, Nat.zero_le _, fun i hi => absurd hi (Nat.not_lt_zero _)⟩, ⟨rfl, rfl⟩⟩
  obtain rfl | rfl | rfl : k = 0 ∨ k = 1 ∨ k = 2 := by omega
  · exact r131
  · exact r178
  · exact r225
theorem M0_cx : M0 L xs = cx (M0 L xs) 0 0 := by
  funext q
  by_cases h : 2 ≤ q
  · rw [cx_o h]
  · obtain rfl | rfl : q = 0 ∨ q = 1 := by omega
    · rfl
    · rfl
theorem law_start (hL : L ≤ 3072) : Wp 60 md_263 0 (ent [.ref 2] 4) [] (M0 L xs) (fun v M' => v = some (.int 1) ∧ cnt M' 0 ≤ 600000 ∧ cnt M' 1 ≤ 7302250) := by
  rw [M0_cx]
  refine Wp.xnew (q := 32) (len := 3) rfl rfl ?_
  refine Wp.n (pc' := 4) 1 rfl ?_
  refine Wp.callI (len := 3) rfl rfl rfl rfl rfl (k_sdInit (d := 49) (va_up_self _ _ _)) ?_
  rintro _ _ ⟨rfl, Mf, m', rfl, hm', c1, c2, c2r, c3, r36, r83, r131, r178, r225, ag⟩
  refine Wp.n (pc' := 8) 1 rfl ?_
  refine Wp.xnew (q := 287) (len := 3) rfl rfl ?_
  refine Wp.n (pc' := 12) 1 rfl ?_
  refine Wp.callI (len := 3) rfl rfl rfl rfl rfl (k_modelInit (d := 51) (va_up_self _ _ _)) ?_
  rintro _ _ ⟨rfl, Mg, rfl, hms, ag2⟩
  refine Wp.n (pc' := 18) 3 rfl ?_
  have f9 : fN 9 = 11 := rfl
  have f10 : fN 10 = 45 := rfl
  have hY : ∀ n m q, 2 ≤ q → q < 287 → cx Mg n m q = Mf q := fun n m q h1 h2 => (cx_o h1).trans ((ag2 q h2).trans (va_up_ne _ _ (by omega)))
  have hlow : ∀ q, 2 ≤ q → q < 32 → Mf q = M0 L xs q := fun q h1 h2 => (ag q (Or.inl h2)).trans (va_up_ne _ _ (by omega))
  refine Wp.cong (M' := mset (cset (cx Mg 274 (m' + fN 10 + 4 + 4 + 240 + 60 + 2000 + 5 + 25 + 25 + 5 + 180 + 315 + 550 + 3 + 7 + 7 + 6 + 7 + 10)) κz) σz) ?_ (law_go (xs := xs) hL (L + 1) 0 (by omega) (Nat.zero_le _) ?_ (CI_0 ?_ ?_ ?_ ?_ ?_ ?_ ?_ ?_) MI_0 ZG_0 ?_ ?_)
  · rw [cset_tr c1 (fun q h1 h2 => hY _ _ q (by omega) (by omega)), mset_tr hms (fun q h1 => cx_o (by omega))]
  · exact (hY _ _ 2 (by omega) (by omega)).trans ((hlow 2 (by omega) (by omega)).trans rfl)
  · exact ⟨⟨0, (hY _ _ 32 (by omega) (by omega)).trans c2⟩, _, (hY _ _ 286 (by omega) (by omega)).trans c2r⟩
  · exact (hY _ _ 130 (by omega) (by omega)).trans c3
  · intro j hj
    refine (hY _ _ _ (by omega) (by omega)).trans ((hlow _ (by omega) (by omega)).trans ?_)
    unfold M0
    rw [if_neg (by omega), if_neg (by omega), if_pos (by omega), show 3 + j - 3 = j by omega]
    rfl
  · exact RA_of r36 (fun q a b => hY _ _ q (by omega) (by omega))
  · exact RA_of r83 (fun q a b => hY _ _ q (by omega) (by omega))
  · exact RA_of r131 (fun q a b => hY _ _ q (by omega) (by omega))
  · exact RA_of r178 (fun q a b => hY _ _ q (by omega) (by omega))
  · exact RA_of r225 (fun q a b => hY _ _ q (by omega) (by omega))
  · show (274 : Nat) ≤ 600000
    decide
  · show m' + fN 10 + 4 + 4 + 240 + 60 + 2000 + 5 + 25 + 25 + 5 + 180 + 315 + 550 + 3 + 7 + 7 + 6 + 7 + 10 ≤ 7302250
    omega
theorem law_runs : LawRuns := fun L xs hL => by
  obtain ⟨v, M', ev, rfl, h0, h1⟩ := law_start (xs := xs) hL
  exact ⟨M', ev, h0, h1⟩
end LGO
