/-! A TRIP: a told walk, followed by the class. -/
def TS (κ : CS) (K : KD) (i : Nat) (s : Nat × List Nat) : Prop := κ.1 11 0 = nI i ∧ κ.1 11 2 = nI s.1 ∧ κ.1 11 3 = nI (bitsC K s.2) ∧ κ.1 11 7 = nI (wat K s.2).length ∧ (∀ i, i < (wat K s.2).length → κ.2.1 12 i = nI ((wat K s.2).getD i 0))
theorem bitsC_add {K : KD} {s : Nat × List Nat} {j : Nat} : bitsC K (addJ K s j).2 = bitsC K s.2 ||| bitJ K j := by
  unfold addJ bitJ
  by_cases c : j < 20
  · show bitsC K (if j < 20 then s.2 else s.2 ++ [j - 20]) = _
    rw [if_pos c, if_pos c, Nat.or_zero]
  · show bitsC K (if j < 20 then s.2 else s.2 ++ [j - 20]) = _
    rw [if_neg c, if_neg c, bitsC_app]
/-- by how much what joins is watched -/
def watJ (K : KD) (j : Nat) : Nat := if j < 20 then 0 else kl K (j - 20) 6
theorem wat_add {K : KD} {s : Nat × List Nat} {j : Nat} : wat K (addJ K s j).2 = if 0 < watJ K j then wat K s.2 ++ [watJ K j] else wat K s.2 := by
  unfold addJ watJ
  by_cases c : j < 20
  · show wat K (if j < 20 then s.2 else s.2 ++ [j - 20]) = _
    rw [if_pos c, if_pos c, if_neg (by omega)]
  · show wat K (if j < 20 then s.2 else s.2 ++ [j - 20]) = _
    rw [if_neg c, if_neg c, wat_app]
    by_cases q : 0 < kl K (j - 20) 6
    · rw [if_pos q, if_pos q]
    · rw [if_neg q, if_neg q, List.append_nil]
section TRIP
variable {d : Nat} {M : AM} {r : Nat} {ρ : RC} {K : KD} {κ κ' : CS} {Q : Option Value → AM → Prop}
theorem j_objW (hR : RA M r ρ) (hK : RepC ρ K) (ok : KOK K) {j : Nat} (hj : JV K j) : ∃ n f, M (jad K r j) = .inr (1, kfs n f) ∧ f 3 = nI (spanJ K j) ∧ f 6 = nI (watJ K j) ∧ watJ K j ≤ 100 := by
  obtain ⟨b0, b1, b2, b3, b4, b5, b6, b7, b8, b9, b10, b11, b12⟩ := ok_h ok
  obtain ⟨n, f, h1, h2, h3, h4⟩ := j_obj hR hK ok hj
  refine ⟨n, f, h1, h2, ?_⟩
  unfold watJ
  rcases hj with h | ⟨h, h5⟩
  · rw [if_pos (by omega)]
    exact ⟨(h3 (by omega)).2.2, by omega⟩
  · rw [if_neg (by omega)]
    have t := ok_lane ok h5
    exact ⟨(h4 h).2.2, by omega⟩
theorem t_goBy (hR : RA M r ρ) (hK : RepC ρ K) (ok : KOK K) (h1 : 36 ≤ r) (h2 : r + 47 ≤ 272) {i j : Nat} {s : Nat × List Nat} (hT : TS κ K i s) (hS : SB K i s) (hi : i < 6) (hj : JV K j) : Wp (d + 1) md_64 0 [some (.ref 280), some (.ref (jad K r j))] [] (cset M κ) (fun v M' => v = none ∧ ∃ κ', M' = cset M κ' ∧ Fc [11] [12] [] κ κ' ∧ κ'.1 11 1 = κ.1 11 1 ∧ TS κ' K (i + 1) (addJ K s j)) := by
  obtain ⟨b0, b1, b2, b3, b4, b5, b6, b7, b8, b9, b10, b11, b12⟩ := ok_h ok
  have hRc : ∀ κ : CS, RA (cset M κ) r ρ := fun κ => RA_c hR h1 h2
  have hob : ∃ f n, f 3 = nI (spanJ K j) ∧ f 6 = nI (watJ K j) ∧ watJ K j ≤ 100 ∧ ∀ κ : CS, cset M κ (jad K r j) = .inr (1, kfs n f) := by
    obtain ⟨n, f, q1, q2, q3, q4⟩ := j_objW hR hK ok hj
    refine ⟨f, n, q2, q3, q4, fun κ => ?_⟩
    rw [← q1]
    refine cset_o (Or.inr (Or.inl ?_))
    unfold jad
    rcases hj with h | ⟨h, h5⟩
    · rw [if_pos (by omega)]; omega
    · have := LV_ph ok h5
      rw [if_neg (by omega)]; omega
  obtain ⟨f, n0, hf3, hf6, hw, hM⟩ := hob
  have hwl : (wat K s.2).length ≤ i := Nat.le_trans (wat_len s.2) hS.2.1
  have hbl := bitsC_lt ok hS.2.2
  obtain ⟨t0, t2, t3, t7, ta⟩ := hT
  refine Wp.n (pc' := 2) 2 rfl ?_
  refine Wp.get (len := 3) rfl (rfl) rfl ?_
  refine Wp.top t0 ?_
  refine Wp.n (pc' := 6) 1 rfl ?_
  refine Wp.iaddN (x := i) (y := 1) (len := 1) rfl ?_
  refine Wp.cput11 0 rfl (len := 3) rfl ?_
  refine Wp.n (pc' := 12) 2 rfl ?_
  refine Wp.get (len := 3) rfl (rfl) rfl ?_
  refine Wp.top t2 ?_
  refine Wp.n (pc' := 16) 1 rfl ?_
  refine Wp.get (len := 3) rfl (hM _) rfl ?_
  refine Wp.top hf3 ?_
  refine Wp.iaddN (x := s.1) (y := spanJ K j) (len := 1) rfl ?_
  refine Wp.cput11 2 rfl (len := 3) rfl ?_
  refine Wp.n (pc' := 25) 2 rfl ?_
  refine Wp.get (len := 3) rfl (rfl) rfl ?_
  refine Wp.top t3 ?_
  refine Wp.n (pc' := 29) 1 rfl ?_
  refine Wp.ecallV (len := 3) rfl rfl rfl (hM _) rfl (jad_32 (by omega)) rfl (k_laneBit (hRc _) hK ok hj) ?_
  refine Wp.n (pc' := 33) 1 rfl ?_
  refine Wp.top (n_or _ _) ?_
  refine Wp.cput11 3 rfl (len := 3) rfl ?_
  refine Wp.n (pc' := 37) 1 rfl ?_
  refine Wp.get (len := 3) rfl (hM _) rfl ?_
  refine Wp.top hf6 ?_
  refine Wp.nz5 (x := watJ K j) (tgt := 75) (len := 3) rfl (by omega) (fun h40 => ?_) (fun h40 => ?_)
  · skip
    refine Wp.retV (len := 1) rfl rfl ?_
    first
      | (have e : wat K (addJ K s j).2 = wat K s.2 := by rw [wat_add, if_neg (by omega)]
         refine ⟨rfl, _, rfl, ((Fc.r.f rfl).f rfl).f rfl, rfl, rfl, rfl, ?_, ?_, ?_⟩
         · rw [bitsC_add]; rfl
         · rw [e]; exact t7
         · rw [e]; exact ta)
      | (have e : wat K (addJ K s j).2 = wat K s.2 ++ [watJ K j] := by rw [wat_add, if_pos (by omega)]
         refine ⟨rfl, _, rfl, ((((Fc.r.f rfl).f rfl).f rfl).a rfl).f rfl, rfl, rfl, rfl, ?_, ?_, ?_⟩
         · rw [bitsC_add]; rfl
         · rw [e, List.length_append]; rfl
         · rw [e, List.length_append]
           intro q hq
           have hq' : q < (wat K s.2).length + 1 := hq
           show upd (κ.2.1 12) (wat K s.2).length (nI (watJ K j)) q = _
           by_cases c : q = (wat K s.2).length
           · rw [c, pk_us, getD_end]
           · rw [pk_un c, getD_app (by omega)]
             exact ta q (by omega))
  · skip
    refine Wp.n (pc' := 44) 1 rfl ?_
    refine Wp.get (len := 3) rfl (rfl) rfl ?_
    refine Wp.top t7 ?_
    refine Wp.n (pc' := 49) 1 rfl ?_
    refine Wp.nc3 (x := (wat K s.2).length) (y := 6) (tgt := 75) (len := 3) rfl (by omega) (by omega) (fun h49 => ?_) (fun h49 => ?_)
    · omega
    · skip
      refine Wp.n (pc' := 53) 1 rfl ?_
      refine Wp.get (len := 3) rfl (rfl) rfl ?_
      refine Wp.n (pc' := 57) 1 rfl ?_
      refine Wp.get (len := 3) rfl (rfl) rfl ?_
      refine Wp.top t7 ?_
      refine Wp.n (pc' := 61) 1 rfl ?_
      refine Wp.get (len := 3) rfl (hM _) rfl ?_
      refine Wp.top hf6 ?_
      refine Wp.ciastN (s := 12) (n := 6) (j := (wat K s.2).length) (len := 1) rfl rfl rfl rfl (by omega) ?_
      refine Wp.n (pc' := 67) 2 rfl ?_
      refine Wp.get (len := 3) rfl (rfl) rfl ?_
      refine Wp.top t7 ?_
      refine Wp.n (pc' := 71) 1 rfl ?_
      refine Wp.iaddN (x := (wat K s.2).length) (y := 1) (len := 1) rfl ?_
      refine Wp.cput11 7 rfl (len := 3) rfl ?_
      refine Wp.retV (len := 1) rfl rfl ?_
      first
        | (have e : wat K (addJ K s j).2 = wat K s.2 := by rw [wat_add, if_neg (by omega)]
           refine ⟨rfl, _, rfl, ((Fc.r.f rfl).f rfl).f rfl, rfl, rfl, rfl, ?_, ?_, ?_⟩
           · rw [bitsC_add]; rfl
           · rw [e]; exact t7
           · rw [e]; exact ta)
        | (have e : wat K (addJ K s j).2 = wat K s.2 ++ [watJ K j] := by rw [wat_add, if_pos (by omega)]
           refine ⟨rfl, _, rfl, ((((Fc.r.f rfl).f rfl).f rfl).a rfl).f rfl, rfl, rfl, rfl, ?_, ?_, ?_⟩
           · rw [bitsC_add]; rfl
           · rw [e, List.length_append]; rfl
           · rw [e, List.length_append]
             intro q hq
             have hq' : q < (wat K s.2).length + 1 := hq
             show upd (κ.2.1 12) (wat K s.2).length (nI (watJ K j)) q = _
             by_cases c : q = (wat K s.2).length
             · rw [c, pk_us, getD_end]
             · rw [pk_un c, getD_app (by omega)]
               exact ta q (by omega))


theorem t_follow_l (hR : RA M r ρ) (hK : RepC ρ K) (ok : KOK K) (h1 : 36 ≤ r) (h2 : r + 47 ≤ 272) {w : Nat} (hw : w < kh K 4) : ∀ (n i : Nat) (s : Nat × List Nat) (κ1 : CS) (z5 : Option Value), i + n = kw K w 3 - 1 → Fc [11] [12] [] κ κ1 → κ1.1 11 1 = 1 → TS κ1 K i s → SB K i s → (∀ κ2 z4' z5', Fc [11] [12] [] κ κ2 → κ2.1 11 1 = bI (decide ((lookK K (kw K w 2) (fun i => kw K w (4 + i)) n i s).1 = kw K w 3 - 1)) → TS κ2 K (lookK K (kw K w 2) (fun i => kw K w (4 + i)) n i s).1 (lookK K (kw K w 2) (fun i => kw K w (4 + i)) n i s).2 → Wp (d + 9) md_63 106 [some (.ref 280), some (.ref r), some (.int (nI w)), some (.ref (r + 26 + 2 * w)), z4', z5'] [] (cset M κ2) Q) → Wp (d + 9) md_63 35 [some (.ref 280), some (.ref r), some (.int (nI w)), some (.ref (r + 26 + 2 * w)), some (.int (nI i)), z5] [] (cset M κ1) Q := by
  intro n
  obtain ⟨b0, b1, b2, b3, b4, b5, b6, b7, b8, b9, b10, b11, b12⟩ := ok_h ok
  have t := ok_walk ok hw
  have q := rc_walk hK hw
  have hRc : ∀ κ : CS, RA (cset M κ) r ρ := fun κ => RA_c hR h1 h2
  have hwk : ∀ κ : CS, cset M κ (r + 26 + 2 * w) = .inr (7, wfs (rwk ρ w) (r + 27 + 2 * w)) := fun κ => ra_walk (hRc κ) (by omega)
  induction n with
  | zero =>
    intro i s κ1 z5 hi hF hl hT hS k
    refine Wp.n (pc' := 38) 2 rfl ?_
    refine Wp.get (len := 3) rfl (hwk _) rfl ?_
    refine Wp.top q.2.2.2.1 ?_
    refine Wp.nc3 (x := i) (y := kw K w 3 - 1) (tgt := 106) (len := 3) rfl (by omega) (by omega) (fun h41 => ?_) (fun h41 => ?_)
    · skip
      refine k κ1 _ _ hF ?_ hT
      rw [hl, decide_eq_true (by show i = _; omega)]
      rfl
    · omega
  | succ n ih =>
    intro i s κ1 z5 hi hF hl hT hS k
    have p0 := t.2.2.2.2.2.2.1 i (by omega)
    have p1 := t.2.2.2.2.2.2.1 (i + 1) (by omega)
    unfold lookK at k
    refine Wp.n (pc' := 38) 2 rfl ?_
    refine Wp.get (len := 3) rfl (hwk _) rfl ?_
    refine Wp.top q.2.2.2.1 ?_
    refine Wp.nc3 (x := i) (y := kw K w 3 - 1) (tgt := 106) (len := 3) rfl (by omega) (by omega) (fun h41 => ?_) (fun h41 => ?_)
    · omega
    · skip
      refine Wp.n (pc' := 45) 1 rfl ?_
      refine Wp.get (len := 3) rfl (rfl) rfl ?_
      refine Wp.top (show _ = nI 1 from hl) ?_
      refine Wp.nz0 (x := 1) (tgt := 106) (len := 3) rfl (by omega) (fun h48 => ?_) (fun h48 => ?_)
      · omega
      · skip
        refine Wp.n (pc' := 55) 3 rfl ?_
        refine Wp.ecallV (len := 3) rfl rfl rfl (hwk _) rfl (by omega) rfl (k_stopAt (hRc _) hK ok hw (i := i) (by omega)) ?_
        refine Wp.n (pc' := 62) 3 rfl ?_
        refine Wp.iaddN (x := i) (y := 1) (len := 1) rfl ?_
        refine Wp.ecallV (len := 3) rfl rfl rfl (hwk _) rfl (by omega) rfl (k_stopAt (hRc _) hK ok hw (i := i + 1) (by omega)) ?_
        refine Wp.n (pc' := 67) 1 rfl ?_
        refine Wp.get (len := 3) rfl (hwk _) rfl ?_
        refine Wp.top q.2.2.1 ?_
        refine Wp.ecallV (len := 3) rfl rfl rfl (ra_obj (hRc _)) rfl (by omega) rfl (k_linkOf (hRc _) hK ok (by omega) (by omega) (by omega) (by omega)) ?_
        rcases hj : joinK K (kw K w (4 + i)) (kw K w (4 + (i + 1))) (kw K w 2) with _ | j
        · rw [show joinK K (kw K w (4 + i)) (kw K w (4 + (i + 1))) (kw K w 2) = none from hj] at k
          refine Wp.n (pc' := 78) 3 rfl ?_
          refine Wp.s (pc' := 85) rfl ?_
          refine Wp.n (pc' := 86) 1 rfl ?_
          refine Wp.cput11Z (len := 3) rfl rfl ?_
          refine Wp.n (pc' := 91) 1 rfl ?_
          refine Wp.s (pc' := 100) rfl ?_
          refine Wp.incN (x := i) (len := 3) rfl rfl ?_
          refine Wp.n (pc' := 35) 1 rfl ?_
          refine Wp.n (pc' := 38) 2 rfl ?_
          refine Wp.get (len := 3) rfl (hwk _) rfl ?_
          refine Wp.top q.2.2.2.1 ?_
          refine Wp.nc3 (x := i + 1) (y := kw K w 3 - 1) (tgt := 106) (len := 3) rfl (by omega) (by omega) (fun h41 => ?_) (fun h41 => ?_)
          · skip
            refine k (cf κ1 11 1 0) _ _ (hF.f rfl) ?_ hT
            rw [decide_eq_false (by show ¬ i = _; omega)]
            rfl
          · skip
            refine Wp.n (pc' := 45) 1 rfl ?_
            refine Wp.get (len := 3) rfl (rfl) rfl ?_
            refine Wp.top (show _ = nI 0 from rfl) ?_
            refine Wp.nz0 (x := 0) (tgt := 106) (len := 3) rfl (by omega) (fun h48 => ?_) (fun h48 => ?_)
            · skip
              refine k (cf κ1 11 1 0) _ _ (hF.f rfl) ?_ hT
              rw [decide_eq_false (by show ¬ i = _; omega)]
              rfl
            · omega
        · rw [show joinK K (kw K w (4 + i)) (kw K w (4 + (i + 1))) (kw K w 2) = some j from hj] at k
          refine Wp.n (pc' := 78) 3 rfl ?_
          refine Wp.s (pc' := 81) rfl ?_
          refine Wp.n (pc' := 86) 2 rfl ?_
          refine Wp.cput11Z (len := 3) rfl rfl ?_
          refine Wp.n (pc' := 91) 1 rfl ?_
          refine Wp.s (pc' := 94) rfl ?_
          refine Wp.n (pc' := 97) 2 rfl ?_
          refine Wp.callV (len := 3) rfl rfl rfl (rfl) rfl (by omega) rfl (t_goBy (d := d + 7) hR hK ok h1 h2 (κ := cf κ1 11 1 1) hT hS (by omega) (joinK_v ok hj)) ?_
          rintro _ _ ⟨rfl, κ2, rfl, hF2, hl2, hT2⟩
          refine Wp.incN (x := i) (len := 3) rfl rfl ?_
          refine Wp.n (pc' := 35) 1 rfl ?_
          exact ih (i + 1) (addJ K s j) κ2 _ (by omega) ((hF.f rfl).t hF2) hl2 hT2 (SB_s ok hS (joinK_v ok hj)) k

/-- the trip's fields after a walk was followed -/
def TW (κ : CS) (K : KD) (w : Nat) : Prop := TS κ K (TRr K w).1 (TRr K w).2 ∧ κ.1 11 1 = bI (lawK K w) ∧ κ.1 11 4 = nI (savW K w) ∧ κ.1 11 5 = nI (dutW K w)
theorem t_follow (hk : RK M r K) {w : Nat} (hw : w < kh K 4) : Wp (d + 9) md_63 0 [some (.ref 280), some (.ref r), some (.int (nI w)), none, none, none] [] (cset M κ) (fun v M' => v = none ∧ ∃ κ', M' = cset M κ' ∧ Fc [11] [12] [] κ κ' ∧ TW κ' K w) := by
  obtain ⟨ρ, hR, hK, hD, ok, h1, h2⟩ := hk
  obtain ⟨b0, b1, b2, b3, b4, b5, b6, b7, b8, b9, b10, b11, b12⟩ := ok_h ok
  have t := ok_walk ok hw
  have q := rc_walk hK hw
  have hRc : ∀ κ : CS, RA (cset M κ) r ρ := fun κ => RA_c hR h1 h2
  have hwk : ∀ κ : CS, cset M κ (r + 26 + 2 * w) = .inr (7, wfs (rwk ρ w) (r + 27 + 2 * w)) := fun κ => ra_walk (hRc κ) (by omega)
  have p0 := t.2.2.2.2.2.2.1 0 (by omega)
  have p1 := t.2.2.2.2.2.2.1 (kw K w 3 - 1) (by omega)
  rw [show 4 + (kw K w 3 - 1) = 3 + kw K w 3 by omega] at p1
  have tb := (TRr_b ok hw).1
  have tl : (TRr K w).2.1 ≤ 774 := tb.1
  have hbl := bitsC_lt ok tb.2.2
  have hsb : savW K w ≤ 774 := savK_b ok p0
  refine Wp.n (pc' := 1) 1 rfl ?_
  refine Wp.get (len := 3) rfl (ra_obj (hRc _)) rfl ?_
  refine Wp.n (pc' := 5) 1 rfl ?_
  refine Wp.aaldN (j := w) (len := 1) rfl (ra_walks (hRc _)) rfl (by omega) (by decide) (if_pos (by omega)) ?_
  refine Wp.n (pc' := 9) 3 rfl ?_
  refine Wp.cput11 0 rfl (len := 3) rfl ?_
  refine Wp.n (pc' := 14) 2 rfl ?_
  refine Wp.cput11Z (len := 3) rfl rfl ?_
  refine Wp.n (pc' := 19) 2 rfl ?_
  refine Wp.cput11 2 rfl (len := 3) rfl ?_
  refine Wp.n (pc' := 24) 2 rfl ?_
  refine Wp.cput11 3 rfl (len := 3) rfl ?_
  refine Wp.n (pc' := 29) 2 rfl ?_
  refine Wp.cput11 7 rfl (len := 3) rfl ?_
  refine Wp.n (pc' := 35) 2 rfl ?_
  refine t_follow_l (d := d) (κ := κ) hR hK ok h1 h2 hw (kw K w 3 - 1) 0 (0, []) _ _ (by omega) (((((Fc.r.f rfl).f rfl).f rfl).f rfl).f rfl) rfl ⟨rfl, rfl, rfl, rfl, fun i hi => absurd hi (Nat.not_lt_zero i)⟩ ⟨Nat.le_refl _, Nat.le_refl _, fun l hl => absurd hl List.not_mem_nil⟩ (fun κ2 z4 z5 hF2 hl2 hT2 => ?_)
  obtain ⟨t0, t2, t3, t7, ta⟩ := id hT2
  refine Wp.n (pc' := 109) 3 rfl ?_
  refine Wp.ecallV (len := 3) rfl rfl rfl (hwk _) rfl (by omega) rfl (k_first (hRc _) hK ok (by omega) hw) ?_
  refine Wp.n (pc' := 113) 1 rfl ?_
  refine Wp.ecallV (len := 3) rfl rfl rfl (hwk _) rfl (by omega) rfl (k_last (hRc _) hK ok (by omega) hw) ?_
  refine Wp.ecallV (len := 3) rfl rfl rfl (ra_obj (hRc _)) rfl (by omega) rfl (k_byRoad (hRc _) hD ok p0 p1) ?_
  refine Wp.n (pc' := 120) 1 rfl ?_
  refine Wp.get (len := 3) rfl (rfl) rfl ?_
  refine Wp.top t2 ?_
  refine Wp.ecallS (len := 3) rfl rfl rfl rfl (k_sparedOf ok p0 (show (TRr K w).2.1 ≤ 2000 by omega)) ?_
  refine Wp.cput11 4 rfl (len := 3) rfl ?_
  refine Wp.n (pc' := 130) 1 rfl ?_
  refine Wp.get (len := 3) rfl (rfl) rfl ?_
  refine Wp.top t3 ?_
  refine Wp.n (pc' := 134) 1 rfl ?_
  refine Wp.ecallV (len := 3) rfl rfl rfl (ra_obj (hRc _)) rfl (by omega) rfl (k_boatLanes (hRc _) hK ok) ?_
  refine Wp.n (pc' := 138) 1 rfl ?_
  refine Wp.top (n_and _ _) ?_
  refine Wp.nz0 (x := bitsC K (TRr K w).2.2 &&& boatC K) (tgt := 145) (len := 3) rfl (Nat.lt_of_le_of_lt Nat.and_le_left (by omega)) (fun h138 => ?_) (fun h138 => ?_)
  · have hbt : boatK K (TRr K w).2.2 = false := (boatC_and ok tb.2.2).mp h138
    refine Wp.n (pc' := 151) 4 rfl ?_
    refine Wp.nz0 (x := 0) (tgt := 158) (len := 3) rfl (by omega) (fun h151 => ?_) (fun h151 => ?_)
    · skip
      refine Wp.n (pc' := 159) 1 rfl ?_
      refine Wp.get (len := 3) rfl (ra_obj (hRc _)) rfl ?_
      refine Wp.n (pc' := 163) 1 rfl ?_
      refine Wp.get (len := 3) rfl (rfl) rfl ?_
      refine Wp.top (show _ = nI (savW K w) from rfl) ?_
      refine Wp.n (pc' := 167) 1 rfl ?_
      refine Wp.get (len := 3) rfl (hwk _) rfl ?_
      refine Wp.top q.2.1 ?_
      refine Wp.n (pc' := 171) 1 rfl ?_
      refine Wp.get (len := 3) rfl (hwk _) rfl ?_
      refine Wp.top q.2.2.1 ?_
      refine Wp.ecallV (len := 3) rfl rfl rfl (ra_law (hRc _)) rfl (by omega) rfl (k_dutyOn (hRc _) hK ok (by omega) hsb (by omega) (by omega)) ?_
      refine Wp.cput11 5 rfl (len := 3) rfl ?_
      refine Wp.retV (len := 1) rfl rfl ?_
      refine ⟨rfl, _, rfl, (hF2.f rfl).f rfl, hT2, hl2, rfl, ?_⟩
      show _ = nI (dutyS K (boatK K (TRr K w).2.2) (savW K w) (kw K w 2) (kw K w 1))
      rw [hbt]
      first
        | rfl
        | (unfold dutyS; rw [if_pos (Or.inl rfl)]; rfl)
    · omega
  · have hbt : boatK K (TRr K w).2.2 = true := by
      cases e : boatK K (TRr K w).2.2 with
      | true => rfl
      | false => exact absurd ((boatC_and ok tb.2.2).mpr e) h138
    refine Wp.n (pc' := 151) 5 rfl ?_
    refine Wp.nz0 (x := 1) (tgt := 158) (len := 3) rfl (by omega) (fun h151 => ?_) (fun h151 => ?_)
    · omega
    · skip
      refine Wp.n (pc' := 177) 2 rfl ?_
      refine Wp.cput11 5 rfl (len := 3) rfl ?_
      refine Wp.retV (len := 1) rfl rfl ?_
      refine ⟨rfl, _, rfl, (hF2.f rfl).f rfl, hT2, hl2, rfl, ?_⟩
      show _ = nI (dutyS K (boatK K (TRr K w).2.2) (savW K w) (kw K w 2) (kw K w 1))
      rw [hbt]
      first
        | rfl
        | (unfold dutyS; rw [if_pos (Or.inl rfl)]; rfl)

end TRIP
