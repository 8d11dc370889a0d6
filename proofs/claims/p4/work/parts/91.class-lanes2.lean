/-! LINES, the class: lanes. -/
section CLO3
variable {d : Nat} {M : AM} {κ κ' : CS} {T : TP} {st : St} {K : KD} {ρ ρ' : RC} {g : Nat → Int32} {Q : Option Value → AM → Prop}
theorem k_readLane1 {s : Nat} (hT : TC κ T) (hS : κ.2.2.2 0 = some 33) (hG : κ.2.2.2 1 = some 83) (hW : HW M) (hL : LC κ T (.inr s)) (hB : BdC ρ K) (ok : KOK K) (hP : 2 ≤ kh K 0) (hD : 1 ≤ kh K 1) (h3 : kh K 3 < 8) : Wp (d + 12) md_21 0 [some (.ref 35), some (.int (nI 1)), none, none, none, none] [] (cset (rset M 83 ρ) κ) (RCn M κ T (ln7 T K 0 (.inr (nx T s))) (lnK T K 0 (.inr (nx T s)))) := by
  have b0 := (ok_h ok).1
  have b1 := (ok_h ok).2.1
  have F0 : FA κ κ := FA.r
  have hA : lkA (12 + kh K 3) (83 + 16 + kh K 3) := Or.inr ⟨by omega, by omega, by omega⟩
  have hO : lkO K 1 = some (83 + 16 + kh K 3) := (if_neg (by decide)).trans (if_pos h3)
  refine Wp.n (pc' := 1) 1 rfl ?_
  refine Wp.get (len := 3) rfl (rfl) rfl ?_
  refine Wp.topR hG ?_
  refine Wp.n (pc' := 5) 1 rfl ?_
  refine Wp.ecallV (len := 3) rfl rfl rfl (dobj) rfl (by decide) rfl (k_spareLink (k := 1) hB.1 ok hB.2.2 (by decide)) ?_
  refine Wp.topR hO ?_
  refine Wp.n (pc' := 10) 2 rfl ?_
  refine Wp.s (pc' := 23) rfl ?_
  refine Wp.n (pc' := 25) 2 rfl ?_
  refine Wp.callV (len := 3) rfl rfl rfl (dlane (by omega)) rfl (by omega) rfl (k_linkBeginD hA) ?_
  rintro _ _ ⟨rfl, ρ1, g, rfl, L1, g1, g2⟩
  have hK1 := RepC_l hB.1 ok hB.2.2 L1
  refine Wp.n (pc' := 29) 1 rfl ?_
  refine Wp.callV (len := 3) rfl rfl rfl (rfl) rfl (by decide) rfl (k_advance hT hS hL) ?_
  rintro _ _ ⟨rfl, κ1, rfl, f1, l1⟩
  have F1 := F0.t f1
  have hG1 : κ1.2.2.2 1 = some 83 := by rw [F1.2]; exact hG
  have hS1 : κ1.2.2.2 0 = some 33 := by rw [F1.2]; exact hS
  have hT1 := F1.tc hT
  refine Wp.n (pc' := 35) 3 rfl ?_
  refine Wp.get (len := 3) rfl (rfl) rfl ?_
  refine Wp.topR hG1 ?_
  refine Wp.get (len := 3) rfl (dobj) rfl ?_
  refine Wp.top (show ρ1.1 0 = nI (kh K 0) by rw [L1.1]; exact hB.1.1) ?_
  refine Wp.n (pc' := 42) 1 rfl ?_
  refine Wp.isubN (x := kh K 0) (y := 1) (len := 1) rfl (by omega) ?_
  refine Wp.callV (len := 3) rfl rfl rfl (rfl) rfl (by decide) rfl (k_takeNumber (lo := 0) (hi := kh K 0 - 1) hT1 hS1 l1 (fun q => ⟨rfl, rfl, by omega, by omega⟩)) ?_
  rintro _ _ ⟨a, rfl, ha, κ2, rfl, f2, l2⟩
  have F2 := F1.t f2
  have hG2 : κ2.2.2.2 1 = some 83 := by rw [F2.2]; exact hG
  have hS2 : κ2.2.2.2 0 = some 33 := by rw [F2.2]; exact hS
  have hT2 := F2.tc hT
  change LC κ2 T (rd1 T K (.inr (nx T s))) at l2
  refine Wp.n (pc' := 50) 3 rfl ?_
  refine Wp.callV (len := 3) rfl rfl rfl (rfl) rfl (by decide) rfl (k_tW 7 wno_7 (by decide) hT2 hS2 (HW_r hW) l2) ?_
  rintro _ _ ⟨rfl, κ3, rfl, f3, l3⟩
  have F3 := F2.t f3
  have hG3 : κ3.2.2.2 1 = some 83 := by rw [F3.2]; exact hG
  have hS3 : κ3.2.2.2 0 = some 33 := by rw [F3.2]; exact hS
  have hT3 := F3.tc hT
  change LC κ3 T (rd2 T K (.inr (nx T s))) at l3
  refine Wp.n (pc' := 56) 3 rfl ?_
  refine Wp.nz1 (x := 1) (tgt := 63) (len := 3) rfl (by omega) (fun h56 => ?_) (fun h56 => ?_)
  · skip
    refine Wp.n (pc' := 64) 1 rfl ?_
    refine Wp.callV (len := 3) rfl rfl rfl (rfl) rfl (by decide) rfl (k_takeOther (w := false) (a := nmV T (.inr (nx T s))) (f := lno T (.inr (nx T s))) hT3 hS3 hG3 l3 hK1 ok hP (fun q => ⟨ha (gd_wd q), by have := nm_le (gd_wd (T := T) q); omega⟩) (fun q v => by unfold lno; simp)) ?_
    rintro _ _ ⟨b, rfl, hb, κ4, rfl, f4, l4⟩
    have F4 := F3.t f4
    have hG4 : κ4.2.2.2 1 = some 83 := by rw [F4.2]; exact hG
    have hS4 : κ4.2.2.2 0 = some 33 := by rw [F4.2]; exact hS
    have hT4 := F4.tc hT
    change LC κ4 T (ln3 T K (.inr (nx T s))) at l4
    refine Wp.n (pc' := 78) 9 rfl ?_
    refine Wp.dk hA L1 2 rfl (len := 3) rfl (fun ρ2 L2 => ?_)
    refine Wp.n (pc' := 86) 4 rfl ?_
    refine Wp.callV (len := 3) rfl rfl rfl (rfl) rfl (by decide) rfl (k_takeNumber (lo := 1) (hi := 30) hT4 hS4 l4 (fun q => ⟨rfl, rfl, by decide, by decide⟩)) ?_
    rintro _ _ ⟨c, rfl, hc, κ5, rfl, f5, l5⟩
    have F5 := F4.t f5
    have hG5 : κ5.2.2.2 1 = some 83 := by rw [F5.2]; exact hG
    have hS5 : κ5.2.2.2 0 = some 33 := by rw [F5.2]; exact hS
    have hT5 := F5.tc hT
    change LC κ5 T (ln4 T K (.inr (nx T s))) at l5
    refine Wp.dk hA L2 3 rfl (len := 3) rfl (fun ρ3 L3 => ?_)
    refine Wp.n (pc' := 94) 2 rfl ?_
    refine Wp.nc1 (x := 1) (y := 1) (tgt := 148) (len := 3) rfl (by omega) (by omega) (fun h94 => ?_) (fun h94 => ?_)
    · omega
    · skip
      refine Wp.n (pc' := 100) 2 rfl ?_
      refine Wp.callV (len := 3) rfl rfl rfl (rfl) rfl (by decide) rfl (k_tW 8 wno_8 (by decide) hT5 hS5 (HW_r hW) l5) ?_
      rintro _ _ ⟨rfl, κ6, rfl, f6, l6⟩
      have F6 := F5.t f6
      have hG6 : κ6.2.2.2 1 = some 83 := by rw [F6.2]; exact hG
      have hS6 : κ6.2.2.2 0 = some 33 := by rw [F6.2]; exact hS
      have hT6 := F6.tc hT
      change LC κ6 T (lnf T K (.inr (nx T s))) at l6
      refine Wp.n (pc' := 107) 4 rfl ?_
      refine Wp.get (len := 3) rfl (rfl) rfl ?_
      refine Wp.topR hG6 ?_
      refine Wp.get (len := 3) rfl (dobj) rfl ?_
      refine Wp.top (show ρ3.1 1 = nI (kh K 1) by rw [L3.1]; exact hB.1.2.1) ?_
      refine Wp.n (pc' := 114) 1 rfl ?_
      refine Wp.isubN (x := kh K 1) (y := 1) (len := 1) rfl (by omega) ?_
      refine Wp.callV (len := 3) rfl rfl rfl (rfl) rfl (by decide) rfl (k_takeNumber (lo := 0) (hi := kh K 1 - 1) hT6 hS6 l6 (fun q => ⟨rfl, rfl, by omega, by omega⟩)) ?_
      rintro _ _ ⟨e, rfl, he, κ7, rfl, f7, l7⟩
      have F7 := F6.t f7
      have hG7 : κ7.2.2.2 1 = some 83 := by rw [F7.2]; exact hG
      have hS7 : κ7.2.2.2 0 = some 33 := by rw [F7.2]; exact hS
      have hT7 := F7.tc hT
      change LC κ7 T (ln5 T K (.inr (nx T s))) at l7
      refine Wp.dk hA L3 4 rfl (len := 3) rfl (fun ρ4 L4 => ?_)
      refine Wp.n (pc' := 124) 2 rfl ?_
      refine Wp.callV (len := 3) rfl rfl rfl (rfl) rfl (by decide) rfl (k_tW 7 wno_7 (by decide) hT7 hS7 (HW_r hW) l7) ?_
      rintro _ _ ⟨rfl, κ8, rfl, f8, l8⟩
      have F8 := F7.t f8
      have hG8 : κ8.2.2.2 1 = some 83 := by rw [F8.2]; exact hG
      have hS8 : κ8.2.2.2 0 = some 33 := by rw [F8.2]; exact hS
      have hT8 := F8.tc hT
      change LC κ8 T (lnl T K (.inr (nx T s))) at l8
      refine Wp.n (pc' := 130) 3 rfl ?_
      refine Wp.get (len := 3) rfl (dlane (by omega)) rfl ?_
      refine Wp.top (show rlk ρ4 (12 + kh K 3) 4 = e by rw [L4.2.2.2.2]; rfl) ?_
      refine Wp.n (pc' := 134) 1 rfl ?_
      refine Wp.get (len := 3) rfl (rfl) rfl ?_
      refine Wp.topR hG8 ?_
      refine Wp.get (len := 3) rfl (dobj) rfl ?_
      refine Wp.top (show ρ4.1 1 = nI (kh K 1) by rw [L4.1]; exact hB.1.2.1) ?_
      refine Wp.n (pc' := 141) 1 rfl ?_
      refine Wp.isubN (x := kh K 1) (y := 1) (len := 1) rfl (by omega) ?_
      refine Wp.callV (len := 3) rfl rfl rfl (rfl) rfl (by decide) rfl (k_takeNumber (lo := nmV T (lnf T K (.inr (nx T s)))) (hi := kh K 1 - 1) hT8 hS8 l8 (fun q => ⟨he (gd_wd q), rfl, by omega, by have := nm_le (gd_wd (T := T) q); omega⟩)) ?_
      rintro _ _ ⟨y, rfl, hy, κ9, rfl, f9, l9⟩
      have F9 := F8.t f9
      have hG9 : κ9.2.2.2 1 = some 83 := by rw [F9.2]; exact hG
      have hS9 : κ9.2.2.2 0 = some 33 := by rw [F9.2]; exact hS
      have hT9 := F9.tc hT
      refine Wp.dk hA L4 5 rfl (len := 3) rfl (fun ρ5 L5 => ?_)
      refine Wp.n (pc' := 150) 2 rfl ?_
      refine Wp.nc0 (x := 1) (y := 1) (tgt := 158) (len := 3) rfl (by omega) (by omega) (fun h150 => ?_) (fun h150 => ?_)
      · skip
        refine Wp.n (pc' := 167) 4 rfl ?_
        refine Wp.nz0 (x := 1) (tgt := 194) (len := 3) rfl (by omega) (fun h167 => ?_) (fun h167 => ?_)
        · omega
        · skip
          have e6 : ln6 T K 0 (.inr (nx T s)) = nmS T (nmV T (lnf T K (.inr (nx T s)))) (kh K 1 - 1) (lnl T K (.inr (nx T s))) := if_pos rfl
          rw [← e6] at l9 hy
          obtain ⟨c1, e1, i1⟩ := k_iW (d := d + 2) 9 wno_9 (by decide) hT9 hS9 (HW_r (ρ := ρ5) hW) l9
          refine Wp.n (pc' := 173) 2 rfl ?_
          refine Wp.ecallV (len := 3) rfl rfl rfl (rfl) rfl (by decide) rfl (e1) ?_
          refine Wp.ifb0 (tgt := 194) (len := 3) rfl (fun h176 => ?_) (fun h176 => ?_)
          · skip
            rcases hq : ln6 T K 0 (.inr (nx T s)) with z | s4
            · have hw : lnw T K 0 (.inr (nx T s)) = false := by unfold lnw; rw [hq]; rfl
              have e7 : ln7 T K 0 (.inr (nx T s)) = .inl z := (if_neg (by rw [hw]; decide)).trans hq
              rw [e7]
              first
                | (rw [hq] at l11
                   exact k_lane_e (st := .inl z) (by decide) hB ok h3 hG11 F11 l11 L6 (fun q => by cases q))
                | (rw [hq] at l9
                   exact k_lane_e (st := .inl z) (by decide) hB ok h3 hG9 F9 l9 L5 (fun q => by cases q))
            · have g6 : gd (ln6 T K 0 (.inr (nx T s))) = true := by rw [hq]; rfl
              have g5 : gd (ln5 T K (.inr (nx T s))) = true := by rw [e6] at g6; exact gd_wd (gd_nm g6)
              have g4 : gd (ln4 T K (.inr (nx T s))) = true := gd_wd (gd_nm g5)
              have q3 : gd (ln3 T K (.inr (nx T s))) = true := gd_nm g4
              have q1 : gd (rd1 T K (.inr (nx T s))) = true := gd_wd (gd_ot q3)
              obtain rfl := ha q1
              obtain rfl := hb q3
              obtain rfl := hc g4
              obtain rfl := he g5
              obtain rfl := hy g6
              have i2 : c1 = isW T s4 8935713994 := i1 s4 hq
              have hw : lnw T K 0 (.inr (nx T s)) = c1 := by unfold lnw; rw [hq, i2]; rfl
              first
                | (have hc1 : c1 = true := h176
                   have e7 : ln7 T K 0 (.inr (nx T s)) = nmS T 0 100 (adS T (ln6 T K 0 (.inr (nx T s)))) := if_pos (hw.trans hc1)
                   rw [e7]
                   refine k_lane_e (G := lnR T K 0 (.inr (nx T s))) (by decide) hB ok h3 hG11 F11 l11 L6 (fun q => ?_)
                   refine ⟨g1, rfl, rfl, rfl, rfl, ?_⟩
                   show x = nI (if lnw T K 0 (.inr (nx T s)) = true then nmV T (adS T (ln6 T K 0 (.inr (nx T s)))) else 0)
                   rw [if_pos (hw.trans hc1)]
                   exact hx q)
                | (have hc1 : c1 = false := h176
                   have e7 : ln7 T K 0 (.inr (nx T s)) = ln6 T K 0 (.inr (nx T s)) := if_neg (by rw [hw, hc1]; decide)
                   rw [e7]
                   refine k_lane_e (G := lnR T K 0 (.inr (nx T s))) (by decide) hB ok h3 hG9 F9 l9 L5 (fun q => ?_)
                   refine ⟨g1, rfl, rfl, rfl, rfl, ?_⟩
                   show g 6 = nI (if lnw T K 0 (.inr (nx T s)) = true then nmV T (adS T (ln6 T K 0 (.inr (nx T s)))) else 0)
                   rw [if_neg (by rw [hw, hc1]; decide)]
                   exact g2 6 (by decide) (by decide))
          · skip
            refine Wp.n (pc' := 180) 1 rfl ?_
            refine Wp.callV (len := 3) rfl rfl rfl (rfl) rfl (by decide) rfl (k_advance hT9 hS9 l9) ?_
            rintro _ _ ⟨rfl, κ10, rfl, f10, l10⟩
            have F10 := F9.t f10
            have hG10 : κ10.2.2.2 1 = some 83 := by rw [F10.2]; exact hG
            have hS10 : κ10.2.2.2 0 = some 33 := by rw [F10.2]; exact hS
            have hT10 := F10.tc hT
            refine Wp.n (pc' := 188) 4 rfl ?_
            refine Wp.callV (len := 3) rfl rfl rfl (rfl) rfl (by decide) rfl (k_takeNumber (lo := 0) (hi := 100) hT10 hS10 l10 (fun q => ⟨rfl, rfl, by decide, by decide⟩)) ?_
            rintro _ _ ⟨x, rfl, hx, κ11, rfl, f11, l11⟩
            have F11 := F10.t f11
            have hG11 : κ11.2.2.2 1 = some 83 := by rw [F11.2]; exact hG
            have hS11 : κ11.2.2.2 0 = some 33 := by rw [F11.2]; exact hS
            have hT11 := F11.tc hT
            refine Wp.dk hA L5 6 rfl (len := 3) rfl (fun ρ6 L6 => ?_)
            rcases hq : ln6 T K 0 (.inr (nx T s)) with z | s4
            · have hw : lnw T K 0 (.inr (nx T s)) = false := by unfold lnw; rw [hq]; rfl
              have e7 : ln7 T K 0 (.inr (nx T s)) = .inl z := (if_neg (by rw [hw]; decide)).trans hq
              rw [e7]
              first
                | (rw [hq] at l11
                   exact k_lane_e (st := .inl z) (by decide) hB ok h3 hG11 F11 l11 L6 (fun q => by cases q))
                | (rw [hq] at l9
                   exact k_lane_e (st := .inl z) (by decide) hB ok h3 hG9 F9 l9 L5 (fun q => by cases q))
            · have g6 : gd (ln6 T K 0 (.inr (nx T s))) = true := by rw [hq]; rfl
              have g5 : gd (ln5 T K (.inr (nx T s))) = true := by rw [e6] at g6; exact gd_wd (gd_nm g6)
              have g4 : gd (ln4 T K (.inr (nx T s))) = true := gd_wd (gd_nm g5)
              have q3 : gd (ln3 T K (.inr (nx T s))) = true := gd_nm g4
              have q1 : gd (rd1 T K (.inr (nx T s))) = true := gd_wd (gd_ot q3)
              obtain rfl := ha q1
              obtain rfl := hb q3
              obtain rfl := hc g4
              obtain rfl := he g5
              obtain rfl := hy g6
              have i2 : c1 = isW T s4 8935713994 := i1 s4 hq
              have hw : lnw T K 0 (.inr (nx T s)) = c1 := by unfold lnw; rw [hq, i2]; rfl
              first
                | (have hc1 : c1 = true := h176
                   have e7 : ln7 T K 0 (.inr (nx T s)) = nmS T 0 100 (adS T (ln6 T K 0 (.inr (nx T s)))) := if_pos (hw.trans hc1)
                   rw [e7]
                   refine k_lane_e (G := lnR T K 0 (.inr (nx T s))) (by decide) hB ok h3 hG11 F11 l11 L6 (fun q => ?_)
                   refine ⟨g1, rfl, rfl, rfl, rfl, ?_⟩
                   show x = nI (if lnw T K 0 (.inr (nx T s)) = true then nmV T (adS T (ln6 T K 0 (.inr (nx T s)))) else 0)
                   rw [if_pos (hw.trans hc1)]
                   exact hx q)
                | (have hc1 : c1 = false := h176
                   have e7 : ln7 T K 0 (.inr (nx T s)) = ln6 T K 0 (.inr (nx T s)) := if_neg (by rw [hw, hc1]; decide)
                   rw [e7]
                   refine k_lane_e (G := lnR T K 0 (.inr (nx T s))) (by decide) hB ok h3 hG9 F9 l9 L5 (fun q => ?_)
                   refine ⟨g1, rfl, rfl, rfl, rfl, ?_⟩
                   show g 6 = nI (if lnw T K 0 (.inr (nx T s)) = true then nmV T (adS T (ln6 T K 0 (.inr (nx T s)))) else 0)
                   rw [if_neg (by rw [hw, hc1]; decide)]
                   exact g2 6 (by decide) (by decide))
      · omega
  · omega
end CLO3
