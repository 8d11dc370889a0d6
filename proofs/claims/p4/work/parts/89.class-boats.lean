/-! LINES, the class: fords and boats, lanes. -/
section CLL
variable {d : Nat} {M : AM} {κ κ' : CS} {T : TP} {st : St} {K : KD} {ρ ρ' : RC} {g : Nat → Int32} {Q : Option Value → AM → Prop}
theorem k_readLane3 {s : Nat} (hT : TC κ T) (hS : κ.2.2.2 0 = some 33) (hG : κ.2.2.2 1 = some 83) (hW : HW M) (hL : LC κ T (.inr s)) (hB : BdC ρ K) (ok : KOK K) (hP : 2 ≤ kh K 0) (hD : 1 ≤ kh K 1) (h3 : kh K 3 < 8) : Wp (d + 12) md_21 0 [some (.ref 35), some (.int (nI 3)), none, none, none, none] [] (cset (rset M 83 ρ) κ) (RCn M κ T (ln7 T K 2 (.inr (nx T s))) (lnK T K 2 (.inr (nx T s)))) := by
  have b0 := (ok_h ok).1
  have b1 := (ok_h ok).2.1
  have F0 : FA κ κ := FA.r
  have hA : lkA (12 + kh K 3) (83 + 16 + kh K 3) := Or.inr ⟨by omega, by omega, by omega⟩
  have hO : lkO K 3 = some (83 + 16 + kh K 3) := (if_neg (by decide)).trans (if_pos h3)
  refine Wp.n (pc' := 1) 1 rfl ?_
  refine Wp.get (len := 3) rfl (rfl) rfl ?_
  refine Wp.topR hG ?_
  refine Wp.n (pc' := 5) 1 rfl ?_
  refine Wp.ecallV (len := 3) rfl rfl rfl (dobj) rfl (by decide) rfl (k_spareLink (k := 3) hB.1 ok hB.2.2 (by decide)) ?_
  refine Wp.topR hO ?_
  refine Wp.n (pc' := 10) 2 rfl ?_
  refine Wp.s (pc' := 23) rfl ?_
  refine Wp.n (pc' := 25) 2 rfl ?_
  refine Wp.callV (len := 3) rfl rfl rfl (dlane (by omega)) rfl (by omega) rfl (k_linkBeginD hA) ?_
  rintro _ _ ⟨rfl, ρ1, g, rfl, L1, g1, g2⟩
  have hK1 := RepC_l hB.1 ok hB.2.2 L1
  refine Wp.n (pc' := 29) 1 rfl ?_
  refine Wp.callV (len := 3) rfl rfl rfl (rfl) rfl (by decide) rfl (k_advance hT hS hL) ?_
  rintro _ _ ⟨rfl, κ1, rfl, f1, l1⟩
  have F1 := F0.t f1
  have hG1 : κ1.2.2.2 1 = some 83 := by rw [F1.2]; exact hG
  have hS1 : κ1.2.2.2 0 = some 33 := by rw [F1.2]; exact hS
  have hT1 := F1.tc hT
  refine Wp.n (pc' := 35) 3 rfl ?_
  refine Wp.get (len := 3) rfl (rfl) rfl ?_
  refine Wp.topR hG1 ?_
  refine Wp.get (len := 3) rfl (dobj) rfl ?_
  refine Wp.top (show ρ1.1 0 = nI (kh K 0) by rw [L1.1]; exact hB.1.1) ?_
  refine Wp.n (pc' := 42) 1 rfl ?_
  refine Wp.isubN (x := kh K 0) (y := 1) (len := 1) rfl (by omega) ?_
  refine Wp.callV (len := 3) rfl rfl rfl (rfl) rfl (by decide) rfl (k_takeNumber (lo := 0) (hi := kh K 0 - 1) hT1 hS1 l1 (fun q => ⟨rfl, rfl, by omega, by omega⟩)) ?_
  rintro _ _ ⟨a, rfl, ha, κ2, rfl, f2, l2⟩
  have F2 := F1.t f2
  have hG2 : κ2.2.2.2 1 = some 83 := by rw [F2.2]; exact hG
  have hS2 : κ2.2.2.2 0 = some 33 := by rw [F2.2]; exact hS
  have hT2 := F2.tc hT
  change LC κ2 T (rd1 T K (.inr (nx T s))) at l2
  refine Wp.n (pc' := 50) 3 rfl ?_
  refine Wp.callV (len := 3) rfl rfl rfl (rfl) rfl (by decide) rfl (k_tW 7 wno_7 (by decide) hT2 hS2 (HW_r hW) l2) ?_
  rintro _ _ ⟨rfl, κ3, rfl, f3, l3⟩
  have F3 := F2.t f3
  have hG3 : κ3.2.2.2 1 = some 83 := by rw [F3.2]; exact hG
  have hS3 : κ3.2.2.2 0 = some 33 := by rw [F3.2]; exact hS
  have hT3 := F3.tc hT
  change LC κ3 T (rd2 T K (.inr (nx T s))) at l3
  refine Wp.n (pc' := 56) 3 rfl ?_
  refine Wp.nz1 (x := 3) (tgt := 63) (len := 3) rfl (by omega) (fun h56 => ?_) (fun h56 => ?_)
  · skip
    refine Wp.n (pc' := 64) 1 rfl ?_
    refine Wp.callV (len := 3) rfl rfl rfl (rfl) rfl (by decide) rfl (k_takeOther (w := false) (a := nmV T (.inr (nx T s))) (f := lno T (.inr (nx T s))) hT3 hS3 hG3 l3 hK1 ok hP (fun q => ⟨ha (gd_wd q), by have := nm_le (gd_wd (T := T) q); omega⟩) (fun q v => by unfold lno; simp)) ?_
    rintro _ _ ⟨b, rfl, hb, κ4, rfl, f4, l4⟩
    have F4 := F3.t f4
    have hG4 : κ4.2.2.2 1 = some 83 := by rw [F4.2]; exact hG
    have hS4 : κ4.2.2.2 0 = some 33 := by rw [F4.2]; exact hS
    have hT4 := F4.tc hT
    change LC κ4 T (ln3 T K (.inr (nx T s))) at l4
    refine Wp.n (pc' := 78) 9 rfl ?_
    refine Wp.dk hA L1 2 rfl (len := 3) rfl (fun ρ2 L2 => ?_)
    refine Wp.n (pc' := 86) 4 rfl ?_
    refine Wp.callV (len := 3) rfl rfl rfl (rfl) rfl (by decide) rfl (k_takeNumber (lo := 1) (hi := 30) hT4 hS4 l4 (fun q => ⟨rfl, rfl, by decide, by decide⟩)) ?_
    rintro _ _ ⟨c, rfl, hc, κ5, rfl, f5, l5⟩
    have F5 := F4.t f5
    have hG5 : κ5.2.2.2 1 = some 83 := by rw [F5.2]; exact hG
    have hS5 : κ5.2.2.2 0 = some 33 := by rw [F5.2]; exact hS
    have hT5 := F5.tc hT
    change LC κ5 T (ln4 T K (.inr (nx T s))) at l5
    refine Wp.dk hA L2 3 rfl (len := 3) rfl (fun ρ3 L3 => ?_)
    refine Wp.n (pc' := 94) 2 rfl ?_
    refine Wp.nc1 (x := 3) (y := 1) (tgt := 148) (len := 3) rfl (by omega) (by omega) (fun h94 => ?_) (fun h94 => ?_)
    · skip
      refine Wp.n (pc' := 150) 2 rfl ?_
      refine Wp.nc0 (x := 3) (y := 1) (tgt := 158) (len := 3) rfl (by omega) (by omega) (fun h150 => ?_) (fun h150 => ?_)
      · omega
      · skip
        refine Wp.n (pc' := 155) 2 rfl ?_
        refine Wp.nc1 (x := 3) (y := 2) (tgt := 162) (len := 3) rfl (by omega) (by omega) (fun h155 => ?_) (fun h155 => ?_)
        · skip
          refine Wp.n (pc' := 167) 3 rfl ?_
          refine Wp.nz0 (x := 0) (tgt := 194) (len := 3) rfl (by omega) (fun h167 => ?_) (fun h167 => ?_)
          · skip
            have e6 : ln6 T K 2 (.inr (nx T s)) = ln4 T K (.inr (nx T s)) := if_neg (by decide)
            have hw : lnw T K 2 (.inr (nx T s)) = false := rfl
            have e7 : ln7 T K 2 (.inr (nx T s)) = ln4 T K (.inr (nx T s)) := (if_neg (by rw [hw]; decide)).trans e6
            rw [e7]
            refine k_lane_e (G := lnR T K 2 (.inr (nx T s))) (by decide) hB ok h3 hG5 F5 l5 L3 (fun q => ?_)
            have q3 : gd (ln3 T K (.inr (nx T s))) = true := gd_nm q
            have q1 : gd (rd1 T K (.inr (nx T s))) = true := gd_wd (gd_ot q3)
            obtain rfl := ha q1
            obtain rfl := hb q3
            obtain rfl := hc q
            exact ⟨g1, rfl, rfl, g2 4 (by decide) (by decide), g2 5 (by decide) (by decide), g2 6 (by decide) (by decide)⟩
          · omega
        · omega
    · omega
  · omega
end CLL
