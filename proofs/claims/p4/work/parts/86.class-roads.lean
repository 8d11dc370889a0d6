/-! LINES, the class: roads. -/
section CLR
variable {d : Nat} {M : AM} {κ κ' : CS} {T : TP} {st : St} {K : KD} {ρ ρ' : RC} {g : Nat → Int32} {Q : Option Value → AM → Prop}
theorem RepC_r (hK : RepC ρ K) (ok : KOK K) (h11 : kh K 11 = 0) (F : LkF (kh K 2) g ρ ρ') (h2 : kh K 2 < 12) : RepC ρ' K := by
  obtain ⟨f1, f2, f3, f4, f5⟩ := F
  obtain ⟨r0, r1, r2, r3, r6, r8, r10, rl, rr, rn_, rw_⟩ := hK
  have b3 := (ok_h ok).2.2.2.1
  unfold RepC rhd rlw rwk rst at *
  rw [f1, f2, f3]
  refine ⟨r0, r1, r2, r3, r6, r8, r10, rl, fun i hi => ?_, fun l hl => ?_, rw_⟩
  · rw [f4 i (by omega)]; exact rr i hi
  · rw [f4 (12 + phL K l) (by unfold phL; split <;> omega)]; exact rn_ l hl
theorem k_takeSpare0 {n : Nat} (h6 : rhd ρ 6 = nI n) : Ev d md_30 0 [some (.ref 83), some (.int (nI 0))] [] (cset (rset M 83 ρ) κ) (none, cset (rset M 83 (hset ρ 6 (nI (n + 1)))) κ) := by
  refine Wp.toEv ?_
  refine Wp.n (pc' := 1) 1 rfl ?_
  refine Wp.nz1 (x := 0) (tgt := 17) (len := 3) rfl (by omega) (fun h1 => ?_) (fun h1 => ?_)
  · omega
  · skip
    refine Wp.n (pc' := 6) 2 rfl ?_
    refine Wp.get (len := 3) rfl (dobj) rfl ?_
    refine Wp.top h6 ?_
    refine Wp.n (pc' := 10) 1 rfl ?_
    refine Wp.iaddN (x := n) (y := 1) (len := 1) rfl ?_
    refine Wp.dput (len := 3) 6 rfl rfl ?_
    refine Wp.n (pc' := 27) 1 rfl ?_
    refine Wp.retV (len := 1) rfl rfl ?_
    exact ⟨rfl, rfl⟩
theorem k_road_e {a b c : Nat} {κ1 : CS} (hB : BdC ρ K) (ok : KOK K) (h2 : kh K 2 < 12) (hG : κ1.2.2.2 1 = some 83) (F : FA κ κ1) (l : LC κ1 T st) (L : LkF (kh K 2) g ρ ρ') (hv : gd st = true → g 1 = nI 0 ∧ g 2 = bitsE a b ∧ g 3 = nI c ∧ g 6 = 0) {x2 x3 x4 x5 : Option Value} : Wp (d + 12) md_21 194 [some (.ref 35), some (.int (nI 0)), x2, x3, x4, x5] [] (cset (rset M 83 ρ') κ1) (RCn M κ T st (addR K a b c)) := by
  have e6 : rhd ρ' 6 = nI (kh K 2) := by show ρ'.1 6 = _; rw [L.1]; exact hB.1.2.2.2.2.1
  rcases st with z | s
  · have z1 := l.2.1
    have z3 := l.2.2.1
    refine Wp.n (pc' := 195) 1 rfl ?_
    refine Wp.get (len := 3) rfl (rfl) rfl ?_
    refine Wp.top l.1 ?_
    refine Wp.nz1 (x := z.1) (tgt := 209) (len := 3) rfl (by omega) (fun h198 => ?_) (fun h198 => ?_)
    · skip
      refine Wp.retV (len := 1) rfl rfl ?_
      exact ⟨rfl, ρ', κ1, rfl, F, l, fun q => by cases q⟩
    · omega
  · obtain ⟨v1, v2, v3, v6⟩ := hv rfl
    refine Wp.n (pc' := 195) 1 rfl ?_
    refine Wp.get (len := 3) rfl (rfl) rfl ?_
    refine Wp.top l.1 ?_
    refine Wp.nz1 (x := 0) (tgt := 209) (len := 3) rfl (by omega) (fun h198 => ?_) (fun h198 => ?_)
    · omega
    · skip
      refine Wp.n (pc' := 202) 1 rfl ?_
      refine Wp.get (len := 3) rfl (rfl) rfl ?_
      refine Wp.topR hG ?_
      refine Wp.n (pc' := 206) 1 rfl ?_
      refine Wp.ecallV (len := 3) rfl rfl rfl (dobj) rfl (by decide) rfl (k_takeSpare0 e6) ?_
      refine Wp.retV (len := 1) rfl rfl ?_
      refine ⟨rfl, _, κ1, rfl, F, l, fun _ => ?_⟩
      have hK1 := RepC_r hB.1 ok hB.2.2 L h2
      obtain ⟨⟨r0, r1, r2, r3, r6, r8, r10, rl, rr, rn_, rw_⟩, hl, h11⟩ := hB
      obtain ⟨t0, t1, t2, t3, t6, t8, t10, tl, tr, tn_, tw_⟩ := hK1
      have hl' : ∀ j, j < 5 → rlw ρ' j = nI (kh K (6 + j)) := fun j hj => by show ρ'.2.1 j = _; rw [L.2.1]; exact hl j hj
      have ek : ∀ j, j ≠ 2 → kh (addR K a b c) j = kh K j := fun j hj => if_neg hj
      refine ⟨⟨t0, t1, t2, t3, rfl, t8, t10, fun _ j hj => ?_, fun i hi => ?_, tn_, tw_⟩, fun j hj => ?_, h11⟩
      · rw [ek (6 + j) (by omega)]; exact hl' j hj
      · have hi' : i < kh K 2 + 1 := hi
        have er : kr (addR K a b c) i = if i = kh K 2 then (fun j => if j = 0 then a else if j = 1 then b else c) else kr K i := rfl
        rw [er]
        by_cases q : i = kh K 2
        · rw [if_pos q, q]
          show rlk ρ' (kh K 2) 1 = 0 ∧ rlk ρ' (kh K 2) 2 = bitsE a b ∧ rlk ρ' (kh K 2) 3 = nI c ∧ rlk ρ' (kh K 2) 6 = 0
          rw [L.2.2.2.2]
          exact ⟨v1, v2, v3, v6⟩
        · rw [if_neg q]
          exact tr i (by omega)
      · rw [ek (6 + j) (by omega)]; exact hl' j hj
theorem k_readRoad {s : Nat} (hT : TC κ T) (hS : κ.2.2.2 0 = some 33) (hG : κ.2.2.2 1 = some 83) (hW : HW M) (hL : LC κ T (.inr s)) (hB : BdC ρ K) (ok : KOK K) (hP : 2 ≤ kh K 0) (h2 : kh K 2 < 12) : Wp (d + 12) md_21 0 [some (.ref 35), some (.int (nI 0)), none, none, none, none] [] (cset (rset M 83 ρ) κ) (RCn M κ T (rd4 T K (.inr (nx T s))) (rdK T K (.inr (nx T s)))) := by
  have b0 := (ok_h ok).1
  have F0 : FA κ κ := FA.r
  have hA : lkA (kh K 2) (83 + 3 + kh K 2) := Or.inl ⟨h2, rfl⟩
  have hO : lkO K 0 = some (83 + 3 + kh K 2) := (if_pos rfl).trans (if_pos h2)
  refine Wp.n (pc' := 1) 1 rfl ?_
  refine Wp.get (len := 3) rfl (rfl) rfl ?_
  refine Wp.topR hG ?_
  refine Wp.n (pc' := 5) 1 rfl ?_
  refine Wp.ecallV (len := 3) rfl rfl rfl (dobj) rfl (by decide) rfl (k_spareLink (k := 0) hB.1 ok hB.2.2 (by decide)) ?_
  refine Wp.topR hO ?_
  refine Wp.n (pc' := 10) 2 rfl ?_
  refine Wp.s (pc' := 23) rfl ?_
  refine Wp.n (pc' := 25) 2 rfl ?_
  refine Wp.callV (len := 3) rfl rfl rfl (droad h2) rfl (by omega) rfl (k_linkBeginD hA) ?_
  rintro _ _ ⟨rfl, ρ1, g, rfl, L1, g1, g2⟩
  have hK1 := RepC_r hB.1 ok hB.2.2 L1 h2
  refine Wp.n (pc' := 29) 1 rfl ?_
  refine Wp.callV (len := 3) rfl rfl rfl (rfl) rfl (by decide) rfl (k_advance hT hS hL) ?_
  rintro _ _ ⟨rfl, κ1, rfl, f1, l1⟩
  have F1 := F0.t f1
  have hG1 : κ1.2.2.2 1 = some 83 := by rw [F1.2]; exact hG
  have hS1 : κ1.2.2.2 0 = some 33 := by rw [F1.2]; exact hS
  have hT1 := F1.tc hT
  refine Wp.n (pc' := 35) 3 rfl ?_
  refine Wp.get (len := 3) rfl (rfl) rfl ?_
  refine Wp.topR hG1 ?_
  refine Wp.get (len := 3) rfl (dobj) rfl ?_
  refine Wp.top (show ρ1.1 0 = nI (kh K 0) by rw [L1.1]; exact hB.1.1) ?_
  refine Wp.n (pc' := 42) 1 rfl ?_
  refine Wp.isubN (x := kh K 0) (y := 1) (len := 1) rfl (by omega) ?_
  refine Wp.callV (len := 3) rfl rfl rfl (rfl) rfl (by decide) rfl (k_takeNumber (lo := 0) (hi := kh K 0 - 1) hT1 hS1 l1 (fun q => ⟨rfl, rfl, by omega, by omega⟩)) ?_
  rintro _ _ ⟨a, rfl, ha, κ2, rfl, f2, l2⟩
  have F2 := F1.t f2
  have hG2 : κ2.2.2.2 1 = some 83 := by rw [F2.2]; exact hG
  have hS2 : κ2.2.2.2 0 = some 33 := by rw [F2.2]; exact hS
  have hT2 := F2.tc hT
  change LC κ2 T (rd1 T K (.inr (nx T s))) at l2
  refine Wp.n (pc' := 50) 3 rfl ?_
  refine Wp.callV (len := 3) rfl rfl rfl (rfl) rfl (by decide) rfl (k_tW 7 wno_7 (by decide) hT2 hS2 (HW_r hW) l2) ?_
  rintro _ _ ⟨rfl, κ3, rfl, f3, l3⟩
  have F3 := F2.t f3
  have hG3 : κ3.2.2.2 1 = some 83 := by rw [F3.2]; exact hG
  have hS3 : κ3.2.2.2 0 = some 33 := by rw [F3.2]; exact hS
  have hT3 := F3.tc hT
  change LC κ3 T (rd2 T K (.inr (nx T s))) at l3
  refine Wp.n (pc' := 56) 3 rfl ?_
  refine Wp.nz1 (x := 0) (tgt := 63) (len := 3) rfl (by omega) (fun h56 => ?_) (fun h56 => ?_)
  · omega
  · skip
    refine Wp.n (pc' := 64) 2 rfl ?_
    refine Wp.callV (len := 3) rfl rfl rfl (rfl) rfl (by decide) rfl (k_takeOther (w := true) (a := nmV T (.inr (nx T s))) (f := rdo T K (.inr (nx T s))) hT3 hS3 hG3 l3 hK1 ok hP (fun q => ⟨ha (gd_wd q), by have := nm_le (gd_wd (T := T) q); omega⟩) (fun q v => by unfold rdo; simp)) ?_
    rintro _ _ ⟨b, rfl, hb, κ4, rfl, f4, l4⟩
    have F4 := F3.t f4
    have hG4 : κ4.2.2.2 1 = some 83 := by rw [F4.2]; exact hG
    have hS4 : κ4.2.2.2 0 = some 33 := by rw [F4.2]; exact hS
    have hT4 := F4.tc hT
    change LC κ4 T (rd3 T K (.inr (nx T s))) at l4
    refine Wp.n (pc' := 78) 9 rfl ?_
    refine Wp.dk hA L1 2 rfl (len := 3) rfl (fun ρ2 L2 => ?_)
    refine Wp.n (pc' := 86) 4 rfl ?_
    refine Wp.callV (len := 3) rfl rfl rfl (rfl) rfl (by decide) rfl (k_takeNumber (lo := 1) (hi := 30) hT4 hS4 l4 (fun q => ⟨rfl, rfl, by decide, by decide⟩)) ?_
    rintro _ _ ⟨c, rfl, hc, κ5, rfl, f5, l5⟩
    have F5 := F4.t f5
    have hG5 : κ5.2.2.2 1 = some 83 := by rw [F5.2]; exact hG
    have hS5 : κ5.2.2.2 0 = some 33 := by rw [F5.2]; exact hS
    have hT5 := F5.tc hT
    change LC κ5 T (rd4 T K (.inr (nx T s))) at l5
    refine Wp.dk hA L2 3 rfl (len := 3) rfl (fun ρ3 L3 => ?_)
    refine Wp.n (pc' := 94) 2 rfl ?_
    refine Wp.nc1 (x := 0) (y := 1) (tgt := 148) (len := 3) rfl (by omega) (by omega) (fun h94 => ?_) (fun h94 => ?_)
    · skip
      refine Wp.n (pc' := 150) 2 rfl ?_
      refine Wp.nc0 (x := 0) (y := 1) (tgt := 158) (len := 3) rfl (by omega) (by omega) (fun h150 => ?_) (fun h150 => ?_)
      · omega
      · skip
        refine Wp.n (pc' := 155) 2 rfl ?_
        refine Wp.nc1 (x := 0) (y := 2) (tgt := 162) (len := 3) rfl (by omega) (by omega) (fun h155 => ?_) (fun h155 => ?_)
        · skip
          refine Wp.n (pc' := 167) 3 rfl ?_
          refine Wp.nz0 (x := 0) (tgt := 194) (len := 3) rfl (by omega) (fun h167 => ?_) (fun h167 => ?_)
          · skip
            refine k_road_e hB ok h2 hG5 F5 l5 L3 (fun q => ?_)
            have q3 : gd (rd3 T K (.inr (nx T s))) = true := gd_nm q
            have q1 : gd (rd1 T K (.inr (nx T s))) = true := gd_wd (gd_ot q3)
            obtain rfl := ha q1
            obtain rfl := hb q3
            obtain rfl := hc q
            exact ⟨g1, rfl, rfl, g2 6 (by decide) (by decide)⟩
          · omega
        · omega
    · omega
end CLR
