/-! LINES, the class: floods. -/
section CLF
variable {d : Nat} {M : AM} {κ κ' : CS} {T : TP} {st : St} {K : KD} {ρ ρ' : RC} {Q : Option Value → AM → Prop}
theorem k_readFlood {s : Nat} (hT : TC κ T) (hS : κ.2.2.2 0 = some 33) (hG : κ.2.2.2 1 = some 83) (hW : HW M) (hL : LC κ T (.inr s)) (hB : BdC ρ K) (ok : KOK K) (hD : 1 ≤ kh K 1) : Wp (d + 12) md_23 0 [some (.ref 35)] [] (cset (rset M 83 ρ) κ) (RCn M κ T (fd2 T K (.inr (nx T s))) (fdK T K (.inr (nx T s)))) := by
  have b1 := (ok_h ok).2.1
  have F0 : FA κ κ := FA.r
  refine Wp.n (pc' := 1) 1 rfl ?_
  refine Wp.callV (len := 3) rfl rfl rfl (rfl) rfl (by decide) rfl (k_advance hT hS hL) ?_
  rintro _ _ ⟨rfl, κ1, rfl, f1, l1⟩
  have F1 := F0.t f1
  have hG1 : κ1.2.2.2 1 = some 83 := by rw [F1.2]; exact hG
  have hS1 : κ1.2.2.2 0 = some 33 := by rw [F1.2]; exact hS
  have hT1 := F1.tc hT
  refine Wp.n (pc' := 7) 2 rfl ?_
  refine Wp.callV (len := 3) rfl rfl rfl (rfl) rfl (by decide) rfl (k_tW 14 wno_14 (by decide) hT1 hS1 (HW_r hW) l1) ?_
  rintro _ _ ⟨rfl, κ2, rfl, f2, l2⟩
  have F2 := F1.t f2
  have hG2 : κ2.2.2.2 1 = some 83 := by rw [F2.2]; exact hG
  have hS2 : κ2.2.2.2 0 = some 33 := by rw [F2.2]; exact hS
  have hT2 := F2.tc hT
  refine Wp.n (pc' := 11) 1 rfl ?_
  refine Wp.get (len := 3) rfl (rfl) rfl ?_
  refine Wp.topR hG2 ?_
  refine Wp.n (pc' := 15) 1 rfl ?_
  refine Wp.get (len := 3) rfl (dobj) rfl ?_
  refine Wp.top hB.1.2.2.2.1 ?_
  refine Wp.n (pc' := 22) 4 rfl ?_
  refine Wp.get (len := 3) rfl (rfl) rfl ?_
  refine Wp.topR hG2 ?_
  refine Wp.get (len := 3) rfl (dobj) rfl ?_
  refine Wp.top hB.1.2.1 ?_
  refine Wp.n (pc' := 29) 1 rfl ?_
  refine Wp.isubN (x := kh K 1) (y := 1) (len := 1) rfl (by omega) ?_
  refine Wp.callV (len := 3) rfl rfl rfl (rfl) rfl (by decide) rfl (k_takeNumber (lo := 0) (hi := kh K 1 - 1) hT2 hS2 l2 (fun q => ⟨rfl, rfl, by omega, by omega⟩)) ?_
  rintro _ _ ⟨x, rfl, hx, κ3, rfl, f3, l3⟩
  have F3 := F2.t f3
  have hG3 : κ3.2.2.2 1 = some 83 := by rw [F3.2]; exact hG
  have hS3 : κ3.2.2.2 0 = some 33 := by rw [F3.2]; exact hS
  have hT3 := F3.tc hT
  refine Wp.n (pc' := 35) 2 rfl ?_
  refine Wp.dput (len := 3) 3 rfl rfl ?_
  refine Wp.retV (len := 1) rfl rfl ?_
  refine ⟨rfl, _, κ3, rfl, F3, l3, fun g => ?_⟩
  obtain rfl := hx g
  have n3 : 0 ≤ nmV T (fd1 T (.inr (nx T s))) ∧ nmV T (fd1 T (.inr (nx T s))) ≤ kh K 1 - 1 := nm_le g
  have hb : nmV T (fd1 T (.inr (nx T s))) < 31 := by omega
  obtain ⟨⟨r0, r1, r2, r3, r6, r8, r10, rl, rr, rn_, rw_⟩, hl, h11⟩ := hB
  have hl' : ∀ j, j < 5 → rlw ρ j = nI (kh (fdK T K (.inr (nx T s))) (6 + j)) := fun j hj => (hl j hj).trans (congrArg nI (if_neg (by omega)).symm)
  refine ⟨⟨r0, r1, r2, ?_, r6, r8, r10, fun _ => hl', rr, rn_, rw_⟩, hl', h11⟩
  show nI (kh K 12) ||| ((1 : Int32) <<< (nI (nmV T (fd1 T (.inr (nx T s)))) &&& 31)) = nI (kh K 12 ||| 2 ^ nmV T (fd1 T (.inr (nx T s))))
  rw [n_sh1 _ hb, n_or]
theorem k_law_e {K' : KD} {κ1 : CS} (hT : TC κ T) (hS : κ.2.2.2 0 = some 33) (F : FA κ κ1) (l1 : LC κ1 T st) (hb : gd (adS T st) = true → BdC ρ K') : Wp (d + 12) md_25 107 [some (.ref 35)] [] (cset (rset M 83 ρ) κ1) (RCn M κ T (adS T st) K') := by
  refine Wp.n (pc' := 108) 1 rfl ?_
  refine Wp.callV (len := 3) rfl rfl rfl (rfl) rfl (by decide) rfl (k_advance (F.tc hT) (by rw [F.2]; exact hS) l1) ?_
  rintro _ _ ⟨rfl, κ2, rfl, f2, l2⟩
  refine Wp.retV (len := 1) rfl rfl ?_
  exact ⟨rfl, ρ, κ2, rfl, F.t f2, l2, hb⟩
theorem BdC_lw (hB : BdC ρ K) {k : Nat} : BdC (wset ρ (lwm k) (nI (lwv k))) (lawH K k) := by
  obtain ⟨⟨r0, r1, r2, r3, r6, r8, r10, rl, rr, rn_, rw_⟩, hl, h11⟩ := hB
  have hm : lwm k = 3 ∨ lwm k = 4 := by unfold lwm; split <;> simp
  have ek : ∀ j, j ≠ 6 + lwm k → kh (lawH K k) j = kh K j := fun j hj => if_neg hj
  have en : kh (lawH K k) (6 + lwm k) = lwv k := if_pos rfl
  have hl' : ∀ j, j < 5 → rlw (wset ρ (lwm k) (nI (lwv k))) j = nI (kh (lawH K k) (6 + j)) := fun j hj => by
    show upd (rlw ρ) (lwm k) _ j = _
    by_cases q : j = lwm k
    · rw [q, pk_us, en]
    · rw [pk_un q, ek (6 + j) (by omega)]; exact hl j hj
  refine ⟨⟨?_, ?_, ?_, ?_, ?_, ?_, ?_, fun _ => hl', ?_, ?_, ?_⟩, hl', (ek 11 (by omega)).trans h11⟩
  · rw [ek 0 (by omega)]; exact r0
  · rw [ek 1 (by omega)]; exact r1
  · rw [ek 5 (by omega)]; exact r2
  · rw [ek 12 (by omega)]; exact r3
  · rw [ek 2 (by omega)]; exact r6
  · rw [ek 3 (by omega), ek 11 (by omega)]; exact r8
  · rw [ek 4 (by omega)]; exact r10
  · rw [ek 2 (by omega)]; exact rr
  · have ep : ∀ l, phL (lawH K k) l = phL K l := fun l => by unfold phL; rw [ek 3 (by omega)]
    rw [ek 3 (by omega), ek 11 (by omega)]
    intro l hl2
    rw [ep]
    exact rn_ l hl2
  · rw [ek 4 (by omega)]; exact rw_
theorem k_readLaw {s : Nat} (hT : TC κ T) (hS : κ.2.2.2 0 = some 33) (hG : κ.2.2.2 1 = some 83) (hW : HW M) (hL : LC κ T (.inr s)) (hB : BdC ρ K) : Wp (d + 12) md_25 0 [some (.ref 35)] [] (cset (rset M 83 ρ) κ) (RCn M κ T (lawS T (lw1 T (.inr s))) (lawH K (lwq T (lw1 T (.inr s))))) := by
  refine Wp.n (pc' := 3) 2 rfl ?_
  refine Wp.callV (len := 3) rfl rfl rfl (rfl) rfl (by decide) rfl (k_tW (d := d + 1) 18 wno_18 (by decide) hT hS (HW_r hW) hL) ?_
  rintro _ _ ⟨rfl, κ1, rfl, f1, l1⟩
  have hG1 : κ1.2.2.2 1 = some 83 := by rw [f1.2]; exact hG
  have hS1 : κ1.2.2.2 0 = some 33 := by rw [f1.2]; exact hS
  have hT1 := f1.tc hT
  change LC κ1 T (lw1 T (.inr s)) at l1
  obtain ⟨c1, e1, i1⟩ := k_iW (d := d + 2) 19 wno_19 (by decide) hT1 hS1 (HW_r (ρ := ρ) hW) l1
  obtain ⟨c2, e2, i2⟩ := k_iW (d := d + 2) 4 wno_4 (by decide) hT1 hS1 (HW_r (ρ := ρ) hW) l1
  obtain ⟨c3, e3, i3⟩ := k_iW (d := d + 2) 16 wno_16 (by decide) hT1 hS1 (HW_r (ρ := ρ) hW) l1
  obtain ⟨c4, e4, i4⟩ := k_iW (d := d + 2) 20 wno_20 (by decide) hT1 hS1 (HW_r (ρ := ρ) hW) l1
  rcases hq : lw1 T (.inr s) with x | s1
  · rw [hq] at l1
    refine Wp.n (pc' := 9) 2 rfl ?_
    refine Wp.ecallV (len := 3) rfl rfl rfl (rfl) rfl (by decide) rfl (e1) ?_
    refine Wp.ifb0 (tgt := 29) (len := 3) rfl (fun h12 => ?_) (fun h12 => ?_)
    · skip
      refine Wp.n (pc' := 32) 2 rfl ?_
      refine Wp.ecallV (len := 3) rfl rfl rfl (rfl) rfl (by decide) rfl (e2) ?_
      refine Wp.ifb0 (tgt := 52) (len := 3) rfl (fun h35 => ?_) (fun h35 => ?_)
      · skip
        refine Wp.n (pc' := 55) 2 rfl ?_
        refine Wp.ecallV (len := 3) rfl rfl rfl (rfl) rfl (by decide) rfl (e3) ?_
        refine Wp.ifb0 (tgt := 75) (len := 3) rfl (fun h58 => ?_) (fun h58 => ?_)
        · skip
          refine Wp.n (pc' := 78) 2 rfl ?_
          refine Wp.ecallV (len := 3) rfl rfl rfl (rfl) rfl (by decide) rfl (e4) ?_
          refine Wp.ifb0 (tgt := 98) (len := 3) rfl (fun h81 => ?_) (fun h81 => ?_)
          · skip
            refine Wp.n (pc' := 101) 3 rfl ?_
            refine Wp.get (len := 3) rfl (rfl) rfl ?_
            refine Wp.callV (len := 3) rfl rfl rfl (rfl) rfl (by decide) rfl (k_fail (p := 0) (k := 1) hT1 l1 (by decide) _ (fun q => by cases q)) ?_
            rintro _ _ ⟨rfl, κ2, rfl, f2, l2⟩
            change LC κ2 T (.inl x) at l2
            first
              | exact k_law_e (st := .inl x) hT hS (f1.t f2) l2 (fun q => by cases q)
              | exact k_law_e (st := .inl x) hT hS f1 l1 (fun q => by cases q)
          · skip
            refine Wp.n (pc' := 85) 1 rfl ?_
            refine Wp.get (len := 3) rfl (rfl) rfl ?_
            refine Wp.topR hG1 ?_
            refine Wp.get (len := 3) rfl (dobj) rfl ?_
            refine Wp.n (pc' := 92) 1 rfl ?_
            refine Wp.dlput (len := 3) 4 rfl rfl ?_
            refine Wp.n (pc' := 107) 1 rfl ?_
            first
              | exact k_law_e (st := .inl x) hT hS (f1.t f2) l2 (fun q => by cases q)
              | exact k_law_e (st := .inl x) hT hS f1 l1 (fun q => by cases q)
        · skip
          refine Wp.n (pc' := 62) 1 rfl ?_
          refine Wp.get (len := 3) rfl (rfl) rfl ?_
          refine Wp.topR hG1 ?_
          refine Wp.get (len := 3) rfl (dobj) rfl ?_
          refine Wp.n (pc' := 69) 1 rfl ?_
          refine Wp.dlput (len := 3) 4 rfl rfl ?_
          refine Wp.n (pc' := 107) 1 rfl ?_
          first
            | exact k_law_e (st := .inl x) hT hS (f1.t f2) l2 (fun q => by cases q)
            | exact k_law_e (st := .inl x) hT hS f1 l1 (fun q => by cases q)
      · skip
        refine Wp.n (pc' := 39) 1 rfl ?_
        refine Wp.get (len := 3) rfl (rfl) rfl ?_
        refine Wp.topR hG1 ?_
        refine Wp.get (len := 3) rfl (dobj) rfl ?_
        refine Wp.n (pc' := 46) 1 rfl ?_
        refine Wp.dlput (len := 3) 3 rfl rfl ?_
        refine Wp.n (pc' := 107) 1 rfl ?_
        first
          | exact k_law_e (st := .inl x) hT hS (f1.t f2) l2 (fun q => by cases q)
          | exact k_law_e (st := .inl x) hT hS f1 l1 (fun q => by cases q)
    · skip
      refine Wp.n (pc' := 16) 1 rfl ?_
      refine Wp.get (len := 3) rfl (rfl) rfl ?_
      refine Wp.topR hG1 ?_
      refine Wp.get (len := 3) rfl (dobj) rfl ?_
      refine Wp.n (pc' := 23) 1 rfl ?_
      refine Wp.dlput (len := 3) 3 rfl rfl ?_
      refine Wp.n (pc' := 107) 1 rfl ?_
      first
        | exact k_law_e (st := .inl x) hT hS (f1.t f2) l2 (fun q => by cases q)
        | exact k_law_e (st := .inl x) hT hS f1 l1 (fun q => by cases q)
  · rw [hq] at l1
    have w1 : c1 = isW T s1 284068024 := i1 s1 hq
    have w2 : c2 = isW T s1 131360 := i2 s1 hq
    have w3 : c3 = isW T s1 247162 := i3 s1 hq
    have w4 : c4 = isW T s1 6559778 := i4 s1 hq
    have go : ∀ k, lwk T s1 = k → k < 4 → Wp (d + 12) md_25 107 [some (.ref 35)] [] (cset (rset M 83 (wset ρ (lwm k) (nI (lwv k)))) κ1) (RCn M κ T (lawS T (.inr s1)) (lawH K (lwq T (.inr s1)))) := by
      intro k ek hk
      have es : lawS T (.inr s1) = adS T (.inr s1) := if_pos (by omega)
      rw [es, show lwq T (.inr s1) = k from ek]
      exact k_law_e hT hS f1 l1 (fun _ => BdC_lw hB)
    refine Wp.n (pc' := 9) 2 rfl ?_
    refine Wp.ecallV (len := 3) rfl rfl rfl (rfl) rfl (by decide) rfl (e1) ?_
    refine Wp.ifb0 (tgt := 29) (len := 3) rfl (fun h12 => ?_) (fun h12 => ?_)
    · have n12 : ¬ isW T s1 284068024 = true := by rw [← w1, h12]; decide
      refine Wp.n (pc' := 32) 2 rfl ?_
      refine Wp.ecallV (len := 3) rfl rfl rfl (rfl) rfl (by decide) rfl (e2) ?_
      refine Wp.ifb0 (tgt := 52) (len := 3) rfl (fun h35 => ?_) (fun h35 => ?_)
      · have n35 : ¬ isW T s1 131360 = true := by rw [← w2, h35]; decide
        refine Wp.n (pc' := 55) 2 rfl ?_
        refine Wp.ecallV (len := 3) rfl rfl rfl (rfl) rfl (by decide) rfl (e3) ?_
        refine Wp.ifb0 (tgt := 75) (len := 3) rfl (fun h58 => ?_) (fun h58 => ?_)
        · have n58 : ¬ isW T s1 247162 = true := by rw [← w3, h58]; decide
          refine Wp.n (pc' := 78) 2 rfl ?_
          refine Wp.ecallV (len := 3) rfl rfl rfl (rfl) rfl (by decide) rfl (e4) ?_
          refine Wp.ifb0 (tgt := 98) (len := 3) rfl (fun h81 => ?_) (fun h81 => ?_)
          · have n81 : ¬ isW T s1 6559778 = true := by rw [← w4, h81]; decide
            refine Wp.n (pc' := 101) 3 rfl ?_
            refine Wp.get (len := 3) rfl (rfl) rfl ?_
            refine Wp.callV (len := 3) rfl rfl rfl (rfl) rfl (by decide) rfl (k_fail (p := s1) (k := 1) hT1 l1 (by decide) _ (fun _ => l1.2.2.2.1)) ?_
            rintro _ _ ⟨rfl, κ2, rfl, f2, l2⟩
            change LC κ2 T (.inl (1, s1)) at l2
            first
              | (have ek : lwk T s1 = 4 := by unfold lwk; rw [if_neg n12, if_neg n35, if_neg n58, if_neg n81]
                 have es : lawS T (.inr s1) = .inl (1, s1) := if_neg (by omega)
                 rw [es]
                 exact k_law_e (st := .inl (1, s1)) hT hS (f1.t f2) l2 (fun q => by cases q))
              | (have ek : lwk T s1 = 3 := by unfold lwk; rw [if_neg n12, if_neg n35, if_neg n58, if_pos p81]
                 exact go 3 ek (by decide))
              | (have ek : lwk T s1 = 2 := by unfold lwk; rw [if_neg n12, if_neg n35, if_pos p58]
                 exact go 2 ek (by decide))
              | (have ek : lwk T s1 = 1 := by unfold lwk; rw [if_neg n12, if_pos p35]
                 exact go 1 ek (by decide))
              | (have ek : lwk T s1 = 0 := by unfold lwk; rw [if_pos p12]
                 exact go 0 ek (by decide))
          · have p81 : isW T s1 6559778 = true := by rw [← w4, h81]
            refine Wp.n (pc' := 85) 1 rfl ?_
            refine Wp.get (len := 3) rfl (rfl) rfl ?_
            refine Wp.topR hG1 ?_
            refine Wp.get (len := 3) rfl (dobj) rfl ?_
            refine Wp.n (pc' := 92) 1 rfl ?_
            refine Wp.dlput (len := 3) 4 rfl rfl ?_
            refine Wp.n (pc' := 107) 1 rfl ?_
            first
              | (have ek : lwk T s1 = 4 := by unfold lwk; rw [if_neg n12, if_neg n35, if_neg n58, if_neg n81]
                 have es : lawS T (.inr s1) = .inl (1, s1) := if_neg (by omega)
                 rw [es]
                 exact k_law_e (st := .inl (1, s1)) hT hS (f1.t f2) l2 (fun q => by cases q))
              | (have ek : lwk T s1 = 3 := by unfold lwk; rw [if_neg n12, if_neg n35, if_neg n58, if_pos p81]
                 exact go 3 ek (by decide))
              | (have ek : lwk T s1 = 2 := by unfold lwk; rw [if_neg n12, if_neg n35, if_pos p58]
                 exact go 2 ek (by decide))
              | (have ek : lwk T s1 = 1 := by unfold lwk; rw [if_neg n12, if_pos p35]
                 exact go 1 ek (by decide))
              | (have ek : lwk T s1 = 0 := by unfold lwk; rw [if_pos p12]
                 exact go 0 ek (by decide))
        · have p58 : isW T s1 247162 = true := by rw [← w3, h58]
          refine Wp.n (pc' := 62) 1 rfl ?_
          refine Wp.get (len := 3) rfl (rfl) rfl ?_
          refine Wp.topR hG1 ?_
          refine Wp.get (len := 3) rfl (dobj) rfl ?_
          refine Wp.n (pc' := 69) 1 rfl ?_
          refine Wp.dlput (len := 3) 4 rfl rfl ?_
          refine Wp.n (pc' := 107) 1 rfl ?_
          first
            | (have ek : lwk T s1 = 4 := by unfold lwk; rw [if_neg n12, if_neg n35, if_neg n58, if_neg n81]
               have es : lawS T (.inr s1) = .inl (1, s1) := if_neg (by omega)
               rw [es]
               exact k_law_e (st := .inl (1, s1)) hT hS (f1.t f2) l2 (fun q => by cases q))
            | (have ek : lwk T s1 = 3 := by unfold lwk; rw [if_neg n12, if_neg n35, if_neg n58, if_pos p81]
               exact go 3 ek (by decide))
            | (have ek : lwk T s1 = 2 := by unfold lwk; rw [if_neg n12, if_neg n35, if_pos p58]
               exact go 2 ek (by decide))
            | (have ek : lwk T s1 = 1 := by unfold lwk; rw [if_neg n12, if_pos p35]
               exact go 1 ek (by decide))
            | (have ek : lwk T s1 = 0 := by unfold lwk; rw [if_pos p12]
               exact go 0 ek (by decide))
      · have p35 : isW T s1 131360 = true := by rw [← w2, h35]
        refine Wp.n (pc' := 39) 1 rfl ?_
        refine Wp.get (len := 3) rfl (rfl) rfl ?_
        refine Wp.topR hG1 ?_
        refine Wp.get (len := 3) rfl (dobj) rfl ?_
        refine Wp.n (pc' := 46) 1 rfl ?_
        refine Wp.dlput (len := 3) 3 rfl rfl ?_
        refine Wp.n (pc' := 107) 1 rfl ?_
        first
          | (have ek : lwk T s1 = 4 := by unfold lwk; rw [if_neg n12, if_neg n35, if_neg n58, if_neg n81]
             have es : lawS T (.inr s1) = .inl (1, s1) := if_neg (by omega)
             rw [es]
             exact k_law_e (st := .inl (1, s1)) hT hS (f1.t f2) l2 (fun q => by cases q))
          | (have ek : lwk T s1 = 3 := by unfold lwk; rw [if_neg n12, if_neg n35, if_neg n58, if_pos p81]
             exact go 3 ek (by decide))
          | (have ek : lwk T s1 = 2 := by unfold lwk; rw [if_neg n12, if_neg n35, if_pos p58]
             exact go 2 ek (by decide))
          | (have ek : lwk T s1 = 1 := by unfold lwk; rw [if_neg n12, if_pos p35]
             exact go 1 ek (by decide))
          | (have ek : lwk T s1 = 0 := by unfold lwk; rw [if_pos p12]
             exact go 0 ek (by decide))
    · have p12 : isW T s1 284068024 = true := by rw [← w1, h12]
      refine Wp.n (pc' := 16) 1 rfl ?_
      refine Wp.get (len := 3) rfl (rfl) rfl ?_
      refine Wp.topR hG1 ?_
      refine Wp.get (len := 3) rfl (dobj) rfl ?_
      refine Wp.n (pc' := 23) 1 rfl ?_
      refine Wp.dlput (len := 3) 3 rfl rfl ?_
      refine Wp.n (pc' := 107) 1 rfl ?_
      first
        | (have ek : lwk T s1 = 4 := by unfold lwk; rw [if_neg n12, if_neg n35, if_neg n58, if_neg n81]
           have es : lawS T (.inr s1) = .inl (1, s1) := if_neg (by omega)
           rw [es]
           exact k_law_e (st := .inl (1, s1)) hT hS (f1.t f2) l2 (fun q => by cases q))
        | (have ek : lwk T s1 = 3 := by unfold lwk; rw [if_neg n12, if_neg n35, if_neg n58, if_pos p81]
           exact go 3 ek (by decide))
        | (have ek : lwk T s1 = 2 := by unfold lwk; rw [if_neg n12, if_neg n35, if_pos p58]
           exact go 2 ek (by decide))
        | (have ek : lwk T s1 = 1 := by unfold lwk; rw [if_neg n12, if_pos p35]
           exact go 1 ek (by decide))
        | (have ek : lwk T s1 = 0 := by unfold lwk; rw [if_pos p12]
           exact go 0 ek (by decide))
end CLF
