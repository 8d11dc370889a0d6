/-! ANY LINE, the class. -/
section ALC
variable {d : Nat} {M : AM} {κ κ' : CS} {T : TP} {st : St} {K : KD} {ρ ρ' : RC} {Q : Option Value → AM → Prop}
theorem RCn_b {x : Nat × Nat} {K' : KD} {v : Option Value} {M' : AM} (h : RCn M κ T (.inl x) K v M') : RCn M κ T (.inl x) K' v M' := by
  obtain ⟨h1, ρ', κ', h2, h3, h4, h5⟩ := h
  exact ⟨h1, ρ', κ', h2, h3, h4, fun q => by cases q⟩
theorem k_link {s k : Nat} (hT : TC κ T) (hS : κ.2.2.2 0 = some 33) (hG : κ.2.2.2 1 = some 83) (hW : HW M) (hL : LC κ T (.inr s)) (hB : BdC ρ K) (ok : KOK K) (hP : 2 ≤ kh K 0) (hD : 1 ≤ kh K 1) (hk : k ≤ 3) (e : srt T s = k) : Wp (d + 12) md_21 0 [some (.ref 35), some (.int (nI k)), none, none, none, none] [] (cset (rset M 83 ρ) κ) (RCn M κ T (linS T K s) (linK T K s)) := by
  have b2 := (ok_h ok).2.2.1
  have b3 := (ok_h ok).2.2.2.1
  by_cases k0 : k = 0
  · subst k0
    have eS : linS T K s = (if kh K 2 = 12 then .inl (3, s) else rd4 T K (.inr (nx T s))) := if_pos e
    have eK : linK T K s = rdK T K (.inr (nx T s)) := if_pos e
    by_cases c : kh K 2 = 12
    · rw [eS, if_pos c]
      exact Wp.mono (k_readFull hT hG hL hB ok hk ((if_pos rfl).trans (if_neg (by omega)))) (fun v M' h => RCn_b h)
    · rw [eS, if_neg c, eK]
      exact k_readRoad hT hS hG hW hL hB ok hP (by omega)
  · obtain ⟨eS, eK⟩ := lin_1 (T := T) (K := K) (s := s) (k := k - 1) (by omega) (by omega)
    by_cases c : kh K 3 = 8
    · rw [eS, if_pos c]
      exact Wp.mono (k_readFull hT hG hL hB ok hk ((if_neg k0).trans (if_neg (by omega)))) (fun v M' h => RCn_b h)
    · rw [eS, if_neg c, eK]
      have k3 : k = 1 ∨ k = 2 ∨ k = 3 := by omega
      rcases k3 with rfl | rfl | rfl
      · exact k_readLane1 hT hS hG hW hL hB ok hP hD (by omega)
      · exact k_readLane2 hT hS hG hW hL hB ok hP hD (by omega)
      · exact k_readLane3 hT hS hG hW hL hB ok hP hD (by omega)
theorem k_walkAny {s : Nat} (hT : TC κ T) (hS : κ.2.2.2 0 = some 33) (hG : κ.2.2.2 1 = some 83) (hW : HW M) (hL : LC κ T (.inr s)) (hB : BdC ρ K) (ok : KOK K) (hP : 2 ≤ kh K 0) (hD : 1 ≤ kh K 1) (e : srt T s = 5) : Wp (d + 12) md_24 0 [some (.ref 35), none, none, none, none] [] (cset (rset M 83 ρ) κ) (RCn M κ T (linS T K s) (linK T K s)) := by
  have b4 := (ok_h ok).2.2.2.2.1
  obtain ⟨eS, eK⟩ := lin_5 (T := T) (K := K) (s := s) e
  by_cases c : kh K 4 = 10
  · rw [eS, if_pos c]
    exact Wp.mono (k_readWalkF hT hG hL hB c) (fun v M' h => RCn_b h)
  · rw [eS, if_neg c, eK]
    exact k_readWalk hT hS hG hW hL hB ok hP hD (by omega)
theorem BdC_inc (hB : BdC ρ K) : BdC (hset ρ 2 (nI (kh K 5 + 1))) (incL K) := by
  obtain ⟨⟨r0, r1, r2, r3, r6, r8, r10, rl, rr, rn_, rw_⟩, hl, h11⟩ := hB
  have ek : ∀ j, j ≠ 5 → kh (incL K) j = kh K j := fun j hj => if_neg hj
  have hl' : ∀ j, j < 5 → rlw ρ j = nI (kh (incL K) (6 + j)) := fun j hj => by rw [ek (6 + j) (by omega)]; exact hl j hj
  exact ⟨⟨r0, r1, rfl, r3, r6, r8, r10, fun _ => hl', rr, rn_, rw_⟩, hl', h11⟩
theorem k_line_e {κ1 : CS} (hT : TC κ T) (hS : κ.2.2.2 0 = some 33) (hG : κ.2.2.2 1 = some 83) (F0 : FA κ κ1) (l1 : LC κ1 T st) (hB : gd st = true → BdC ρ K) : Wp (d + 13) md_14 121 [some (.ref 35)] [] (cset (rset M 83 ρ) κ1) (RCn M κ T (endS T st) (incL K)) := by
  have hG1 : κ1.2.2.2 1 = some 83 := by rw [F0.2]; exact hG
  have hS1 : κ1.2.2.2 0 = some 33 := by rw [F0.2]; exact hS
  have hT1 := F0.tc hT
  have F1 := F0
  rcases st with z | s
  · obtain ⟨y1, y2, y3, y4, a, e, k, ya, ye, yae, yet, yk, yk5⟩ := id l1
    refine Wp.n (pc' := 122) 1 rfl ?_
    refine Wp.get (len := 3) rfl (rfl) rfl ?_
    refine Wp.top yk ?_
    refine Wp.n (pc' := 126) 1 rfl ?_
    refine Wp.nc0 (x := k) (y := 3) (tgt := 138) (len := 3) rfl (by omega) (by omega) (fun h126 => ?_) (fun h126 => ?_)
    · skip
      refine Wp.n (pc' := 139) 1 rfl ?_
      refine Wp.callV (len := 3) rfl rfl rfl (rfl) rfl (by decide) rfl (k_advance (st := .inl z) hT1 hS1 l1) ?_
      rintro _ _ ⟨rfl, κ3, rfl, f3, l3⟩
      have F3 := F1.t f3
      have hG3 : κ3.2.2.2 1 = some 83 := by rw [F3.2]; exact hG
      refine Wp.n (pc' := 143) 1 rfl ?_
      refine Wp.get (len := 3) rfl (rfl) rfl ?_
      refine Wp.topR hG3 ?_
      refine Wp.n (pc' := 147) 1 rfl ?_
      refine Wp.get (len := 3) rfl (dobj) rfl ?_
      refine Wp.n (pc' := 152) 2 rfl ?_
      refine Wp.dput (len := 3) 2 rfl rfl ?_
      refine Wp.retV (len := 1) rfl rfl ?_
      exact ⟨rfl, _, κ3, rfl, F3, l3, fun q => by cases q⟩
    · skip
      refine Wp.n (pc' := 132) 3 rfl ?_
      refine Wp.get (len := 3) rfl (rfl) rfl ?_
      refine Wp.callV (len := 3) rfl rfl rfl (rfl) rfl (by decide) rfl (k_fail (p := 0) (k := 1) hT1 l1 (by decide) _ (fun q => by cases q)) ?_
      rintro _ _ ⟨rfl, κ2, rfl, f2, l2⟩
      have F2 := F1.t f2
      have hG2 : κ2.2.2.2 1 = some 83 := by rw [F2.2]; exact hG
      have hS2 : κ2.2.2.2 0 = some 33 := by rw [F2.2]; exact hS
      have hT2 := F2.tc hT
      change LC κ2 T (.inl z) at l2
      refine Wp.n (pc' := 139) 1 rfl ?_
      refine Wp.callV (len := 3) rfl rfl rfl (rfl) rfl (by decide) rfl (k_advance (st := .inl z) hT2 hS2 l2) ?_
      rintro _ _ ⟨rfl, κ3, rfl, f3, l3⟩
      have F3 := F2.t f3
      have hG3 : κ3.2.2.2 1 = some 83 := by rw [F3.2]; exact hG
      refine Wp.n (pc' := 143) 1 rfl ?_
      refine Wp.get (len := 3) rfl (rfl) rfl ?_
      refine Wp.topR hG3 ?_
      refine Wp.n (pc' := 147) 1 rfl ?_
      refine Wp.get (len := 3) rfl (dobj) rfl ?_
      refine Wp.n (pc' := 152) 2 rfl ?_
      refine Wp.dput (len := 3) 2 rfl rfl ?_
      refine Wp.retV (len := 1) rfl rfl ?_
      exact ⟨rfl, _, κ3, rfl, F3, l3, fun q => by cases q⟩
  · have hk := tk_le (T := T) (s := s)
    have hck : ck (tk T s) ≤ 5 := by unfold ck; split <;> omega
    have hc3 : ck (tk T s) = 3 ↔ tk T s = 3 := by unfold ck; split <;> omega
    have e5 : rhd ρ 2 = nI (kh K 5) := (hB rfl).1.2.2.1
    refine Wp.n (pc' := 122) 1 rfl ?_
    refine Wp.get (len := 3) rfl (rfl) rfl ?_
    refine Wp.top l1.2.2.1 ?_
    refine Wp.n (pc' := 126) 1 rfl ?_
    refine Wp.nc0 (x := ck (tk T s)) (y := 3) (tgt := 138) (len := 3) rfl (by omega) (by omega) (fun h126 => ?_) (fun h126 => ?_)
    · skip
      refine Wp.n (pc' := 139) 1 rfl ?_
      refine Wp.callV (len := 3) rfl rfl rfl (rfl) rfl (by decide) rfl (k_advance hT1 hS1 l1) ?_
      rintro _ _ ⟨rfl, κ3, rfl, f3, l3⟩
      have F3 := F1.t f3
      have hG3 : κ3.2.2.2 1 = some 83 := by rw [F3.2]; exact hG
      refine Wp.n (pc' := 143) 1 rfl ?_
      refine Wp.get (len := 3) rfl (rfl) rfl ?_
      refine Wp.topR hG3 ?_
      refine Wp.n (pc' := 147) 1 rfl ?_
      refine Wp.get (len := 3) rfl (dobj) rfl ?_
      refine Wp.top e5 ?_
      refine Wp.n (pc' := 151) 1 rfl ?_
      refine Wp.iaddN (x := kh K 5) (y := 1) (len := 1) rfl ?_
      refine Wp.dput (len := 3) 2 rfl rfl ?_
      refine Wp.retV (len := 1) rfl rfl ?_
      have en_ : endS T (.inr s) = .inr (nx T s) := if_pos (by omega)
      rw [en_]
      exact ⟨rfl, _, κ3, rfl, F3, l3, fun _ => BdC_inc (hB rfl)⟩
    · skip
      refine Wp.n (pc' := 132) 3 rfl ?_
      refine Wp.get (len := 3) rfl (rfl) rfl ?_
      refine Wp.callV (len := 3) rfl rfl rfl (rfl) rfl (by decide) rfl (k_fail (p := s) (k := 1) hT1 l1 (by decide) _ (fun q => l1.2.2.2.1)) ?_
      rintro _ _ ⟨rfl, κ2, rfl, f2, l2⟩
      have F2 := F1.t f2
      have hG2 : κ2.2.2.2 1 = some 83 := by rw [F2.2]; exact hG
      have hS2 : κ2.2.2.2 0 = some 33 := by rw [F2.2]; exact hS
      have hT2 := F2.tc hT
      change LC κ2 T (.inl (1, s)) at l2
      refine Wp.n (pc' := 139) 1 rfl ?_
      refine Wp.callV (len := 3) rfl rfl rfl (rfl) rfl (by decide) rfl (k_advance (st := .inl (1, s)) hT2 hS2 l2) ?_
      rintro _ _ ⟨rfl, κ3, rfl, f3, l3⟩
      have F3 := F2.t f3
      have hG3 : κ3.2.2.2 1 = some 83 := by rw [F3.2]; exact hG
      refine Wp.n (pc' := 143) 1 rfl ?_
      refine Wp.get (len := 3) rfl (rfl) rfl ?_
      refine Wp.topR hG3 ?_
      refine Wp.n (pc' := 147) 1 rfl ?_
      refine Wp.get (len := 3) rfl (dobj) rfl ?_
      refine Wp.top e5 ?_
      refine Wp.n (pc' := 151) 1 rfl ?_
      refine Wp.iaddN (x := kh K 5) (y := 1) (len := 1) rfl ?_
      refine Wp.dput (len := 3) 2 rfl rfl ?_
      refine Wp.retV (len := 1) rfl rfl ?_
      have en_ : endS T (.inr s) = .inl (1, s) := if_neg (by omega)
      rw [en_]
      exact ⟨rfl, _, κ3, rfl, F3, l3, fun q => by cases q⟩
theorem k_readLine {s : Nat} (hT : TC κ T) (hS : κ.2.2.2 0 = some 33) (hG : κ.2.2.2 1 = some 83) (hW : HW M) (hL : LC κ T (.inr s)) (hB : BdC ρ K) (pk : PK K) : Wp (d + 13) md_14 0 [some (.ref 35)] [] (cset (rset M 83 ρ) κ) (RCn M κ T (endS T (bodS T K s)) (incL (bodK T K s))) := by
  obtain ⟨ok, h11, _, hPD, hK0⟩ := pk
  have b5 := (ok_h ok).2.2.2.2.2.1
  obtain ⟨c1, e1, i1⟩ := k_iW (d := d + 3) 6 wno_6 (by decide) hT hS (HW_r (ρ := ρ) hW) hL
  obtain ⟨c2, e2, i2⟩ := k_iW (d := d + 3) 10 wno_10 (by decide) hT hS (HW_r (ρ := ρ) hW) hL
  obtain ⟨c3, e3, i3⟩ := k_iW (d := d + 3) 11 wno_11 (by decide) hT hS (HW_r (ρ := ρ) hW) hL
  obtain ⟨c4, e4, i4⟩ := k_iW (d := d + 3) 12 wno_12 (by decide) hT hS (HW_r (ρ := ρ) hW) hL
  obtain ⟨c5, e5, i5⟩ := k_iW (d := d + 3) 13 wno_13 (by decide) hT hS (HW_r (ρ := ρ) hW) hL
  obtain ⟨c6, e6, i6⟩ := k_iW (d := d + 3) 15 wno_15 (by decide) hT hS (HW_r (ρ := ρ) hW) hL
  have w1 : c1 = isW T s 365260 := i1 s rfl
  have w2 : c2 = isW T s 237308 := i2 s rfl
  have w3 : c3 = isW T s 129523 := i3 s rfl
  have w4 : c4 = isW T s 50348 := i4 s rfl
  have w5 : c5 = isW T s 3436186 := i5 s rfl
  have w6 : c6 = isW T s 453773 := i6 s rfl
  refine Wp.n (pc' := 1) 1 rfl ?_
  refine Wp.get (len := 3) rfl (rfl) rfl ?_
  refine Wp.topR hG ?_
  refine Wp.get (len := 3) rfl (dobj) rfl ?_
  refine Wp.top hB.1.2.2.1 ?_
  refine Wp.nz1 (x := kh K 5) (tgt := 17) (len := 3) rfl (by omega) (fun h7 => ?_) (fun h7 => ?_)
  · have k5 : ¬ kh K 5 = 0 := h7
    obtain ⟨hP, hD⟩ := hPD (by omega)
    have eS : bodS T K s = linS T K s := if_neg k5
    have eK : bodK T K s = linK T K s := if_neg k5
    rw [eS, eK]
    refine Wp.n (pc' := 20) 2 rfl ?_
    refine Wp.ecallV (len := 3) rfl rfl rfl (rfl) rfl (by decide) rfl (e1) ?_
    refine Wp.ifb0 (tgt := 34) (len := 3) rfl (fun h23 => ?_) (fun h23 => ?_)
    · have n23 : ¬ isW T s 365260 = true := by rw [← w1, h23]; decide
      refine Wp.n (pc' := 37) 2 rfl ?_
      refine Wp.ecallV (len := 3) rfl rfl rfl (rfl) rfl (by decide) rfl (e2) ?_
      refine Wp.ifb0 (tgt := 51) (len := 3) rfl (fun h40 => ?_) (fun h40 => ?_)
      · have n40 : ¬ isW T s 237308 = true := by rw [← w2, h40]; decide
        refine Wp.n (pc' := 54) 2 rfl ?_
        refine Wp.ecallV (len := 3) rfl rfl rfl (rfl) rfl (by decide) rfl (e3) ?_
        refine Wp.ifb0 (tgt := 68) (len := 3) rfl (fun h57 => ?_) (fun h57 => ?_)
        · have n57 : ¬ isW T s 129523 = true := by rw [← w3, h57]; decide
          refine Wp.n (pc' := 71) 2 rfl ?_
          refine Wp.ecallV (len := 3) rfl rfl rfl (rfl) rfl (by decide) rfl (e4) ?_
          refine Wp.ifb0 (tgt := 85) (len := 3) rfl (fun h74 => ?_) (fun h74 => ?_)
          · have n74 : ¬ isW T s 50348 = true := by rw [← w4, h74]; decide
            refine Wp.n (pc' := 88) 2 rfl ?_
            refine Wp.ecallV (len := 3) rfl rfl rfl (rfl) rfl (by decide) rfl (e5) ?_
            refine Wp.ifb0 (tgt := 101) (len := 3) rfl (fun h91 => ?_) (fun h91 => ?_)
            · have n91 : ¬ isW T s 3436186 = true := by rw [← w5, h91]; decide
              refine Wp.n (pc' := 104) 2 rfl ?_
              refine Wp.ecallV (len := 3) rfl rfl rfl (rfl) rfl (by decide) rfl (e6) ?_
              refine Wp.ifb0 (tgt := 117) (len := 3) rfl (fun h107 => ?_) (fun h107 => ?_)
              · have n107 : ¬ isW T s 453773 = true := by rw [← w6, h107]; decide
                refine Wp.n (pc' := 118) 1 rfl ?_
                refine Wp.callV (len := 3) rfl rfl rfl (rfl) rfl (by decide) rfl (k_readLaw hT hS hG hW hL hB) ?_
                rintro _ _ ⟨rfl, ρ1, κ1, rfl, f1, l1, b1⟩
                obtain ⟨eS6, eK6⟩ := lin_6 (T := T) (K := K) (s := s) (by unfold srt; rw [if_neg n23, if_neg n40, if_neg n57, if_neg n74, if_neg n91, if_neg n107])
                rw [eS6, eK6]
                exact k_line_e hT hS hG f1 l1 b1
              · have p107 : isW T s 453773 = true := by rw [← w6, h107]
                refine Wp.n (pc' := 111) 1 rfl ?_
                refine Wp.callV (len := 3) rfl rfl rfl (rfl) rfl (by decide) rfl (k_walkAny hT hS hG hW hL hB ok hP hD (by unfold srt; rw [if_neg n23, if_neg n40, if_neg n57, if_neg n74, if_neg n91, if_pos p107])) ?_
                rintro _ _ ⟨rfl, ρ1, κ1, rfl, f1, l1, b1⟩
                refine Wp.n (pc' := 121) 1 rfl ?_
                exact k_line_e hT hS hG f1 l1 b1
            · have p91 : isW T s 3436186 = true := by rw [← w5, h91]
              refine Wp.n (pc' := 95) 1 rfl ?_
              refine Wp.callV (len := 3) rfl rfl rfl (rfl) rfl (by decide) rfl (k_readFlood hT hS hG hW hL hB ok hD) ?_
              rintro _ _ ⟨rfl, ρ1, κ1, rfl, f1, l1, b1⟩
              obtain ⟨eS4, eK4⟩ := lin_4 (T := T) (K := K) (s := s) (by unfold srt; rw [if_neg n23, if_neg n40, if_neg n57, if_neg n74, if_pos p91])
              rw [eS4, eK4]
              refine Wp.n (pc' := 121) 1 rfl ?_
              exact k_line_e hT hS hG f1 l1 b1
          · have p74 : isW T s 50348 = true := by rw [← w4, h74]
            refine Wp.n (pc' := 79) 2 rfl ?_
            refine Wp.callV (len := 3) rfl rfl rfl (rfl) rfl (by decide) rfl (k_link (k := 3) hT hS hG hW hL hB ok hP hD (by decide) (by unfold srt; rw [if_neg n23, if_neg n40, if_neg n57, if_pos p74])) ?_
            rintro _ _ ⟨rfl, ρ1, κ1, rfl, f1, l1, b1⟩
            refine Wp.n (pc' := 121) 1 rfl ?_
            exact k_line_e hT hS hG f1 l1 b1
        · have p57 : isW T s 129523 = true := by rw [← w3, h57]
          refine Wp.n (pc' := 62) 2 rfl ?_
          refine Wp.callV (len := 3) rfl rfl rfl (rfl) rfl (by decide) rfl (k_link (k := 2) hT hS hG hW hL hB ok hP hD (by decide) (by unfold srt; rw [if_neg n23, if_neg n40, if_pos p57])) ?_
          rintro _ _ ⟨rfl, ρ1, κ1, rfl, f1, l1, b1⟩
          refine Wp.n (pc' := 121) 1 rfl ?_
          exact k_line_e hT hS hG f1 l1 b1
      · have p40 : isW T s 237308 = true := by rw [← w2, h40]
        refine Wp.n (pc' := 45) 2 rfl ?_
        refine Wp.callV (len := 3) rfl rfl rfl (rfl) rfl (by decide) rfl (k_link (k := 1) hT hS hG hW hL hB ok hP hD (by decide) (by unfold srt; rw [if_neg n23, if_pos p40])) ?_
        rintro _ _ ⟨rfl, ρ1, κ1, rfl, f1, l1, b1⟩
        refine Wp.n (pc' := 121) 1 rfl ?_
        exact k_line_e hT hS hG f1 l1 b1
    · have p23 : isW T s 365260 = true := by rw [← w1, h23]
      refine Wp.n (pc' := 28) 2 rfl ?_
      refine Wp.callV (len := 3) rfl rfl rfl (rfl) rfl (by decide) rfl (k_link (k := 0) hT hS hG hW hL hB ok hP hD (by decide) (by unfold srt; rw [if_pos p23])) ?_
      rintro _ _ ⟨rfl, ρ1, κ1, rfl, f1, l1, b1⟩
      refine Wp.n (pc' := 121) 1 rfl ?_
      exact k_line_e hT hS hG f1 l1 b1
  · have k5 : kh K 5 = 0 := h7
    have eS : bodS T K s = pf6 T (.inr s) := if_pos k5
    have eK : bodK T K s = firK T (.inr s) := if_pos k5
    rw [eS, eK]
    obtain rfl := hK0 k5
    refine Wp.n (pc' := 11) 1 rfl ?_
    refine Wp.callV (len := 3) rfl rfl rfl (rfl) rfl (by decide) rfl (k_readKingdom hT hS hG hW hL hB) ?_
    rintro _ _ ⟨rfl, ρ1, κ1, rfl, f1, l1, b1⟩
    refine Wp.n (pc' := 121) 1 rfl ?_
    exact k_line_e hT hS hG f1 l1 b1
end ALC
