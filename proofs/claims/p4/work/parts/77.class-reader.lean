/-! READING, the class: on to the next token; words, numbers, faults. -/
def LC (κ : CS) (T : TP) : St → Prop
  | .inl x => κ.1 2 2 = nI x.1 ∧ 1 ≤ x.1 ∧ x.1 ≤ 3 ∧ κ.1 2 3 = nI x.2 ∧ ∃ a e k, κ.1 2 5 = nI a ∧ κ.1 2 6 = nI e ∧ a ≤ e ∧ e ≤ T.1 ∧ κ.1 2 4 = nI k ∧ k ≤ 5
  | .inr s => κ.1 2 2 = nI 0 ∧ κ.1 2 3 = -1 ∧ κ.1 2 4 = nI (ck (tk T s)) ∧ κ.1 2 5 = nI s ∧ κ.1 2 6 = nI (en T s) ∧ κ.1 2 7 = nI (min 1000000 (vl T s)) ∧ s ≤ T.1
def hlS (T : TP) : St → Bool
  | .inl _ => false
  | .inr s => decide (tk T s ≠ 0)
def RdC (M : AM) (κ : CS) (T : TP) (st : St) : AM → Prop := fun M' => ∃ κ', M' = cset M κ' ∧ FA κ κ' ∧ LC κ' T st
theorem tk_2 {T : TP} {s : Nat} (h : tk T s = 2) : en T s = tn T isDg s ∧ s < T.1 := by
  unfold tk at h
  by_cases c : T.1 ≤ s
  · rw [if_pos c] at h; cases h
  · rw [if_neg c] at h
    by_cases c2 : isLt (T.2 s) = true
    · rw [if_pos c2] at h; cases h
    · rw [if_neg c2] at h
      by_cases c3 : isDg (T.2 s) = true
      · unfold en
        rw [if_neg c, if_neg c2, if_pos c3]
        exact ⟨rfl, by omega⟩
      · rw [if_neg c3] at h
        split at h <;> cases h
theorem tk_3 {T : TP} {s : Nat} (h : 3 ≤ tk T s) : en T s = s + 1 ∧ s < T.1 := by
  unfold tk at h
  by_cases c : T.1 ≤ s
  · rw [if_pos c] at h; omega
  · rw [if_neg c] at h
    by_cases c2 : isLt (T.2 s) = true
    · rw [if_pos c2] at h; omega
    · rw [if_neg c2] at h
      by_cases c3 : isDg (T.2 s) = true
      · rw [if_pos c3] at h; omega
      · unfold en
        rw [if_neg c, if_neg c2, if_neg c3]
        exact ⟨rfl, by omega⟩
theorem adv_fin {T : TP} {s k L : Nat} (hs : s ≤ T.1) (hb : s < T.1 → ¬ isBl (T.2 s) = true) (hk : k = ck (tk T s)) (hL : L = if tk T s = 1 ∨ tk T s = 2 then T.1 else min (s + 1) T.1) : rn (kdp T k) (L - s) s = en T s ∧ vlk T k s (en T s - s) = min 1000000 (vl T s) := by
  have t4 := tk_le (T := T) (s := s)
  by_cases c1 : tk T s = 1
  · rw [if_pos (Or.inl c1)] at hL
    rw [c1] at hk
    have k1 : k = 1 := hk
    subst k1 hL
    refine ⟨?_, ?_⟩
    · rw [(tk_1 c1).1]
      exact rn_cg (fun i => kdc_1) _ _
    · unfold vlk vl
      rw [if_neg (by decide), if_neg (by omega)]
      rfl
  · by_cases c2 : tk T s = 2
    · rw [if_pos (Or.inr c2)] at hL
      rw [c2] at hk
      have k1 : k = 2 := hk
      subst k1 hL
      refine ⟨?_, ?_⟩
      · rw [(tk_2 c2).1]
        exact rn_cg (fun i => kdc_2) _ _
      · unfold vlk vl
        rw [if_pos rfl, if_pos c2]
    · rw [if_neg (by omega)] at hL
      have hv : vlk T k s (en T s - s) = min 1000000 (vl T s) := by
        unfold vlk vl ck at *
        rw [if_neg (by split at hk <;> omega), if_neg c2]
        rfl
      refine ⟨?_, hv⟩
      by_cases c0 : tk T s = 0
      · have h0 := tk_0.mp c0
        rw [show L - s = 0 by omega]
        show s = en T s
        unfold en
        rw [if_pos h0]
      · have h3 := tk_3 (T := T) (s := s) (by omega)
        rw [show L - s = 1 by omega, h3.1]
        show (if kdp T k s = true then s + 1 else s) = s + 1
        have kp : kdp T k s = true := decide_eq_true (by rw [hk]; exact kdc_tk h3.2 (hb h3.2))
        rw [if_pos kp]
section CRD
variable {d : Nat} {M : AM} {κ κ' : CS} {T : TP} {st : St} {Q : Option Value → AM → Prop}
theorem k_adv (hT : TC κ T) (hS : κ.2.2.2 0 = some 33) {p : Nat} (hF : κ.1 2 2 = nI 0) (h3 : κ.1 2 3 = -1) (h6 : κ.1 2 6 = nI p) (hp : p ≤ T.1) : Wp (d + 9) md_11 0 [some (.ref 35), none] [] (cset M κ) (fun v M' => v = none ∧ RdC M κ T (.inr (bl T p)) M') := by
  have t20 := hT.2.1
  refine Wp.n (pc' := 1) 1 rfl ?_
  refine Wp.get (len := 3) rfl (rfl) rfl ?_
  refine Wp.top hF ?_
  refine Wp.nz0 (x := 0) (tgt := 8) (len := 3) rfl (by omega) (fun h4 => ?_) (fun h4 => ?_)
  · skip
    refine Wp.n (pc' := 10) 2 rfl ?_
    refine Wp.get (len := 3) rfl (rfl) rfl ?_
    refine Wp.top h6 ?_
    refine Wp.cput2 (len := 3) 5 rfl rfl ?_
    have hs := tn_le (T := T) (p := isBl) hp
    change p ≤ bl T p ∧ bl T p ≤ T.1 at hs
    have hbe := bl_end (T := T) hp
    refine k_adv_1 (T.1 - p) p (FA.f.tc hT) hS (by omega) rfl (fun κ1 f1 a2 a3 a5 => ?_)
    have hT1 := f1.tc (FA.f.tc hT)
    have hS1 : κ1.2.2.2 0 = some 33 := by rw [f1.2]; exact hS
    have b2 : κ1.1 2 2 = nI 0 := a2.trans hF
    have b3 : κ1.1 2 3 = -1 := a3.trans h3
    have fin : ∀ k L κ2, FA κ1 κ2 → κ2.1 2 2 = nI 0 → κ2.1 2 3 = -1 → κ2.1 2 4 = nI k → κ2.1 2 5 = nI (bl T p) → κ2.1 2 6 = nI (bl T p) → κ2.1 2 7 = nI 0 → k = ck (tk T (bl T p)) → L = (if tk T (bl T p) = 1 ∨ tk T (bl T p) = 2 then T.1 else min (bl T p + 1) T.1) → Wp (d + 9) md_11 155 [some (.ref 35), some (.int (nI L))] [] (cset M κ2) (fun v M' => v = none ∧ RdC M κ T (.inr (bl T p)) M') := by
      intro k L κ2 f2 g2 g3 g4 g5 g6 g7 hk hL
      have hF := adv_fin hs.2 hbe hk hL
      have hL1 : L ≤ T.1 ∧ bl T p ≤ L := by
        rw [hL]
        split <;> omega
      have hk5 : k ≤ 5 := by
        rw [hk]
        have := tk_le (T := T) (s := bl T p)
        unfold ck
        split <;> omega
      refine k_adv_2 (κ := κ2) (s := bl T p) hL1.1 hk5 (fun κ3 f3 c2 c3 c4 c5 c6 c7 => ?_) (L - bl T p) 0 (f2.tc hT1) (by rw [f2.2]; exact hS1) (by omega) FA.r rfl rfl g4 rfl g6 (by rw [g7]; unfold vlk; split <;> rfl) rfl
      refine Wp.retV (len := 1) rfl rfl ?_
      refine ⟨rfl, κ3, rfl, ((FA.f.t f1).t f2).t f3, c2.trans g2, c3.trans g3, by rw [c4, hk], c5.trans g5, by rw [c6, hF.1], ?_, hs.2⟩
      rw [c7, hF.1, hF.2]
    refine Wp.n (pc' := 64) 2 rfl ?_
    refine Wp.get (len := 3) rfl (rfl) rfl ?_
    refine Wp.top a5 ?_
    refine Wp.n (pc' := 68) 1 rfl ?_
    refine Wp.get (len := 3) rfl (rfl) rfl ?_
    refine Wp.topR hS1 ?_
    refine Wp.get (len := 3) rfl (rfl) rfl ?_
    refine Wp.top hT1.1 ?_
    refine Wp.nc3 (x := bl T p) (y := T.1) (tgt := 95) (len := 3) rfl (by omega) (by omega) (fun h74 => ?_) (fun h74 => ?_)
    · have ek : tk T (bl T p) = 0 := tk_0.mpr h74
      refine Wp.n (pc' := 96) 1 rfl ?_
      refine Wp.cput2 (len := 3) 4 rfl rfl ?_
      refine Wp.n (pc' := 101) 2 rfl ?_
      refine Wp.cput2 (len := 3) 7 rfl rfl ?_
      refine Wp.n (pc' := 105) 1 rfl ?_
      refine Wp.get (len := 3) rfl (rfl) rfl ?_
      refine Wp.top rfl ?_
      refine Wp.n (pc' := 109) 1 rfl ?_
      refine Wp.nc0 (x := 0) (y := 1) (tgt := 120) (len := 3) rfl (by omega) (by omega) (fun h109 => ?_) (fun h109 => ?_)
      · omega
      · skip
        refine Wp.n (pc' := 113) 1 rfl ?_
        refine Wp.get (len := 3) rfl (rfl) rfl ?_
        refine Wp.top rfl ?_
        refine Wp.n (pc' := 117) 1 rfl ?_
        refine Wp.nc1 (x := 0) (y := 2) (tgt := 130) (len := 3) rfl (by omega) (by omega) (fun h117 => ?_) (fun h117 => ?_)
        · skip
          refine Wp.n (pc' := 131) 1 rfl ?_
          refine Wp.get (len := 3) rfl (rfl) rfl ?_
          refine Wp.top a5 ?_
          refine Wp.n (pc' := 135) 1 rfl ?_
          refine Wp.iaddN (x := bl T p) (y := 1) (len := 1) rfl ?_
          refine Wp.n (pc' := 137) 1 rfl ?_
          refine Wp.get (len := 3) rfl (rfl) rfl ?_
          refine Wp.topR hS1 ?_
          refine Wp.get (len := 3) rfl (rfl) rfl ?_
          refine Wp.top hT1.1 ?_
          refine Wp.bi (len := 3) rfl (by decide) rfl (by omega) ?_
          refine Wp.top (n_min (x := bl T p + 1) (y := T.1) (by omega) (by omega)) ?_
          refine Wp.n (pc' := 149) 3 rfl ?_
          refine Wp.get (len := 3) rfl (rfl) rfl ?_
          refine Wp.top a5 ?_
          refine Wp.cput2 (len := 3) 6 rfl rfl ?_
          exact fin 0 _ _ (FA.f.t (FA.f.t FA.f)) b2 b3 rfl a5 rfl rfl (by rw [ek]; rfl) (by rw [ek]; rfl)
        · omega
    · have ek := kdc_tk h74 (hbe h74)
      have t4 := tk_le (T := T) (s := bl T p)
      have kl5 := kdc_le (x := T.2 (bl T p))
      refine Wp.n (pc' := 78) 1 rfl ?_
      refine Wp.get (len := 3) rfl (rfl) rfl ?_
      refine Wp.topR hS1 ?_
      refine Wp.get (len := 3) rfl (rfl) rfl ?_
      refine Wp.n (pc' := 85) 1 rfl ?_
      refine Wp.get (len := 3) rfl (rfl) rfl ?_
      refine Wp.top a5 ?_
      refine Wp.baldN (j := bl T p) (len := 1) rfl (rfl) rfl (by omega) (by decide) ?_
      refine Wp.top (hT1.2.2 (bl T p) (by omega)) ?_
      refine Wp.ecallS (len := 3) rfl rfl rfl rfl (k_kindOf _) ?_
      refine Wp.n (pc' := 96) 1 rfl ?_
      refine Wp.cput2 (len := 3) 4 rfl rfl ?_
      refine Wp.n (pc' := 101) 2 rfl ?_
      refine Wp.cput2 (len := 3) 7 rfl rfl ?_
      refine Wp.n (pc' := 105) 1 rfl ?_
      refine Wp.get (len := 3) rfl (rfl) rfl ?_
      refine Wp.top rfl ?_
      refine Wp.n (pc' := 109) 1 rfl ?_
      refine Wp.nc0 (x := kdc (T.2 (bl T p))) (y := 1) (tgt := 120) (len := 3) rfl (by omega) (by omega) (fun h109 => ?_) (fun h109 => ?_)
      · skip
        refine Wp.n (pc' := 121) 1 rfl ?_
        refine Wp.get (len := 3) rfl (rfl) rfl ?_
        refine Wp.topR hS1 ?_
        refine Wp.get (len := 3) rfl (rfl) rfl ?_
        refine Wp.top hT1.1 ?_
        refine Wp.n (pc' := 149) 4 rfl ?_
        refine Wp.get (len := 3) rfl (rfl) rfl ?_
        refine Wp.top a5 ?_
        refine Wp.cput2 (len := 3) 6 rfl rfl ?_
        have cke : ck (tk T (bl T p)) = kdc (T.2 (bl T p)) := ek.symm
        unfold ck at cke
        first
          | (have q12 : tk T (bl T p) = 1 ∨ tk T (bl T p) = 2 := by split at cke <;> omega
             exact fin _ _ _ (FA.f.t (FA.f.t FA.f)) b2 b3 rfl a5 rfl rfl ek (if_pos q12).symm)
          | (have q12 : ¬ (tk T (bl T p) = 1 ∨ tk T (bl T p) = 2) := by split at cke <;> omega
             exact fin _ _ _ (FA.f.t (FA.f.t FA.f)) b2 b3 rfl a5 rfl rfl ek (if_neg q12).symm)
      · skip
        refine Wp.n (pc' := 113) 1 rfl ?_
        refine Wp.get (len := 3) rfl (rfl) rfl ?_
        refine Wp.top rfl ?_
        refine Wp.n (pc' := 117) 1 rfl ?_
        refine Wp.nc1 (x := kdc (T.2 (bl T p))) (y := 2) (tgt := 130) (len := 3) rfl (by omega) (by omega) (fun h117 => ?_) (fun h117 => ?_)
        · skip
          refine Wp.n (pc' := 131) 1 rfl ?_
          refine Wp.get (len := 3) rfl (rfl) rfl ?_
          refine Wp.top a5 ?_
          refine Wp.n (pc' := 135) 1 rfl ?_
          refine Wp.iaddN (x := bl T p) (y := 1) (len := 1) rfl ?_
          refine Wp.n (pc' := 137) 1 rfl ?_
          refine Wp.get (len := 3) rfl (rfl) rfl ?_
          refine Wp.topR hS1 ?_
          refine Wp.get (len := 3) rfl (rfl) rfl ?_
          refine Wp.top hT1.1 ?_
          refine Wp.bi (len := 3) rfl (by decide) rfl (by omega) ?_
          refine Wp.top (n_min (x := bl T p + 1) (y := T.1) (by omega) (by omega)) ?_
          refine Wp.n (pc' := 149) 3 rfl ?_
          refine Wp.get (len := 3) rfl (rfl) rfl ?_
          refine Wp.top a5 ?_
          refine Wp.cput2 (len := 3) 6 rfl rfl ?_
          have cke : ck (tk T (bl T p)) = kdc (T.2 (bl T p)) := ek.symm
          unfold ck at cke
          first
            | (have q12 : tk T (bl T p) = 1 ∨ tk T (bl T p) = 2 := by split at cke <;> omega
               exact fin _ _ _ (FA.f.t (FA.f.t FA.f)) b2 b3 rfl a5 rfl rfl ek (if_pos q12).symm)
            | (have q12 : ¬ (tk T (bl T p) = 1 ∨ tk T (bl T p) = 2) := by split at cke <;> omega
               exact fin _ _ _ (FA.f.t (FA.f.t FA.f)) b2 b3 rfl a5 rfl rfl ek (if_neg q12).symm)
        · skip
          refine Wp.n (pc' := 121) 1 rfl ?_
          refine Wp.get (len := 3) rfl (rfl) rfl ?_
          refine Wp.topR hS1 ?_
          refine Wp.get (len := 3) rfl (rfl) rfl ?_
          refine Wp.top hT1.1 ?_
          refine Wp.n (pc' := 149) 4 rfl ?_
          refine Wp.get (len := 3) rfl (rfl) rfl ?_
          refine Wp.top a5 ?_
          refine Wp.cput2 (len := 3) 6 rfl rfl ?_
          have cke : ck (tk T (bl T p)) = kdc (T.2 (bl T p)) := ek.symm
          unfold ck at cke
          first
            | (have q12 : tk T (bl T p) = 1 ∨ tk T (bl T p) = 2 := by split at cke <;> omega
               exact fin _ _ _ (FA.f.t (FA.f.t FA.f)) b2 b3 rfl a5 rfl rfl ek (if_pos q12).symm)
            | (have q12 : ¬ (tk T (bl T p) = 1 ∨ tk T (bl T p) = 2) := by split at cke <;> omega
               exact fin _ _ _ (FA.f.t (FA.f.t FA.f)) b2 b3 rfl a5 rfl rfl ek (if_neg q12).symm)
  · omega
theorem k_advance (hT : TC κ T) (hS : κ.2.2.2 0 = some 33) (hL : LC κ T st) : Wp (d + 9) md_11 0 [some (.ref 35), none] [] (cset M κ) (fun v M' => v = none ∧ RdC M κ T (adS T st) M') := by
  rcases st with x | s
  · have x1 := hL.2.1
    have x3 := hL.2.2.1
    refine Wp.n (pc' := 1) 1 rfl ?_
    refine Wp.get (len := 3) rfl (rfl) rfl ?_
    refine Wp.top hL.1 ?_
    refine Wp.nz0 (x := x.1) (tgt := 8) (len := 3) rfl (by omega) (fun h4 => ?_) (fun h4 => ?_)
    · omega
    · skip
      refine Wp.retV (len := 1) rfl rfl ?_
      exact ⟨rfl, κ, rfl, FA.r, hL⟩
  · exact k_adv hT hS hL.1 hL.2.1 hL.2.2.2.2.1 (en_le hL.2.2.2.2.2.2).2
theorem k_fail (hT : TC κ T) (hL : LC κ T st) {k p : Nat} (hk : 1 ≤ k ∧ k ≤ 3) (y : Int32) (hy : gd st = true → y = nI p) : Wp d md_18 0 [some (.ref 35), some (.int (nI k)), some (.int y)] [] (cset M κ) (fun v M' => v = none ∧ RdC M κ T (if gd st = true then .inl (k, p) else st) M') := by
  rcases st with x | s
  · have x1 := hL.2.1
    have x3 := hL.2.2.1
    refine Wp.n (pc' := 1) 1 rfl ?_
    refine Wp.get (len := 3) rfl (rfl) rfl ?_
    refine Wp.top hL.1 ?_
    refine Wp.nz1 (x := x.1) (tgt := 17) (len := 3) rfl (by omega) (fun h4 => ?_) (fun h4 => ?_)
    · skip
      refine Wp.retV (len := 1) rfl rfl ?_
      exact ⟨rfl, κ, rfl, FA.r, hL⟩
    · omega
  · obtain rfl := hy rfl
    have t4 := tk_le (T := T) (s := s)
    have e := en_le hL.2.2.2.2.2.2
    refine Wp.n (pc' := 1) 1 rfl ?_
    refine Wp.get (len := 3) rfl (rfl) rfl ?_
    refine Wp.top hL.1 ?_
    refine Wp.nz1 (x := 0) (tgt := 17) (len := 3) rfl (by omega) (fun h4 => ?_) (fun h4 => ?_)
    · omega
    · skip
      refine Wp.n (pc' := 9) 2 rfl ?_
      refine Wp.cput2 (len := 3) 2 rfl rfl ?_
      refine Wp.n (pc' := 14) 2 rfl ?_
      refine Wp.cput2 (len := 3) 3 rfl rfl ?_
      refine Wp.retV (len := 1) rfl rfl ?_
      exact ⟨rfl, _, rfl, FA.f.t FA.f, rfl, hk.1, hk.2, rfl, s, en T s, ck (tk T s), hL.2.2.2.1, hL.2.2.2.2.1, e.1, e.2, hL.2.2.1, by unfold ck; split <;> omega⟩
theorem k_hasLine (hL : LC κ T st) : Ev d md_13 0 [some (.ref 35)] [] (cset M κ) (some (.int (bI (hlS T st))), cset M κ) := by
  refine Wp.toEv ?_
  rcases st with x | s
  · have x1 := hL.2.1
    have x3 := hL.2.2.1
    refine Wp.n (pc' := 1) 1 rfl ?_
    refine Wp.get (len := 3) rfl (rfl) rfl ?_
    refine Wp.top hL.1 ?_
    refine Wp.nz1 (x := x.1) (tgt := 18) (len := 3) rfl (by omega) (fun h4 => ?_) (fun h4 => ?_)
    · skip
      refine Wp.n (pc' := 19) 1 rfl ?_
      refine Wp.retZ (len := 1) (c := false) rfl rfl rfl ?_
      exact ⟨rfl, rfl⟩
    · omega
  · have t4 := tk_le (T := T) (s := s)
    have c0 : ck (tk T s) = 0 ↔ tk T s = 0 := by unfold ck; split <;> omega
    have c5 : ck (tk T s) ≤ 5 := by unfold ck; split <;> omega
    refine Wp.n (pc' := 1) 1 rfl ?_
    refine Wp.get (len := 3) rfl (rfl) rfl ?_
    refine Wp.top hL.1 ?_
    refine Wp.nz1 (x := 0) (tgt := 18) (len := 3) rfl (by omega) (fun h4 => ?_) (fun h4 => ?_)
    · omega
    · skip
      refine Wp.n (pc' := 8) 1 rfl ?_
      refine Wp.get (len := 3) rfl (rfl) rfl ?_
      refine Wp.top hL.2.2.1 ?_
      refine Wp.nz0 (x := ck (tk T s)) (tgt := 18) (len := 3) rfl (by omega) (fun h11 => ?_) (fun h11 => ?_)
      · skip
        refine Wp.n (pc' := 19) 1 rfl ?_
        refine Wp.retZ (len := 1) (c := false) rfl rfl rfl ?_
        first
          | exact ⟨by rw [show hlS T (.inr s) = true from decide_eq_true (fun q => h11 (c0.mpr q))], rfl⟩
          | exact ⟨by rw [show hlS T (.inr s) = false from decide_eq_false (fun q => q (c0.mp h11))], rfl⟩
      · skip
        refine Wp.n (pc' := 19) 2 rfl ?_
        refine Wp.retZ (len := 1) (c := true) rfl rfl rfl ?_
        first
          | exact ⟨by rw [show hlS T (.inr s) = true from decide_eq_true (fun q => h11 (c0.mpr q))], rfl⟩
          | exact ⟨by rw [show hlS T (.inr s) = false from decide_eq_false (fun q => q (c0.mp h11))], rfl⟩
end CRD
