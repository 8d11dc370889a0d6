/-! KINGDOMS THAT AGREE on what joins; a rate is a factor; the hidden lane's length only shifts. -/
def KM (K1 K2 : KD) (y : Nat) : Prop := (∀ i, i < 6 ∨ 11 ≤ i → kh K1 i = kh K2 i) ∧ kr K1 = kr K2 ∧ kw K1 = kw K2 ∧ (∀ l j, j ≠ 4 → kl K1 l j = kl K2 l j) ∧ ∀ l, openK K1 l y = openK K2 l y
section KMS
variable {K1 K2 : KD} {y : Nat}
theorem KM_road (h : KM K1 K2 y) : roadK K1 = roadK K2 := by
  funext a b
  unfold roadK
  rw [h.2.1, h.1 2 (by omega)]
theorem KM_dist (h : KM K1 K2 y) : distK K1 = distK K2 := by
  have e : D0 K1 = D0 K2 := by
    funext a b
    unfold D0
    rw [KM_road h, h.2.1]
  unfold distK
  rw [h.1 0 (by omega), e]
theorem KM_span (h : KM K1 K2 y) : spanJ K1 = spanJ K2 := by
  funext j
  unfold spanJ
  rw [h.2.1, h.2.2.2.1 (j - 20) 2 (by decide)]
theorem KM_step (h : KM K1 K2 y) (a b : Nat) : joinStep K1 a b y = joinStep K2 a b y := by
  funext c l
  have e : shr K1 c l = shr K2 c l := by
    cases c with
    | none => rfl
    | some j =>
      unfold shr
      rw [h.2.2.2.1 l 2 (by decide), KM_span h]
  unfold joinStep
  rw [e, h.2.2.2.1 l 0 (by decide), h.2.2.2.1 l 1 (by decide), h.2.2.2.2 l]
theorem KM_join (h : KM K1 K2 y) (a b : Nat) : joinK K1 a b y = joinK K2 a b y := by
  unfold joinK
  rw [KM_step h, KM_road h, h.1 11 (by omega), h.1 3 (by omega)]
theorem KM_add (h : KM K1 K2 y) : addJ K1 = addJ K2 := by
  funext s j
  unfold addJ
  rw [KM_span h]
theorem KM_look (h : KM K1 K2 y) (P : Nat → Nat) : ∀ (n i : Nat) (s : Nat × List Nat), lookK K1 y P n i s = lookK K2 y P n i s
  | 0, _, _ => rfl
  | n + 1, i, s => by
    unfold lookK
    rw [KM_join h]
    cases joinK K2 (P i) (P (i + 1)) y with
    | none => rfl
    | some j =>
      dsimp only
      rw [KM_add h]
      exact KM_look h P n (i + 1) _
theorem KM_dfs (h : KM K1 K2 y) (t : Nat) : ∀ (f : Nat) (ps : List Nat) (q : Nat) (s : Nat × List Nat), dfs K1 y t f ps q s = dfs K2 y t f ps q s
  | 0, _, _, _ => rfl
  | f + 1, ps, q, s => by
    unfold dfs
    rw [h.1 0 (by omega)]
    have e : (fun p => if ps.contains p = true then [] else match joinK K1 q p y with | none => [] | some j => dfs K1 y t f (ps ++ [p]) p (addJ K1 s j)) = (fun p => if ps.contains p = true then [] else match joinK K2 q p y with | none => [] | some j => dfs K2 y t f (ps ++ [p]) p (addJ K2 s j)) := by
      funext p
      rw [KM_join h]
      cases joinK K2 q p y with
      | none => rfl
      | some j =>
        dsimp only
        rw [KM_add h, KM_dfs h t f (ps ++ [p]) p (addJ K2 s j)]
    by_cases c : q = t
    · rw [if_pos c, if_pos c]
    · rw [if_neg c, if_neg c]
      exact congrArg (fun g => loopL g (kh K2 0) 0) e
theorem KM_boat (h : KM K1 K2 y) : boatK K1 = boatK K2 := by
  funext ls
  unfold boatK
  rw [show (fun l => decide (kl K1 l 5 = 2)) = (fun l => decide (kl K2 l 5 = 2)) from funext (fun l => by rw [h.2.2.2.1 l 5 (by decide)])]
theorem KM_sav (h : KM K1 K2 y) : savK K1 = savK K2 := by
  funext a b n
  unfold savK
  rw [KM_dist h]
theorem KM_tr (w : Nat) (h : KM K1 K2 (kw K2 w 2)) : TRr K1 w = TRr K2 w := by
  unfold TRr
  rw [h.2.2.1]
  exact KM_look h _ _ _ _
theorem KM_law (w : Nat) (h : KM K1 K2 (kw K2 w 2)) : lawK K1 w = lawK K2 w := by
  unfold lawK
  rw [KM_tr w h, h.2.2.1]
theorem KM_allW (h : KM K1 K2 y) (a t : Nat) : allW K1 y a t = allW K2 y a t := KM_dfs h t 7 [a] a (0, [])
/-- the law too -/
theorem KM_fin (h : KM K1 K2 y) (hl : ∀ i, kh K1 i = kh K2 i) (aim a t load dn : Nat) : fin K1 aim a t y load dn = fin K2 aim a t y load dn := by
  have e1 : dW K1 a t y load = dW K2 a t y load := by
    funext s
    unfold dW dutyS
    rw [KM_boat h, KM_sav h, hl 9, hl 7, hl 6, hl 10]
  have e2 : cW K1 = cW K2 := by
    funext aim d s
    unfold cW
    rw [hl 8]
  have e3 : wat K1 = wat K2 := by
    funext ls
    unfold wat
    rw [show (fun l => decide (0 < kl K1 l 6)) = (fun l => decide (0 < kl K2 l 6)) from funext (fun l => by rw [h.2.2.2.1 l 6 (by decide)]), show (fun l => kl K1 l 6) = (fun l => kl K2 l 6) from funext (fun l => h.2.2.2.1 l 6 (by decide))]
  have e4 : meet K1 aim a t y load dn = meet K2 aim a t y load dn := by
    funext st w
    unfold meet
    rw [e1, e2, e3]
  unfold fin
  rw [e4, KM_allW h]
end KMS
section LANE
variable {K : KD} {a b : Nat}
theorem laneK_km {n e1 e2 y : Nat} (h1 : y ≤ e1) (h2 : y ≤ e2) : KM (laneK K a b n e1) (laneK K a b n e2) y := by
  refine ⟨fun i _ => rfl, rfl, rfl, fun l j hj => ?_, fun l => ?_⟩
  · by_cases c : l = 8
    · subst c
      show (if j = 0 then a else if j = 1 then b else if j = 2 then n else if j = 4 then e1 else 0) = (if j = 0 then a else if j = 1 then b else if j = 2 then n else if j = 4 then e2 else 0)
      rw [if_neg (c := j = 4) hj, if_neg (c := j = 4) hj]
    · show (if l = 8 then _ else kl K l) j = (if l = 8 then _ else kl K l) j
      rw [if_neg c, if_neg c]
  · by_cases c : l = 8
    · subst c
      show (if (0 : Nat) = 2 then true else if (0 : Nat) = 1 then _ else decide (0 ≤ y ∧ y ≤ e1)) = (if (0 : Nat) = 2 then true else if (0 : Nat) = 1 then _ else decide (0 ≤ y ∧ y ≤ e2))
      rw [if_neg (by decide), if_neg (by decide), if_neg (by decide), if_neg (by decide), decide_eq_true (by omega), decide_eq_true (by omega)]
    · have e : ∀ e, kl (laneK K a b n e) l = kl K l := fun e => if_neg c
      unfold openK
      rw [e e1, e e2]
      rfl
theorem fld_cw {f g : Nat → Nat} : ∀ (n i s : Nat), (∀ j, i ≤ j → j < i + n → f j = g j) → fld (fun s w => s + f w) n i s = fld (fun s w => s + g w) n i s
  | 0, _, _, _ => rfl
  | n + 1, i, s, h => by
    show fld _ n (i + 1) (s + f i) = fld _ n (i + 1) (s + g i)
    rw [h i (Nat.le_refl _) (by omega)]
    exact fld_cw n (i + 1) _ (fun j h1 h2 => h j (by omega) (by omega))
/-- the reference's lane that is thought of, and the class's -/
theorem allK_lane (ok : KOK K) {n k : Nat} : allK (laneK K a b n 30) k = allK (laneK K a b n (kh K 1 - 1)) k := by
  refine fld_cw (kh K 4) 0 0 (fun w _ hw => ?_)
  have tw := ok_walk ok (i := w) (by omega)
  have b1 := (ok_h ok).2.1
  have e : finW (laneK K a b n 30) w = finW (laneK K a b n (kh K 1 - 1)) w := KM_fin (K1 := laneK K a b n 30) (K2 := laneK K a b n (kh K 1 - 1)) (y := kw K w 2) (laneK_km (by omega) (by omega)) (fun _ => rfl) 2 (kw K w 4) (kw K w (3 + kw K w 3)) (kw K w 1) 0
  unfold shareK
  rw [e]
theorem laws_km {r f r' f' y : Nat} : KM (lawsK K r f) (lawsK K r' f') y := by
  refine ⟨fun i hi => ?_, rfl, rfl, fun _ _ _ => rfl, fun _ => rfl⟩
  show (if i = 6 then r else if i = 7 then f else kh K i) = (if i = 6 then r' else if i = 7 then f' else kh K i)
  rw [if_neg (by omega), if_neg (by omega), if_neg (by omega), if_neg (by omega)]
theorem dutW_lin {r f w : Nat} : dutW (lawsK K r f) w = r * dutW (lawsK K 1 f) w := by
  have h : KM (lawsK K r f) (lawsK K 1 f) (kw (lawsK K 1 f) w 2) := laws_km
  unfold dutW savW
  rw [KM_tr w h, KM_boat h, KM_sav h]
  unfold dutyS
  show (if boatK (lawsK K 1 f) (TRr (lawsK K 1 f) w).2.2 = true ∨ (kh K 9 = 0 ∧ kw K w 2 % 7 = 6) then 0 else (savK (lawsK K 1 f) (kw K w 4) (kw K w (3 + kw K w 3)) (TRr (lawsK K 1 f) w).2.1 - f) * r * (if kh K 10 = 1 then kw K w 1 else 1)) = r * (if boatK (lawsK K 1 f) (TRr (lawsK K 1 f) w).2.2 = true ∨ (kh K 9 = 0 ∧ kw K w 2 % 7 = 6) then 0 else (savK (lawsK K 1 f) (kw K w 4) (kw K w (3 + kw K w 3)) (TRr (lawsK K 1 f) w).2.1 - f) * 1 * (if kh K 10 = 1 then kw K w 1 else 1))
  split
  · rfl
  · rw [Nat.mul_one, Nat.mul_comm _ r, Nat.mul_assoc]
theorem take_lin {r f : Nat} : takeK (lawsK K r f) = r * takeK (lawsK K 1 f) := by
  have h : ∀ (n i s : Nat), fld (sumD (lawsK K r f) (-1) (-1)) n i (r * s) = r * fld (sumD (lawsK K 1 f) (-1) (-1)) n i s := by
    intro n
    induction n with
    | zero => intro i s; rfl
    | succ n ih =>
      intro i s
      have e : sumD (lawsK K r f) (-1) (-1) (r * s) i = r * sumD (lawsK K 1 f) (-1) (-1) s i := by
        have ec : cntW (lawsK K r f) (-1) (-1) i = cntW (lawsK K 1 f) (-1) (-1) i := by
          unfold cntW
          rw [KM_law i (show KM (lawsK K r f) (lawsK K 1 f) (kw (lawsK K 1 f) i 2) from laws_km)]
          rfl
        unfold sumD
        rw [ec, dutW_lin]
        cases cntW (lawsK K 1 f) (-1) (-1) i
        · rfl
        · show r * s + r * _ = r * (s + _)
          rw [Nat.mul_add]
      show fld _ n (i + 1) (sumD (lawsK K r f) (-1) (-1) (r * s) i) = r * fld _ n (i + 1) (sumD (lawsK K 1 f) (-1) (-1) s i)
      rw [e]
      exact ih (i + 1) _
  exact h (kh K 4) 0 0
/-- what joins two places with a lane of n that is thought of -/
theorem laneK_step {n e y p q : Nat} (ok : KOK K) (h11 : kh K 11 = 0) : joinK (laneK K a b n e) p q y = joinStep (laneK K a b n e) p q y (joinK K p q y) 8 := by
  have b3 := (ok_h ok).2.2.2.1
  have er : roadK (laneK K a b n e) = roadK K := rfl
  have es : ∀ (c : Option Nat) (l : Nat), l < kh K 3 → (∀ j, c = some j → JV K j) → joinStep (laneK K a b n e) p q y c l = joinStep K p q y c l := by
    intro c l hl hc
    have ek : kl (laneK K a b n e) l = kl K l := if_neg (by omega)
    have eo : openK (laneK K a b n e) l y = openK K l y := by unfold openK; rw [ek]; rfl
    have eh : shr (laneK K a b n e) c l = shr K c l := by
      cases c with
      | none => rfl
      | some j =>
        have hj := hc j rfl
        have ej : spanJ (laneK K a b n e) j = spanJ K j := by
          unfold spanJ
          by_cases c20 : j < 20
          · rw [if_pos c20, if_pos c20]; rfl
          · rw [if_neg c20, if_neg c20]
            have : j - 20 ≠ 8 := by
              have := (ok_h ok).2.2.1
              rcases hj with q | ⟨q, q2⟩
              · omega
              · unfold LV at q2; omega
            rw [show kl (laneK K a b n e) (j - 20) = kl K (j - 20) from if_neg this]
        show decide (kl (laneK K a b n e) l 2 < spanJ (laneK K a b n e) j) = decide (kl K l 2 < spanJ K j)
        rw [ek, ej]
    unfold joinStep
    rw [eh, ek, eo]
  have hf : ∀ (m i : Nat) (c : Option Nat), i + m = kh K 3 → (∀ j, c = some j → JV K j) → fld (joinStep (laneK K a b n e) p q y) m i c = fld (joinStep K p q y) m i c := by
    intro m
    induction m with
    | zero => intro i c _ _; rfl
    | succ m ih =>
      intro i c hi hc
      show fld _ m (i + 1) (joinStep (laneK K a b n e) p q y c i) = fld _ m (i + 1) (joinStep K p q y c i)
      rw [es c i (by omega) hc]
      exact ih (i + 1) _ (by omega) (joinStep_v (Or.inl (by omega)) hc)
  unfold joinK
  rw [show kh (laneK K a b n e) 11 = 1 from rfl, h11, show kh (laneK K a b n e) 3 = kh K 3 from rfl, er, hf (kh K 3) 0 _ (by omega) (fun j hj => Or.inl (roadK_v hj).1)]
  rfl
/-- the pair, and shorter than what joins it -/
def usesL (K : KD) (a b n y p q : Nat) : Bool := btw a b p q && (match joinK K p q y with | none => true | some j => decide (n < spanJ K j))
theorem laneK_join {n e y p q : Nat} (ok : KOK K) (h11 : kh K 11 = 0) (he : y ≤ e) : joinK (laneK K a b n e) p q y = if usesL K a b n y p q = true then some 28 else joinK K p q y := by
  have b3 := (ok_h ok).2.2.2.1
  rw [laneK_step ok h11]
  have eo : openK (laneK K a b n e) 8 y = true := by
    show (if (0 : Nat) = 2 then true else if (0 : Nat) = 1 then _ else decide (0 ≤ y ∧ y ≤ e)) = true
    rw [if_neg (by decide), if_neg (by decide), decide_eq_true (by omega)]
  have eh : shr (laneK K a b n e) (joinK K p q y) 8 = (match joinK K p q y with | none => true | some j => decide (n < spanJ K j)) := by
    cases hj : joinK K p q y with
    | none => rfl
    | some j =>
      have hv := joinK_v ok hj
      show decide (n < spanJ (laneK K a b n e) j) = decide (n < spanJ K j)
      have ej : spanJ (laneK K a b n e) j = spanJ K j := by
        unfold spanJ
        by_cases c20 : j < 20
        · rw [if_pos c20, if_pos c20]; rfl
        · rw [if_neg c20, if_neg c20]
          have : j - 20 ≠ 8 := by
            have := (ok_h ok).2.2.1
            rcases hv with q | ⟨q, q2⟩
            · omega
            · unfold LV at q2; omega
          rw [show kl (laneK K a b n e) (j - 20) = kl K (j - 20) from if_neg this]
      rw [ej]
  unfold joinStep usesL
  rw [eh, eo, show btw (kl (laneK K a b n e) 8 0) (kl (laneK K a b n e) 8 1) p q = btw a b p q from rfl]
  cases h1 : (match joinK K p q y with | none => true | some j => decide (n < spanJ K j)) <;> cases h2 : btw a b p q <;> simp
end LANE
