/-! THE HIDDEN LANE: one search gives all lengths. -/
theorem loopL_map {α β : Type} {g1 : Nat → List β} {g2 : Nat → List α} {F : α → β} (h : ∀ p, g1 p = (g2 p).map F) : ∀ (n p : Nat), loopL g1 n p = (loopL g2 n p).map F
  | 0, _ => rfl
  | n + 1, p => by
    show g1 p ++ loopL g1 n (p + 1) = (g2 p ++ loopL g2 n (p + 1)).map F
    rw [List.map_append, h p, loopL_map h n (p + 1)]
theorem dfs_lanes {K : KD} {y t : Nat} {P : Nat → Prop} (hP : ∀ p q j, joinK K p q y = some j → 20 ≤ j → P (j - 20)) : ∀ (f : Nat) (ps : List Nat) (q : Nat) (s : Nat × List Nat), (∀ l, l ∈ s.2 → P l) → ∀ w, w ∈ dfs K y t f ps q s → ∀ l, l ∈ w.2.2 → P l
  | 0, _, _, _, _, _, hw => by cases hw
  | f + 1, ps, q, s, hs, w, hw => by
    unfold dfs at hw
    by_cases hq : q = t
    · rw [if_pos hq, List.mem_singleton] at hw
      subst hw
      exact hs
    · rw [if_neg hq] at hw
      obtain ⟨p, h1, h2, h3⟩ := loopL_mem hw
      by_cases hc : ps.contains p = true
      · rw [if_pos hc] at h3
        cases h3
      · rw [if_neg hc] at h3
        cases hj : joinK K q p y with
        | none => rw [hj] at h3; cases h3
        | some j =>
          rw [hj] at h3
          refine dfs_lanes hP f (ps ++ [p]) p (addJ K s j) (fun l hl => ?_) w h3
          unfold addJ at hl
          by_cases c : j < 20
          · rw [if_pos c] at hl; exact hs l hl
          · rw [if_neg c] at hl
            rcases List.mem_append.mp hl with m | m
            · exact hs l m
            · rw [List.mem_singleton] at m
              rw [m]
              exact hP q p j hj (by omega)
def P4 (K : KD) (a t y load dn : Nat) (w : WY) : Bool := decide (dW K a t y load w.2 = dn ∧ w.2.2.contains 8 = true)
theorem fin4_pos {K : KD} {a t y load dn : Nat} : 0 < (fin K 4 a t y load dn).1 ↔ (allW K y a t).any (P4 K a t y load dn) = true := by
  have h : ∀ (ws : List WY) (st : MT), 0 < (List.foldl (meet K 4 a t y load dn) st ws).1 ↔ (0 < st.1 ∨ ws.any (P4 K a t y load dn) = true) := by
    intro ws
    induction ws with
    | nil => intro st; simp
    | cons w ws ih =>
      intro st
      rw [List.foldl_cons, ih, List.any_cons, Bool.or_eq_true]
      have e : 0 < (meet K 4 a t y load dn st w).1 ↔ (0 < st.1 ∨ P4 K a t y load dn w = true) := by
        unfold meet P4
        rw [if_neg (by omega), if_pos (by omega)]
        by_cases c : dW K a t y load w.2 = dn ∧ w.2.2.contains 8 = true
        · rw [if_pos ⟨c.1, fun _ => c.2⟩, decide_eq_true c]
          exact ⟨fun _ => Or.inr rfl, fun _ => Nat.succ_pos _⟩
        · rw [if_neg (fun q => c ⟨q.1, q.2 rfl⟩), decide_eq_false c]
          exact ⟨fun q => Or.inl q, fun q => by rcases q with q | q; exact q; cases q⟩
      rw [e, or_assoc]
  have := h (allW K y a t) st0
  rw [show st0.1 = 0 from rfl] at this
  constructor
  · intro q
    rcases this.mp q with q | q
    · exact absurd q (Nat.lt_irrefl 0)
    · exact q
  · intro q
    exact this.mpr (Or.inr q)
section MUST
variable {K : KD} {a b y : Nat}
/-- the longest lane that is shorter than what joins -/
def lngK (K : KD) (a b y : Nat) : Nat := match joinK K a b y with | none => 99 | some j => min 99 (spanJ K j - 1)
theorem btw_join {p q : Nat} (h : btw a b p q = true) : joinK K p q y = joinK K a b y := by
  rcases btw_iff.mp h with ⟨rfl, rfl⟩ | ⟨rfl, rfl⟩
  · rfl
  · exact joinK_sym K b a y
theorem uses_lo (ok : KOK K) {n p q : Nat} (h1 : 1 ≤ n) (hn : n ≤ lngK K a b y) : usesL K a b n y p q = btw a b p q := by
  unfold usesL
  cases h : btw a b p q with
  | false => rfl
  | true =>
    rw [btw_join h]
    unfold lngK at hn
    cases hj : joinK K a b y with
    | none => rfl
    | some j =>
      rw [hj] at hn
      have hs := spanJ_b ok (joinK_v ok hj)
      have hn' : n ≤ min 99 (spanJ K j - 1) := hn
      show (true && decide (n < spanJ K j)) = true
      rw [decide_eq_true (by omega)]
      rfl
theorem uses_hi {n p q : Nat} (h9 : n ≤ 99) (hn : lngK K a b y < n) : usesL K a b n y p q = false := by
  unfold usesL
  cases h : btw a b p q with
  | false => rfl
  | true =>
    rw [btw_join h]
    unfold lngK at hn
    cases hj : joinK K a b y with
    | none => rw [hj] at hn; have hn' : 99 < n := hn; omega
    | some j =>
      rw [hj] at hn
      have hn' : min 99 (spanJ K j - 1) < n := hn
      show (true && decide (n < spanJ K j)) = false
      rw [decide_eq_false (by omega)]
      rfl
def shf (n : Nat) (s : Nat × List Nat) : Nat × List Nat := (s.1 + (if s.2.contains 8 = true then n - 1 else 0), s.2)
theorem laneK_span {n e j : Nat} (h : j - 20 ≠ 8) : spanJ (laneK K a b n e) j = spanJ K j := by
  unfold spanJ
  by_cases c20 : j < 20
  · rw [if_pos c20, if_pos c20]; rfl
  · rw [if_neg c20, if_neg c20, show kl (laneK K a b n e) (j - 20) = kl K (j - 20) from if_neg h]
theorem cont_app (ls : List Nat) (x z : Nat) : (ls ++ [x]).contains z = (ls.contains z || (z == x)) := by
  rw [List.contains_append]
  congr 1
  show (z == x || false) = _
  rw [Bool.or_false]
theorem dfs_shift (ok : KOK K) (h11 : kh K 11 = 0) {n e1 e2 t : Nat} (h1 : 1 ≤ n) (hn : n ≤ lngK K a b y) (he1 : y ≤ e1) (he2 : y ≤ e2) (hl1 : 1 ≤ lngK K a b y) : ∀ (f : Nat) (ps : List Nat) (q : Nat) (s : Nat × List Nat), (s.2.contains 8 = true → ps.contains a = true ∧ ps.contains b = true) → ps.contains q = true → dfs (laneK K a b n e1) y t f ps q (shf n s) = (dfs (laneK K a b 1 e2) y t f ps q s).map (fun w => (w.1, shf n w.2))
  | 0, _, _, _, _, _ => rfl
  | f + 1, ps, q, s, hs, hq => by
    unfold dfs
    by_cases c : q = t
    · rw [if_pos c, if_pos c]
      rfl
    · rw [if_neg c, if_neg c]
      refine loopL_map (fun p => ?_) (kh K 0) 0
      by_cases hc : ps.contains p = true
      · rw [if_pos hc, if_pos hc]; rfl
      · rw [if_neg hc, if_neg hc, laneK_join ok h11 he1, laneK_join ok h11 he2, uses_lo ok h1 hn, uses_lo ok (Nat.le_refl 1) hl1]
        have hcf : ps.contains p = false := by cases e : ps.contains p with | false => rfl | true => exact absurd e hc
        cases hb : btw a b q p with
        | true =>
          rw [if_pos rfl]
          dsimp only
          have h8 : s.2.contains 8 = false := by
            cases e : s.2.contains 8 with
            | false => rfl
            | true =>
              obtain ⟨ca, cb⟩ := hs e
              rcases btw_iff.mp hb with ⟨e1, e2⟩ | ⟨e1, e2⟩
              · rw [← e2, cb] at hcf; cases hcf
              · rw [← e1, ca] at hcf; cases hcf
          have ea : addJ (laneK K a b n e1) (shf n s) 28 = shf n (addJ (laneK K a b 1 e2) s 28) := by
            have x1 : addJ (laneK K a b n e1) (shf n s) 28 = ((shf n s).1 + n, s.2 ++ [8]) := rfl
            have x2 : addJ (laneK K a b 1 e2) s 28 = (s.1 + 1, s.2 ++ [8]) := rfl
            rw [x1, x2]
            unfold shf
            rw [h8, if_neg (by decide)]
            have x3 : (s.2 ++ [8]).contains 8 = true := by rw [cont_app, Bool.or_eq_true]; exact Or.inr rfl
            show (s.1 + 0 + n, s.2 ++ [8]) = (s.1 + 1 + (if (s.2 ++ [8]).contains 8 = true then n - 1 else 0), s.2 ++ [8])
            rw [x3, if_pos rfl]
            congr 1
            omega
          rw [ea]
          refine dfs_shift ok h11 h1 hn he1 he2 hl1 f (ps ++ [p]) p _ (fun _ => ?_) (by rw [cont_app, Bool.or_eq_true]; exact Or.inr (beq_self_eq_true p))
          rw [cont_app, cont_app, Bool.or_eq_true, Bool.or_eq_true]
          rcases btw_iff.mp hb with ⟨e1, e2⟩ | ⟨e1, e2⟩
          · exact ⟨Or.inl (by rw [e1]; exact hq), Or.inr (by rw [e2]; exact beq_self_eq_true p)⟩
          · exact ⟨Or.inr (by rw [e1]; exact beq_self_eq_true p), Or.inl (by rw [e2]; exact hq)⟩
        | false =>
          rw [if_neg (by decide)]
          cases hj : joinK K q p y with
          | none => rfl
          | some j =>
            dsimp only
            have hv := joinK_v ok hj
            have h8 : j - 20 ≠ 8 := by
              have b2 := (ok_h ok).2.2.1
              have b3 := (ok_h ok).2.2.2.1
              rcases hv with q | ⟨q, q2⟩
              · omega
              · unfold LV at q2; omega
            have ec : ∀ K', (addJ K' s j).2.contains 8 = s.2.contains 8 := by
              intro K'
              show (if j < 20 then s.2 else s.2 ++ [j - 20]).contains 8 = _
              by_cases c20 : j < 20
              · rw [if_pos c20]
              · rw [if_neg c20, cont_app]
                have : (8 == j - 20) = false := by
                  rw [beq_eq_false_iff_ne]
                  exact fun e => h8 e.symm
                rw [this, Bool.or_false]
            have ea : addJ (laneK K a b n e1) (shf n s) j = shf n (addJ (laneK K a b 1 e2) s j) := by
              have x2 : (addJ (laneK K a b 1 e2) s j).1 = s.1 + spanJ K j := by
                show s.1 + spanJ (laneK K a b 1 e2) j = _
                rw [laneK_span h8]
              unfold shf
              rw [ec, x2]
              show (s.1 + (if s.2.contains 8 = true then n - 1 else 0) + spanJ (laneK K a b n e1) j, if j < 20 then s.2 else s.2 ++ [j - 20]) = (s.1 + spanJ K j + (if s.2.contains 8 = true then n - 1 else 0), if j < 20 then s.2 else s.2 ++ [j - 20])
              rw [laneK_span h8]
              congr 1
              omega
            rw [ea]
            refine dfs_shift ok h11 h1 hn he1 he2 hl1 f (ps ++ [p]) p _ (fun h => ?_) (by rw [cont_app, Bool.or_eq_true]; exact Or.inr (beq_self_eq_true p))
            rw [ec] at h
            obtain ⟨ca, cb⟩ := hs h
            rw [cont_app, cont_app, Bool.or_eq_true, Bool.or_eq_true]
            exact ⟨Or.inl ca, Or.inl cb⟩
theorem allW_shift (ok : KOK K) (h11 : kh K 11 = 0) {n e1 e2 p t : Nat} (h1 : 1 ≤ n) (hn : n ≤ lngK K a b y) (he1 : y ≤ e1) (he2 : y ≤ e2) : allW (laneK K a b n e1) y p t = (allW (laneK K a b 1 e2) y p t).map (fun w => (w.1, shf n w.2)) := by
  have h := dfs_shift ok h11 (t := t) h1 hn he1 he2 (by omega) 7 [p] p (0, []) (fun q => by cases q) (by simp)
  exact h
theorem allW_no8 (ok : KOK K) (h11 : kh K 11 = 0) {n e p t : Nat} (h9 : n ≤ 99) (hn : lngK K a b y < n) (he : y ≤ e) {w : WY} (hw : w ∈ allW (laneK K a b n e) y p t) : w.2.2.contains 8 = false := by
  have h := dfs_lanes (K := laneK K a b n e) (y := y) (t := t) (P := fun l => l ≠ 8) (fun p q j hj h20 => by
    rw [laneK_join ok h11 he, uses_hi h9 hn, if_neg (by decide)] at hj
    have hv := joinK_v ok hj
    have b2 := (ok_h ok).2.2.1
    have b3 := (ok_h ok).2.2.2.1
    rcases hv with q | ⟨q, q2⟩
    · omega
    · unfold LV at q2; omega) 7 [p] p (0, []) (fun l hl => absurd hl List.not_mem_nil) w hw
  cases e : w.2.2.contains 8 with
  | false => rfl
  | true => exact absurd rfl (h 8 (List.contains_iff_mem.mp e))
/-- the class's test of the lane's bit -/
theorem bit8 (ok : KOK K) {n e : Nat} {ls : List Nat} (hls : ∀ l, l ∈ ls → LV (laneK K a b n e) l) : (bitsC (laneK K a b n e) ls &&& 2 ^ kh K 3 ≠ 0) ↔ ls.contains 8 = true := by
  have b3 := (ok_h ok).2.2.2.1
  rw [Ne, n_tb]
  constructor
  · intro h
    have h2 : (bitsC (laneK K a b n e) ls).testBit (kh K 3) = true := by
      cases q : (bitsC (laneK K a b n e) ls).testBit (kh K 3) with
      | true => rfl
      | false => exact absurd q h
    obtain ⟨l, hl, hp⟩ := bitsC_tb.mp h2
    have hv := hls l hl
    by_cases c : l = 8
    · rw [← c]; exact List.contains_iff_mem.mpr hl
    · rw [show phL (laneK K a b n e) l = l from if_neg c] at hp
      rcases hv with q | q
      · have q' : l < kh K 3 := q
        omega
      · exact absurd q.1 c
  · intro h q
    have h3 : (bitsC (laneK K a b n e) ls).testBit (kh K 3) = true := bitsC_tb.mpr ⟨8, List.contains_iff_mem.mp h, if_pos rfl⟩
    rw [h3] at q
    cases q
theorem must_eq (ok : KOK K) (h11 : kh K 11 = 0) (ha : a < kh K 0) (hb : b < kh K 0) (hab : a ≠ b) {n w dn : Nat} (hw : w < kh K 4) (h1 : 1 ≤ n) (h9 : n ≤ 99) : mustP K a b w dn n = (decide (n ≤ lngK K a b (kw K w 2)) && (allW (laneK K a b 1 (kh K 1 - 1)) (kw K w 2) (kw K w 4) (kw K w (3 + kw K w 3))).any (canP (laneK K a b 1 (kh K 1 - 1)) (kw K w 4) (kw K w (3 + kw K w 3)) (kw K w 2) (kw K w 1) (2 ^ kh K 3) (n - 1) dn)) := by
  have b1 := (ok_h ok).2.1
  have tw := ok_walk ok hw
  have ok1 : KOK (laneK K a b 1 (kh K 1 - 1)) := laneK_ok ok ha hb hab (Nat.le_refl 1) (by decide) (by omega)
  have p0 := (walk_b ok hw).1
  have em : mustP K a b w dn n = (allW (laneK K a b n 30) (kw K w 2) (kw K w 4) (kw K w (3 + kw K w 3))).any (P4 (laneK K a b n 30) (kw K w 4) (kw K w (3 + kw K w 3)) (kw K w 2) (kw K w 1) dn) := by
    unfold mustP
    rw [Bool.eq_iff_iff, decide_eq_true_iff]
    exact fin4_pos
  rw [em]
  by_cases hn : n ≤ lngK K a b (kw K w 2)
  · rw [decide_eq_true hn, Bool.true_and, allW_shift ok h11 (e2 := kh K 1 - 1) h1 hn (by omega) (by omega), List.any_map]
    rw [Bool.eq_iff_iff, List.any_eq_true, List.any_eq_true]
    have key : ∀ x, x ∈ allW (laneK K a b 1 (kh K 1 - 1)) (kw K w 2) (kw K w 4) (kw K w (3 + kw K w 3)) → (P4 (laneK K a b n 30) (kw K w 4) (kw K w (3 + kw K w 3)) (kw K w 2) (kw K w 1) dn (x.1, shf n x.2) = true ↔ canP (laneK K a b 1 (kh K 1 - 1)) (kw K w 4) (kw K w (3 + kw K w 3)) (kw K w 2) (kw K w 1) (2 ^ kh K 3) (n - 1) dn x = true) := by
      intro x hx
      have hl := (allW_b ok1 p0 hx).2.1
      have hbit := bit8 (n := 1) (e := kh K 1 - 1) ok hl
      unfold P4 canP
      rw [decide_eq_true_iff, decide_eq_true_iff, hbit]
      show dW (laneK K a b n 30) _ _ _ _ (shf n x.2) = dn ∧ x.2.2.contains 8 = true ↔ _
      constructor
      · rintro ⟨q1, q2⟩
        refine ⟨q2, q1 ▸ ?_⟩
        unfold dX dW
        have e1 : (shf n x.2).1 = x.2.1 + (n - 1) := by unfold shf; rw [q2, if_pos rfl]
        rw [e1, show boatK (laneK K a b 1 (kh K 1 - 1)) = boatK (laneK K a b n 30) from by
          funext ls
          unfold boatK
          congr 1
          funext l
          by_cases c : l = 8
          · subst c; rfl
          · rw [show kl (laneK K a b 1 (kh K 1 - 1)) l = kl K l from if_neg c, show kl (laneK K a b n 30) l = kl K l from if_neg c]]
        rfl
      · rintro ⟨q2, q1⟩
        refine ⟨q1 ▸ ?_, q2⟩
        unfold dX dW
        have e1 : (shf n x.2).1 = x.2.1 + (n - 1) := by unfold shf; rw [q2, if_pos rfl]
        rw [e1, show boatK (laneK K a b 1 (kh K 1 - 1)) = boatK (laneK K a b n 30) from by
          funext ls
          unfold boatK
          congr 1
          funext l
          by_cases c : l = 8
          · subst c; rfl
          · rw [show kl (laneK K a b 1 (kh K 1 - 1)) l = kl K l from if_neg c, show kl (laneK K a b n 30) l = kl K l from if_neg c]]
        rfl
    constructor
    · rintro ⟨x, hx, h⟩
      exact ⟨x, hx, (key x hx).mp h⟩
    · rintro ⟨x, hx, h⟩
      exact ⟨x, hx, (key x hx).mpr h⟩
  · rw [decide_eq_false hn, Bool.false_and]
    cases e : (allW (laneK K a b n 30) (kw K w 2) (kw K w 4) (kw K w (3 + kw K w 3))).any (P4 (laneK K a b n 30) (kw K w 4) (kw K w (3 + kw K w 3)) (kw K w 2) (kw K w 1) dn) with
    | false => rfl
    | true =>
      obtain ⟨x, hx, h⟩ := List.any_eq_true.mp e
      have h8 := allW_no8 ok h11 h9 (by omega) (show kw K w 2 ≤ 30 by omega) hx
      have := (of_decide_eq_true h).2
      rw [h8] at this
      cases this
theorem fnd_cut {p q : Nat → Bool} {m : Nat} : ∀ (n i : Nat), (∀ j, i ≤ j → j < i + n → p j = (decide (j ≤ m) && q j)) → i ≤ m + 1 → m < i + n → fnd p n i = fnd q (m + 1 - i) i
  | 0, i, _, h1, h2 => by
    rw [show m + 1 - i = 0 by omega]
    rfl
  | n + 1, i, h, h1, h2 => by
    by_cases c : i = m + 1
    · rw [show m + 1 - i = 0 by omega]
      have hh : ∀ (n i : Nat), (∀ j, i ≤ j → j < i + n → p j = false) → fnd p n i = none := by
        intro n
        induction n with
        | zero => intro i _; rfl
        | succ n ih =>
          intro i hp
          show (if p i = true then _ else _) = _
          rw [hp i (Nat.le_refl _) (by omega), if_neg (by decide)]
          exact ih (i + 1) (fun j a1 a2 => hp j (by omega) (by omega))
      exact hh (n + 1) i (fun j a1 a2 => by rw [h j a1 a2, decide_eq_false (by omega)]; rfl)
    · obtain ⟨k, hk⟩ : ∃ k, m + 1 - i = k + 1 := ⟨m - i, by omega⟩
      rw [hk]
      show (if p i = true then some i else fnd p n (i + 1)) = (if q i = true then some i else fnd q k (i + 1))
      rw [h i (Nat.le_refl _) (by omega), decide_eq_true (by omega), Bool.true_and, fnd_cut n (i + 1) (fun j a1 a2 => h j (by omega) (by omega)) (by omega) (by omega), show m + 1 - (i + 1) = k by omega]
end MUST
