section
/-! CLASS AND REFERENCE go the same ways: what each finds is the same. -/
section AGREE
variable {K : KD} {a t y load dn : Nat}
theorem fin0_len : (fin K 0 a t y load dn).1 = (allW K y a t).length := by
  have h : ∀ (ws : List WY) (st : MT), (List.foldl (meet K 0 a t y load dn) st ws).1 = st.1 + ws.length := by
    intro ws
    induction ws with
    | nil => intro st; rfl
    | cons w ws ih =>
      intro st
      rw [List.foldl_cons, ih, List.length_cons]
      have e : (meet K 0 a t y load dn st w).1 = st.1 + 1 := by
        unfold meet
        rw [if_neg (by omega), if_neg (by omega)]
        split <;> rfl
      rw [e]
      omega
  have := h (allW K y a t) st0
  rw [show st0.1 = 0 from rfl, Nat.zero_add] at this
  exact this
theorem wat_any (ls : List Nat) : 0 < (wat K ls).length ↔ ls.any (watP K) = true := by
  unfold wat watP
  rw [List.length_map, List.length_pos_iff_exists_mem, List.any_eq_true]
  constructor
  · rintro ⟨x, hx⟩
    rw [List.mem_filter] at hx
    exact ⟨x, hx.1, hx.2⟩
  · rintro ⟨x, hx, h2⟩
    exact ⟨x, List.mem_filter.mpr ⟨hx, h2⟩⟩
def PA (K : KD) (aim : Nat) (w : WY) : Bool := if aim = 1 then !(w.2.2.any (watP K)) else true
def R01 (st : MT) (c : Option Nat) : Prop := (c = none ∧ st.1 = 0 ∧ st.2.1 = 100000000) ∨ ∃ x, c = some x ∧ 0 < st.1 ∧ st.2.1 = 0 ∧ st.2.2.1 = x
theorem R01_s {aim : Nat} (haim : aim = 0 ∨ aim = 1) {st : MT} {c : Option Nat} {w : WY} (h : R01 st c) : R01 (meet K aim a t y load dn st w) (lst1 (PA K aim) c w) := by
  have hc0 : cW K aim (dW K a t y load w.2) w.2 = 0 := if_neg (by omega)
  by_cases hp : PA K aim w = true
  · have hn : ¬ (aim = 1 ∧ 0 < (wat K w.2.2).length) := by
      rintro ⟨q1, q2⟩
      unfold PA at hp
      rw [if_pos q1, (wat_any w.2.2).mp q2] at hp
      cases hp
    unfold meet
    rw [if_neg hn, if_neg (by omega), hc0]
    rcases h with ⟨rfl, h1, h2⟩ | ⟨x, rfl, h1, h2, h3⟩
    · rw [if_neg (by omega), show lst1 (PA K aim) none w = some w.2.1 from if_pos ⟨hp, rfl⟩]
      exact Or.inr ⟨w.2.1, rfl, Nat.succ_pos _, rfl, rfl⟩
    · by_cases c : x ≤ w.2.1
      · rw [if_pos (by omega), show lst1 (PA K aim) (some x) w = some x from if_neg (fun q => by have := of_decide_eq_true q.2; omega)]
        exact Or.inr ⟨x, rfl, Nat.succ_pos _, h2, h3⟩
      · rw [if_neg (by omega), show lst1 (PA K aim) (some x) w = some w.2.1 from if_pos ⟨hp, decide_eq_true (by omega)⟩]
        exact Or.inr ⟨w.2.1, rfl, Nat.succ_pos _, rfl, rfl⟩
  · have hn : aim = 1 ∧ 0 < (wat K w.2.2).length := by
      unfold PA at hp
      by_cases q1 : aim = 1
      · rw [if_pos q1] at hp
        refine ⟨q1, (wat_any w.2.2).mpr ?_⟩
        cases e : w.2.2.any (watP K) with
        | true => rfl
        | false => rw [e] at hp; exact absurd rfl hp
      · rw [if_neg q1] at hp
        exact absurd rfl hp
    unfold meet
    rw [if_pos hn, show lst1 (PA K aim) c w = c from if_neg (fun q => hp q.1)]
    exact h
theorem shortW_eq {aim : Nat} (haim : aim = 0 ∨ aim = 1) : shortW (fin K aim a t y load dn) = oI (List.foldl (lst1 (PA K aim)) none (allW K y a t)) := by
  have h : ∀ (ws : List WY) (st : MT) (c : Option Nat), R01 st c → R01 (List.foldl (meet K aim a t y load dn) st ws) (List.foldl (lst1 (PA K aim)) c ws) := by
    intro ws
    induction ws with
    | nil => intro st c h; exact h
    | cons w ws ih => intro st c h; exact ih _ _ (R01_s haim h)
  have := h (allW K y a t) st0 none (Or.inl ⟨rfl, rfl, rfl⟩)
  unfold shortW
  rcases this with ⟨e1, e2, e3⟩ | ⟨x, e1, e2, e3, e4⟩
  · rw [if_pos (show (fin K aim a t y load dn).1 = 0 from e2), e1]
    rfl
  · rw [if_neg (show ¬ (fin K aim a t y load dn).1 = 0 by have e2' : 0 < (fin K aim a t y load dn).1 := e2; omega), e1]
    exact congrArg nI (show (fin K aim a t y load dn).2.2.1 = x from e4)
/-- the best of the ways -/
def RB (K : KD) (a t y load : Nat) (ws : List WY) (c : Option Nat × Nat) (st : MT) : Prop := (c.1 = none ∧ st.1 = 0 ∧ st.2.1 = 100000000) ∨ ∃ b, c.1 = some b ∧ b < ws.length ∧ 0 < st.1 ∧ st.2.1 = c.2 ∧ c.2 = cstW K a t y load (ws.getD b wy0) ∧ st.2.2.1 = (ws.getD b wy0).2.1 ∧ st.2.2.2.2 = some (dW K a t y load (ws.getD b wy0).2, (ws.getD b wy0).1)
theorem RB_s {ws : List WY} {c : Option Nat × Nat} {st : MT} {i : Nat} (hi : i < ws.length) (hb : cstW K a t y load (ws.getD i wy0) ≤ 766260) (h : RB K a t y load ws c st) : RB K a t y load ws (bst K a t y load ws c i) (meet K 2 a t y load dn st (ws.getD i wy0)) := by
  have hc0 : cW K 2 (dW K a t y load (ws.getD i wy0).2) (ws.getD i wy0).2 = cstW K a t y load (ws.getD i wy0) := rfl
  have hn : ∀ x : Nat, RB K a t y load ws (some i, cstW K a t y load (ws.getD i wy0)) (x + 1, cstW K a t y load (ws.getD i wy0), (ws.getD i wy0).2.1, st.2.2.2.1, some (if 2 = 2 then dW K a t y load (ws.getD i wy0).2 else 0, (ws.getD i wy0).1)) := fun x => Or.inr ⟨i, rfl, hi, Nat.succ_pos _, rfl, rfl, rfl, rfl⟩
  unfold meet
  rw [if_neg (by omega), if_neg (by omega), hc0]
  obtain ⟨cb, cl⟩ := c
  rcases h with ⟨h0, h1, h2⟩ | ⟨b, h0, h1, h2, h3, h4, h5, h6⟩
  · have e0 : cb = none := h0
    subst e0
    rw [if_neg (by omega), show bst K a t y load ws (none, cl) i = (some i, cstW K a t y load (ws.getD i wy0)) from if_pos rfl]
    exact hn st.1
  · have e0 : cb = some b := h0
    subst e0
    replace h3 : st.2.1 = cl := h3
    replace h4 : cl = cstW K a t y load (ws.getD b wy0) := h4
    by_cases c : cstW K a t y load (ws.getD i wy0) < cl ∨ (cstW K a t y load (ws.getD i wy0) = cl ∧ (ws.getD i wy0).2.1 < (ws.getD b wy0).2.1)
    · rw [if_neg (by omega), show bst K a t y load ws (some b, cl) i = (some i, cstW K a t y load (ws.getD i wy0)) from if_pos (decide_eq_true c)]
      exact hn st.1
    · rw [if_pos (by omega), show bst K a t y load ws (some b, cl) i = (some b, cl) from if_neg (fun q => c (of_decide_eq_true q))]
      exact Or.inr ⟨b, rfl, h1, Nat.succ_pos _, h3, h4, h5, h6⟩
theorem RB_all {ws : List WY} (hb : ∀ w, w ∈ ws → cstW K a t y load w ≤ 766260) : ∀ (n i : Nat) (c : Option Nat × Nat) (st : MT), i + n = ws.length → RB K a t y load ws c st → RB K a t y load ws (fld (bst K a t y load ws) n i c) (List.foldl (meet K 2 a t y load dn) st (ws.drop i)) := by
  intro n
  induction n with
  | zero =>
    intro i c st hi h
    rw [List.drop_eq_nil_of_le (by omega)]
    exact h
  | succ n ih =>
    intro i c st hi h
    have hil : i < ws.length := by omega
    rw [List.drop_eq_getElem_cons hil, List.foldl_cons]
    have e : ws[i] = ws.getD i wy0 := by rw [List.getD_eq_getElem?_getD, List.getElem?_eq_getElem hil]; rfl
    rw [e]
    exact ih (i + 1) _ _ (by omega) (RB_s hil (hb _ (getDw_mem hil)) h)
theorem best_eq (ok : KOK K) (ha : a < kh K 0) (hl : load ≤ 9) : ((fin K 2 a t y load dn).1 = 0 ∧ bstK K a t y load = none) ∨ (0 < (fin K 2 a t y load dn).1 ∧ ∃ b, bstK K a t y load = some b ∧ b < (allW K y a t).length ∧ (fin K 2 a t y load dn).2.1 = cstW K a t y load ((allW K y a t).getD b wy0) ∧ (fin K 2 a t y load dn).2.2.1 = ((allW K y a t).getD b wy0).2.1 ∧ bD (fin K 2 a t y load dn) = dW K a t y load ((allW K y a t).getD b wy0).2 ∧ bP (fin K 2 a t y load dn) = ((allW K y a t).getD b wy0).1) := by
  have h := RB_all (dn := dn) (ws := allW K y a t) (fun w hw => cstW_b (load := load) ok ha hl hw) (allW K y a t).length 0 (none, 0) st0 (by omega) (Or.inl ⟨rfl, rfl, rfl⟩)
  rw [List.drop_zero] at h
  rcases h with ⟨h0, h1, h2⟩ | ⟨b, h0, h1, h2, h3, h4, h5, h6⟩
  · exact Or.inl ⟨h1, h0⟩
  · refine Or.inr ⟨h2, b, h0, h1, h3.trans h4, h5, ?_, ?_⟩
    · unfold bD
      rw [show (fin K 2 a t y load dn).2.2.2.2 = some (dW K a t y load ((allW K y a t).getD b wy0).2, ((allW K y a t).getD b wy0).1) from h6]
    · unfold bP
      rw [show (fin K 2 a t y load dn).2.2.2.2 = some (dW K a t y load ((allW K y a t).getD b wy0).2, ((allW K y a t).getD b wy0).1) from h6]
theorem bstK_b (ok : KOK K) (ha : a < kh K 0) (hl : load ≤ 9) {b : Nat} (hb : bstK K a t y load = some b) : b < (allW K y a t).length := by
  rcases best_eq (K := K) (t := t) (y := y) (dn := 0) ok ha hl with ⟨_, h⟩ | ⟨_, b', h, h1, _⟩
  · rw [h] at hb; cases hb
  · rw [h] at hb; cases hb; exact h1
/-- owing: how many, and the lanes of all -/
def R3 (st : MT) (n : Nat) (c : Option Nat) : Prop := st.1 = n ∧ st.2.2.2.1 = c ∧ (n = 0 ↔ c = none)
theorem R3_s (ok : KOK K) (h11 : kh K 11 = 0) (ha : a < kh K 0) (hl : load ≤ 9) (hdn : dn < 2 ^ 31) {st : MT} {n : Nat} {c : Option Nat} {w : WY} (hw : ∀ l, l ∈ w.2.2 → LV K l) (h : R3 st n c) : R3 (meet K 3 a t y load dn st w) (cnt1 K a t y load (lN dn) n w) (com1 K a t y load dn c w) := by
  have hd : dW K a t y load w.2 ≤ 689634 := dutyS_b ok (savK_b ok ha) hl
  obtain ⟨rfl, rfl, h3⟩ := h
  unfold meet
  rw [if_neg (by omega), if_pos (by omega)]
  by_cases e : dW K a t y load w.2 = dn
  · rw [if_pos ⟨e, fun q => by omega⟩, show cnt1 K a t y load (lN dn) st.1 w = st.1 + 1 from if_pos (by rw [e]), show com1 K a t y load dn st.2.2.2.1 w = some (match st.2.2.2.1 with | none => bitsC K w.2.2 | some b => b &&& bitsC K w.2.2) from if_pos e, bitsC_0 ok h11 hw]
    refine ⟨rfl, rfl, ?_⟩
    constructor
    · intro q; exact absurd q (Nat.succ_ne_zero _)
    · intro q; cases q
  · rw [if_neg (fun q => e q.1), show cnt1 K a t y load (lN dn) st.1 w = st.1 from if_neg (fun q => e ((l_inj (by omega) (by omega)).mp q)), show com1 K a t y load dn st.2.2.2.1 w = st.2.2.2.1 from if_neg e]
    exact ⟨rfl, rfl, h3⟩
theorem owe_eq (ok : KOK K) (h11 : kh K 11 = 0) (ha : a < kh K 0) (hl : load ≤ 9) (hdn : dn < 2 ^ 31) : R3 (fin K 3 a t y load dn) (List.foldl (cnt1 K a t y load (lN dn)) 0 (allW K y a t)) (List.foldl (com1 K a t y load dn) none (allW K y a t)) := by
  have h : ∀ (ws : List WY) (st : MT) (n : Nat) (c : Option Nat), (∀ w, w ∈ ws → ∀ l, l ∈ w.2.2 → LV K l) → R3 st n c → R3 (List.foldl (meet K 3 a t y load dn) st ws) (List.foldl (cnt1 K a t y load (lN dn)) n ws) (List.foldl (com1 K a t y load dn) c ws) := by
    intro ws
    induction ws with
    | nil => intro st n c _ h; exact h
    | cons w ws ih => intro st n c hw h; exact ih _ _ _ (fun v hv => hw v (List.mem_cons_of_mem _ hv)) (R3_s ok h11 ha hl hdn (hw w List.mem_cons_self) h)
  exact h (allW K y a t) st0 0 none (fun w hw => (allW_b ok ha hw).2.1) ⟨rfl, rfl, ⟨fun _ => rfl, fun _ => rfl⟩⟩
/-- a duty that no way owes -/
theorem cnt_out (ok : KOK K) (ha : a < kh K 0) (hl : load ≤ 9) {v : Int64} (hv : ∀ m : Nat, m ≤ 689634 → lN m ≠ v) : List.foldl (cnt1 K a t y load v) 0 (allW K y a t) = 0 := by
  have h : ∀ (ws : List WY) (n : Nat), List.foldl (cnt1 K a t y load v) n ws = n := by
    intro ws
    induction ws with
    | nil => intro n; rfl
    | cons w ws ih =>
      intro n
      have hd : dW K a t y load w.2 ≤ 689634 := dutyS_b ok (savK_b ok ha) hl
      rw [List.foldl_cons, show cnt1 K a t y load v n w = n from if_neg (hv _ hd)]
      exact ih n
  exact h _ 0
theorem cnt_le {v : Int64} : List.foldl (cnt1 K a t y load v) 0 (allW K y a t) ≤ (allW K y a t).length := by
  have h : ∀ (ws : List WY) (n : Nat), List.foldl (cnt1 K a t y load v) n ws ≤ n + ws.length := by
    intro ws
    induction ws with
    | nil => intro n; exact Nat.le_refl _
    | cons w ws ih =>
      intro n
      have h1 : cnt1 K a t y load v n w ≤ n + 1 := by unfold cnt1; split <;> omega
      have := ih (cnt1 K a t y load v n w)
      rw [List.foldl_cons, List.length_cons]
      omega
  have := h (allW K y a t) 0
  omega
end AGREE
end
section
/-! THE CLASS: roads, lanes, what joins, facts of a walk; all that is sought. -/
section QW
variable {d : Nat} {M : AM} {r : Nat} {K : KD} {κ κ' : CS} {Q : Option Value → AM → Prop}
theorem k_arePlaces (hD : HD M) (hk : RK M 36 K) (x y : Int32) : Ev (d + 1) md_94 0 [some (.ref 32), some (.int x), some (.int y)] [] (cset M κ) (some (.int (bI (isN (kh K 0) x && isN (kh K 0) y))), cset M κ) := by
  obtain ⟨ρ, hR, hK, hDC, ok, hr1, hr2⟩ := id hk
  obtain ⟨b0, b1, b2, b3, b4, b5, b6, b7, b8, b9, b10, b11, b12⟩ := ok_h ok
  obtain ⟨ow, hDo⟩ := hD.1
  have hO : ∀ κ : CS, cset M κ 32 = .inr (9, hdl ow) := fun κ => (cset_o (by omega)).trans hDo
  have hRc : ∀ κ : CS, RA (cset M κ) 36 ρ := fun κ => RA_c hR hr1 hr2
  refine Wp.toEv ?_
  refine Wp.n (pc' := 1) 1 rfl ?_
  refine Wp.get (len := 3) rfl (hO _) rfl ?_
  refine Wp.n (pc' := 5) 1 rfl ?_
  refine Wp.ecallV (len := 3) rfl rfl rfl (ra_obj (hRc _)) rfl (by decide) rfl (k_hasPlace (RK_c hk) _) ?_
  refine Wp.ifb0 (tgt := 26) (len := 3) rfl (fun h8 => ?_) (fun h8 => ?_)
  · skip
    refine Wp.n (pc' := 27) 1 rfl ?_
    refine Wp.retZ (len := 1) (c := false) rfl rfl rfl ?_
    first
      | exact ⟨by rw [h8, h19]; rfl, rfl⟩
      | exact ⟨by rw [h8]; rfl, rfl⟩
      | exact ⟨by rw [h19, Bool.and_false], rfl⟩
  · skip
    refine Wp.n (pc' := 12) 1 rfl ?_
    refine Wp.get (len := 3) rfl (hO _) rfl ?_
    refine Wp.n (pc' := 16) 1 rfl ?_
    refine Wp.ecallV (len := 3) rfl rfl rfl (ra_obj (hRc _)) rfl (by decide) rfl (k_hasPlace (RK_c hk) _) ?_
    refine Wp.ifb0 (tgt := 26) (len := 3) rfl (fun h19 => ?_) (fun h19 => ?_)
    · skip
      refine Wp.n (pc' := 27) 1 rfl ?_
      refine Wp.retZ (len := 1) (c := false) rfl rfl rfl ?_
      first
        | exact ⟨by rw [h8, h19]; rfl, rfl⟩
        | exact ⟨by rw [h8]; rfl, rfl⟩
        | exact ⟨by rw [h19, Bool.and_false], rfl⟩
    · skip
      refine Wp.n (pc' := 27) 2 rfl ?_
      refine Wp.retZ (len := 1) (c := true) rfl rfl rfl ?_
      first
        | exact ⟨by rw [h8, h19]; rfl, rfl⟩
        | exact ⟨by rw [h8]; rfl, rfl⟩
        | exact ⟨by rw [h19, Bool.and_false], rfl⟩

theorem k_isJourney (hD : HD M) (hk : RK M 36 K) (x y z : Int32) : Ev (d + 2) md_98 0 [some (.ref 32), some (.int x), some (.int y), some (.int z)] [] (cset M κ) (some (.int (bI (isT K x y z))), cset M κ) := by
  obtain ⟨ρ, hR, hK, hDC, ok, hr1, hr2⟩ := id hk
  obtain ⟨b0, b1, b2, b3, b4, b5, b6, b7, b8, b9, b10, b11, b12⟩ := ok_h ok
  obtain ⟨ow, hDo⟩ := hD.1
  have hO : ∀ κ : CS, cset M κ 32 = .inr (9, hdl ow) := fun κ => (cset_o (by omega)).trans hDo
  have hRc : ∀ κ : CS, RA (cset M κ) 36 ρ := fun κ => RA_c hR hr1 hr2
  refine Wp.toEv ?_
  unfold isT areT
  refine Wp.n (pc' := 3) 3 rfl ?_
  refine Wp.ecallV (len := 3) rfl rfl rfl (hO _) rfl (by decide) rfl (k_arePlaces hD hk _ _) ?_
  refine Wp.ifb0 (tgt := 29) (len := 3) rfl (fun h6 => ?_) (fun h6 => ?_)
  · skip
    refine Wp.n (pc' := 30) 1 rfl ?_
    refine Wp.retZ (len := 1) (c := false) rfl rfl rfl ?_
    first
      | exact ⟨by rw [h6, h22, decide_eq_false h11]; rfl, rfl⟩
      | exact ⟨by rw [h6]; rfl, rfl⟩
      | exact ⟨by rw [decide_eq_true h11, Bool.not_true, Bool.and_false]; rfl, rfl⟩
      | exact ⟨by rw [h22, Bool.and_false], rfl⟩
  · skip
    refine Wp.n (pc' := 11) 2 rfl ?_
    refine Wp.ic0 (tgt := 29) (len := 3) rfl (fun h11 => ?_) (fun h11 => ?_)
    · skip
      refine Wp.n (pc' := 30) 1 rfl ?_
      refine Wp.retZ (len := 1) (c := false) rfl rfl rfl ?_
      first
        | exact ⟨by rw [h6, h22, decide_eq_false h11]; rfl, rfl⟩
        | exact ⟨by rw [h6]; rfl, rfl⟩
        | exact ⟨by rw [decide_eq_true h11, Bool.not_true, Bool.and_false]; rfl, rfl⟩
        | exact ⟨by rw [h22, Bool.and_false], rfl⟩
    · skip
      refine Wp.n (pc' := 15) 1 rfl ?_
      refine Wp.get (len := 3) rfl (hO _) rfl ?_
      refine Wp.n (pc' := 19) 1 rfl ?_
      refine Wp.ecallV (len := 3) rfl rfl rfl (ra_obj (hRc _)) rfl (by decide) rfl (k_hasDay (RK_c hk) _) ?_
      refine Wp.ifb0 (tgt := 29) (len := 3) rfl (fun h22 => ?_) (fun h22 => ?_)
      · skip
        refine Wp.n (pc' := 30) 1 rfl ?_
        refine Wp.retZ (len := 1) (c := false) rfl rfl rfl ?_
        first
          | exact ⟨by rw [h6, h22, decide_eq_false h11]; rfl, rfl⟩
          | exact ⟨by rw [h6]; rfl, rfl⟩
          | exact ⟨by rw [decide_eq_true h11, Bool.not_true, Bool.and_false]; rfl, rfl⟩
          | exact ⟨by rw [h22, Bool.and_false], rfl⟩
      · skip
        refine Wp.n (pc' := 30) 2 rfl ?_
        refine Wp.retZ (len := 1) (c := true) rfl rfl rfl ?_
        first
          | exact ⟨by rw [h6, h22, decide_eq_false h11]; rfl, rfl⟩
          | exact ⟨by rw [h6]; rfl, rfl⟩
          | exact ⟨by rw [decide_eq_true h11, Bool.not_true, Bool.and_false]; rfl, rfl⟩
          | exact ⟨by rw [h22, Bool.and_false], rfl⟩

theorem k_road (hD : HD M) (hk : RK M 36 K) (x y : Int32) : Wp (d + 2) md_93 0 [some (.ref 32), some (.int x), some (.int y)] [] (cset M κ) (RCI M κ (roadA K x y)) := by
  obtain ⟨ρ, hR, hK, hDC, ok, hr1, hr2⟩ := id hk
  obtain ⟨b0, b1, b2, b3, b4, b5, b6, b7, b8, b9, b10, b11, b12⟩ := ok_h ok
  obtain ⟨ow, hDo⟩ := hD.1
  have hO : ∀ κ : CS, cset M κ 32 = .inr (9, hdl ow) := fun κ => (cset_o (by omega)).trans hDo
  have hRc : ∀ κ : CS, RA (cset M κ) 36 ρ := fun κ => RA_c hR hr1 hr2
  unfold roadA
  refine Wp.n (pc' := 3) 3 rfl ?_
  refine Wp.ecallV (len := 3) rfl rfl rfl (hO _) rfl (by decide) rfl (k_arePlaces hD hk _ _) ?_
  refine Wp.ifb0 (tgt := 21) (len := 3) rfl (fun h6 => ?_) (fun h6 => ?_)
  · skip
    refine Wp.n (pc' := 23) 1 rfl ?_
    refine Wp.retI (len := 1) rfl rfl ?_
    first
      | exact RCI_r rfl
      | (rw [if_neg (by rw [h6]; decide)]; exact RCI_r rfl)
  · skip
    have h6' := Bool.and_eq_true_iff.mp h6
    obtain ⟨a, ha, rfl⟩ := isN_of h6'.1
    obtain ⟨t, ht, rfl⟩ := isN_of h6'.2
    rw [if_pos h6, nI_clamp (by omega), nI_clamp (by omega)]
    refine Wp.n (pc' := 10) 1 rfl ?_
    refine Wp.get (len := 3) rfl (hO _) rfl ?_
    refine Wp.n (pc' := 15) 2 rfl ?_
    refine Wp.ecallV (len := 3) rfl rfl rfl (ra_obj (hRc _)) rfl (by decide) rfl (k_byRoad (hRc _) hDC ok ha ht) ?_
    refine Wp.n (pc' := 23) 1 rfl ?_
    refine Wp.retI (len := 1) rfl rfl ?_
    first
      | exact RCI_r rfl
      | (rw [if_neg (by rw [h6]; decide)]; exact RCI_r rfl)

theorem k_way (hD : HD M) (hk : RK M 36 K) (x y i : Int32) : Wp (d + 4) md_95 0 [some (.ref 32), some (.int x), some (.int y), some (.int i)] [] (cset M κ) (RCI M κ (wayQ K x y i)) := by
  obtain ⟨ρ, hR, hK, hDC, ok, hr1, hr2⟩ := id hk
  obtain ⟨b0, b1, b2, b3, b4, b5, b6, b7, b8, b9, b10, b11, b12⟩ := ok_h ok
  obtain ⟨ow, hDo⟩ := hD.1
  have hO : ∀ κ : CS, cset M κ 32 = .inr (9, hdl ow) := fun κ => (cset_o (by omega)).trans hDo
  have hRc : ∀ κ : CS, RA (cset M κ) 36 ρ := fun κ => RA_c hR hr1 hr2
  unfold wayQ
  refine Wp.n (pc' := 3) 3 rfl ?_
  refine Wp.ecallV (len := 3) rfl rfl rfl (hO _) rfl (by decide) rfl (k_arePlaces hD hk _ _) ?_
  refine Wp.ifb0 (tgt := 22) (len := 3) rfl (fun h6 => ?_) (fun h6 => ?_)
  · skip
    refine Wp.n (pc' := 24) 1 rfl ?_
    refine Wp.retI (len := 1) rfl rfl ?_
    first
      | exact RCI_r rfl
      | (rw [if_neg (by rw [h6]; decide)]; exact RCI_r rfl)
  · skip
    have h6' := Bool.and_eq_true_iff.mp h6
    obtain ⟨a, ha, rfl⟩ := isN_of h6'.1
    obtain ⟨t, ht, rfl⟩ := isN_of h6'.2
    rw [if_pos h6, nI_clamp (by omega), nI_clamp (by omega)]
    refine Wp.n (pc' := 10) 1 rfl ?_
    refine Wp.get (len := 3) rfl (hO _) rfl ?_
    refine Wp.n (pc' := 16) 3 rfl ?_
    refine Wp.ecallV (len := 3) rfl rfl rfl (ra_obj (hRc _)) rfl (by decide) rfl (k_placeByRoad (hRc _) hK hDC ok (by decide) ha ht _) ?_
    refine Wp.n (pc' := 24) 1 rfl ?_
    refine Wp.retI (len := 1) rfl rfl ?_
    first
      | exact RCI_r rfl
      | (rw [if_neg (by rw [h6]; decide)]; exact RCI_r rfl)

theorem k_open (hD : HD M) (hk : RK M 36 K) (h11 : kh K 11 = 0) (x y : Int32) : Wp (d + 2) md_96 0 [some (.ref 32), some (.int x), some (.int y)] [] (cset M κ) (RCI M κ (openA K x y)) := by
  obtain ⟨ρ, hR, hK, hDC, ok, hr1, hr2⟩ := id hk
  obtain ⟨b0, b1, b2, b3, b4, b5, b6, b7, b8, b9, b10, b11, b12⟩ := ok_h ok
  obtain ⟨ow, hDo⟩ := hD.1
  have hO : ∀ κ : CS, cset M κ 32 = .inr (9, hdl ow) := fun κ => (cset_o (by omega)).trans hDo
  have hRc : ∀ κ : CS, RA (cset M κ) 36 ρ := fun κ => RA_c hR hr1 hr2
  unfold openA
  refine Wp.n (pc' := 1) 1 rfl ?_
  refine Wp.get (len := 3) rfl (hO _) rfl ?_
  refine Wp.n (pc' := 5) 1 rfl ?_
  refine Wp.ecallV (len := 3) rfl rfl rfl (ra_obj (hRc _)) rfl (by decide) rfl (k_hasLane (RK_c hk) _) ?_
  refine Wp.ifb0 (tgt := 22) (len := 3) rfl (fun h8 => ?_) (fun h8 => ?_)
  · rw [h11, Nat.add_zero] at h8
    refine Wp.n (pc' := 24) 1 rfl ?_
    refine Wp.retI (len := 1) rfl rfl ?_
    first
      | exact RCI_r (by rw [h42]; rfl)
      | (rw [if_neg (fun q => by rw [h8] at q; exact absurd q.1 (by decide))]; exact RCI_r rfl)
      | (rw [if_neg (fun q => by rw [h19] at q; exact absurd q.2 (by decide))]; exact RCI_r rfl)
  · rw [h11, Nat.add_zero] at h8
    refine Wp.n (pc' := 12) 1 rfl ?_
    refine Wp.get (len := 3) rfl (hO _) rfl ?_
    refine Wp.n (pc' := 16) 1 rfl ?_
    refine Wp.ecallV (len := 3) rfl rfl rfl (ra_obj (hRc _)) rfl (by decide) rfl (k_hasDay (RK_c hk) _) ?_
    refine Wp.ifb1 (tgt := 25) (len := 3) rfl (fun h19 => ?_) (fun h19 => ?_)
    · skip
      obtain ⟨l, hl, rfl⟩ := isN_of h8
      obtain ⟨v, hv, rfl⟩ := isN_of h19
      rw [if_pos ⟨h8, h19⟩, nI_clamp (by omega), nI_clamp (by omega)]
      refine Wp.n (pc' := 26) 1 rfl ?_
      refine Wp.get (len := 3) rfl (hO _) rfl ?_
      refine Wp.n (pc' := 30) 1 rfl ?_
      refine Wp.get (len := 3) rfl (hO _) rfl ?_
      refine Wp.get (len := 3) rfl (ra_obj (hRc _)) rfl ?_
      refine Wp.n (pc' := 37) 1 rfl ?_
      refine Wp.aaldN (j := l) (len := 1) rfl (ra_lanes (hRc _)) rfl (by omega) (by decide) (if_pos (by omega)) ?_
      refine Wp.n (pc' := 39) 1 rfl ?_
      refine Wp.ecallV (len := 3) rfl rfl rfl (ra_obj (hRc _)) rfl (by decide) rfl (by
        have e := k_isOpen (d := d + 1) (hRc κ) hK ok (l := l) (y := v) (Or.inl hl) (by omega)
        rw [show phL K l = l from if_neg (by omega)] at e
        exact e) ?_
      refine Wp.ifb0 (tgt := 49) (len := 3) rfl (fun h42 => ?_) (fun h42 => ?_)
      · skip
        refine Wp.n (pc' := 50) 1 rfl ?_
        refine Wp.retI (len := 1) rfl rfl ?_
        first
          | exact RCI_r (by rw [h42]; rfl)
          | (rw [if_neg (fun q => by rw [h8] at q; exact absurd q.1 (by decide))]; exact RCI_r rfl)
          | (rw [if_neg (fun q => by rw [h19] at q; exact absurd q.2 (by decide))]; exact RCI_r rfl)
      · skip
        refine Wp.n (pc' := 50) 2 rfl ?_
        refine Wp.retI (len := 1) rfl rfl ?_
        first
          | exact RCI_r (by rw [h42]; rfl)
          | (rw [if_neg (fun q => by rw [h8] at q; exact absurd q.1 (by decide))]; exact RCI_r rfl)
          | (rw [if_neg (fun q => by rw [h19] at q; exact absurd q.2 (by decide))]; exact RCI_r rfl)
    · skip
      refine Wp.n (pc' := 24) 1 rfl ?_
      refine Wp.retI (len := 1) rfl rfl ?_
      first
        | exact RCI_r (by rw [h42]; rfl)
        | (rw [if_neg (fun q => by rw [h8] at q; exact absurd q.1 (by decide))]; exact RCI_r rfl)
        | (rw [if_neg (fun q => by rw [h19] at q; exact absurd q.2 (by decide))]; exact RCI_r rfl)

theorem k_joins (hD : HD M) (hk : RK M 36 K) (h11 : kh K 11 = 0) (x y z : Int32) : Wp (d + 3) md_97 0 [some (.ref 32), some (.int x), some (.int y), some (.int z), none] [] (cset M κ) (RCI M κ (joinsA K x y z)) := by
  obtain ⟨ρ, hR, hK, hDC, ok, hr1, hr2⟩ := id hk
  obtain ⟨b0, b1, b2, b3, b4, b5, b6, b7, b8, b9, b10, b11, b12⟩ := ok_h ok
  obtain ⟨ow, hDo⟩ := hD.1
  have hO : ∀ κ : CS, cset M κ 32 = .inr (9, hdl ow) := fun κ => (cset_o (by omega)).trans hDo
  have hRc : ∀ κ : CS, RA (cset M κ) 36 ρ := fun κ => RA_c hR hr1 hr2
  unfold joinsA
  refine Wp.n (pc' := 4) 4 rfl ?_
  refine Wp.ecallV (len := 3) rfl rfl rfl (hO _) rfl (by decide) rfl (k_isJourney hD hk _ _ _) ?_
  refine Wp.ifb1 (tgt := 13) (len := 3) rfl (fun h7 => ?_) (fun h7 => ?_)
  · skip
    obtain ⟨a, t, v, ha, ht, hv, hat, rfl, rfl, rfl⟩ := isT_of h7
    rw [if_pos h7, nI_clamp (by omega), nI_clamp (by omega), nI_clamp (by omega)]
    refine Wp.n (pc' := 14) 1 rfl ?_
    refine Wp.get (len := 3) rfl (hO _) rfl ?_
    refine Wp.n (pc' := 20) 3 rfl ?_
    refine Wp.ecallV (len := 3) rfl rfl rfl (ra_obj (hRc _)) rfl (by decide) rfl (k_linkOf (hRc _) hK ok (by decide) (by omega) (by omega) (by omega)) ?_
    rcases hj : joinK K a t v with _ | j
    · skip
      refine Wp.n (pc' := 27) 2 rfl ?_
      refine Wp.s (pc' := 30) rfl ?_
      refine Wp.n (pc' := 31) 1 rfl ?_
      refine Wp.retI (len := 1) rfl rfl ?_
      exact RCI_r rfl
    · have hjv := joinK_v ok hj
      obtain ⟨n0, f0, q1, hf3, hlo, hhi⟩ := j_obj hR hK ok hjv
      have hjm : ∀ κ : CS, cset M κ (jad K 36 j) = .inr (1, kfs n0 f0) := fun κ => by
        rw [← q1]
        refine cset_o (Or.inr (Or.inl ?_))
        unfold jad
        rcases hjv with h | ⟨h, h5⟩
        · rw [if_pos (by omega)]; omega
        · have := LV_ph ok h5
          rw [if_neg (by omega)]; omega
      have hkind : (f0 1 = 0 ↔ j < 20) := by
        rcases hjv with h | ⟨h, h5⟩
        · exact ⟨fun _ => by omega, fun _ => (hlo (by omega)).2.1⟩
        · refine ⟨fun e => ?_, fun e => by omega⟩
          have t9 := ok_lane ok h5
          rw [(hhi h).2.1] at e
          have := (nI_eq (a := kl K (j - 20) 5 + 1) (b := 0) (by omega) (by decide)).mp e
          omega
      refine Wp.n (pc' := 27) 2 rfl ?_
      refine Wp.s (pc' := 32) rfl ?_
      refine Wp.n (pc' := 34) 1 rfl ?_
      refine Wp.get (len := 3) rfl (hjm _) rfl ?_
      refine Wp.if1 (tgt := 48) (len := 3) rfl (fun h37 => ?_) (fun h37 => ?_)
      · skip
        refine Wp.n (pc' := 52) 2 rfl ?_
        refine Wp.get (len := 3) rfl (hjm _) rfl ?_
        refine Wp.n (pc' := 56) 1 rfl ?_
        refine Wp.retI (len := 1) rfl rfl ?_
        by_cases hq : j < 20
        · refine RCI_r ?_
          first
            | exact absurd (hkind.mpr hq) h37
            | (rw [(hlo hq).1]; rfl)
        · have h20 : 20 ≤ j := by omega
          have hlv : LV K (j - 20) := by
            rcases hjv with h | ⟨h, h5⟩
            · omega
            · exact h5
          have hph : phL K (j - 20) = j - 20 := if_neg (by unfold LV at hlv; omega)
          refine RCI_r ?_
          first
            | exact absurd (hkind.mp h37) hq
            | (rw [(hhi h20).1, hph, show (20 : Int32) = nI 20 from rfl, nI_add, show 20 + (j - 20) = j by omega]; rfl)
      · skip
        refine Wp.n (pc' := 42) 1 rfl ?_
        refine Wp.get (len := 3) rfl (hjm _) rfl ?_
        refine Wp.n (pc' := 56) 1 rfl ?_
        refine Wp.retI (len := 1) rfl rfl ?_
        by_cases hq : j < 20
        · refine RCI_r ?_
          first
            | exact absurd (hkind.mpr hq) h37
            | (rw [(hlo hq).1]; rfl)
        · have h20 : 20 ≤ j := by omega
          have hlv : LV K (j - 20) := by
            rcases hjv with h | ⟨h, h5⟩
            · omega
            · exact h5
          have hph : phL K (j - 20) = j - 20 := if_neg (by unfold LV at hlv; omega)
          refine RCI_r ?_
          first
            | exact absurd (hkind.mp h37) hq
            | (rw [(hhi h20).1, hph, show (20 : Int32) = nI 20 from rfl, nI_add, show 20 + (j - 20) = j by omega]; rfl)
  · skip
    refine Wp.n (pc' := 12) 1 rfl ?_
    refine Wp.retI (len := 1) rfl rfl ?_
    rw [if_neg (by rw [h7]; decide)]
    exact RCI_r rfl

theorem k_walk (hD : HD M) (hk : RK M 36 K) (x y : Int32) : Wp (d + 3) md_99 0 [some (.ref 32), some (.int x), some (.int y), none] [] (cset M κ) (RCI M κ (walkA K x y)) := by
  obtain ⟨ρ, hR, hK, hDC, ok, hr1, hr2⟩ := id hk
  obtain ⟨b0, b1, b2, b3, b4, b5, b6, b7, b8, b9, b10, b11, b12⟩ := ok_h ok
  obtain ⟨ow, hDo⟩ := hD.1
  have hO : ∀ κ : CS, cset M κ 32 = .inr (9, hdl ow) := fun κ => (cset_o (by omega)).trans hDo
  have hRc : ∀ κ : CS, RA (cset M κ) 36 ρ := fun κ => RA_c hR hr1 hr2
  unfold walkA
  refine Wp.n (pc' := 1) 1 rfl ?_
  refine Wp.get (len := 3) rfl (hO _) rfl ?_
  refine Wp.n (pc' := 5) 1 rfl ?_
  refine Wp.ecallV (len := 3) rfl rfl rfl (ra_obj (hRc _)) rfl (by decide) rfl (k_hasWalk (RK_c hk) _) ?_
  refine Wp.ifb1 (tgt := 14) (len := 3) rfl (fun h8 => ?_) (fun h8 => ?_)
  · skip
    obtain ⟨w, hw, rfl⟩ := isN_of h8
    have q := rc_walk hK hw
    have tw := ok_walk ok hw
    have hwk : ∀ κ : CS, cset M κ (36 + 26 + 2 * w) = .inr (7, wfs (rwk ρ w) (36 + 27 + 2 * w)) := fun κ => ra_walk (hRc κ) (by omega)
    rw [nI_clamp (show w < 2 ^ 31 by omega)]
    refine Wp.n (pc' := 15) 1 rfl ?_
    refine Wp.get (len := 3) rfl (hO _) rfl ?_
    refine Wp.get (len := 3) rfl (ra_obj (hRc _)) rfl ?_
    refine Wp.n (pc' := 22) 1 rfl ?_
    refine Wp.aaldN (j := w) (len := 1) rfl (ra_walks (hRc _)) rfl (by omega) (by decide) (if_pos (by omega)) ?_
    refine Wp.n (pc' := 25) 2 rfl ?_
    by_cases h6 : isN 6 y = true
    · rw [if_pos ⟨h8, h6⟩]
      obtain ⟨k, hkk, rfl⟩ := isN_of h6
      rw [nI_clamp (by omega)]
      have ex : (nI k).toInt = (0 : Int) + k := by rw [nI_toInt (by omega)]; omega
      match k, hkk, ex with
      | 0, _, ex =>
        refine Wp.sw (len := 39) (t := 64) rfl (sw_at rfl 0 ex rfl) ?_
        refine Wp.n (pc' := 65) 1 rfl ?_
        refine Wp.get (len := 3) rfl (hwk _) rfl ?_
        refine Wp.top q.1 ?_
        refine Wp.retI (len := 1) rfl rfl ?_
        exact RCI_r rfl
      | 1, _, ex =>
        refine Wp.sw (len := 39) (t := 69) rfl (sw_at rfl 1 ex rfl) ?_
        refine Wp.n (pc' := 70) 1 rfl ?_
        refine Wp.get (len := 3) rfl (hwk _) rfl ?_
        refine Wp.top q.2.1 ?_
        refine Wp.retI (len := 1) rfl rfl ?_
        exact RCI_r rfl
      | 2, _, ex =>
        refine Wp.sw (len := 39) (t := 74) rfl (sw_at rfl 2 ex rfl) ?_
        refine Wp.n (pc' := 75) 1 rfl ?_
        refine Wp.get (len := 3) rfl (hwk _) rfl ?_
        refine Wp.top q.2.2.1 ?_
        refine Wp.retI (len := 1) rfl rfl ?_
        exact RCI_r rfl
      | 3, _, ex =>
        refine Wp.sw (len := 39) (t := 79) rfl (sw_at rfl 3 ex rfl) ?_
        refine Wp.n (pc' := 80) 1 rfl ?_
        refine Wp.ecallV (len := 3) rfl rfl rfl (hwk _) rfl (by omega) rfl (k_first (hRc _) hK ok (by decide) hw) ?_
        refine Wp.retI (len := 1) rfl rfl ?_
        exact RCI_r rfl
      | 4, _, ex =>
        refine Wp.sw (len := 39) (t := 84) rfl (sw_at rfl 4 ex rfl) ?_
        refine Wp.n (pc' := 85) 1 rfl ?_
        refine Wp.ecallV (len := 3) rfl rfl rfl (hwk _) rfl (by omega) rfl (k_last (hRc _) hK ok (by decide) hw) ?_
        refine Wp.retI (len := 1) rfl rfl ?_
        exact RCI_r rfl
      | 5, _, ex =>
        refine Wp.sw (len := 39) (t := 89) rfl (sw_at rfl 5 ex rfl) ?_
        refine Wp.n (pc' := 90) 1 rfl ?_
        refine Wp.get (len := 3) rfl (hwk _) rfl ?_
        refine Wp.top q.2.2.2.1 ?_
        refine Wp.retI (len := 1) rfl rfl ?_
        exact RCI_r rfl
    · rw [if_neg (fun q => h6 q.2)]
      refine Wp.sw (len := 39) (t := 94) rfl (sw_def rfl ?_) ?_
      · by_cases c : y.toInt < 0
        · exact Or.inl c
        · refine Or.inr ?_
          show (0 : Int) + 6 ≤ y.toInt
          by_cases c2 : y.toInt < 6
          · exact absurd (isN_f c c2) h6
          · omega
      · refine Wp.n (pc' := 96) 1 rfl ?_
        refine Wp.retI (len := 1) rfl rfl ?_
        exact RCI_r rfl
  · skip
    refine Wp.n (pc' := 13) 1 rfl ?_
    refine Wp.retI (len := 1) rfl rfl ?_
    rw [if_neg (fun q => by rw [h8] at q; exact absurd q.1 (by decide))]
    exact RCI_r rfl

theorem allW_any {a t y aim : Nat} (ok : KOK K) (ha : a < kh K 0) : ∀ w, w ∈ allW K y a t → w.2.1 ≤ 774 ∧ bitsC K w.2.2 < 2 ^ 9 := fun w hw => ⟨(allW_b ok ha hw).1, (allW_b ok ha hw).2.2.1⟩

theorem k_shortest (hD : HD M) (hk : RK M 36 K) (x y z : Int32) : Wp (d + 12) md_113 0 [some (.ref 32), some (.int x), some (.int y), some (.int z)] [] (cset M κ) (RCI M κ (shortestA K x y z)) := by
  obtain ⟨ρ, hR, hK, hDC, ok, hr1, hr2⟩ := id hk
  obtain ⟨b0, b1, b2, b3, b4, b5, b6, b7, b8, b9, b10, b11, b12⟩ := ok_h ok
  obtain ⟨ow, hDo⟩ := hD.1
  have hO : ∀ κ : CS, cset M κ 32 = .inr (9, hdl ow) := fun κ => (cset_o (by omega)).trans hDo
  have hRc : ∀ κ : CS, RA (cset M κ) 36 ρ := fun κ => RA_c hR hr1 hr2
  unfold shortestA
  refine Wp.n (pc' := 4) 4 rfl ?_
  refine Wp.ecallV (len := 3) rfl rfl rfl (hO _) rfl (by decide) rfl (k_isJourney hD hk _ _ _) ?_
  refine Wp.ifb1 (tgt := 13) (len := 3) rfl (fun h7 => ?_) (fun h7 => ?_)
  · skip
    obtain ⟨a, t, v, ha, ht, hv, hat, rfl, rfl, rfl⟩ := isT_of h7
    rw [if_pos h7, nI_clamp (by omega), nI_clamp (by omega), nI_clamp (by omega)]
    have h3 := allW_len ok (y := v) ha ht
    refine Wp.n (pc' := 14) 1 rfl ?_
    refine Wp.get (len := 3) rfl (hO _) rfl ?_
    refine Wp.n (pc' := 18) 1 rfl ?_
    refine Wp.get (len := 3) rfl (hO _) rfl ?_
    refine Wp.n (pc' := 25) 4 rfl ?_
    refine Wp.callV (len := 3) rfl rfl rfl (rfl) rfl (by decide) rfl (t_find (load := 1) hk ha ht (by omega)) ?_
    rintro _ _ ⟨rfl, κ2, rfl, hS, hW⟩
    refine Wp.n (pc' := 29) 1 rfl ?_
    refine Wp.get (len := 3) rfl (hO _) rfl ?_
    refine Wp.n (pc' := 33) 1 rfl ?_
    refine Wp.ecallV (len := 3) rfl rfl rfl (rfl) rfl (by decide) rfl (t_least (sh := 0) (P := PA K 0) hW.2 h3 (fun w hw => by rw [Nat.and_zero]; exact ⟨fun _ => rfl, fun _ => rfl⟩) (allW_any (aim := 0) ok ha)) ?_
    refine Wp.retI (len := 1) rfl rfl ?_
    first
      | exact RCI_s hS (shortW_eq (Or.inl rfl)).symm
      | (rw [if_neg (by rw [h7]; decide)]; exact RCI_r rfl)
  · skip
    refine Wp.n (pc' := 12) 1 rfl ?_
    refine Wp.retI (len := 1) rfl rfl ?_
    first
      | exact RCI_s hS (shortW_eq (Or.inl rfl)).symm
      | (rw [if_neg (by rw [h7]; decide)]; exact RCI_r rfl)

theorem k_hidden (hD : HD M) (hk : RK M 36 K) (x y z : Int32) : Wp (d + 12) md_114 0 [some (.ref 32), some (.int x), some (.int y), some (.int z)] [] (cset M κ) (RCI M κ (hiddenA K x y z)) := by
  obtain ⟨ρ, hR, hK, hDC, ok, hr1, hr2⟩ := id hk
  obtain ⟨b0, b1, b2, b3, b4, b5, b6, b7, b8, b9, b10, b11, b12⟩ := ok_h ok
  obtain ⟨ow, hDo⟩ := hD.1
  have hO : ∀ κ : CS, cset M κ 32 = .inr (9, hdl ow) := fun κ => (cset_o (by omega)).trans hDo
  have hRc : ∀ κ : CS, RA (cset M κ) 36 ρ := fun κ => RA_c hR hr1 hr2
  unfold hiddenA
  refine Wp.n (pc' := 4) 4 rfl ?_
  refine Wp.ecallV (len := 3) rfl rfl rfl (hO _) rfl (by decide) rfl (k_isJourney hD hk _ _ _) ?_
  refine Wp.ifb1 (tgt := 13) (len := 3) rfl (fun h7 => ?_) (fun h7 => ?_)
  · skip
    obtain ⟨a, t, v, ha, ht, hv, hat, rfl, rfl, rfl⟩ := isT_of h7
    rw [if_pos h7, nI_clamp (by omega), nI_clamp (by omega), nI_clamp (by omega)]
    have h3 := allW_len ok (y := v) ha ht
    refine Wp.n (pc' := 14) 1 rfl ?_
    refine Wp.get (len := 3) rfl (hO _) rfl ?_
    refine Wp.n (pc' := 18) 1 rfl ?_
    refine Wp.get (len := 3) rfl (hO _) rfl ?_
    refine Wp.n (pc' := 25) 4 rfl ?_
    refine Wp.callV (len := 3) rfl rfl rfl (rfl) rfl (by decide) rfl (t_find (load := 1) hk ha ht (by omega)) ?_
    rintro _ _ ⟨rfl, κ2, rfl, hS, hW⟩
    refine Wp.n (pc' := 29) 1 rfl ?_
    refine Wp.get (len := 3) rfl (hO _) rfl ?_
    refine Wp.n (pc' := 33) 1 rfl ?_
    refine Wp.get (len := 3) rfl (hO _) rfl ?_
    refine Wp.ecallV (len := 3) rfl rfl rfl (ra_obj (hRc _)) rfl (by decide) rfl (k_watchedLanes (hRc _) hK ok) ?_
    refine Wp.ecallV (len := 3) rfl rfl rfl (rfl) rfl (by decide) rfl (t_least (sh := watC K) (P := PA K 1) hW.2 h3 (fun w hw => by
      rw [watC_and ok (allW_b ok ha hw).2.1]
      show _ ↔ (!(w.2.2.any (watP K))) = true
      cases w.2.2.any (watP K) <;> decide) (allW_any (aim := 1) ok ha)) ?_
    refine Wp.retI (len := 1) rfl rfl ?_
    first
      | exact RCI_s hS (shortW_eq (Or.inr rfl)).symm
      | (rw [if_neg (by rw [h7]; decide)]; exact RCI_r rfl)
  · skip
    refine Wp.n (pc' := 12) 1 rfl ?_
    refine Wp.retI (len := 1) rfl rfl ?_
    first
      | exact RCI_s hS (shortW_eq (Or.inr rfl)).symm
      | (rw [if_neg (by rw [h7]; decide)]; exact RCI_r rfl)

theorem k_ways (hD : HD M) (hk : RK M 36 K) (x y z : Int32) : Wp (d + 12) md_119 0 [some (.ref 32), some (.int x), some (.int y), some (.int z)] [] (cset M κ) (RCI M κ (waysA K x y z)) := by
  obtain ⟨ρ, hR, hK, hDC, ok, hr1, hr2⟩ := id hk
  obtain ⟨b0, b1, b2, b3, b4, b5, b6, b7, b8, b9, b10, b11, b12⟩ := ok_h ok
  obtain ⟨ow, hDo⟩ := hD.1
  have hO : ∀ κ : CS, cset M κ 32 = .inr (9, hdl ow) := fun κ => (cset_o (by omega)).trans hDo
  have hRc : ∀ κ : CS, RA (cset M κ) 36 ρ := fun κ => RA_c hR hr1 hr2
  unfold waysA
  refine Wp.n (pc' := 4) 4 rfl ?_
  refine Wp.ecallV (len := 3) rfl rfl rfl (hO _) rfl (by decide) rfl (k_isJourney hD hk _ _ _) ?_
  refine Wp.ifb1 (tgt := 13) (len := 3) rfl (fun h7 => ?_) (fun h7 => ?_)
  · skip
    obtain ⟨a, t, v, ha, ht, hv, hat, rfl, rfl, rfl⟩ := isT_of h7
    rw [if_pos h7, nI_clamp (by omega), nI_clamp (by omega), nI_clamp (by omega)]
    have h3 := allW_len ok (y := v) ha ht
    refine Wp.n (pc' := 14) 1 rfl ?_
    refine Wp.get (len := 3) rfl (hO _) rfl ?_
    refine Wp.n (pc' := 18) 1 rfl ?_
    refine Wp.get (len := 3) rfl (hO _) rfl ?_
    refine Wp.n (pc' := 25) 4 rfl ?_
    refine Wp.callV (len := 3) rfl rfl rfl (rfl) rfl (by decide) rfl (t_find (load := 1) hk ha ht (by omega)) ?_
    rintro _ _ ⟨rfl, κ2, rfl, hS, hW⟩
    refine Wp.n (pc' := 29) 1 rfl ?_
    refine Wp.get (len := 3) rfl (hO _) rfl ?_
    refine Wp.get (len := 3) rfl (rfl) rfl ?_
    refine Wp.top hW.2.1 ?_
    refine Wp.retI (len := 1) rfl rfl ?_
    first
      | exact RCI_s hS (by rw [fin0_len])
      | (rw [if_neg (by rw [h7]; decide)]; exact RCI_r rfl)
  · skip
    refine Wp.n (pc' := 12) 1 rfl ?_
    refine Wp.retI (len := 1) rfl rfl ?_
    first
      | exact RCI_s hS (by rw [fin0_len])
      | (rw [if_neg (by rw [h7]; decide)]; exact RCI_r rfl)

theorem k_best (hD : HD M) (hk : RK M 36 K) (x y z l k : Int32) : Wp (d + 12) md_115 0 [some (.ref 32), some (.int x), some (.int y), some (.int z), some (.int l), some (.int k), none] [] (cset M κ) (RCI M κ (bestA K x y z l k)) := by
  obtain ⟨ρ, hR, hK, hDC, ok, hr1, hr2⟩ := id hk
  obtain ⟨b0, b1, b2, b3, b4, b5, b6, b7, b8, b9, b10, b11, b12⟩ := ok_h ok
  obtain ⟨ow, hDo⟩ := hD.1
  have hO : ∀ κ : CS, cset M κ 32 = .inr (9, hdl ow) := fun κ => (cset_o (by omega)).trans hDo
  have hRc : ∀ κ : CS, RA (cset M κ) 36 ρ := fun κ => RA_c hR hr1 hr2
  unfold bestA
  refine Wp.n (pc' := 4) 4 rfl ?_
  refine Wp.ecallV (len := 3) rfl rfl rfl (hO _) rfl (by decide) rfl (k_isJourney hD hk _ _ _) ?_
  refine Wp.ifb0 (tgt := 29) (len := 3) rfl (fun h7 => ?_) (fun h7 => ?_)
  · skip
    refine Wp.n (pc' := 31) 1 rfl ?_
    refine Wp.retI (len := 1) rfl rfl ?_
    first
      | (rw [if_neg (fun q => by rw [h7] at q; exact absurd q.1 (by decide))]; exact RCI_r rfl)
      | (rw [if_neg (fun q => by rw [show isR 1 9 l = false from h15] at q; exact absurd q.2.1 (by decide))]; exact RCI_r rfl)
      | (rw [if_neg (fun q => by have := of_decide_eq_true q.2.2; have e1 : k.toInt < 0 := h20; omega)]; exact RCI_r rfl)
      | (rw [if_neg (fun q => by have := of_decide_eq_true q.2.2; have e1 : ¬ k.toInt ≤ 3 := h26; omega)]; exact RCI_r rfl)
  · skip
    refine Wp.n (pc' := 12) 1 rfl ?_
    refine Wp.ecallS (len := 3) rfl rfl rfl rfl (c_isLoad _) ?_
    refine Wp.ifb0 (tgt := 29) (len := 3) rfl (fun h15 => ?_) (fun h15 => ?_)
    · skip
      refine Wp.n (pc' := 31) 1 rfl ?_
      refine Wp.retI (len := 1) rfl rfl ?_
      first
        | (rw [if_neg (fun q => by rw [h7] at q; exact absurd q.1 (by decide))]; exact RCI_r rfl)
        | (rw [if_neg (fun q => by rw [show isR 1 9 l = false from h15] at q; exact absurd q.2.1 (by decide))]; exact RCI_r rfl)
        | (rw [if_neg (fun q => by have := of_decide_eq_true q.2.2; have e1 : k.toInt < 0 := h20; omega)]; exact RCI_r rfl)
        | (rw [if_neg (fun q => by have := of_decide_eq_true q.2.2; have e1 : ¬ k.toInt ≤ 3 := h26; omega)]; exact RCI_r rfl)
    · skip
      refine Wp.n (pc' := 20) 1 rfl ?_
      refine Wp.if2 (tgt := 29) (len := 3) rfl (fun h20 => ?_) (fun h20 => ?_)
      · rw [i_lt] at h20
        refine Wp.n (pc' := 31) 1 rfl ?_
        refine Wp.retI (len := 1) rfl rfl ?_
        first
          | (rw [if_neg (fun q => by rw [h7] at q; exact absurd q.1 (by decide))]; exact RCI_r rfl)
          | (rw [if_neg (fun q => by rw [show isR 1 9 l = false from h15] at q; exact absurd q.2.1 (by decide))]; exact RCI_r rfl)
          | (rw [if_neg (fun q => by have := of_decide_eq_true q.2.2; have e1 : k.toInt < 0 := h20; omega)]; exact RCI_r rfl)
          | (rw [if_neg (fun q => by have := of_decide_eq_true q.2.2; have e1 : ¬ k.toInt ≤ 3 := h26; omega)]; exact RCI_r rfl)
      · rw [i_lt] at h20
        refine Wp.n (pc' := 26) 2 rfl ?_
        refine Wp.ic5 (tgt := 32) (len := 3) rfl (fun h26 => ?_) (fun h26 => ?_)
        · rw [i_le] at h26
          obtain ⟨a, t, v, ha, ht, hv, hat, rfl, rfl, rfl⟩ := isT_of h7
          obtain ⟨l, hl1, hl9, hl, rfl⟩ := isR_of (lo := 1) (hi := 9) h15
          have h3 := allW_len ok (y := v) ha ht
          have hk4 : isN 4 k = true := decide_eq_true (by have e1 : ¬ k.toInt < 0 := h20; have e2 : k.toInt ≤ 3 := h26; omega)
          obtain ⟨k, hk4', rfl⟩ := isN_of hk4
          rw [if_pos ⟨h7, h15, hk4⟩, nI_clamp (by omega), nI_clamp (by omega), nI_clamp (by omega), nI_clamp hl, nI_clamp (by omega)]
          unfold bestW
          refine Wp.n (pc' := 33) 1 rfl ?_
          refine Wp.get (len := 3) rfl (hO _) rfl ?_
          refine Wp.n (pc' := 37) 1 rfl ?_
          refine Wp.get (len := 3) rfl (hO _) rfl ?_
          refine Wp.n (pc' := 45) 4 rfl ?_
          refine Wp.callV (len := 3) rfl rfl rfl (rfl) rfl (by decide) rfl (t_find (load := l) hk ha ht (by omega)) ?_
          rintro _ _ ⟨rfl, κ2, rfl, hS, hW⟩
          refine Wp.n (pc' := 49) 1 rfl ?_
          refine Wp.get (len := 3) rfl (hO _) rfl ?_
          refine Wp.ecallV (len := 3) rfl rfl rfl (rfl) rfl (by decide) rfl (t_best hk ha (by omega) hl9 hW h3) ?_
          rcases best_eq (K := K) (t := t) (y := v) (load := l) (dn := 0) ok ha hl9 with ⟨e0, eb⟩ | ⟨e0, b, eb, hb, eC, eL, eD, eP⟩
          · rw [if_pos e0, eb]
            refine Wp.n (pc' := 60) 3 rfl ?_
            refine Wp.ic1 (tgt := 65) (len := 3) rfl (fun h60 => ?_) (fun h60 => ?_)
            · exact absurd rfl h60
            · skip
              refine Wp.n (pc' := 64) 1 rfl ?_
              refine Wp.retI (len := 1) rfl rfl ?_
              exact RCI_s hS rfl
          · rw [if_neg (by omega), eb, eC, eL, eD, eP]
            obtain ⟨n1, n2, n3, n4⟩ := hW.2.2 b hb
            refine Wp.n (pc' := 60) 3 rfl ?_
            refine Wp.ic1 (tgt := 65) (len := 3) rfl (fun h60 => ?_) (fun h60 => ?_)
            · skip
              refine Wp.n (pc' := 67) 1 rfl ?_
              have ex : (nI k).toInt = (0 : Int) + k := by rw [nI_toInt (by omega)]; omega
              match k, hk4', ex with
              | 0, _, ex =>
                refine Wp.sw (len := 25) (t := 92) rfl (sw_at rfl 0 ex rfl) ?_
                refine Wp.n (pc' := 93) 1 rfl ?_
                refine Wp.get (len := 3) rfl (hO _) rfl ?_
                refine Wp.n (pc' := 98) 1 rfl ?_
                refine Wp.ecallV (len := 3) rfl rfl rfl (rfl) rfl (by decide) rfl (t_costOf hk ha (by omega) hl9 hW hb h3) ?_
                refine Wp.retI (len := 1) rfl rfl ?_
                exact RCI_s hS rfl
              | 1, _, ex =>
                refine Wp.sw (len := 25) (t := 102) rfl (sw_at rfl 1 ex rfl) ?_
                refine Wp.n (pc' := 103) 1 rfl ?_
                refine Wp.get (len := 3) rfl (hO _) rfl ?_
                refine Wp.get (len := 3) rfl (rfl) rfl ?_
                refine Wp.n (pc' := 111) 1 rfl ?_
                refine Wp.ialdN (j := b) (len := 1) rfl (rfl) rfl (by omega) (by decide) ?_
                refine Wp.top n2 ?_
                refine Wp.retI (len := 1) rfl rfl ?_
                exact RCI_s hS rfl
              | 2, _, ex =>
                refine Wp.sw (len := 25) (t := 113) rfl (sw_at rfl 2 ex rfl) ?_
                refine Wp.n (pc' := 114) 1 rfl ?_
                refine Wp.get (len := 3) rfl (hO _) rfl ?_
                refine Wp.n (pc' := 120) 2 rfl ?_
                refine Wp.ecallV (len := 3) rfl rfl rfl (rfl) rfl (by decide) rfl (t_dutyOf hk ha (by omega) hl9 hW hb h3 (m := 0) (by decide)) ?_
                refine Wp.retI (len := 1) rfl rfl ?_
                exact RCI_s hS rfl
              | 3, _, ex =>
                refine Wp.sw (len := 25) (t := 124) rfl (sw_def rfl (Or.inr (by rw [ex]; decide))) ?_
                refine Wp.n (pc' := 125) 1 rfl ?_
                refine Wp.get (len := 3) rfl (hO _) rfl ?_
                refine Wp.get (len := 3) rfl (rfl) rfl ?_
                refine Wp.n (pc' := 133) 1 rfl ?_
                refine Wp.ialdN (j := b) (len := 1) rfl (rfl) rfl (by omega) (by decide) ?_
                refine Wp.top n1 ?_
                refine Wp.retI (len := 1) rfl rfl ?_
                exact RCI_s hS rfl
              
            · exact absurd h60 (oI_ne (by omega))
          
        · rw [i_le] at h26
          refine Wp.n (pc' := 31) 1 rfl ?_
          refine Wp.retI (len := 1) rfl rfl ?_
          first
            | (rw [if_neg (fun q => by rw [h7] at q; exact absurd q.1 (by decide))]; exact RCI_r rfl)
            | (rw [if_neg (fun q => by rw [show isR 1 9 l = false from h15] at q; exact absurd q.2.1 (by decide))]; exact RCI_r rfl)
            | (rw [if_neg (fun q => by have := of_decide_eq_true q.2.2; have e1 : k.toInt < 0 := h20; omega)]; exact RCI_r rfl)
            | (rw [if_neg (fun q => by have := of_decide_eq_true q.2.2; have e1 : ¬ k.toInt ≤ 3 := h26; omega)]; exact RCI_r rfl)

theorem k_goes (hD : HD M) (hk : RK M 36 K) (x y z l i : Int32) : Wp (d + 12) md_118 0 [some (.ref 32), some (.int x), some (.int y), some (.int z), some (.int l), some (.int i)] [] (cset M κ) (RCI M κ (goesA K x y z l i)) := by
  obtain ⟨ρ, hR, hK, hDC, ok, hr1, hr2⟩ := id hk
  obtain ⟨b0, b1, b2, b3, b4, b5, b6, b7, b8, b9, b10, b11, b12⟩ := ok_h ok
  obtain ⟨ow, hDo⟩ := hD.1
  have hO : ∀ κ : CS, cset M κ 32 = .inr (9, hdl ow) := fun κ => (cset_o (by omega)).trans hDo
  have hRc : ∀ κ : CS, RA (cset M κ) 36 ρ := fun κ => RA_c hR hr1 hr2
  unfold goesA
  refine Wp.n (pc' := 4) 4 rfl ?_
  refine Wp.ecallV (len := 3) rfl rfl rfl (hO _) rfl (by decide) rfl (k_isJourney hD hk _ _ _) ?_
  refine Wp.ifb0 (tgt := 18) (len := 3) rfl (fun h7 => ?_) (fun h7 => ?_)
  · skip
    refine Wp.n (pc' := 20) 1 rfl ?_
    refine Wp.retI (len := 1) rfl rfl ?_
    first
      | (rw [if_neg (fun q => by rw [h7] at q; exact absurd q.1 (by decide))]; exact RCI_r rfl)
      | (rw [if_neg (fun q => by rw [show isR 1 9 l = false from h15] at q; exact absurd q.2 (by decide))]; exact RCI_r rfl)
  · skip
    refine Wp.n (pc' := 12) 1 rfl ?_
    refine Wp.ecallS (len := 3) rfl rfl rfl rfl (c_isLoad _) ?_
    refine Wp.ifb1 (tgt := 21) (len := 3) rfl (fun h15 => ?_) (fun h15 => ?_)
    · skip
      obtain ⟨a, t, v, ha, ht, hv, hat, rfl, rfl, rfl⟩ := isT_of h7
      obtain ⟨l, hl1, hl9, hl, rfl⟩ := isR_of (lo := 1) (hi := 9) h15
      have h3 := allW_len ok (y := v) ha ht
      rw [if_pos ⟨h7, h15⟩, nI_clamp (by omega), nI_clamp (by omega), nI_clamp (by omega), nI_clamp hl]
      unfold goesW
      refine Wp.n (pc' := 22) 1 rfl ?_
      refine Wp.get (len := 3) rfl (hO _) rfl ?_
      refine Wp.n (pc' := 26) 1 rfl ?_
      refine Wp.get (len := 3) rfl (hO _) rfl ?_
      refine Wp.n (pc' := 34) 4 rfl ?_
      refine Wp.callV (len := 3) rfl rfl rfl (rfl) rfl (by decide) rfl (t_find (load := l) hk ha ht (by omega)) ?_
      rintro _ _ ⟨rfl, κ2, rfl, hS, hW⟩
      refine Wp.n (pc' := 38) 1 rfl ?_
      refine Wp.get (len := 3) rfl (hO _) rfl ?_
      refine Wp.n (pc' := 42) 1 rfl ?_
      refine Wp.get (len := 3) rfl (hO _) rfl ?_
      refine Wp.ecallV (len := 3) rfl rfl rfl (rfl) rfl (by decide) rfl (t_best hk ha (by omega) hl9 hW h3) ?_
      refine Wp.n (pc' := 50) 1 rfl ?_
      refine Wp.ecallV (len := 3) rfl rfl rfl (rfl) rfl (by decide) rfl (t_placeOf ok ha hW h3 (fun b hb => bstK_b ok ha hl9 hb) i) ?_
      refine Wp.retI (len := 1) rfl rfl ?_
      rcases best_eq (K := K) (t := t) (y := v) (load := l) (dn := 0) ok ha hl9 with ⟨e0, eb⟩ | ⟨e0, b, eb, hb, eC, eL, eD, eP⟩
      · rw [if_neg (fun q => by have := q.1; omega), eb]
        exact RCI_s hS rfl
      · rw [eb, eP]
        refine RCI_s hS ?_
        by_cases c : isN ((allW K v a t).getD b wy0).1.length i = true
        · rw [if_pos ⟨e0, c⟩]
          show (if isN ((allW K v a t).getD b wy0).1.length i = true then _ else _) = _
          rw [if_pos c]
        · rw [if_neg (fun q => c q.2)]
          show (if isN ((allW K v a t).getD b wy0).1.length i = true then _ else _) = _
          rw [if_neg c]
    · skip
      refine Wp.n (pc' := 20) 1 rfl ?_
      refine Wp.retI (len := 1) rfl rfl ?_
      first
        | (rw [if_neg (fun q => by rw [h7] at q; exact absurd q.1 (by decide))]; exact RCI_r rfl)
        | (rw [if_neg (fun q => by rw [show isR 1 9 l = false from h15] at q; exact absurd q.2 (by decide))]; exact RCI_r rfl)

/-- the ways of a told walk -/
def WRw (κ : CS) (K : KD) (r w : Nat) : Prop := WR κ K r (kw K w 4) (kw K w (3 + kw K w 3)) (kw K w 2) (kw K w 1)
theorem walk_b (ok : KOK K) {w : Nat} (hw : w < kh K 4) : kw K w 4 < kh K 0 ∧ kw K w (3 + kw K w 3) < kh K 0 ∧ kw K w 2 < 31 ∧ kw K w 1 ≤ 9 ∧ (allW K (kw K w 2) (kw K w 4) (kw K w (3 + kw K w 3))).length ≤ 326 := by
  have b1 := (ok_h ok).2.1
  have tw := ok_walk ok hw
  have p0 := tw.2.2.2.2.2.2.1 0 (by omega)
  have p1 := tw.2.2.2.2.2.2.1 (kw K w 3 - 1) (by omega)
  rw [show 4 + (kw K w 3 - 1) = 3 + kw K w 3 by omega] at p1
  exact ⟨p0, p1, by omega, tw.2.2.1, allW_len ok p0 p1⟩
theorem k_findForWalk (hD : HD M) (hk : RK M r K) {w : Nat} (hw : w < kh K 4) : Wp (d + 12) md_123 0 [some (.ref 32), some (.ref r), some (.int (nI w)), none] [] (cset M κ) (fun v M' => v = none ∧ ∃ κ', M' = cset M κ' ∧ ScC κ κ' ∧ WRw κ' K r w) := by
  obtain ⟨ρ, hR, hK, hDC, ok, hr1, hr2⟩ := id hk
  obtain ⟨b0, b1, b2, b3, b4, b5, b6, b7, b8, b9, b10, b11, b12⟩ := ok_h ok
  obtain ⟨ow, hDo⟩ := hD.1
  have hO : ∀ κ : CS, cset M κ 32 = .inr (9, hdl ow) := fun κ => (cset_o (by omega)).trans hDo
  have hRc : ∀ κ : CS, RA (cset M κ) r ρ := fun κ => RA_c hR hr1 hr2
  have q := rc_walk hK hw
  obtain ⟨p0, p1, p2, p3, p4⟩ := walk_b ok hw
  have hwk : ∀ κ : CS, cset M κ (r + 26 + 2 * w) = .inr (7, wfs (rwk ρ w) (r + 27 + 2 * w)) := fun κ => ra_walk (hRc κ) (by omega)
  refine Wp.n (pc' := 1) 1 rfl ?_
  refine Wp.get (len := 3) rfl (ra_obj (hRc _)) rfl ?_
  refine Wp.n (pc' := 5) 1 rfl ?_
  refine Wp.aaldN (j := w) (len := 1) rfl (ra_walks (hRc _)) rfl (by omega) (by decide) (if_pos (by omega)) ?_
  refine Wp.n (pc' := 8) 2 rfl ?_
  refine Wp.get (len := 3) rfl (hO _) rfl ?_
  refine Wp.n (pc' := 13) 2 rfl ?_
  refine Wp.ecallV (len := 3) rfl rfl rfl (hwk _) rfl (by omega) rfl (k_first (hRc _) hK ok (by omega) hw) ?_
  refine Wp.n (pc' := 17) 1 rfl ?_
  refine Wp.ecallV (len := 3) rfl rfl rfl (hwk _) rfl (by omega) rfl (k_last (hRc _) hK ok (by omega) hw) ?_
  refine Wp.n (pc' := 21) 1 rfl ?_
  refine Wp.get (len := 3) rfl (hwk _) rfl ?_
  refine Wp.top q.2.2.1 ?_
  refine Wp.n (pc' := 25) 1 rfl ?_
  refine Wp.get (len := 3) rfl (hwk _) rfl ?_
  refine Wp.top q.2.1 ?_
  refine Wp.callV (len := 3) rfl rfl rfl (rfl) rfl (by decide) rfl (t_find hk p0 p1 p2) ?_
  rintro _ _ ⟨rfl, κ2, rfl, hS, hW⟩
  refine Wp.retV (len := 1) rfl rfl ?_
  exact ⟨rfl, κ2, rfl, hS, hW⟩

theorem k_bestShare (hD : HD M) (hk : RK M r K) {w k : Nat} (hw : w < kh K 4) (hk4 : k < 4) (hW : WRw κ K r w) : Ev (d + 11) md_124 0 [some (.ref 32), some (.int (oI (bstK K (kw K w 4) (kw K w (3 + kw K w 3)) (kw K w 2) (kw K w 1)))), some (.int (nI k))] [] (cset M κ) (some (.int (nI (shareK K k w))), cset M κ) := by
  obtain ⟨ρ, hR, hK, hDC, ok, hr1, hr2⟩ := id hk
  obtain ⟨b0, b1, b2, b3, b4, b5, b6, b7, b8, b9, b10, b11, b12⟩ := ok_h ok
  obtain ⟨ow, hDo⟩ := hD.1
  have hO : ∀ κ : CS, cset M κ 32 = .inr (9, hdl ow) := fun κ => (cset_o (by omega)).trans hDo
  have hRc : ∀ κ : CS, RA (cset M κ) r ρ := fun κ => RA_c hR hr1 hr2
  obtain ⟨p0, p1, p2, p3, p4⟩ := walk_b ok hw
  refine Wp.toEv ?_
  unfold shareK
  rcases best_eq (K := K) (t := kw K w (3 + kw K w 3)) (y := kw K w 2) (load := kw K w 1) (dn := 0) ok p0 p3 with ⟨e0, eb⟩ | ⟨e0, b, eb, hb, eC, eL, eD, eP⟩
  · rw [if_pos (show (finW K w).1 = 0 from e0), eb]
    refine Wp.n (pc' := 2) 2 rfl ?_
    refine Wp.ic1 (tgt := 16) (len := 3) rfl (fun h2 => ?_) (fun h2 => ?_)
    · exact absurd rfl h2
    · skip
      refine Wp.n (pc' := 7) 2 rfl ?_
      refine Wp.nc1 (x := k) (y := 3) (tgt := 14) (len := 3) rfl (by omega) (by omega) (fun h7 => ?_) (fun h7 => ?_)
      · skip
        refine Wp.n (pc' := 15) 1 rfl ?_
        refine Wp.retI (len := 1) rfl rfl ?_
        first
          | exact ⟨by rw [if_pos h7]; rfl, rfl⟩
          | exact ⟨by rw [if_neg h7]; rfl, rfl⟩
      · skip
        refine Wp.n (pc' := 15) 2 rfl ?_
        refine Wp.retI (len := 1) rfl rfl ?_
        first
          | exact ⟨by rw [if_pos h7]; rfl, rfl⟩
          | exact ⟨by rw [if_neg h7]; rfl, rfl⟩
  · obtain ⟨n1, n2, n3, n4⟩ := hW.2.2 b hb
    rw [if_neg (show ¬ (finW K w).1 = 0 from fun q => by have e0' : 0 < (finW K w).1 := e0; omega), eb, show bD (finW K w) = _ from eD, show (finW K w).2.1 = _ from eC, show (finW K w).2.2.1 = _ from eL]
    refine Wp.n (pc' := 2) 2 rfl ?_
    refine Wp.ic1 (tgt := 16) (len := 3) rfl (fun h2 => ?_) (fun h2 => ?_)
    · skip
      refine Wp.n (pc' := 17) 1 rfl ?_
      have ex : (nI k).toInt = (0 : Int) + k := by rw [nI_toInt (by omega)]; omega
      match k, hk4, ex with
      | 0, _, ex =>
        refine Wp.sw (len := 27) (t := 44) rfl (sw_at rfl 0 ex rfl) ?_
        refine Wp.n (pc' := 45) 1 rfl ?_
        refine Wp.get (len := 3) rfl (hO _) rfl ?_
        refine Wp.n (pc' := 50) 2 rfl ?_
        refine Wp.ecallV (len := 3) rfl rfl rfl (rfl) rfl (by decide) rfl (t_dutyOf hk p0 p2 p3 hW hb p4 (m := 0) (by decide)) ?_
        refine Wp.retI (len := 1) rfl rfl ?_
        exact ⟨rfl, rfl⟩
      | 1, _, ex =>
        refine Wp.sw (len := 27) (t := 54) rfl (sw_at rfl 1 ex rfl) ?_
        refine Wp.n (pc' := 55) 1 rfl ?_
        refine Wp.get (len := 3) rfl (hO _) rfl ?_
        refine Wp.n (pc' := 59) 1 rfl ?_
        refine Wp.ecallV (len := 3) rfl rfl rfl (rfl) rfl (by decide) rfl (t_costOf hk p0 p2 p3 hW hb p4) ?_
        refine Wp.retI (len := 1) rfl rfl ?_
        exact ⟨rfl, rfl⟩
      | 2, _, ex =>
        refine Wp.sw (len := 27) (t := 63) rfl (sw_at rfl 2 ex rfl) ?_
        refine Wp.n (pc' := 64) 1 rfl ?_
        refine Wp.get (len := 3) rfl (hO _) rfl ?_
        refine Wp.get (len := 3) rfl (rfl) rfl ?_
        refine Wp.n (pc' := 71) 1 rfl ?_
        refine Wp.ialdN (j := b) (len := 1) rfl (rfl) rfl (by omega) (by decide) ?_
        refine Wp.top n2 ?_
        refine Wp.retI (len := 1) rfl rfl ?_
        exact ⟨rfl, rfl⟩
      | 3, _, ex =>
        refine Wp.sw (len := 27) (t := 73) rfl (sw_def rfl (Or.inr (by rw [ex]; decide))) ?_
        refine Wp.n (pc' := 74) 1 rfl ?_
        refine Wp.retI (len := 1) rfl rfl ?_
        exact ⟨rfl, rfl⟩
      
    · exact absurd h2 (oI_ne (by omega))

theorem k_bestSum_l (hD : HD M) (hk : RK M r K) {k : Nat} (hk4 : k < 4) : ∀ (n w s : Nat) (κ2 : CS), w + n = kh K 4 → ScC κ κ2 → Wp (d + 13) md_122 5 [some (.ref 32), some (.ref r), some (.int (nI k)), some (.int (nI s)), some (.int (nI w))] [] (cset M κ2) (RCI M κ (nI (fld (fun s w => s + shareK K k w) n w s))) := by
  obtain ⟨ρ, hR, hK, hDC, ok, hr1, hr2⟩ := id hk
  obtain ⟨b0, b1, b2, b3, b4, b5, b6, b7, b8, b9, b10, b11, b12⟩ := ok_h ok
  obtain ⟨ow, hDo⟩ := hD.1
  have hO : ∀ κ : CS, cset M κ 32 = .inr (9, hdl ow) := fun κ => (cset_o (by omega)).trans hDo
  have hRc : ∀ κ : CS, RA (cset M κ) r ρ := fun κ => RA_c hR hr1 hr2
  intro n
  induction n with
  | zero =>
    intro w s κ2 hw hS
    refine Wp.n (pc' := 8) 2 rfl ?_
    refine Wp.get (len := 3) rfl (ra_obj (hRc _)) rfl ?_
    refine Wp.top (rc_wk hK) ?_
    refine Wp.nc3 (x := w) (y := kh K 4) (tgt := 42) (len := 3) rfl (by omega) (by omega) (fun h11 => ?_) (fun h11 => ?_)
    · skip
      refine Wp.n (pc' := 43) 1 rfl ?_
      refine Wp.retI (len := 1) rfl rfl ?_
      exact RCI_s hS rfl
    · omega
  | succ n ih =>
    intro w s κ2 hw hS
    obtain ⟨p0, p1, p2, p3, p4⟩ := walk_b ok (w := w) (by omega)
    show Wp _ _ _ _ _ _ (RCI M κ (nI (fld (fun s w => s + shareK K k w) n (w + 1) (s + shareK K k w))))
    refine Wp.n (pc' := 8) 2 rfl ?_
    refine Wp.get (len := 3) rfl (ra_obj (hRc _)) rfl ?_
    refine Wp.top (rc_wk hK) ?_
    refine Wp.nc3 (x := w) (y := kh K 4) (tgt := 42) (len := 3) rfl (by omega) (by omega) (fun h11 => ?_) (fun h11 => ?_)
    · omega
    · skip
      refine Wp.n (pc' := 18) 3 rfl ?_
      refine Wp.callV (len := 3) rfl rfl rfl (hO _) rfl (by decide) rfl (k_findForWalk hD hk (w := w) (by omega)) ?_
      rintro _ _ ⟨rfl, κ3, rfl, hS3, hW⟩
      refine Wp.n (pc' := 24) 3 rfl ?_
      refine Wp.get (len := 3) rfl (hO _) rfl ?_
      refine Wp.ecallV (len := 3) rfl rfl rfl (rfl) rfl (by decide) rfl (t_best hk p0 p2 p3 hW p4) ?_
      refine Wp.n (pc' := 31) 1 rfl ?_
      refine Wp.ecallV (len := 3) rfl rfl rfl (hO _) rfl (by decide) rfl (k_bestShare hD hk (by omega) hk4 hW) ?_
      refine Wp.iaddN (x := s) (y := shareK K k w) (len := 1) rfl ?_
      refine Wp.n (pc' := 36) 1 rfl ?_
      refine Wp.incN (x := w) (len := 3) rfl rfl ?_
      refine Wp.n (pc' := 5) 1 rfl ?_
      exact ih (w + 1) _ κ3 (by omega) (ScC_t hS hS3)

theorem k_bestSum (hD : HD M) (hk : RK M r K) {k : Nat} (hk4 : k < 4) : Wp (d + 13) md_122 0 [some (.ref 32), some (.ref r), some (.int (nI k)), none, none] [] (cset M κ) (RCI M κ (nI (allK K k))) := by
  refine Wp.n (pc' := 5) 4 rfl ?_
  exact k_bestSum_l hD hk hk4 (kh K 4) 0 0 κ (by omega) ScC_r
theorem k_isSumN (x : Int32) : Ev (d + 1) md_121 0 [some (.int x)] [] M (some (.int (bI (isN 4 x))), M) := by
  have w := c_isSum (d := d) (M := M) x
  rw [show decide (0 ≤ x.toInt ∧ x.toInt ≤ 3) = isR 0 3 x from rfl, isR_0] at w
  exact w
theorem k_all (hD : HD M) (hk : RK M 36 K) (x : Int32) : Wp (d + 14) md_120 0 [some (.ref 32), some (.int x)] [] (cset M κ) (RCI M κ (allA K x)) := by
  obtain ⟨ρ, hR, hK, hDC, ok, hr1, hr2⟩ := id hk
  obtain ⟨b0, b1, b2, b3, b4, b5, b6, b7, b8, b9, b10, b11, b12⟩ := ok_h ok
  obtain ⟨ow, hDo⟩ := hD.1
  have hO : ∀ κ : CS, cset M κ 32 = .inr (9, hdl ow) := fun κ => (cset_o (by omega)).trans hDo
  have hRc : ∀ κ : CS, RA (cset M κ) 36 ρ := fun κ => RA_c hR hr1 hr2
  unfold allA
  refine Wp.n (pc' := 1) 1 rfl ?_
  refine Wp.get (len := 3) rfl (hO _) rfl ?_
  refine Wp.ecallV (len := 3) rfl rfl rfl (ra_obj (hRc _)) rfl (by decide) rfl (k_exists (RK_c hk)) ?_
  refine Wp.ifb0 (tgt := 29) (len := 3) rfl (fun h7 => ?_) (fun h7 => ?_)
  · skip
    refine Wp.n (pc' := 31) 1 rfl ?_
    refine Wp.retI (len := 1) rfl rfl ?_
    first
      | exact RCI_s hS rfl
      | (rw [if_neg (fun q => of_decide_eq_false h7 q.1)]; exact RCI_r rfl)
      | (rw [if_neg (fun q => by rw [h14] at q; exact absurd q.2 (by decide))]; exact RCI_r rfl)
  · skip
    refine Wp.n (pc' := 11) 1 rfl ?_
    refine Wp.ecallS (len := 3) rfl rfl rfl rfl (k_isSumN _) ?_
    refine Wp.ifb0 (tgt := 29) (len := 3) rfl (fun h14 => ?_) (fun h14 => ?_)
    · skip
      refine Wp.n (pc' := 31) 1 rfl ?_
      refine Wp.retI (len := 1) rfl rfl ?_
      first
        | exact RCI_s hS rfl
        | (rw [if_neg (fun q => of_decide_eq_false h7 q.1)]; exact RCI_r rfl)
        | (rw [if_neg (fun q => by rw [h14] at q; exact absurd q.2 (by decide))]; exact RCI_r rfl)
    · skip
      obtain ⟨k, hk4, rfl⟩ := isN_of h14
      rw [if_pos ⟨of_decide_eq_true h7, h14⟩, nI_clamp (by omega)]
      refine Wp.n (pc' := 19) 2 rfl ?_
      refine Wp.get (len := 3) rfl (hO _) rfl ?_
      refine Wp.n (pc' := 23) 1 rfl ?_
      refine Wp.callV (len := 3) rfl rfl rfl (hO _) rfl (by decide) rfl (k_bestSum hD hk hk4) ?_
      rintro _ _ ⟨rfl, κ2, rfl, hS⟩
      refine Wp.n (pc' := 31) 1 rfl ?_
      refine Wp.retI (len := 1) rfl rfl ?_
      first
        | exact RCI_s hS rfl
        | (rw [if_neg (fun q => of_decide_eq_false h7 q.1)]; exact RCI_r rfl)
        | (rw [if_neg (fun q => by rw [h14] at q; exact absurd q.2 (by decide))]; exact RCI_r rfl)


theorem k_paid (hD : HD M) (hk : RK M 36 K) (h11 : kh K 11 = 0) (x y : Int32) : Wp (d + 13) md_137 0 [some (.ref 32), some (.int x), some (.int y)] [] (cset M κ) (RCI M κ (paidA K x y)) := by
  obtain ⟨ρ, hR, hK, hDC, ok, hr1, hr2⟩ := id hk
  obtain ⟨b0, b1, b2, b3, b4, b5, b6, b7, b8, b9, b10, b11, b12⟩ := ok_h ok
  obtain ⟨ow, hDo⟩ := hD.1
  have hO : ∀ κ : CS, cset M κ 32 = .inr (9, hdl ow) := fun κ => (cset_o (by omega)).trans hDo
  have hRc : ∀ κ : CS, RA (cset M κ) 36 ρ := fun κ => RA_c hR hr1 hr2
  unfold paidA
  refine Wp.n (pc' := 1) 1 rfl ?_
  refine Wp.get (len := 3) rfl (hO _) rfl ?_
  refine Wp.n (pc' := 5) 1 rfl ?_
  refine Wp.ecallV (len := 3) rfl rfl rfl (ra_obj (hRc _)) rfl (by decide) rfl (k_hasWalk (RK_c hk) _) ?_
  refine Wp.ifb0 (tgt := 15) (len := 3) rfl (fun h8 => ?_) (fun h8 => ?_)
  · skip
    refine Wp.n (pc' := 17) 1 rfl ?_
    refine Wp.retI (len := 1) rfl rfl ?_
    first
      | exact RCI_s hS (congrArg nI hE.1.symm)
      | (rw [if_neg (fun q => by rw [h8] at q; exact absurd q.1 (by decide))]; exact RCI_r rfl)
      | (rw [if_neg (fun q => h12 q.2)]; exact RCI_r rfl)
  · skip
    refine Wp.n (pc' := 12) 1 rfl ?_
    refine Wp.if3 (tgt := 18) (len := 3) rfl (fun h12 => ?_) (fun h12 => ?_)
    · skip
      obtain ⟨w, hw, rfl⟩ := isN_of h8
      obtain ⟨m, hm, rfl⟩ := ge_of h12
      obtain ⟨p0, p1, p2, p3, p4⟩ := walk_b ok hw
      have hE := owe_eq (K := K) (t := kw K w (3 + kw K w 3)) (y := kw K w 2) (load := kw K w 1) (dn := m) ok h11 p0 p3 hm
      rw [if_pos ⟨h8, h12⟩, nI_clamp (by omega), nI_clamp hm]
      refine Wp.n (pc' := 20) 2 rfl ?_
      refine Wp.get (len := 3) rfl (hO _) rfl ?_
      refine Wp.n (pc' := 24) 1 rfl ?_
      refine Wp.callV (len := 3) rfl rfl rfl (hO _) rfl (by decide) rfl (k_findForWalk hD hk hw) ?_
      rintro _ _ ⟨rfl, κ2, rfl, hS, hW⟩
      refine Wp.n (pc' := 28) 1 rfl ?_
      refine Wp.get (len := 3) rfl (hO _) rfl ?_
      refine Wp.n (pc' := 32) 1 rfl ?_
      refine Wp.i2lM (x := m) (len := 1) rfl (by omega) ?_
      refine Wp.ecallV (len := 3) rfl rfl rfl (rfl) rfl (by decide) rfl (t_count hk p0 p2 p3 hW p4 (lN m)) ?_
      refine Wp.retI (len := 1) rfl rfl ?_
      first
        | exact RCI_s hS (congrArg nI hE.1.symm)
        | (rw [if_neg (fun q => by rw [h8] at q; exact absurd q.1 (by decide))]; exact RCI_r rfl)
        | (rw [if_neg (fun q => h12 q.2)]; exact RCI_r rfl)
    · skip
      refine Wp.n (pc' := 17) 1 rfl ?_
      refine Wp.retI (len := 1) rfl rfl ?_
      first
        | exact RCI_s hS (congrArg nI hE.1.symm)
        | (rw [if_neg (fun q => by rw [h8] at q; exact absurd q.1 (by decide))]; exact RCI_r rfl)
        | (rw [if_neg (fun q => h12 q.2)]; exact RCI_r rfl)

theorem k_sure (hD : HD M) (hk : RK M 36 K) (h11 : kh K 11 = 0) (x y : Int32) : Wp (d + 13) md_138 0 [some (.ref 32), some (.int x), some (.int y)] [] (cset M κ) (RCI M κ (sureA K x y)) := by
  obtain ⟨ρ, hR, hK, hDC, ok, hr1, hr2⟩ := id hk
  obtain ⟨b0, b1, b2, b3, b4, b5, b6, b7, b8, b9, b10, b11, b12⟩ := ok_h ok
  obtain ⟨ow, hDo⟩ := hD.1
  have hO : ∀ κ : CS, cset M κ 32 = .inr (9, hdl ow) := fun κ => (cset_o (by omega)).trans hDo
  have hRc : ∀ κ : CS, RA (cset M κ) 36 ρ := fun κ => RA_c hR hr1 hr2
  unfold sureA
  refine Wp.n (pc' := 1) 1 rfl ?_
  refine Wp.get (len := 3) rfl (hO _) rfl ?_
  refine Wp.n (pc' := 5) 1 rfl ?_
  refine Wp.ecallV (len := 3) rfl rfl rfl (ra_obj (hRc _)) rfl (by decide) rfl (k_hasWalk (RK_c hk) _) ?_
  refine Wp.ifb0 (tgt := 15) (len := 3) rfl (fun h8 => ?_) (fun h8 => ?_)
  · skip
    refine Wp.n (pc' := 17) 1 rfl ?_
    refine Wp.retI (len := 1) rfl rfl ?_
    first
      | (refine RCI_s hS ?_
         by_cases c : (finP K 3 w m).1 = 0
         · rw [if_pos c, hE.2.2.mp (hE.1.symm.trans c)]
           rfl
         · rw [if_neg c]
           exact congrArg oI hE.2.1.symm)
      | (rw [if_neg (fun q => by rw [h8] at q; exact absurd q.1 (by decide))]; exact RCI_r rfl)
      | (rw [if_neg (fun q => h12 q.2)]; exact RCI_r rfl)
  · skip
    refine Wp.n (pc' := 12) 1 rfl ?_
    refine Wp.if3 (tgt := 18) (len := 3) rfl (fun h12 => ?_) (fun h12 => ?_)
    · skip
      obtain ⟨w, hw, rfl⟩ := isN_of h8
      obtain ⟨m, hm, rfl⟩ := ge_of h12
      obtain ⟨p0, p1, p2, p3, p4⟩ := walk_b ok hw
      have hE := owe_eq (K := K) (t := kw K w (3 + kw K w 3)) (y := kw K w 2) (load := kw K w 1) (dn := m) ok h11 p0 p3 hm
      rw [if_pos ⟨h8, h12⟩, nI_clamp (by omega), nI_clamp hm]
      refine Wp.n (pc' := 20) 2 rfl ?_
      refine Wp.get (len := 3) rfl (hO _) rfl ?_
      refine Wp.n (pc' := 24) 1 rfl ?_
      refine Wp.callV (len := 3) rfl rfl rfl (hO _) rfl (by decide) rfl (k_findForWalk hD hk hw) ?_
      rintro _ _ ⟨rfl, κ2, rfl, hS, hW⟩
      refine Wp.n (pc' := 28) 1 rfl ?_
      refine Wp.get (len := 3) rfl (hO _) rfl ?_
      refine Wp.n (pc' := 32) 1 rfl ?_
      refine Wp.ecallV (len := 3) rfl rfl rfl (rfl) rfl (by decide) rfl (t_common hk p0 p2 p3 hW p4 hm) ?_
      refine Wp.retI (len := 1) rfl rfl ?_
      first
        | (refine RCI_s hS ?_
           by_cases c : (finP K 3 w m).1 = 0
           · rw [if_pos c, hE.2.2.mp (hE.1.symm.trans c)]
             rfl
           · rw [if_neg c]
             exact congrArg oI hE.2.1.symm)
        | (rw [if_neg (fun q => by rw [h8] at q; exact absurd q.1 (by decide))]; exact RCI_r rfl)
        | (rw [if_neg (fun q => h12 q.2)]; exact RCI_r rfl)
    · skip
      refine Wp.n (pc' := 17) 1 rfl ?_
      refine Wp.retI (len := 1) rfl rfl ?_
      first
        | (refine RCI_s hS ?_
           by_cases c : (finP K 3 w m).1 = 0
           · rw [if_pos c, hE.2.2.mp (hE.1.symm.trans c)]
             rfl
           · rw [if_neg c]
             exact congrArg oI hE.2.1.symm)
        | (rw [if_neg (fun q => by rw [h8] at q; exact absurd q.1 (by decide))]; exact RCI_r rfl)
        | (rw [if_neg (fun q => h12 q.2)]; exact RCI_r rfl)

end QW
end
section
/-! REALMS that become others; a new lane, a bent road, another law, in the class. -/
section RPUT
variable {d : Nat} {X : MD} {pc len : Nat} {l : AL} {st : List Value} {M : AM} {Q : Option Value → AM → Prop} {r : Nat} {ρ : RC} {v : Value}
theorem Wp.rput {x : Int32} (j : Nat) (hj : (Nat.ble j 3 || Nat.beq j 6 || Nat.beq j 8 || Nat.beq j 10) = true) (hc : cdx X pc = some (.inr (.inr (1, 3, j, v)), len)) (h : Wp d X (pc + len) l st (rset M r (hset ρ j x)) Q) : Wp d X pc l (.int x :: .ref r :: st) (rset M r ρ) Q := by
  have hj' : j = 0 ∨ j = 1 ∨ j = 2 ∨ j = 3 ∨ j = 6 ∨ j = 8 ∨ j = 10 := by
    rw [Bool.or_eq_true, Bool.or_eq_true, Bool.or_eq_true] at hj
    rcases hj with ((q | q) | q) | q
    · have := Nat.le_of_ble_eq_true q; omega
    · have := Nat.eq_of_beq_eq_true q; omega
    · have := Nat.eq_of_beq_eq_true q; omega
    · have := Nat.eq_of_beq_eq_true q; omega
  have e := ru_hd (M := M) (r := r) (ρ := ρ) (x := x) hj'
  rw [← e] at h
  rcases hj' with rfl | rfl | rfl | rfl | rfl | rfl | rfl <;> exact Wp.put hc rs_obj rfl h
theorem Wp.wput {x : Int32} (j : Nat) (hj : Nat.ble j 4 = true) (hc : cdx X pc = some (.inr (.inr (1, 0, j, v)), len)) (h : Wp d X (pc + len) l st (rset M r (wset ρ j x)) Q) : Wp d X pc l (.int x :: .ref (r + 1) :: st) (rset M r ρ) Q := by
  have h4 := Nat.le_of_ble_eq_true hj
  have e := ru_lw (M := M) (r := r) (ρ := ρ) (j := j) (x := x) (by omega)
  rw [← e] at h
  obtain rfl | rfl | rfl | rfl | rfl : j = 0 ∨ j = 1 ∨ j = 2 ∨ j = 3 ∨ j = 4 := by omega
  all_goals exact Wp.put hc rs_law rfl h
theorem Wp.kputR {x : Int32} {i : Nat} (j : Nat) (hj : (Nat.ble 1 j && Nat.ble j 6) = true) (hi : i < 12) (hc : cdx X pc = some (.inr (.inr (1, 1, j, v)), len)) (h : Wp d X (pc + len) l st (rset M r (kset ρ i j x)) Q) : Wp d X pc l (.int x :: .ref (r + 3 + i) :: st) (rset M r ρ) Q := by
  rw [Bool.and_eq_true] at hj
  have h1 := Nat.le_of_ble_eq_true hj.1
  have h6 := Nat.le_of_ble_eq_true hj.2
  have e := ru_road (M := M) (r := r) (ρ := ρ) (x := x) hi h1 h6
  rw [← e] at h
  obtain rfl | rfl | rfl | rfl | rfl | rfl : j = 1 ∨ j = 2 ∨ j = 3 ∨ j = 4 ∨ j = 5 ∨ j = 6 := by omega
  all_goals exact Wp.put hc (rs_road hi) rfl h
theorem Wp.kputL {x : Int32} {i : Nat} (j : Nat) (hj : (Nat.ble 1 j && Nat.ble j 6) = true) (hi : i < 9) (hc : cdx X pc = some (.inr (.inr (1, 1, j, v)), len)) (h : Wp d X (pc + len) l st (rset M r (kset ρ (12 + i) j x)) Q) : Wp d X pc l (.int x :: .ref (r + 16 + i) :: st) (rset M r ρ) Q := by
  rw [Bool.and_eq_true] at hj
  have h1 := Nat.le_of_ble_eq_true hj.1
  have h6 := Nat.le_of_ble_eq_true hj.2
  have e := ru_lane (M := M) (r := r) (ρ := ρ) (x := x) hi h1 h6
  rw [← e] at h
  obtain rfl | rfl | rfl | rfl | rfl | rfl : j = 1 ∨ j = 2 ∨ j = 3 ∨ j = 4 ∨ j = 5 ∨ j = 6 := by omega
  all_goals exact Wp.put hc (rs_lane hi) rfl h
theorem Wp.gput {x : Int32} {i : Nat} (j : Nat) (hj : Nat.ble j 3 = true) (hi : i < 10) (hc : cdx X pc = some (.inr (.inr (1, 7, j, v)), len)) (h : Wp d X (pc + len) l st (rset M r (gset ρ i j x)) Q) : Wp d X pc l (.int x :: .ref (r + 26 + 2 * i) :: st) (rset M r ρ) Q := by
  have h3 := Nat.le_of_ble_eq_true hj
  have e := ru_walk (M := M) (r := r) (ρ := ρ) (j := j) (x := x) hi h3
  rw [← e] at h
  obtain rfl | rfl | rfl | rfl : j = 0 ∨ j = 1 ∨ j = 2 ∨ j = 3 := by omega
  all_goals exact Wp.put hc (rs_walk hi) rfl h
theorem Wp.acopy {k0 k n0 n1 sp dp m : Nat} {a b : Nat} {f g : Nat → Int32} (hc : cdx X pc = some (.inr (.inr (9, a, b, v)), len)) (h0 : M k0 = .inl (0, n0, .inl f)) (h1 : M k = .inl (0, n1, .inl g)) (hs : sp + m ≤ n0) (hp : dp + m ≤ n1) (hn0 : n0 < 2 ^ 31) (hn1 : n1 < 2 ^ 31) (hr : Nat.blt 4 st.length = false) (hd : 8 ≤ d) (h : Wp d X (pc + len) l st (va_up M k (.inl (0, n1, .inl (va_cpy f g sp dp m)))) Q) : Wp d X pc l (.int (nI m) :: .int (nI dp) :: .ref k :: .int (nI sp) :: .ref k0 :: st) M Q := by
  refine Wp.bi hc (by decide) ?_ hd h
  show (bif decide (nI m < 0) || decide (nI dp < 0) || decide (nI sp < 0) || Nat.blt 4 st.length then none else (match M k0, M k with
      | .inl (t0, n0, .inl f), .inl (t1, n1, .inl g) => bif Nat.beq t0 0 && Nat.beq t1 0 && Nat.ble ((nI sp).toNatClampNeg + (nI m).toNatClampNeg) n0 && Nat.ble ((nI dp).toNatClampNeg + (nI m).toNatClampNeg) n1 then some (st, va_up M k (.inl (0, n1, .inl (va_cpy f g (nI sp).toNatClampNeg (nI dp).toNatClampNeg (nI m).toNatClampNeg)))) else none
      | .inl (t0, n0, .inr (.inl f)), .inl (t1, n1, .inr (.inl g)) => bif Nat.beq t0 1 && Nat.beq t1 1 && Nat.ble ((nI sp).toNatClampNeg + (nI m).toNatClampNeg) n0 && Nat.ble ((nI dp).toNatClampNeg + (nI m).toNatClampNeg) n1 then some (st, va_up M k (.inl (1, n1, .inr (.inl (va_cpy f g (nI sp).toNatClampNeg (nI dp).toNatClampNeg (nI m).toNatClampNeg))))) else none
      | _, _ => none)) = _
  rw [decide_eq_false (nI_pos (show m < 2 ^ 31 by omega)), decide_eq_false (nI_pos (show dp < 2 ^ 31 by omega)), decide_eq_false (nI_pos (show sp < 2 ^ 31 by omega)), hr, h0, h1, nI_clamp (show m < 2 ^ 31 by omega), nI_clamp (show dp < 2 ^ 31 by omega), nI_clamp (show sp < 2 ^ 31 by omega)]
  show (bif Nat.ble (sp + m) n0 && Nat.ble (dp + m) n1 then _ else _) = _
  rw [Nat.ble_eq_true_of_le hs, Nat.ble_eq_true_of_le hp]
  rfl
end RPUT
theorem rlk_ks {ρ : RC} {i j : Nat} {x : Int32} : rlk (kset ρ i j x) i = upd (rlk ρ i) j x := va_up_self _ _ _
theorem rlk_kn {ρ : RC} {i j q : Nat} {x : Int32} (h : q ≠ i) : rlk (kset ρ i j x) q = rlk ρ q := va_up_ne _ _ h
theorem rwk_gs {ρ : RC} {i j : Nat} {x : Int32} : rwk (gset ρ i j x) i = upd (rwk ρ i) j x := va_up_self _ _ _
theorem rwk_gn {ρ : RC} {i j q : Nat} {x : Int32} (h : q ≠ i) : rwk (gset ρ i j x) q = rwk ρ q := va_up_ne _ _ h
theorem rst_ts {ρ : RC} {i : Nat} {f : Nat → Int32} : rst (tset ρ i f) i = f := va_up_self _ _ _
theorem rst_tn {ρ : RC} {i q : Nat} {f : Nat → Int32} (h : q ≠ i) : rst (tset ρ i f) q = rst ρ q := va_up_ne _ _ h
theorem rwk_t {ρ : RC} {i : Nat} {f : Nat → Int32} : rwk (tset ρ i f) = rwk ρ := rfl
theorem rst_g {ρ : RC} {i j : Nat} {x : Int32} : rst (gset ρ i j x) = rst ρ := rfl
section BECOME
variable {d : Nat} {M : AM} {r s : Nat} {ρ ρs : RC} {K : KD} {Q : Option Value → AM → Prop}
theorem RA_s (hS : RA M s ρs) (hd : s + 47 ≤ r ∨ r + 47 ≤ s) (ρ : RC) : RA (rset M r ρ) s ρs := RA_of hS (fun k h1 h2 => rset_ne (by omega))
theorem rset_rset {M : AM} {r : Nat} {ρ ρ' : RC} : rset (rset M r ρ) r ρ' = rset M r ρ' := by
  funext k
  unfold rset
  by_cases h : r ≤ k ∧ k < r + 47
  · rw [if_pos h, if_pos h]
  · rw [if_neg h, if_neg h, if_neg h]
theorem k_lawBecome (hS : RA M s ρs) (hds : s + 47 ≤ r ∨ r + 47 ≤ s) : Wp d md_2 0 [some (.ref (r + 1)), some (.ref (s + 1))] [] (rset M r ρ) (fun v M' => v = none ∧ ∃ ρ', M' = rset M r ρ' ∧ ρ'.1 = ρ.1 ∧ ρ'.2.2 = ρ.2.2 ∧ ∀ j, j < 5 → rlw ρ' j = rlw ρs j) := by
  have hSc := RA_s (r := r) hS hds
  refine Wp.n (pc' := 2) 2 rfl ?_
  refine Wp.get (len := 3) rfl (ra_law (hSc _)) rfl ?_
  refine Wp.wput 0 rfl (len := 3) rfl ?_
  refine Wp.n (pc' := 10) 2 rfl ?_
  refine Wp.get (len := 3) rfl (ra_law (hSc _)) rfl ?_
  refine Wp.wput 1 rfl (len := 3) rfl ?_
  refine Wp.n (pc' := 18) 2 rfl ?_
  refine Wp.get (len := 3) rfl (ra_law (hSc _)) rfl ?_
  refine Wp.wput 2 rfl (len := 3) rfl ?_
  refine Wp.n (pc' := 26) 2 rfl ?_
  refine Wp.get (len := 3) rfl (ra_law (hSc _)) rfl ?_
  refine Wp.wput 3 rfl (len := 3) rfl ?_
  refine Wp.n (pc' := 34) 2 rfl ?_
  refine Wp.get (len := 3) rfl (ra_law (hSc _)) rfl ?_
  refine Wp.wput 4 rfl (len := 3) rfl ?_
  refine Wp.retV (len := 1) rfl rfl ?_
  refine ⟨rfl, _, rfl, rfl, rfl, fun j hj => ?_⟩
  match j, hj with
  | 0, _ => rfl
  | 1, _ => rfl
  | 2, _ => rfl
  | 3, _ => rfl
  | 4, _ => rfl


theorem k_roadBecome (hS : RA M s ρs) (hds : s + 47 ≤ r ∨ r + 47 ≤ s) {i : Nat} (hi : i < 12) : Wp d md_7 0 [some (.ref (r + 3 + i)), some (.ref (s + 3 + i))] [] (rset M r ρ) (fun v M' => v = none ∧ ∃ ρ', M' = rset M r ρ' ∧ ρ'.1 = ρ.1 ∧ ρ'.2.1 = ρ.2.1 ∧ ρ'.2.2.2 = ρ.2.2.2 ∧ (∀ q, q ≠ i → rlk ρ' q = rlk ρ q) ∧ ∀ j, 1 ≤ j → j ≤ 6 → rlk ρ' (i) j = rlk ρs (i) j) := by
  have hSc := RA_s (r := r) hS hds
  refine Wp.n (pc' := 2) 2 rfl ?_
  refine Wp.get (len := 3) rfl (ra_road (hSc _) hi) rfl ?_
  refine Wp.kputR 1 rfl hi (len := 3) rfl ?_
  refine Wp.n (pc' := 10) 2 rfl ?_
  refine Wp.get (len := 3) rfl (ra_road (hSc _) hi) rfl ?_
  refine Wp.kputR 2 rfl hi (len := 3) rfl ?_
  refine Wp.n (pc' := 18) 2 rfl ?_
  refine Wp.get (len := 3) rfl (ra_road (hSc _) hi) rfl ?_
  refine Wp.kputR 3 rfl hi (len := 3) rfl ?_
  refine Wp.n (pc' := 26) 2 rfl ?_
  refine Wp.get (len := 3) rfl (ra_road (hSc _) hi) rfl ?_
  refine Wp.kputR 4 rfl hi (len := 3) rfl ?_
  refine Wp.n (pc' := 34) 2 rfl ?_
  refine Wp.get (len := 3) rfl (ra_road (hSc _) hi) rfl ?_
  refine Wp.kputR 5 rfl hi (len := 3) rfl ?_
  refine Wp.n (pc' := 42) 2 rfl ?_
  refine Wp.get (len := 3) rfl (ra_road (hSc _) hi) rfl ?_
  refine Wp.kputR 6 rfl hi (len := 3) rfl ?_
  refine Wp.retV (len := 1) rfl rfl ?_
  refine ⟨rfl, _, rfl, rfl, rfl, rfl, fun q hq => ?_, fun j h1 h6 => ?_⟩
  · rw [rlk_kn hq, rlk_kn hq, rlk_kn hq, rlk_kn hq, rlk_kn hq, rlk_kn hq]
  · rw [rlk_ks, rlk_ks, rlk_ks, rlk_ks, rlk_ks, rlk_ks]
    obtain rfl | rfl | rfl | rfl | rfl | rfl : j = 1 ∨ j = 2 ∨ j = 3 ∨ j = 4 ∨ j = 5 ∨ j = 6 := by omega
    all_goals rfl

theorem k_laneBecome (hS : RA M s ρs) (hds : s + 47 ≤ r ∨ r + 47 ≤ s) {i : Nat} (hi : i < 9) : Wp d md_7 0 [some (.ref (r + 16 + i)), some (.ref (s + 16 + i))] [] (rset M r ρ) (fun v M' => v = none ∧ ∃ ρ', M' = rset M r ρ' ∧ ρ'.1 = ρ.1 ∧ ρ'.2.1 = ρ.2.1 ∧ ρ'.2.2.2 = ρ.2.2.2 ∧ (∀ q, q ≠ 12 + i → rlk ρ' q = rlk ρ q) ∧ ∀ j, 1 ≤ j → j ≤ 6 → rlk ρ' (12 + i) j = rlk ρs (12 + i) j) := by
  have hSc := RA_s (r := r) hS hds
  refine Wp.n (pc' := 2) 2 rfl ?_
  refine Wp.get (len := 3) rfl (ra_lane (hSc _) hi) rfl ?_
  refine Wp.kputL 1 rfl hi (len := 3) rfl ?_
  refine Wp.n (pc' := 10) 2 rfl ?_
  refine Wp.get (len := 3) rfl (ra_lane (hSc _) hi) rfl ?_
  refine Wp.kputL 2 rfl hi (len := 3) rfl ?_
  refine Wp.n (pc' := 18) 2 rfl ?_
  refine Wp.get (len := 3) rfl (ra_lane (hSc _) hi) rfl ?_
  refine Wp.kputL 3 rfl hi (len := 3) rfl ?_
  refine Wp.n (pc' := 26) 2 rfl ?_
  refine Wp.get (len := 3) rfl (ra_lane (hSc _) hi) rfl ?_
  refine Wp.kputL 4 rfl hi (len := 3) rfl ?_
  refine Wp.n (pc' := 34) 2 rfl ?_
  refine Wp.get (len := 3) rfl (ra_lane (hSc _) hi) rfl ?_
  refine Wp.kputL 5 rfl hi (len := 3) rfl ?_
  refine Wp.n (pc' := 42) 2 rfl ?_
  refine Wp.get (len := 3) rfl (ra_lane (hSc _) hi) rfl ?_
  refine Wp.kputL 6 rfl hi (len := 3) rfl ?_
  refine Wp.retV (len := 1) rfl rfl ?_
  refine ⟨rfl, _, rfl, rfl, rfl, rfl, fun q hq => ?_, fun j h1 h6 => ?_⟩
  · rw [rlk_kn hq, rlk_kn hq, rlk_kn hq, rlk_kn hq, rlk_kn hq, rlk_kn hq]
  · rw [rlk_ks, rlk_ks, rlk_ks, rlk_ks, rlk_ks, rlk_ks]
    obtain rfl | rfl | rfl | rfl | rfl | rfl : j = 1 ∨ j = 2 ∨ j = 3 ∨ j = 4 ∨ j = 5 ∨ j = 6 := by omega
    all_goals rfl

theorem k_walkBecome (hS : RA M s ρs) (hds : s + 47 ≤ r ∨ r + 47 ≤ s) {i : Nat} (hi : i < 10) : Wp (d + 8) md_70 0 [some (.ref (r + 26 + 2 * i)), some (.ref (s + 26 + 2 * i))] [] (rset M r ρ) (fun v M' => v = none ∧ ∃ ρ', M' = rset M r ρ' ∧ ρ'.1 = ρ.1 ∧ ρ'.2.1 = ρ.2.1 ∧ rlk ρ' = rlk ρ ∧ rds ρ' = rds ρ ∧ (∀ q, q ≠ i → rwk ρ' q = rwk ρ q ∧ rst ρ' q = rst ρ q) ∧ (∀ j, j ≤ 3 → rwk ρ' i j = rwk ρs i j) ∧ ∀ j, j < 7 → rst ρ' i j = rst ρs i j) := by
  have hSc := RA_s (r := r) hS hds
  refine Wp.n (pc' := 2) 2 rfl ?_
  refine Wp.get (len := 3) rfl (ra_walk (hSc _) hi) rfl ?_
  refine Wp.gput 0 rfl hi (len := 3) rfl ?_
  refine Wp.n (pc' := 10) 2 rfl ?_
  refine Wp.get (len := 3) rfl (ra_walk (hSc _) hi) rfl ?_
  refine Wp.gput 1 rfl hi (len := 3) rfl ?_
  refine Wp.n (pc' := 18) 2 rfl ?_
  refine Wp.get (len := 3) rfl (ra_walk (hSc _) hi) rfl ?_
  refine Wp.gput 2 rfl hi (len := 3) rfl ?_
  refine Wp.n (pc' := 26) 2 rfl ?_
  refine Wp.get (len := 3) rfl (ra_walk (hSc _) hi) rfl ?_
  refine Wp.gput 3 rfl hi (len := 3) rfl ?_
  refine Wp.n (pc' := 33) 1 rfl ?_
  refine Wp.get (len := 3) rfl (ra_walk (hSc _) hi) rfl ?_
  refine Wp.n (pc' := 38) 2 rfl ?_
  refine Wp.get (len := 3) rfl (rs_walk hi) rfl ?_
  refine Wp.n (pc' := 44) 2 rfl ?_
  refine Wp.acopy (sp := 0) (dp := 0) (m := 7) (len := 3) rfl (ra_stops (hSc _) hi) (rs_stops hi) (by decide) (by decide) (by decide) (by decide) rfl (by omega) ?_
  rw [ru_stops hi]
  refine Wp.retV (len := 1) rfl rfl ?_
  refine ⟨rfl, _, rfl, rfl, rfl, rfl, rfl, fun q hq => ⟨?_, ?_⟩, fun j hj => ?_, fun j hj => ?_⟩
  · rw [rwk_t, rwk_gn hq, rwk_gn hq, rwk_gn hq, rwk_gn hq]
  · rw [rst_tn hq, rst_g, rst_g, rst_g, rst_g]
  · rw [rwk_t, rwk_gs, rwk_gs, rwk_gs, rwk_gs]
    obtain rfl | rfl | rfl | rfl : j = 0 ∨ j = 1 ∨ j = 2 ∨ j = 3 := by omega
    all_goals rfl
  · rw [rst_ts, pk_cpy_in (Nat.zero_le _) (by omega), show 0 + (j - 0) = j by omega]

/-- what a realm has taken over of another -/
def BC (ρ' ρs : RC) (a b c : Nat) : Prop := (∀ q, q < a → ∀ j, 1 ≤ j → j ≤ 6 → rlk ρ' q j = rlk ρs q j) ∧ (∀ q, q < b → ∀ j, 1 ≤ j → j ≤ 6 → rlk ρ' (12 + q) j = rlk ρs (12 + q) j) ∧ ∀ q, q < c → (∀ j, j ≤ 3 → rwk ρ' q j = rwk ρs q j) ∧ ∀ j, j < 7 → rst ρ' q j = rst ρs q j
theorem k_become_1 (hS : RA M s ρs) (hds : s + 47 ≤ r ∨ r + 47 ≤ s) (hr : 32 ≤ r) {m : Nat} (hm : m ≤ 12) : ∀ (n i : Nat) (ρ : RC), i + n = m → rhd ρ 6 = nI m → BC ρ ρs i 0 0 → (∀ ρ', ρ'.1 = ρ.1 → ρ'.2.1 = ρ.2.1 → BC ρ' ρs m 0 0 → Wp (d + 9) md_32 82 [some (.ref r), some (.ref s), some (.int (nI m))] [] (rset M r ρ') Q) → Wp (d + 9) md_32 53 [some (.ref r), some (.ref s), some (.int (nI i))] [] (rset M r ρ) Q := by
  have hSc := RA_s (r := r) hS hds
  intro n
  induction n with
  | zero =>
    intro i ρ hi hh hB kk
    refine Wp.n (pc' := 55) 2 rfl ?_
    refine Wp.get (len := 3) rfl (rs_obj) rfl ?_
    refine Wp.top hh ?_
    refine Wp.nc3 (x := i) (y := m) (tgt := 82) (len := 3) rfl (by omega) (by omega) (fun h58 => ?_) (fun h58 => ?_)
    · skip
      obtain rfl : i = m := by omega
      exact kk ρ rfl rfl hB
    · omega
  | succ n ih =>
    intro i ρ hi hh hB kk
    refine Wp.n (pc' := 55) 2 rfl ?_
    refine Wp.get (len := 3) rfl (rs_obj) rfl ?_
    refine Wp.top hh ?_
    refine Wp.nc3 (x := i) (y := m) (tgt := 82) (len := 3) rfl (by omega) (by omega) (fun h58 => ?_) (fun h58 => ?_)
    · omega
    · skip
      refine Wp.n (pc' := 62) 1 rfl ?_
      refine Wp.get (len := 3) rfl (rs_obj) rfl ?_
      refine Wp.n (pc' := 66) 1 rfl ?_
      refine Wp.aaldN (j := i) (len := 1) rfl (rs_roads) rfl (by omega) (by decide) (if_pos (by omega)) ?_
      refine Wp.n (pc' := 68) 1 rfl ?_
      refine Wp.get (len := 3) rfl (ra_obj (hSc _)) rfl ?_
      refine Wp.n (pc' := 72) 1 rfl ?_
      refine Wp.aaldN (j := i) (len := 1) rfl (ra_roads (hSc _)) rfl (by omega) (by decide) (if_pos (by omega)) ?_
      refine Wp.callV (len := 3) rfl rfl rfl (rs_road (by omega)) rfl (by omega) rfl (k_roadBecome hS hds (by omega)) ?_
      rintro _ _ ⟨rfl, ρ2, rfl, e1, e2, e3, e4, e5⟩
      refine Wp.incN (x := i) (len := 3) rfl rfl ?_
      refine Wp.n (pc' := 53) 1 rfl ?_
      refine ih (i + 1) ρ2 (by omega) (by show ρ2.1 6 = _; rw [e1]; exact hh) ⟨fun q hq j h1 h6 => ?_, fun q hq => absurd hq (Nat.not_lt_zero q), fun q hq => absurd hq (Nat.not_lt_zero q)⟩ (fun ρ3 g1 g2 g3 => kk ρ3 (g1.trans e1) (g2.trans e2) g3)
      by_cases c : q = i
      · rw [c]; exact e5 j h1 h6
      · rw [e4 q c]; exact hB.1 q (by omega) j h1 h6

theorem k_become_2 (hS : RA M s ρs) (hds : s + 47 ≤ r ∨ r + 47 ≤ s) (hr : 32 ≤ r) {m a : Nat} (hm : m ≤ 9) (ha : a ≤ 12) : ∀ (n i : Nat) (ρ : RC), i + n = m → rhd ρ 8 = nI m → BC ρ ρs a i 0 → (∀ ρ', ρ'.1 = ρ.1 → ρ'.2.1 = ρ.2.1 → BC ρ' ρs a m 0 → Wp (d + 9) md_32 121 [some (.ref r), some (.ref s), some (.int (nI m))] [] (rset M r ρ') Q) → Wp (d + 9) md_32 92 [some (.ref r), some (.ref s), some (.int (nI i))] [] (rset M r ρ) Q := by
  have hSc := RA_s (r := r) hS hds
  intro n
  induction n with
  | zero =>
    intro i ρ hi hh hB kk
    refine Wp.n (pc' := 94) 2 rfl ?_
    refine Wp.get (len := 3) rfl (rs_obj) rfl ?_
    refine Wp.top hh ?_
    refine Wp.nc3 (x := i) (y := m) (tgt := 121) (len := 3) rfl (by omega) (by omega) (fun h97 => ?_) (fun h97 => ?_)
    · skip
      obtain rfl : i = m := by omega
      exact kk ρ rfl rfl hB
    · omega
  | succ n ih =>
    intro i ρ hi hh hB kk
    refine Wp.n (pc' := 94) 2 rfl ?_
    refine Wp.get (len := 3) rfl (rs_obj) rfl ?_
    refine Wp.top hh ?_
    refine Wp.nc3 (x := i) (y := m) (tgt := 121) (len := 3) rfl (by omega) (by omega) (fun h97 => ?_) (fun h97 => ?_)
    · omega
    · skip
      refine Wp.n (pc' := 101) 1 rfl ?_
      refine Wp.get (len := 3) rfl (rs_obj) rfl ?_
      refine Wp.n (pc' := 105) 1 rfl ?_
      refine Wp.aaldN (j := i) (len := 1) rfl (rs_lanes) rfl (by omega) (by decide) (if_pos (by omega)) ?_
      refine Wp.n (pc' := 107) 1 rfl ?_
      refine Wp.get (len := 3) rfl (ra_obj (hSc _)) rfl ?_
      refine Wp.n (pc' := 111) 1 rfl ?_
      refine Wp.aaldN (j := i) (len := 1) rfl (ra_lanes (hSc _)) rfl (by omega) (by decide) (if_pos (by omega)) ?_
      refine Wp.callV (len := 3) rfl rfl rfl (rs_lane (by omega)) rfl (by omega) rfl (k_laneBecome hS hds (by omega)) ?_
      rintro _ _ ⟨rfl, ρ2, rfl, e1, e2, e3, e4, e5⟩
      refine Wp.incN (x := i) (len := 3) rfl rfl ?_
      refine Wp.n (pc' := 92) 1 rfl ?_
      refine ih (i + 1) ρ2 (by omega) (by show ρ2.1 8 = _; rw [e1]; exact hh) ⟨fun q hq j h1 h6 => ?_, fun q hq j h1 h6 => ?_, fun q hq => absurd hq (Nat.not_lt_zero q)⟩ (fun ρ3 g1 g2 g3 => kk ρ3 (g1.trans e1) (g2.trans e2) g3)
      · rw [e4 q (by omega)]; exact hB.1 q hq j h1 h6
      · by_cases c : q = i
        · rw [c]; exact e5 j h1 h6
        · rw [e4 (12 + q) (by omega)]; exact hB.2.1 q (by omega) j h1 h6

theorem k_become_3 (hS : RA M s ρs) (hds : s + 47 ≤ r ∨ r + 47 ≤ s) (hr : 32 ≤ r) {m a b : Nat} (hm : m ≤ 10) : ∀ (n i : Nat) (ρ : RC), i + n = m → rhd ρ 10 = nI m → BC ρ ρs a b i → (∀ ρ', ρ'.1 = ρ.1 → ρ'.2.1 = ρ.2.1 → BC ρ' ρs a b m → Wp (d + 9) md_32 160 [some (.ref r), some (.ref s), some (.int (nI m))] [] (rset M r ρ') Q) → Wp (d + 9) md_32 131 [some (.ref r), some (.ref s), some (.int (nI i))] [] (rset M r ρ) Q := by
  have hSc := RA_s (r := r) hS hds
  intro n
  induction n with
  | zero =>
    intro i ρ hi hh hB kk
    refine Wp.n (pc' := 133) 2 rfl ?_
    refine Wp.get (len := 3) rfl (rs_obj) rfl ?_
    refine Wp.top hh ?_
    refine Wp.nc3 (x := i) (y := m) (tgt := 160) (len := 3) rfl (by omega) (by omega) (fun h136 => ?_) (fun h136 => ?_)
    · skip
      obtain rfl : i = m := by omega
      exact kk ρ rfl rfl hB
    · omega
  | succ n ih =>
    intro i ρ hi hh hB kk
    refine Wp.n (pc' := 133) 2 rfl ?_
    refine Wp.get (len := 3) rfl (rs_obj) rfl ?_
    refine Wp.top hh ?_
    refine Wp.nc3 (x := i) (y := m) (tgt := 160) (len := 3) rfl (by omega) (by omega) (fun h136 => ?_) (fun h136 => ?_)
    · omega
    · skip
      refine Wp.n (pc' := 140) 1 rfl ?_
      refine Wp.get (len := 3) rfl (rs_obj) rfl ?_
      refine Wp.n (pc' := 144) 1 rfl ?_
      refine Wp.aaldN (j := i) (len := 1) rfl (rs_walks) rfl (by omega) (by decide) (if_pos (by omega)) ?_
      refine Wp.n (pc' := 146) 1 rfl ?_
      refine Wp.get (len := 3) rfl (ra_obj (hSc _)) rfl ?_
      refine Wp.n (pc' := 150) 1 rfl ?_
      refine Wp.aaldN (j := i) (len := 1) rfl (ra_walks (hSc _)) rfl (by omega) (by decide) (if_pos (by omega)) ?_
      refine Wp.callV (len := 3) rfl rfl rfl (rs_walk (by omega)) rfl (by omega) rfl (k_walkBecome hS hds (by omega)) ?_
      rintro _ _ ⟨rfl, ρ2, rfl, e1, e2, e3, e4, e5, e6, e7⟩
      refine Wp.incN (x := i) (len := 3) rfl rfl ?_
      refine Wp.n (pc' := 131) 1 rfl ?_
      refine ih (i + 1) ρ2 (by omega) (by show ρ2.1 10 = _; rw [e1]; exact hh) ⟨fun q hq j h1 h6 => ?_, fun q hq j h1 h6 => ?_, fun q hq => ?_⟩ (fun ρ3 g1 g2 g3 => kk ρ3 (g1.trans e1) (g2.trans e2) g3)
      · rw [e3]; exact hB.1 q hq j h1 h6
      · rw [e3]; exact hB.2.1 q hq j h1 h6
      · by_cases c : q = i
        · rw [c]; exact ⟨e6, e7⟩
        · rw [(e5 q c).1, (e5 q c).2]; exact hB.2.2 q (by omega)

theorem k_become (hR : RA M r ρ) (hS : RA M s ρs) (hds : s + 47 ≤ r ∨ r + 47 ≤ s) (hr : 32 ≤ r) (hs32 : 32 ≤ s) (hK : RepC ρs K) (ok : KOK K) (h11 : kh K 11 = 0) : Wp (d + 9) md_32 0 [some (.ref r), some (.ref s), none] [] M (fun v M' => v = none ∧ ∃ ρ', M' = rset M r ρ' ∧ RepC ρ' K ∧ ∀ i, i < 49 → rds ρ' i = rds ρs i) := by
  obtain ⟨b0, b1, b2, b3, b4, b5, b6, b7, b8, b9, b10, b11, b12⟩ := ok_h ok
  have hSc := RA_s (r := r) hS hds
  rw [show M = rset M r ρ from hR.symm, show rset (rset M r ρ) r = rset M r from by funext ρ'; exact rset_rset]
  refine Wp.n (pc' := 2) 2 rfl ?_
  refine Wp.get (len := 3) rfl (ra_obj (hSc _)) rfl ?_
  refine Wp.top (rc_pl hK) ?_
  refine Wp.rput 0 rfl (len := 3) rfl ?_
  refine Wp.n (pc' := 10) 2 rfl ?_
  refine Wp.get (len := 3) rfl (ra_obj (hSc _)) rfl ?_
  refine Wp.top (rc_dy hK) ?_
  refine Wp.rput 1 rfl (len := 3) rfl ?_
  refine Wp.n (pc' := 18) 2 rfl ?_
  refine Wp.get (len := 3) rfl (ra_obj (hSc _)) rfl ?_
  refine Wp.top (rc_ln hK) ?_
  refine Wp.rput 2 rfl (len := 3) rfl ?_
  refine Wp.n (pc' := 26) 2 rfl ?_
  refine Wp.get (len := 3) rfl (ra_obj (hSc _)) rfl ?_
  refine Wp.top (rc_fl hK) ?_
  refine Wp.rput 3 rfl (len := 3) rfl ?_
  refine Wp.n (pc' := 33) 1 rfl ?_
  refine Wp.get (len := 3) rfl (rs_obj) rfl ?_
  refine Wp.n (pc' := 37) 1 rfl ?_
  refine Wp.get (len := 3) rfl (ra_obj (hSc _)) rfl ?_
  refine Wp.callV (len := 3) rfl rfl rfl (rs_law) rfl (by omega) rfl (k_lawBecome hS hds) ?_
  rintro _ _ ⟨rfl, ρ1, rfl, a1, a2, a3⟩
  have hd0 : ∀ j, rhd ρ1 j = upd (upd (upd (upd (rhd ρ) 0 (nI (kh K 0))) 1 (nI (kh K 1))) 2 (nI (kh K 5))) 3 (nI (kh K 12)) j := fun j => congrFun a1 j
  refine Wp.n (pc' := 45) 2 rfl ?_
  refine Wp.get (len := 3) rfl (ra_obj (hSc _)) rfl ?_
  refine Wp.top (rc_rd hK) ?_
  refine Wp.rput 6 rfl (len := 3) rfl ?_
  refine Wp.n (pc' := 53) 2 rfl ?_
  refine k_become_1 hS hds hr b2 (kh K 2) 0 _ (by omega) rfl ⟨fun q hq => absurd hq (Nat.not_lt_zero q), fun q hq => absurd hq (Nat.not_lt_zero q), fun q hq => absurd hq (Nat.not_lt_zero q)⟩ (fun ρ2 c1 c2 c3 => ?_)
  refine Wp.n (pc' := 84) 2 rfl ?_
  refine Wp.get (len := 3) rfl (ra_obj (hSc _)) rfl ?_
  refine Wp.top (show _ = nI (kh K 3) from by rw [show rhd ρs 8 = _ from rc_la hK, h11, Nat.add_zero]) ?_
  refine Wp.rput 8 rfl (len := 3) rfl ?_
  refine Wp.n (pc' := 92) 2 rfl ?_
  refine k_become_2 hS hds hr (m := kh K 3) (a := kh K 2) (by omega) b2 (kh K 3) 0 _ (by omega) rfl ⟨c3.1, fun q hq => absurd hq (Nat.not_lt_zero q), fun q hq => absurd hq (Nat.not_lt_zero q)⟩ (fun ρ3 f1 f2 f3 => ?_)
  refine Wp.n (pc' := 123) 2 rfl ?_
  refine Wp.get (len := 3) rfl (ra_obj (hSc _)) rfl ?_
  refine Wp.top (rc_wk hK) ?_
  refine Wp.rput 10 rfl (len := 3) rfl ?_
  refine Wp.n (pc' := 131) 2 rfl ?_
  refine k_become_3 hS hds hr (m := kh K 4) (a := kh K 2) (b := kh K 3) b4 (kh K 4) 0 _ (by omega) rfl ⟨f3.1, f3.2.1, fun q hq => absurd hq (Nat.not_lt_zero q)⟩ (fun ρ4 g1 g2 g3 => ?_)
  refine Wp.n (pc' := 161) 1 rfl ?_
  refine Wp.get (len := 3) rfl (ra_obj (hSc _)) rfl ?_
  refine Wp.n (pc' := 166) 2 rfl ?_
  refine Wp.get (len := 3) rfl (rs_obj) rfl ?_
  refine Wp.n (pc' := 172) 2 rfl ?_
  refine Wp.acopy (sp := 0) (dp := 0) (m := 49) (len := 3) rfl (ra_dist (hSc _)) rs_dist (by decide) (by decide) (by decide) (by decide) rfl (by omega) ?_
  rw [ru_dist]
  refine Wp.retV (len := 1) rfl rfl ?_
  have hd4 : ∀ j, rhd ρ4 j = upd (upd (upd (rhd ρ1) 6 (nI (kh K 2))) 8 (nI (kh K 3))) 10 (nI (kh K 4)) j := fun j => by
    show ρ4.1 j = _
    rw [g1]
    show upd (ρ3.1) 10 _ j = _
    rw [f1]
    show upd (upd (ρ2.1) 8 _) 10 _ j = _
    rw [c1]
    rfl
  have hw4 : ∀ j, rlw ρ4 j = rlw ρ1 j := fun j => by
    show ρ4.2.1 j = _
    rw [g2]
    show ρ3.2.1 j = _
    rw [f2]
    show ρ2.2.1 j = _
    rw [c2]
    rfl
  refine ⟨rfl, _, rfl, ⟨?_, ?_, ?_, ?_, ?_, ?_, ?_, fun h0 j hj => ?_, fun i hi => ?_, fun l hl => ?_, fun i hi => ?_⟩, fun i hi => ?_⟩
  · show rhd ρ4 0 = _
    rw [hd4]; exact hd0 0
  · show rhd ρ4 1 = _
    rw [hd4]; exact hd0 1
  · show rhd ρ4 2 = _
    rw [hd4]; exact hd0 2
  · show rhd ρ4 3 = _
    rw [hd4]; exact hd0 3
  · show rhd ρ4 6 = _
    rw [hd4]; rfl
  · show rhd ρ4 8 = _
    rw [hd4, h11, Nat.add_zero]; rfl
  · show rhd ρ4 10 = _
    rw [hd4]; rfl
  · show rlw ρ4 j = _
    rw [hw4, a3 j hj]; exact rc_law hK h0 hj
  · obtain ⟨q1, q2, q3, q4⟩ := rc_road hK hi
    show rlk ρ4 i 1 = 0 ∧ rlk ρ4 i 2 = _ ∧ rlk ρ4 i 3 = _ ∧ rlk ρ4 i 6 = 0
    rw [g3.1 i hi 1 (by decide) (by decide), g3.1 i hi 2 (by decide) (by decide), g3.1 i hi 3 (by decide) (by decide), g3.1 i hi 6 (by decide) (by decide)]
    exact ⟨q1, q2, q3, q4⟩
  · have hl3 : l < kh K 3 := by omega
    have q := rc_lane hK hl
    rw [show phL K l = l from if_neg (by omega)] at q ⊢
    show rlk ρ4 (12 + l) 1 = _ ∧ rlk ρ4 (12 + l) 2 = _ ∧ rlk ρ4 (12 + l) 3 = _ ∧ rlk ρ4 (12 + l) 4 = _ ∧ rlk ρ4 (12 + l) 5 = _ ∧ rlk ρ4 (12 + l) 6 = _
    rw [g3.2.1 l hl3 1 (by decide) (by decide), g3.2.1 l hl3 2 (by decide) (by decide), g3.2.1 l hl3 3 (by decide) (by decide), g3.2.1 l hl3 4 (by decide) (by decide), g3.2.1 l hl3 5 (by decide) (by decide), g3.2.1 l hl3 6 (by decide) (by decide)]
    exact q
  · obtain ⟨q1, q2, q3, q4, q5⟩ := rc_walk hK hi
    obtain ⟨p1, p2⟩ := g3.2.2 i hi
    have t7 := (ok_walk ok hi).2.2.2.2.2.1
    show rwk ρ4 i 0 = _ ∧ rwk ρ4 i 1 = _ ∧ rwk ρ4 i 2 = _ ∧ rwk ρ4 i 3 = _ ∧ ∀ j, j < kw K i 3 → rst ρ4 i j = _
    rw [p1 0 (by decide), p1 1 (by decide), p1 2 (by decide), p1 3 (by decide)]
    exact ⟨q1, q2, q3, q4, fun j hj => by rw [p2 j (by omega)]; exact q5 j hj⟩
  · show va_cpy (rds ρs) (rds ρ4) 0 0 49 i = _
    rw [pk_cpy_in (Nat.zero_le _) (by omega), show 0 + (i - 0) = i by omega]
  
  
  

end BECOME
end
section
/-! KINGDOMS THAT AGREE on what joins; a rate is a factor; the hidden lane's length only shifts. -/
def KM (K1 K2 : KD) (y : Nat) : Prop := (∀ i, i < 6 ∨ 11 ≤ i → kh K1 i = kh K2 i) ∧ kr K1 = kr K2 ∧ kw K1 = kw K2 ∧ (∀ l j, j ≠ 4 → kl K1 l j = kl K2 l j) ∧ ∀ l, openK K1 l y = openK K2 l y
section KMS
variable {K1 K2 : KD} {y : Nat}
theorem KM_road (h : KM K1 K2 y) : roadK K1 = roadK K2 := by
  funext a b
  unfold roadK
  rw [h.2.1, h.1 2 (by omega)]
theorem KM_dist (h : KM K1 K2 y) : distK K1 = distK K2 := by
  have e : D0 K1 = D0 K2 := by
    funext a b
    unfold D0
    rw [KM_road h, h.2.1]
  unfold distK
  rw [h.1 0 (by omega), e]
theorem KM_span (h : KM K1 K2 y) : spanJ K1 = spanJ K2 := by
  funext j
  unfold spanJ
  rw [h.2.1, h.2.2.2.1 (j - 20) 2 (by decide)]
theorem KM_step (h : KM K1 K2 y) (a b : Nat) : joinStep K1 a b y = joinStep K2 a b y := by
  funext c l
  have e : shr K1 c l = shr K2 c l := by
    cases c with
    | none => rfl
    | some j =>
      unfold shr
      rw [h.2.2.2.1 l 2 (by decide), KM_span h]
  unfold joinStep
  rw [e, h.2.2.2.1 l 0 (by decide), h.2.2.2.1 l 1 (by decide), h.2.2.2.2 l]
theorem KM_join (h : KM K1 K2 y) (a b : Nat) : joinK K1 a b y = joinK K2 a b y := by
  unfold joinK
  rw [KM_step h, KM_road h, h.1 11 (by omega), h.1 3 (by omega)]
theorem KM_add (h : KM K1 K2 y) : addJ K1 = addJ K2 := by
  funext s j
  unfold addJ
  rw [KM_span h]
theorem KM_look (h : KM K1 K2 y) (P : Nat → Nat) : ∀ (n i : Nat) (s : Nat × List Nat), lookK K1 y P n i s = lookK K2 y P n i s
  | 0, _, _ => rfl
  | n + 1, i, s => by
    unfold lookK
    rw [KM_join h]
    cases joinK K2 (P i) (P (i + 1)) y with
    | none => rfl
    | some j =>
      dsimp only
      rw [KM_add h]
      exact KM_look h P n (i + 1) _
theorem KM_dfs (h : KM K1 K2 y) (t : Nat) : ∀ (f : Nat) (ps : List Nat) (q : Nat) (s : Nat × List Nat), dfs K1 y t f ps q s = dfs K2 y t f ps q s
  | 0, _, _, _ => rfl
  | f + 1, ps, q, s => by
    unfold dfs
    rw [h.1 0 (by omega)]
    have e : (fun p => if ps.contains p = true then [] else match joinK K1 q p y with | none => [] | some j => dfs K1 y t f (ps ++ [p]) p (addJ K1 s j)) = (fun p => if ps.contains p = true then [] else match joinK K2 q p y with | none => [] | some j => dfs K2 y t f (ps ++ [p]) p (addJ K2 s j)) := by
      funext p
      rw [KM_join h]
      cases joinK K2 q p y with
      | none => rfl
      | some j =>
        dsimp only
        rw [KM_add h, KM_dfs h t f (ps ++ [p]) p (addJ K2 s j)]
    by_cases c : q = t
    · rw [if_pos c, if_pos c]
    · rw [if_neg c, if_neg c]
      exact congrArg (fun g => loopL g (kh K2 0) 0) e
theorem KM_boat (h : KM K1 K2 y) : boatK K1 = boatK K2 := by
  funext ls
  unfold boatK
  rw [show (fun l => decide (kl K1 l 5 = 2)) = (fun l => decide (kl K2 l 5 = 2)) from funext (fun l => by rw [h.2.2.2.1 l 5 (by decide)])]
theorem KM_sav (h : KM K1 K2 y) : savK K1 = savK K2 := by
  funext a b n
  unfold savK
  rw [KM_dist h]
theorem KM_tr (w : Nat) (h : KM K1 K2 (kw K2 w 2)) : TRr K1 w = TRr K2 w := by
  unfold TRr
  rw [h.2.2.1]
  exact KM_look h _ _ _ _
theorem KM_law (w : Nat) (h : KM K1 K2 (kw K2 w 2)) : lawK K1 w = lawK K2 w := by
  unfold lawK
  rw [KM_tr w h, h.2.2.1]
theorem KM_allW (h : KM K1 K2 y) (a t : Nat) : allW K1 y a t = allW K2 y a t := KM_dfs h t 7 [a] a (0, [])
/-- the law too -/
theorem KM_fin (h : KM K1 K2 y) (hl : ∀ i, kh K1 i = kh K2 i) (aim a t load dn : Nat) : fin K1 aim a t y load dn = fin K2 aim a t y load dn := by
  have e1 : dW K1 a t y load = dW K2 a t y load := by
    funext s
    unfold dW dutyS
    rw [KM_boat h, KM_sav h, hl 9, hl 7, hl 6, hl 10]
  have e2 : cW K1 = cW K2 := by
    funext aim d s
    unfold cW
    rw [hl 8]
  have e3 : wat K1 = wat K2 := by
    funext ls
    unfold wat
    rw [show (fun l => decide (0 < kl K1 l 6)) = (fun l => decide (0 < kl K2 l 6)) from funext (fun l => by rw [h.2.2.2.1 l 6 (by decide)]), show (fun l => kl K1 l 6) = (fun l => kl K2 l 6) from funext (fun l => h.2.2.2.1 l 6 (by decide))]
  have e4 : meet K1 aim a t y load dn = meet K2 aim a t y load dn := by
    funext st w
    unfold meet
    rw [e1, e2, e3]
  unfold fin
  rw [e4, KM_allW h]
end KMS
section LANE
variable {K : KD} {a b : Nat}
theorem laneK_km {n e1 e2 y : Nat} (h1 : y ≤ e1) (h2 : y ≤ e2) : KM (laneK K a b n e1) (laneK K a b n e2) y := by
  refine ⟨fun i _ => rfl, rfl, rfl, fun l j hj => ?_, fun l => ?_⟩
  · by_cases c : l = 8
    · subst c
      show (if j = 0 then a else if j = 1 then b else if j = 2 then n else if j = 4 then e1 else 0) = (if j = 0 then a else if j = 1 then b else if j = 2 then n else if j = 4 then e2 else 0)
      rw [if_neg (c := j = 4) hj, if_neg (c := j = 4) hj]
    · show (if l = 8 then _ else kl K l) j = (if l = 8 then _ else kl K l) j
      rw [if_neg c, if_neg c]
  · by_cases c : l = 8
    · subst c
      show (if (0 : Nat) = 2 then true else if (0 : Nat) = 1 then _ else decide (0 ≤ y ∧ y ≤ e1)) = (if (0 : Nat) = 2 then true else if (0 : Nat) = 1 then _ else decide (0 ≤ y ∧ y ≤ e2))
      rw [if_neg (by decide), if_neg (by decide), if_neg (by decide), if_neg (by decide), decide_eq_true (by omega), decide_eq_true (by omega)]
    · have e : ∀ e, kl (laneK K a b n e) l = kl K l := fun e => if_neg c
      unfold openK
      rw [e e1, e e2]
      rfl
theorem fld_cw {f g : Nat → Nat} : ∀ (n i s : Nat), (∀ j, i ≤ j → j < i + n → f j = g j) → fld (fun s w => s + f w) n i s = fld (fun s w => s + g w) n i s
  | 0, _, _, _ => rfl
  | n + 1, i, s, h => by
    show fld _ n (i + 1) (s + f i) = fld _ n (i + 1) (s + g i)
    rw [h i (Nat.le_refl _) (by omega)]
    exact fld_cw n (i + 1) _ (fun j h1 h2 => h j (by omega) (by omega))
/-- the reference's lane that is thought of, and the class's -/
theorem allK_lane (ok : KOK K) {n k : Nat} : allK (laneK K a b n 30) k = allK (laneK K a b n (kh K 1 - 1)) k := by
  refine fld_cw (kh K 4) 0 0 (fun w _ hw => ?_)
  have tw := ok_walk ok (i := w) (by omega)
  have b1 := (ok_h ok).2.1
  have e : finW (laneK K a b n 30) w = finW (laneK K a b n (kh K 1 - 1)) w := KM_fin (K1 := laneK K a b n 30) (K2 := laneK K a b n (kh K 1 - 1)) (y := kw K w 2) (laneK_km (by omega) (by omega)) (fun _ => rfl) 2 (kw K w 4) (kw K w (3 + kw K w 3)) (kw K w 1) 0
  unfold shareK
  rw [e]
theorem laws_km {r f r' f' y : Nat} : KM (lawsK K r f) (lawsK K r' f') y := by
  refine ⟨fun i hi => ?_, rfl, rfl, fun _ _ _ => rfl, fun _ => rfl⟩
  show (if i = 6 then r else if i = 7 then f else kh K i) = (if i = 6 then r' else if i = 7 then f' else kh K i)
  rw [if_neg (by omega), if_neg (by omega), if_neg (by omega), if_neg (by omega)]
theorem dutW_lin {r f w : Nat} : dutW (lawsK K r f) w = r * dutW (lawsK K 1 f) w := by
  have h : KM (lawsK K r f) (lawsK K 1 f) (kw (lawsK K 1 f) w 2) := laws_km
  unfold dutW savW
  rw [KM_tr w h, KM_boat h, KM_sav h]
  unfold dutyS
  show (if boatK (lawsK K 1 f) (TRr (lawsK K 1 f) w).2.2 = true ∨ (kh K 9 = 0 ∧ kw K w 2 % 7 = 6) then 0 else (savK (lawsK K 1 f) (kw K w 4) (kw K w (3 + kw K w 3)) (TRr (lawsK K 1 f) w).2.1 - f) * r * (if kh K 10 = 1 then kw K w 1 else 1)) = r * (if boatK (lawsK K 1 f) (TRr (lawsK K 1 f) w).2.2 = true ∨ (kh K 9 = 0 ∧ kw K w 2 % 7 = 6) then 0 else (savK (lawsK K 1 f) (kw K w 4) (kw K w (3 + kw K w 3)) (TRr (lawsK K 1 f) w).2.1 - f) * 1 * (if kh K 10 = 1 then kw K w 1 else 1))
  split
  · rfl
  · rw [Nat.mul_one, Nat.mul_comm _ r, Nat.mul_assoc]
theorem take_lin {r f : Nat} : takeK (lawsK K r f) = r * takeK (lawsK K 1 f) := by
  have h : ∀ (n i s : Nat), fld (sumD (lawsK K r f) (-1) (-1)) n i (r * s) = r * fld (sumD (lawsK K 1 f) (-1) (-1)) n i s := by
    intro n
    induction n with
    | zero => intro i s; rfl
    | succ n ih =>
      intro i s
      have e : sumD (lawsK K r f) (-1) (-1) (r * s) i = r * sumD (lawsK K 1 f) (-1) (-1) s i := by
        have ec : cntW (lawsK K r f) (-1) (-1) i = cntW (lawsK K 1 f) (-1) (-1) i := by
          unfold cntW
          rw [KM_law i (show KM (lawsK K r f) (lawsK K 1 f) (kw (lawsK K 1 f) i 2) from laws_km)]
          rfl
        unfold sumD
        rw [ec, dutW_lin]
        cases cntW (lawsK K 1 f) (-1) (-1) i
        · rfl
        · show r * s + r * _ = r * (s + _)
          rw [Nat.mul_add]
      show fld _ n (i + 1) (sumD (lawsK K r f) (-1) (-1) (r * s) i) = r * fld _ n (i + 1) (sumD (lawsK K 1 f) (-1) (-1) s i)
      rw [e]
      exact ih (i + 1) _
  exact h (kh K 4) 0 0
/-- what joins two places with a lane of n that is thought of -/
theorem laneK_step {n e y p q : Nat} (ok : KOK K) (h11 : kh K 11 = 0) : joinK (laneK K a b n e) p q y = joinStep (laneK K a b n e) p q y (joinK K p q y) 8 := by
  have b3 := (ok_h ok).2.2.2.1
  have er : roadK (laneK K a b n e) = roadK K := rfl
  have es : ∀ (c : Option Nat) (l : Nat), l < kh K 3 → (∀ j, c = some j → JV K j) → joinStep (laneK K a b n e) p q y c l = joinStep K p q y c l := by
    intro c l hl hc
    have ek : kl (laneK K a b n e) l = kl K l := if_neg (by omega)
    have eo : openK (laneK K a b n e) l y = openK K l y := by unfold openK; rw [ek]; rfl
    have eh : shr (laneK K a b n e) c l = shr K c l := by
      cases c with
      | none => rfl
      | some j =>
        have hj := hc j rfl
        have ej : spanJ (laneK K a b n e) j = spanJ K j := by
          unfold spanJ
          by_cases c20 : j < 20
          · rw [if_pos c20, if_pos c20]; rfl
          · rw [if_neg c20, if_neg c20]
            have : j - 20 ≠ 8 := by
              have := (ok_h ok).2.2.1
              rcases hj with q | ⟨q, q2⟩
              · omega
              · unfold LV at q2; omega
            rw [show kl (laneK K a b n e) (j - 20) = kl K (j - 20) from if_neg this]
        show decide (kl (laneK K a b n e) l 2 < spanJ (laneK K a b n e) j) = decide (kl K l 2 < spanJ K j)
        rw [ek, ej]
    unfold joinStep
    rw [eh, ek, eo]
  have hf : ∀ (m i : Nat) (c : Option Nat), i + m = kh K 3 → (∀ j, c = some j → JV K j) → fld (joinStep (laneK K a b n e) p q y) m i c = fld (joinStep K p q y) m i c := by
    intro m
    induction m with
    | zero => intro i c _ _; rfl
    | succ m ih =>
      intro i c hi hc
      show fld _ m (i + 1) (joinStep (laneK K a b n e) p q y c i) = fld _ m (i + 1) (joinStep K p q y c i)
      rw [es c i (by omega) hc]
      exact ih (i + 1) _ (by omega) (joinStep_v (Or.inl (by omega)) hc)
  unfold joinK
  rw [show kh (laneK K a b n e) 11 = 1 from rfl, h11, show kh (laneK K a b n e) 3 = kh K 3 from rfl, er, hf (kh K 3) 0 _ (by omega) (fun j hj => Or.inl (roadK_v hj).1)]
  rfl
/-- the pair, and shorter than what joins it -/
def usesL (K : KD) (a b n y p q : Nat) : Bool := btw a b p q && (match joinK K p q y with | none => true | some j => decide (n < spanJ K j))
theorem laneK_join {n e y p q : Nat} (ok : KOK K) (h11 : kh K 11 = 0) (he : y ≤ e) : joinK (laneK K a b n e) p q y = if usesL K a b n y p q = true then some 28 else joinK K p q y := by
  have b3 := (ok_h ok).2.2.2.1
  rw [laneK_step ok h11]
  have eo : openK (laneK K a b n e) 8 y = true := by
    show (if (0 : Nat) = 2 then true else if (0 : Nat) = 1 then _ else decide (0 ≤ y ∧ y ≤ e)) = true
    rw [if_neg (by decide), if_neg (by decide), decide_eq_true (by omega)]
  have eh : shr (laneK K a b n e) (joinK K p q y) 8 = (match joinK K p q y with | none => true | some j => decide (n < spanJ K j)) := by
    cases hj : joinK K p q y with
    | none => rfl
    | some j =>
      have hv := joinK_v ok hj
      show decide (n < spanJ (laneK K a b n e) j) = decide (n < spanJ K j)
      have ej : spanJ (laneK K a b n e) j = spanJ K j := by
        unfold spanJ
        by_cases c20 : j < 20
        · rw [if_pos c20, if_pos c20]; rfl
        · rw [if_neg c20, if_neg c20]
          have : j - 20 ≠ 8 := by
            have := (ok_h ok).2.2.1
            rcases hv with q | ⟨q, q2⟩
            · omega
            · unfold LV at q2; omega
          rw [show kl (laneK K a b n e) (j - 20) = kl K (j - 20) from if_neg this]
      rw [ej]
  unfold joinStep usesL
  rw [eh, eo, show btw (kl (laneK K a b n e) 8 0) (kl (laneK K a b n e) 8 1) p q = btw a b p q from rfl]
  cases h1 : (match joinK K p q y with | none => true | some j => decide (n < spanJ K j)) <;> cases h2 : btw a b p q <;> simp
end LANE
end
section
/-! THE HIDDEN LANE: one search gives all lengths. -/
theorem loopL_map {α β : Type} {g1 : Nat → List β} {g2 : Nat → List α} {F : α → β} (h : ∀ p, g1 p = (g2 p).map F) : ∀ (n p : Nat), loopL g1 n p = (loopL g2 n p).map F
  | 0, _ => rfl
  | n + 1, p => by
    show g1 p ++ loopL g1 n (p + 1) = (g2 p ++ loopL g2 n (p + 1)).map F
    rw [List.map_append, h p, loopL_map h n (p + 1)]
theorem dfs_lanes {K : KD} {y t : Nat} {P : Nat → Prop} (hP : ∀ p q j, joinK K p q y = some j → 20 ≤ j → P (j - 20)) : ∀ (f : Nat) (ps : List Nat) (q : Nat) (s : Nat × List Nat), (∀ l, l ∈ s.2 → P l) → ∀ w, w ∈ dfs K y t f ps q s → ∀ l, l ∈ w.2.2 → P l
  | 0, _, _, _, _, _, hw => by cases hw
  | f + 1, ps, q, s, hs, w, hw => by
    unfold dfs at hw
    by_cases hq : q = t
    · rw [if_pos hq, List.mem_singleton] at hw
      subst hw
      exact hs
    · rw [if_neg hq] at hw
      obtain ⟨p, h1, h2, h3⟩ := loopL_mem hw
      by_cases hc : ps.contains p = true
      · rw [if_pos hc] at h3
        cases h3
      · rw [if_neg hc] at h3
        cases hj : joinK K q p y with
        | none => rw [hj] at h3; cases h3
        | some j =>
          rw [hj] at h3
          refine dfs_lanes hP f (ps ++ [p]) p (addJ K s j) (fun l hl => ?_) w h3
          unfold addJ at hl
          by_cases c : j < 20
          · rw [if_pos c] at hl; exact hs l hl
          · rw [if_neg c] at hl
            rcases List.mem_append.mp hl with m | m
            · exact hs l m
            · rw [List.mem_singleton] at m
              rw [m]
              exact hP q p j hj (by omega)
def P4 (K : KD) (a t y load dn : Nat) (w : WY) : Bool := decide (dW K a t y load w.2 = dn ∧ w.2.2.contains 8 = true)
theorem fin4_pos {K : KD} {a t y load dn : Nat} : 0 < (fin K 4 a t y load dn).1 ↔ (allW K y a t).any (P4 K a t y load dn) = true := by
  have h : ∀ (ws : List WY) (st : MT), 0 < (List.foldl (meet K 4 a t y load dn) st ws).1 ↔ (0 < st.1 ∨ ws.any (P4 K a t y load dn) = true) := by
    intro ws
    induction ws with
    | nil => intro st; simp
    | cons w ws ih =>
      intro st
      rw [List.foldl_cons, ih, List.any_cons, Bool.or_eq_true]
      have e : 0 < (meet K 4 a t y load dn st w).1 ↔ (0 < st.1 ∨ P4 K a t y load dn w = true) := by
        unfold meet P4
        rw [if_neg (by omega), if_pos (by omega)]
        by_cases c : dW K a t y load w.2 = dn ∧ w.2.2.contains 8 = true
        · rw [if_pos ⟨c.1, fun _ => c.2⟩, decide_eq_true c]
          exact ⟨fun _ => Or.inr rfl, fun _ => Nat.succ_pos _⟩
        · rw [if_neg (fun q => c ⟨q.1, q.2 rfl⟩), decide_eq_false c]
          exact ⟨fun q => Or.inl q, fun q => by rcases q with q | q; exact q; cases q⟩
      rw [e, or_assoc]
  have := h (allW K y a t) st0
  rw [show st0.1 = 0 from rfl] at this
  constructor
  · intro q
    rcases this.mp q with q | q
    · exact absurd q (Nat.lt_irrefl 0)
    · exact q
  · intro q
    exact this.mpr (Or.inr q)
section MUST
variable {K : KD} {a b y : Nat}
/-- the longest lane that is shorter than what joins -/
def lngK (K : KD) (a b y : Nat) : Nat := match joinK K a b y with | none => 99 | some j => min 99 (spanJ K j - 1)
theorem btw_join {p q : Nat} (h : btw a b p q = true) : joinK K p q y = joinK K a b y := by
  rcases btw_iff.mp h with ⟨rfl, rfl⟩ | ⟨rfl, rfl⟩
  · rfl
  · exact joinK_sym K b a y
theorem uses_lo (ok : KOK K) {n p q : Nat} (h1 : 1 ≤ n) (hn : n ≤ lngK K a b y) : usesL K a b n y p q = btw a b p q := by
  unfold usesL
  cases h : btw a b p q with
  | false => rfl
  | true =>
    rw [btw_join h]
    unfold lngK at hn
    cases hj : joinK K a b y with
    | none => rfl
    | some j =>
      rw [hj] at hn
      have hs := spanJ_b ok (joinK_v ok hj)
      have hn' : n ≤ min 99 (spanJ K j - 1) := hn
      show (true && decide (n < spanJ K j)) = true
      rw [decide_eq_true (by omega)]
      rfl
theorem uses_hi {n p q : Nat} (h9 : n ≤ 99) (hn : lngK K a b y < n) : usesL K a b n y p q = false := by
  unfold usesL
  cases h : btw a b p q with
  | false => rfl
  | true =>
    rw [btw_join h]
    unfold lngK at hn
    cases hj : joinK K a b y with
    | none => rw [hj] at hn; have hn' : 99 < n := hn; omega
    | some j =>
      rw [hj] at hn
      have hn' : min 99 (spanJ K j - 1) < n := hn
      show (true && decide (n < spanJ K j)) = false
      rw [decide_eq_false (by omega)]
      rfl
def shf (n : Nat) (s : Nat × List Nat) : Nat × List Nat := (s.1 + (if s.2.contains 8 = true then n - 1 else 0), s.2)
theorem laneK_span {n e j : Nat} (h : j - 20 ≠ 8) : spanJ (laneK K a b n e) j = spanJ K j := by
  unfold spanJ
  by_cases c20 : j < 20
  · rw [if_pos c20, if_pos c20]; rfl
  · rw [if_neg c20, if_neg c20, show kl (laneK K a b n e) (j - 20) = kl K (j - 20) from if_neg h]
theorem cont_app (ls : List Nat) (x z : Nat) : (ls ++ [x]).contains z = (ls.contains z || (z == x)) := by
  rw [List.contains_append]
  congr 1
  show (z == x || false) = _
  rw [Bool.or_false]
theorem dfs_shift (ok : KOK K) (h11 : kh K 11 = 0) {n e1 e2 t : Nat} (h1 : 1 ≤ n) (hn : n ≤ lngK K a b y) (he1 : y ≤ e1) (he2 : y ≤ e2) (hl1 : 1 ≤ lngK K a b y) : ∀ (f : Nat) (ps : List Nat) (q : Nat) (s : Nat × List Nat), (s.2.contains 8 = true → ps.contains a = true ∧ ps.contains b = true) → ps.contains q = true → dfs (laneK K a b n e1) y t f ps q (shf n s) = (dfs (laneK K a b 1 e2) y t f ps q s).map (fun w => (w.1, shf n w.2))
  | 0, _, _, _, _, _ => rfl
  | f + 1, ps, q, s, hs, hq => by
    unfold dfs
    by_cases c : q = t
    · rw [if_pos c, if_pos c]
      rfl
    · rw [if_neg c, if_neg c]
      refine loopL_map (fun p => ?_) (kh K 0) 0
      by_cases hc : ps.contains p = true
      · rw [if_pos hc, if_pos hc]; rfl
      · rw [if_neg hc, if_neg hc, laneK_join ok h11 he1, laneK_join ok h11 he2, uses_lo ok h1 hn, uses_lo ok (Nat.le_refl 1) hl1]
        have hcf : ps.contains p = false := by cases e : ps.contains p with | false => rfl | true => exact absurd e hc
        cases hb : btw a b q p with
        | true =>
          rw [if_pos rfl]
          dsimp only
          have h8 : s.2.contains 8 = false := by
            cases e : s.2.contains 8 with
            | false => rfl
            | true =>
              obtain ⟨ca, cb⟩ := hs e
              rcases btw_iff.mp hb with ⟨e1, e2⟩ | ⟨e1, e2⟩
              · rw [← e2, cb] at hcf; cases hcf
              · rw [← e1, ca] at hcf; cases hcf
          have ea : addJ (laneK K a b n e1) (shf n s) 28 = shf n (addJ (laneK K a b 1 e2) s 28) := by
            have x1 : addJ (laneK K a b n e1) (shf n s) 28 = ((shf n s).1 + n, s.2 ++ [8]) := rfl
            have x2 : addJ (laneK K a b 1 e2) s 28 = (s.1 + 1, s.2 ++ [8]) := rfl
            rw [x1, x2]
            unfold shf
            rw [h8, if_neg (by decide)]
            have x3 : (s.2 ++ [8]).contains 8 = true := by rw [cont_app, Bool.or_eq_true]; exact Or.inr rfl
            show (s.1 + 0 + n, s.2 ++ [8]) = (s.1 + 1 + (if (s.2 ++ [8]).contains 8 = true then n - 1 else 0), s.2 ++ [8])
            rw [x3, if_pos rfl]
            congr 1
            omega
          rw [ea]
          refine dfs_shift ok h11 h1 hn he1 he2 hl1 f (ps ++ [p]) p _ (fun _ => ?_) (by rw [cont_app, Bool.or_eq_true]; exact Or.inr (beq_self_eq_true p))
          rw [cont_app, cont_app, Bool.or_eq_true, Bool.or_eq_true]
          rcases btw_iff.mp hb with ⟨e1, e2⟩ | ⟨e1, e2⟩
          · exact ⟨Or.inl (by rw [e1]; exact hq), Or.inr (by rw [e2]; exact beq_self_eq_true p)⟩
          · exact ⟨Or.inr (by rw [e1]; exact beq_self_eq_true p), Or.inl (by rw [e2]; exact hq)⟩
        | false =>
          rw [if_neg (by decide)]
          cases hj : joinK K q p y with
          | none => rfl
          | some j =>
            dsimp only
            have hv := joinK_v ok hj
            have h8 : j - 20 ≠ 8 := by
              have b2 := (ok_h ok).2.2.1
              have b3 := (ok_h ok).2.2.2.1
              rcases hv with q | ⟨q, q2⟩
              · omega
              · unfold LV at q2; omega
            have ec : ∀ K', (addJ K' s j).2.contains 8 = s.2.contains 8 := by
              intro K'
              show (if j < 20 then s.2 else s.2 ++ [j - 20]).contains 8 = _
              by_cases c20 : j < 20
              · rw [if_pos c20]
              · rw [if_neg c20, cont_app]
                have : (8 == j - 20) = false := by
                  rw [beq_eq_false_iff_ne]
                  exact fun e => h8 e.symm
                rw [this, Bool.or_false]
            have ea : addJ (laneK K a b n e1) (shf n s) j = shf n (addJ (laneK K a b 1 e2) s j) := by
              have x2 : (addJ (laneK K a b 1 e2) s j).1 = s.1 + spanJ K j := by
                show s.1 + spanJ (laneK K a b 1 e2) j = _
                rw [laneK_span h8]
              unfold shf
              rw [ec, x2]
              show (s.1 + (if s.2.contains 8 = true then n - 1 else 0) + spanJ (laneK K a b n e1) j, if j < 20 then s.2 else s.2 ++ [j - 20]) = (s.1 + spanJ K j + (if s.2.contains 8 = true then n - 1 else 0), if j < 20 then s.2 else s.2 ++ [j - 20])
              rw [laneK_span h8]
              congr 1
              omega
            rw [ea]
            refine dfs_shift ok h11 h1 hn he1 he2 hl1 f (ps ++ [p]) p _ (fun h => ?_) (by rw [cont_app, Bool.or_eq_true]; exact Or.inr (beq_self_eq_true p))
            rw [ec] at h
            obtain ⟨ca, cb⟩ := hs h
            rw [cont_app, cont_app, Bool.or_eq_true, Bool.or_eq_true]
            exact ⟨Or.inl ca, Or.inl cb⟩
theorem allW_shift (ok : KOK K) (h11 : kh K 11 = 0) {n e1 e2 p t : Nat} (h1 : 1 ≤ n) (hn : n ≤ lngK K a b y) (he1 : y ≤ e1) (he2 : y ≤ e2) : allW (laneK K a b n e1) y p t = (allW (laneK K a b 1 e2) y p t).map (fun w => (w.1, shf n w.2)) := by
  have h := dfs_shift ok h11 (t := t) h1 hn he1 he2 (by omega) 7 [p] p (0, []) (fun q => by cases q) (by simp)
  exact h
theorem allW_no8 (ok : KOK K) (h11 : kh K 11 = 0) {n e p t : Nat} (h9 : n ≤ 99) (hn : lngK K a b y < n) (he : y ≤ e) {w : WY} (hw : w ∈ allW (laneK K a b n e) y p t) : w.2.2.contains 8 = false := by
  have h := dfs_lanes (K := laneK K a b n e) (y := y) (t := t) (P := fun l => l ≠ 8) (fun p q j hj h20 => by
    rw [laneK_join ok h11 he, uses_hi h9 hn, if_neg (by decide)] at hj
    have hv := joinK_v ok hj
    have b2 := (ok_h ok).2.2.1
    have b3 := (ok_h ok).2.2.2.1
    rcases hv with q | ⟨q, q2⟩
    · omega
    · unfold LV at q2; omega) 7 [p] p (0, []) (fun l hl => absurd hl List.not_mem_nil) w hw
  cases e : w.2.2.contains 8 with
  | false => rfl
  | true => exact absurd rfl (h 8 (List.contains_iff_mem.mp e))
/-- the class's test of the lane's bit -/
theorem bit8 (ok : KOK K) {n e : Nat} {ls : List Nat} (hls : ∀ l, l ∈ ls → LV (laneK K a b n e) l) : (bitsC (laneK K a b n e) ls &&& 2 ^ kh K 3 ≠ 0) ↔ ls.contains 8 = true := by
  have b3 := (ok_h ok).2.2.2.1
  rw [Ne, n_tb]
  constructor
  · intro h
    have h2 : (bitsC (laneK K a b n e) ls).testBit (kh K 3) = true := by
      cases q : (bitsC (laneK K a b n e) ls).testBit (kh K 3) with
      | true => rfl
      | false => exact absurd q h
    obtain ⟨l, hl, hp⟩ := bitsC_tb.mp h2
    have hv := hls l hl
    by_cases c : l = 8
    · rw [← c]; exact List.contains_iff_mem.mpr hl
    · rw [show phL (laneK K a b n e) l = l from if_neg c] at hp
      rcases hv with q | q
      · have q' : l < kh K 3 := q
        omega
      · exact absurd q.1 c
  · intro h q
    have h3 : (bitsC (laneK K a b n e) ls).testBit (kh K 3) = true := bitsC_tb.mpr ⟨8, List.contains_iff_mem.mp h, if_pos rfl⟩
    rw [h3] at q
    cases q
theorem must_eq (ok : KOK K) (h11 : kh K 11 = 0) (ha : a < kh K 0) (hb : b < kh K 0) (hab : a ≠ b) {n w dn : Nat} (hw : w < kh K 4) (h1 : 1 ≤ n) (h9 : n ≤ 99) : mustP K a b w dn n = (decide (n ≤ lngK K a b (kw K w 2)) && (allW (laneK K a b 1 (kh K 1 - 1)) (kw K w 2) (kw K w 4) (kw K w (3 + kw K w 3))).any (canP (laneK K a b 1 (kh K 1 - 1)) (kw K w 4) (kw K w (3 + kw K w 3)) (kw K w 2) (kw K w 1) (2 ^ kh K 3) (n - 1) dn)) := by
  have b1 := (ok_h ok).2.1
  have tw := ok_walk ok hw
  have ok1 : KOK (laneK K a b 1 (kh K 1 - 1)) := laneK_ok ok ha hb hab (Nat.le_refl 1) (by decide) (by omega)
  have p0 := (walk_b ok hw).1
  have em : mustP K a b w dn n = (allW (laneK K a b n 30) (kw K w 2) (kw K w 4) (kw K w (3 + kw K w 3))).any (P4 (laneK K a b n 30) (kw K w 4) (kw K w (3 + kw K w 3)) (kw K w 2) (kw K w 1) dn) := by
    unfold mustP
    rw [Bool.eq_iff_iff, decide_eq_true_iff]
    exact fin4_pos
  rw [em]
  by_cases hn : n ≤ lngK K a b (kw K w 2)
  · rw [decide_eq_true hn, Bool.true_and, allW_shift ok h11 (e2 := kh K 1 - 1) h1 hn (by omega) (by omega), List.any_map]
    rw [Bool.eq_iff_iff, List.any_eq_true, List.any_eq_true]
    have key : ∀ x, x ∈ allW (laneK K a b 1 (kh K 1 - 1)) (kw K w 2) (kw K w 4) (kw K w (3 + kw K w 3)) → (P4 (laneK K a b n 30) (kw K w 4) (kw K w (3 + kw K w 3)) (kw K w 2) (kw K w 1) dn (x.1, shf n x.2) = true ↔ canP (laneK K a b 1 (kh K 1 - 1)) (kw K w 4) (kw K w (3 + kw K w 3)) (kw K w 2) (kw K w 1) (2 ^ kh K 3) (n - 1) dn x = true) := by
      intro x hx
      have hl := (allW_b ok1 p0 hx).2.1
      have hbit := bit8 (n := 1) (e := kh K 1 - 1) ok hl
      unfold P4 canP
      rw [decide_eq_true_iff, decide_eq_true_iff, hbit]
      show dW (laneK K a b n 30) _ _ _ _ (shf n x.2) = dn ∧ x.2.2.contains 8 = true ↔ _
      constructor
      · rintro ⟨q1, q2⟩
        refine ⟨q2, q1 ▸ ?_⟩
        unfold dX dW
        have e1 : (shf n x.2).1 = x.2.1 + (n - 1) := by unfold shf; rw [q2, if_pos rfl]
        rw [e1, show boatK (laneK K a b 1 (kh K 1 - 1)) = boatK (laneK K a b n 30) from by
          funext ls
          unfold boatK
          congr 1
          funext l
          by_cases c : l = 8
          · subst c; rfl
          · rw [show kl (laneK K a b 1 (kh K 1 - 1)) l = kl K l from if_neg c, show kl (laneK K a b n 30) l = kl K l from if_neg c]]
        rfl
      · rintro ⟨q2, q1⟩
        refine ⟨q1 ▸ ?_, q2⟩
        unfold dX dW
        have e1 : (shf n x.2).1 = x.2.1 + (n - 1) := by unfold shf; rw [q2, if_pos rfl]
        rw [e1, show boatK (laneK K a b 1 (kh K 1 - 1)) = boatK (laneK K a b n 30) from by
          funext ls
          unfold boatK
          congr 1
          funext l
          by_cases c : l = 8
          · subst c; rfl
          · rw [show kl (laneK K a b 1 (kh K 1 - 1)) l = kl K l from if_neg c, show kl (laneK K a b n 30) l = kl K l from if_neg c]]
        rfl
    constructor
    · rintro ⟨x, hx, h⟩
      exact ⟨x, hx, (key x hx).mp h⟩
    · rintro ⟨x, hx, h⟩
      exact ⟨x, hx, (key x hx).mpr h⟩
  · rw [decide_eq_false hn, Bool.false_and]
    cases e : (allW (laneK K a b n 30) (kw K w 2) (kw K w 4) (kw K w (3 + kw K w 3))).any (P4 (laneK K a b n 30) (kw K w 4) (kw K w (3 + kw K w 3)) (kw K w 2) (kw K w 1) dn) with
    | false => rfl
    | true =>
      obtain ⟨x, hx, h⟩ := List.any_eq_true.mp e
      have h8 := allW_no8 ok h11 h9 (by omega) (show kw K w 2 ≤ 30 by omega) hx
      have := (of_decide_eq_true h).2
      rw [h8] at this
      cases this
theorem fnd_cut {p q : Nat → Bool} {m : Nat} : ∀ (n i : Nat), (∀ j, i ≤ j → j < i + n → p j = (decide (j ≤ m) && q j)) → i ≤ m + 1 → m < i + n → fnd p n i = fnd q (m + 1 - i) i
  | 0, i, _, h1, h2 => by
    rw [show m + 1 - i = 0 by omega]
    rfl
  | n + 1, i, h, h1, h2 => by
    by_cases c : i = m + 1
    · rw [show m + 1 - i = 0 by omega]
      have hh : ∀ (n i : Nat), (∀ j, i ≤ j → j < i + n → p j = false) → fnd p n i = none := by
        intro n
        induction n with
        | zero => intro i _; rfl
        | succ n ih =>
          intro i hp
          show (if p i = true then _ else _) = _
          rw [hp i (Nat.le_refl _) (by omega), if_neg (by decide)]
          exact ih (i + 1) (fun j a1 a2 => hp j (by omega) (by omega))
      exact hh (n + 1) i (fun j a1 a2 => by rw [h j a1 a2, decide_eq_false (by omega)]; rfl)
    · obtain ⟨k, hk⟩ : ∃ k, m + 1 - i = k + 1 := ⟨m - i, by omega⟩
      rw [hk]
      show (if p i = true then some i else fnd p n (i + 1)) = (if q i = true then some i else fnd q k (i + 1))
      rw [h i (Nat.le_refl _) (by omega), decide_eq_true (by omega), Bool.true_and, fnd_cut n (i + 1) (fun j a1 a2 => h j (by omega) (by omega)) (by omega) (by omega), show m + 1 - (i + 1) = k by omega]
end MUST
end
section
/-! THE CLASS: what is thought of. -/
/-- a realm with one lane more, of which ends and length are not said -/
def PL (ρ : RC) (K : KD) (e : Nat) : Prop := rhd ρ 0 = nI (kh K 0) ∧ rhd ρ 1 = nI (kh K 1) ∧ rhd ρ 2 = nI (kh K 5) ∧ rhd ρ 3 = nI (kh K 12) ∧ rhd ρ 6 = nI (kh K 2) ∧ rhd ρ 8 = nI (kh K 3 + 1) ∧ rhd ρ 10 = nI (kh K 4)
  ∧ (0 < kh K 0 → ∀ j, j < 5 → rlw ρ j = nI (kh K (6 + j)))
  ∧ (∀ i, i < kh K 2 → rlk ρ i 1 = 0 ∧ rlk ρ i 2 = bitsE (kr K i 0) (kr K i 1) ∧ rlk ρ i 3 = nI (kr K i 2) ∧ rlk ρ i 6 = 0)
  ∧ (∀ l, l < kh K 3 → rlk ρ (12 + l) 1 = nI (kl K l 5 + 1) ∧ rlk ρ (12 + l) 2 = bitsE (kl K l 0) (kl K l 1) ∧ rlk ρ (12 + l) 3 = nI (kl K l 2) ∧ rlk ρ (12 + l) 4 = nI (kl K l 3) ∧ rlk ρ (12 + l) 5 = nI (kl K l 4) ∧ rlk ρ (12 + l) 6 = nI (kl K l 6))
  ∧ (rlk ρ (12 + kh K 3) 1 = 1 ∧ rlk ρ (12 + kh K 3) 4 = 0 ∧ rlk ρ (12 + kh K 3) 5 = nI e ∧ rlk ρ (12 + kh K 3) 6 = 0)
  ∧ (∀ i, i < kh K 4 → rwk ρ i 0 = nI (kw K i 0) ∧ rwk ρ i 1 = nI (kw K i 1) ∧ rwk ρ i 2 = nI (kw K i 2) ∧ rwk ρ i 3 = nI (kw K i 3 - 1) ∧ ∀ j, j < kw K i 3 → rst ρ i j = nI (kw K i (4 + j)))
section THC
variable {d : Nat} {M : AM} {r : Nat} {ρ : RC} {K : KD} {κ κ' : CS} {Q : Option Value → AM → Prop}
theorem k_linkBegin {i : Nat} (hi : i < 9) {x : Int32} : Wp d md_6 0 [some (.ref (r + 16 + i)), some (.int x)] [] (rset M r ρ) (fun v M' => v = none ∧ ∃ ρ', M' = rset M r ρ' ∧ ρ'.1 = ρ.1 ∧ ρ'.2.1 = ρ.2.1 ∧ ρ'.2.2.2 = ρ.2.2.2 ∧ (∀ q, q ≠ 12 + i → rlk ρ' q = rlk ρ q) ∧ rlk ρ' (12 + i) 1 = x ∧ ∀ j, 2 ≤ j → j ≤ 6 → rlk ρ' (12 + i) j = 0) := by
  refine Wp.n (pc' := 2) 2 rfl ?_
  refine Wp.kputL 1 rfl hi (len := 3) rfl ?_
  refine Wp.n (pc' := 7) 2 rfl ?_
  refine Wp.kputL 2 rfl hi (len := 3) rfl ?_
  refine Wp.n (pc' := 12) 2 rfl ?_
  refine Wp.kputL 3 rfl hi (len := 3) rfl ?_
  refine Wp.n (pc' := 17) 2 rfl ?_
  refine Wp.kputL 4 rfl hi (len := 3) rfl ?_
  refine Wp.n (pc' := 22) 2 rfl ?_
  refine Wp.kputL 5 rfl hi (len := 3) rfl ?_
  refine Wp.n (pc' := 27) 2 rfl ?_
  refine Wp.kputL 6 rfl hi (len := 3) rfl ?_
  refine Wp.retV (len := 1) rfl rfl ?_
  refine ⟨rfl, _, rfl, rfl, rfl, rfl, fun q hq => ?_, ?_, fun j h2 h6 => ?_⟩
  · rw [rlk_kn hq, rlk_kn hq, rlk_kn hq, rlk_kn hq, rlk_kn hq, rlk_kn hq]
  · rw [rlk_ks, rlk_ks, rlk_ks, rlk_ks, rlk_ks, rlk_ks]
    rfl
  · rw [rlk_ks, rlk_ks, rlk_ks, rlk_ks, rlk_ks, rlk_ks]
    obtain rfl | rfl | rfl | rfl | rfl : j = 2 ∨ j = 3 ∨ j = 4 ∨ j = 5 ∨ j = 6 := by omega
    all_goals rfl

theorem k_addLane (hK : RepC ρ K) (ok : KOK K) (h11 : kh K 11 = 0) (h1 : 1 ≤ kh K 1) (hr : 32 ≤ r) : Wp (d + 1) md_46 0 [some (.ref r)] [] (rset M r ρ) (fun v M' => v = none ∧ ∃ ρ', M' = rset M r ρ' ∧ PL ρ' K (kh K 1 - 1) ∧ rds ρ' = rds ρ) := by
  obtain ⟨b0, b1, b2, b3, b4, b5, b6, b7, b8, b9, b10, b11, b12⟩ := ok_h ok
  have h8 : rhd ρ 8 = nI (kh K 3) := by rw [rc_la hK, h11, Nat.add_zero]
  refine Wp.n (pc' := 1) 1 rfl ?_
  refine Wp.get (len := 3) rfl (rs_obj) rfl ?_
  refine Wp.top h8 ?_
  refine Wp.n (pc' := 6) 1 rfl ?_
  refine Wp.nc4 (x := kh K 3) (y := 8) (tgt := 50) (len := 3) rfl (by omega) (by omega) (fun h6 => ?_) (fun h6 => ?_)
  · omega
  · skip
    refine Wp.n (pc' := 10) 1 rfl ?_
    refine Wp.get (len := 3) rfl (rs_obj) rfl ?_
    refine Wp.n (pc' := 14) 1 rfl ?_
    refine Wp.get (len := 3) rfl (rs_obj) rfl ?_
    refine Wp.top h8 ?_
    refine Wp.aaldN (j := kh K 3) (len := 1) rfl (rs_lanes) rfl (by omega) (by decide) (if_pos (by omega)) ?_
    refine Wp.n (pc' := 19) 1 rfl ?_
    refine Wp.callV (len := 3) rfl rfl rfl (rs_lane (by omega)) rfl (by omega) rfl (k_linkBegin (i := kh K 3) (by omega)) ?_
    rintro _ _ ⟨rfl, ρ2, rfl, e1, e2, e3, e4, e5, e6⟩
    refine Wp.n (pc' := 23) 1 rfl ?_
    refine Wp.get (len := 3) rfl (rs_obj) rfl ?_
    refine Wp.n (pc' := 27) 1 rfl ?_
    refine Wp.get (len := 3) rfl (rs_obj) rfl ?_
    refine Wp.top (show _ = nI (kh K 3) from by show ρ2.1 8 = _; rw [e1]; exact h8) ?_
    refine Wp.aaldN (j := kh K 3) (len := 1) rfl (rs_lanes) rfl (by omega) (by decide) (if_pos (by omega)) ?_
    refine Wp.n (pc' := 32) 1 rfl ?_
    refine Wp.get (len := 3) rfl (rs_obj) rfl ?_
    refine Wp.top (show _ = nI (kh K 1) from by show ρ2.1 1 = _; rw [e1]; exact rc_dy hK) ?_
    refine Wp.n (pc' := 36) 1 rfl ?_
    refine Wp.isubN (x := kh K 1) (y := 1) (len := 1) rfl (by omega) ?_
    refine Wp.kputL 5 rfl (i := kh K 3) (by omega) (len := 3) rfl ?_
    refine Wp.n (pc' := 42) 2 rfl ?_
    refine Wp.get (len := 3) rfl (rs_obj) rfl ?_
    refine Wp.top (show _ = nI (kh K 3) from by show ρ2.1 8 = _; rw [e1]; exact h8) ?_
    refine Wp.n (pc' := 46) 1 rfl ?_
    refine Wp.iaddN (x := kh K 3) (y := 1) (len := 1) rfl ?_
    refine Wp.rput 8 rfl (len := 3) rfl ?_
    refine Wp.retV (len := 1) rfl rfl ?_
    refine ⟨rfl, _, rfl, ⟨?_, ?_, ?_, ?_, ?_, rfl, ?_, fun h0 j hj => ?_, fun i hi => ?_, fun l hl => ?_, ⟨?_, ?_, ?_, ?_⟩, fun i hi => ?_⟩, ?_⟩
    · show ρ2.1 0 = _
      rw [e1]; exact rc_pl hK
    · show ρ2.1 1 = _
      rw [e1]; exact rc_dy hK
    · show ρ2.1 2 = _
      rw [e1]; exact rc_ln hK
    · show ρ2.1 3 = _
      rw [e1]; exact rc_fl hK
    · show ρ2.1 6 = _
      rw [e1]; exact rc_rd hK
    · show ρ2.1 10 = _
      rw [e1]; exact rc_wk hK
    · show ρ2.2.1 j = _
      rw [e2]; exact rc_law hK h0 hj
    · have q := rc_road hK hi
      show rlk (kset ρ2 (12 + kh K 3) 5 _) i 1 = 0 ∧ rlk (kset ρ2 (12 + kh K 3) 5 _) i 2 = _ ∧ rlk (kset ρ2 (12 + kh K 3) 5 _) i 3 = _ ∧ rlk (kset ρ2 (12 + kh K 3) 5 _) i 6 = 0
      rw [rlk_kn (by omega), e4 i (by omega)]
      exact q
    · have q := rc_lane hK (Or.inl hl)
      rw [show phL K l = l from if_neg (by omega)] at q
      show rlk (kset ρ2 (12 + kh K 3) 5 _) (12 + l) 1 = _ ∧ rlk (kset ρ2 (12 + kh K 3) 5 _) (12 + l) 2 = _ ∧ rlk (kset ρ2 (12 + kh K 3) 5 _) (12 + l) 3 = _ ∧ rlk (kset ρ2 (12 + kh K 3) 5 _) (12 + l) 4 = _ ∧ rlk (kset ρ2 (12 + kh K 3) 5 _) (12 + l) 5 = _ ∧ rlk (kset ρ2 (12 + kh K 3) 5 _) (12 + l) 6 = _
      rw [rlk_kn (by omega), e4 (12 + l) (by omega)]
      exact q
    · show rlk (kset ρ2 (12 + kh K 3) 5 _) (12 + kh K 3) 1 = _
      rw [rlk_ks, pk_un (by decide)]; exact e5
    · show rlk (kset ρ2 (12 + kh K 3) 5 _) (12 + kh K 3) 4 = _
      rw [rlk_ks, pk_un (by decide)]; exact e6 4 (by decide) (by decide)
    · show rlk (kset ρ2 (12 + kh K 3) 5 _) (12 + kh K 3) 5 = _
      rw [rlk_ks, pk_us]
    · show rlk (kset ρ2 (12 + kh K 3) 5 _) (12 + kh K 3) 6 = _
      rw [rlk_ks, pk_un (by decide)]; exact e6 6 (by decide) (by decide)
    · have q := rc_walk hK hi
      show ρ2.2.2.2.1 i 0 = _ ∧ ρ2.2.2.2.1 i 1 = _ ∧ ρ2.2.2.2.1 i 2 = _ ∧ ρ2.2.2.2.1 i 3 = _ ∧ ∀ j, j < kw K i 3 → ρ2.2.2.2.2.1 i j = _
      rw [e3]
      exact q
    · show ρ2.2.2.2.2.2 = _
      rw [e3]
      rfl

theorem k_placeLast {e : Nat} (hP : PL ρ K e) (ok : KOK K) (hr : 32 ≤ r) {a b m : Nat} : Wp d md_47 0 [some (.ref r), some (.int (nI a)), some (.int (nI b)), some (.int (nI m))] [] (rset M r ρ) (fun v M' => v = none ∧ ∃ ρ', M' = rset M r ρ' ∧ PL ρ' K e ∧ RepC ρ' (laneK K a b m e) ∧ rds ρ' = rds ρ) := by
  obtain ⟨b0, b1, b2, b3, b4, b5, b6, b7, b8, b9, b10, b11, b12⟩ := ok_h ok
  obtain ⟨p0, p1, p2, p3, p6, p8, p10, pl, pr, pn, ⟨q1, q4, q5, q6⟩, pw⟩ := hP
  refine Wp.n (pc' := 1) 1 rfl ?_
  refine Wp.get (len := 3) rfl (rs_obj) rfl ?_
  refine Wp.top p8 ?_
  refine Wp.nz5 (x := kh K 3 + 1) (tgt := 43) (len := 3) rfl (by omega) (fun h4 => ?_) (fun h4 => ?_)
  · omega
  · skip
    refine Wp.n (pc' := 8) 1 rfl ?_
    refine Wp.get (len := 3) rfl (rs_obj) rfl ?_
    refine Wp.n (pc' := 12) 1 rfl ?_
    refine Wp.get (len := 3) rfl (rs_obj) rfl ?_
    refine Wp.top p8 ?_
    refine Wp.n (pc' := 16) 1 rfl ?_
    refine Wp.isubN (x := kh K 3 + 1) (y := 1) (len := 1) rfl (by omega) ?_
    refine Wp.top (show nI (kh K 3 + 1 - 1) = nI (kh K 3) from rfl) ?_
    refine Wp.aaldN (j := kh K 3) (len := 1) rfl (rs_lanes) rfl (by omega) (by decide) (if_pos (by omega)) ?_
    refine Wp.n (pc' := 25) 7 rfl ?_
    refine Wp.kputL 2 rfl (i := kh K 3) (by omega) (len := 3) rfl ?_
    refine Wp.n (pc' := 29) 1 rfl ?_
    refine Wp.get (len := 3) rfl (rs_obj) rfl ?_
    refine Wp.n (pc' := 33) 1 rfl ?_
    refine Wp.get (len := 3) rfl (rs_obj) rfl ?_
    refine Wp.top (show _ = nI (kh K 3 + 1) from p8) ?_
    refine Wp.n (pc' := 37) 1 rfl ?_
    refine Wp.isubN (x := kh K 3 + 1) (y := 1) (len := 1) rfl (by omega) ?_
    refine Wp.top (show nI (kh K 3 + 1 - 1) = nI (kh K 3) from rfl) ?_
    refine Wp.aaldN (j := kh K 3) (len := 1) rfl (rs_lanes) rfl (by omega) (by decide) (if_pos (by omega)) ?_
    refine Wp.n (pc' := 40) 1 rfl ?_
    refine Wp.kputL 3 rfl (i := kh K 3) (by omega) (len := 3) rfl ?_
    refine Wp.retV (len := 1) rfl rfl ?_
    have ko : ∀ q, q ≠ 12 + kh K 3 → rlk (kset (kset ρ (12 + kh K 3) 2 (bitsE a b)) (12 + kh K 3) 3 (nI m)) q = rlk ρ q := fun q hq => by rw [rlk_kn hq, rlk_kn hq]
    have ks : ∀ j, j ≠ 2 → j ≠ 3 → rlk (kset (kset ρ (12 + kh K 3) 2 (bitsE a b)) (12 + kh K 3) 3 (nI m)) (12 + kh K 3) j = rlk ρ (12 + kh K 3) j := fun j h2 h3 => by rw [rlk_ks, rlk_ks, pk_un h3, pk_un h2]
    have k2 : rlk (kset (kset ρ (12 + kh K 3) 2 (bitsE a b)) (12 + kh K 3) 3 (nI m)) (12 + kh K 3) 2 = bitsE a b := by rw [rlk_ks, rlk_ks, pk_un (by decide), pk_us]
    have k3 : rlk (kset (kset ρ (12 + kh K 3) 2 (bitsE a b)) (12 + kh K 3) 3 (nI m)) (12 + kh K 3) 3 = nI m := by rw [rlk_ks, pk_us]
    refine ⟨rfl, kset (kset ρ (12 + kh K 3) 2 (bitsE a b)) (12 + kh K 3) 3 (nI m), rfl, ⟨p0, p1, p2, p3, p6, p8, p10, pl, fun i hi => ?_, fun l hl => ?_, ?_, pw⟩, ⟨p0, p1, p2, p3, p6, p8, p10, fun h0 j hj => (pl h0 j hj).trans (by rw [show kh (laneK K a b m e) (6 + j) = kh K (6 + j) from if_neg (by omega)]), fun i hi => ?_, fun l hl => ?_, pw⟩, rfl⟩
    · rw [ko i (by omega)]; exact pr i hi
    · rw [ko (12 + l) (by omega)]; exact pn l hl
    · rw [ks 1 (by decide) (by decide), ks 4 (by decide) (by decide), ks 5 (by decide) (by decide), ks 6 (by decide) (by decide)]
      exact ⟨q1, q4, q5, q6⟩
    · rw [ko i (by have : i < kh K 2 := hi; omega)]; exact pr i hi
    · by_cases c : l = 8
      · subst c
        rw [show phL (laneK K a b m e) 8 = kh K 3 from if_pos rfl, ks 1 (by decide) (by decide), ks 4 (by decide) (by decide), ks 5 (by decide) (by decide), ks 6 (by decide) (by decide), k2, k3]
        exact ⟨q1, rfl, rfl, q4, q5, q6⟩
      · have hl3 : l < kh K 3 := by
          rcases hl with q | q
          · exact q
          · exact absurd q.1 c
        rw [show phL (laneK K a b m e) l = l from if_neg c, ko (12 + l) (by omega), show kl (laneK K a b m e) l = kl K l from if_neg c]
        exact pn l hl3

/-- the class's object, its realm, and a draft -/
def HDR (M : AM) (K : KD) : Prop := HD M ∧ RK M 36 K ∧ ∃ ρ, RA M 83 ρ
theorem HDR_d {ρ : RC} (h : HDR M K) : HDR (rset M 83 ρ) K := by
  obtain ⟨h1, h2, h3⟩ := h
  exact ⟨hd_to (rset_ne (by omega)) (rset_ne (by omega)) h1, RK_of h2 (fun k a b => rset_ne (by omega)), ρ, rset_ra⟩
def RDI (M : AM) (κ : CS) (a : Int32) : Option Value → AM → Prop := fun v M' => v = some (.int a) ∧ ∃ ρ κ', M' = cset (rset M 83 ρ) κ' ∧ ScC κ κ'
theorem RDI_s {ρ : RC} {a b : Int32} (e : ScC κ κ') (h : a = b) : RDI M κ b (some (.int a)) (cset (rset M 83 ρ) κ') := ⟨by rw [h], ρ, κ', rfl, e⟩
theorem RDI_r {a b : Int32} (hR : ∃ ρ, RA M 83 ρ) (e : ScC κ κ') (h : a = b) : RDI M κ b (some (.int a)) (cset M κ') := by
  obtain ⟨ρ, hρ⟩ := hR
  have w := RDI_s (M := M) (ρ := ρ) e h
  rw [show rset M 83 ρ = M from hρ] at w
  exact w
theorem RK_lane {a b m : Nat} {ρ : RC} (ok : KOK (laneK K a b m (kh K 1 - 1))) (hK : RepC ρ (laneK K a b m (kh K 1 - 1))) (hD : DC (rds ρ) K (distK K)) : RK (rset M 83 ρ) 83 (laneK K a b m (kh K 1 - 1)) := ⟨ρ, rset_ra, hK, hD, ok, by decide, by decide⟩
theorem k_becomeD (h : HDR M K) (h11 : kh K 11 = 0) : Wp (d + 9) md_32 0 [some (.ref 83), some (.ref 36), none] [] (cset M κ) (fun v M' => v = none ∧ ∃ ρ, M' = cset (rset M 83 ρ) κ ∧ RepC ρ K ∧ DC (rds ρ) K (distK K)) := by
  obtain ⟨hD, ⟨ρs, hR, hK, hDC, ok, _, _⟩, ρ, hρ⟩ := h
  have b0 := (ok_h ok).1
  refine Wp.mono (k_become (RA_c hρ (by decide) (by decide)) (RA_c hR (by decide) (by decide)) (by decide) (by decide) (by decide) hK ok h11) ?_
  rintro _ _ ⟨rfl, ρ', rfl, h1, h2⟩
  exact ⟨rfl, ρ', rset_c (by decide) (by decide), h1, fun x y hx hy => by rw [h2 _ (by omega)]; exact hDC x y hx hy⟩
theorem k_addLaneD {ρ : RC} (hK : RepC ρ K) (ok : KOK K) (h11 : kh K 11 = 0) (h1 : 1 ≤ kh K 1) : Wp (d + 1) md_46 0 [some (.ref 83)] [] (cset (rset M 83 ρ) κ) (fun v M' => v = none ∧ ∃ ρ', M' = cset (rset M 83 ρ') κ ∧ PL ρ' K (kh K 1 - 1) ∧ rds ρ' = rds ρ) := by
  rw [← rset_c (by decide) (by decide)]
  refine Wp.mono (k_addLane hK ok h11 h1 (by decide)) ?_
  rintro _ _ ⟨rfl, ρ', rfl, h2, h3⟩
  exact ⟨rfl, ρ', rset_c (by decide) (by decide), h2, h3⟩
theorem k_placeD {ρ : RC} {e a b m : Nat} (hP : PL ρ K e) (ok : KOK K) : Wp d md_47 0 [some (.ref 83), some (.int (nI a)), some (.int (nI b)), some (.int (nI m))] [] (cset (rset M 83 ρ) κ) (fun v M' => v = none ∧ ∃ ρ', M' = cset (rset M 83 ρ') κ ∧ PL ρ' K e ∧ RepC ρ' (laneK K a b m e) ∧ rds ρ' = rds ρ) := by
  rw [← rset_c (by decide) (by decide)]
  refine Wp.mono (k_placeLast hP ok (by decide)) ?_
  rintro _ _ ⟨rfl, ρ', rfl, h2, h3⟩
  exact ⟨rfl, ρ', rset_c (by decide) (by decide), h2, h3⟩

theorem k_lane (hH : HDR M K) (h11 : kh K 11 = 0) (hd1 : 0 < kh K 0 → 1 ≤ kh K 1) (x y m k : Int32) : Wp (d + 14) md_125 0 [some (.ref 32), some (.int x), some (.int y), some (.int m), some (.int k)] [] (cset M κ) (RDI M κ (laneA K x y m k)) := by
  obtain ⟨ρr, hR, hK, hDC, ok, hr1, hr2⟩ := id hH.2.1
  obtain ⟨b0, b1, b2, b3, b4, b5, b6, b7, b8, b9, b10, b11, b12⟩ := ok_h ok
  obtain ⟨ow, hDo⟩ := hH.1.1
  have hO : ∀ (ρ : RC) (κ : CS), cset (rset M 83 ρ) κ 32 = .inr (9, hdl ow) := fun ρ κ => (cset_o (by omega)).trans ((rset_ne (by omega)).trans hDo)
  have hO0 : ∀ κ : CS, cset M κ 32 = .inr (9, hdl ow) := fun κ => (cset_o (by omega)).trans hDo
  have hR0 : ∀ κ : CS, RA (cset M κ) 36 ρr := fun κ => RA_c hR hr1 hr2
  have hRd : ∀ (ρ : RC) (κ : CS), RA (cset (rset M 83 ρ) κ) 36 ρr := fun ρ κ => RA_c (RA_of hR (fun k a b => rset_ne (by omega))) hr1 hr2
  have hDd : ∀ (ρ : RC) (κ : CS), cset (rset M 83 ρ) κ 83 = .inr (3, rfs 83 ρ) := fun ρ κ => (cset_o (by omega)).trans rs_obj
  have hD0 : ∃ ρ0, ∀ κ : CS, cset M κ 83 = .inr (3, rfs 83 ρ0) := by
    obtain ⟨ρ0, h0⟩ := hH.2.2
    exact ⟨ρ0, fun κ => (cset_o (by omega)).trans (ra_obj h0)⟩
  obtain ⟨ρ0, hD0⟩ := hD0
  unfold laneA
  refine Wp.n (pc' := 3) 3 rfl ?_
  refine Wp.ecallV (len := 3) rfl rfl rfl (hO0 _) rfl (by decide) rfl (k_arePlaces hH.1 hH.2.1 _ _) ?_
  refine Wp.ifb0 (tgt := 29) (len := 3) rfl (fun h6 => ?_) (fun h6 => ?_)
  · skip
    refine Wp.n (pc' := 32) 1 rfl ?_
    refine Wp.retI (len := 1) rfl rfl ?_
    refine RDI_r hH.2.2 ScC_r ?_
    first
      | rw [if_neg (fun q => by have q1 := q.1; unfold areT at q1; rw [h6] at q1; cases q1)]
      | rw [if_neg (fun q => by have q1 := q.1; unfold areT at q1; rw [decide_eq_true h11_, Bool.not_true, Bool.and_false] at q1; cases q1)]
      | rw [if_neg (fun q => by rw [show isR 1 99 m = false from h18] at q; exact absurd q.2.1 (by decide))]
      | rw [if_neg (fun q => by rw [h26] at q; exact absurd q.2.2 (by decide))]
  · skip
    refine Wp.n (pc' := 11) 2 rfl ?_
    refine Wp.ic0 (tgt := 29) (len := 3) rfl (fun h11_ => ?_) (fun h11_ => ?_)
    · skip
      refine Wp.n (pc' := 32) 1 rfl ?_
      refine Wp.retI (len := 1) rfl rfl ?_
      refine RDI_r hH.2.2 ScC_r ?_
      first
        | rw [if_neg (fun q => by have q1 := q.1; unfold areT at q1; rw [h6] at q1; cases q1)]
        | rw [if_neg (fun q => by have q1 := q.1; unfold areT at q1; rw [decide_eq_true h11_, Bool.not_true, Bool.and_false] at q1; cases q1)]
        | rw [if_neg (fun q => by rw [show isR 1 99 m = false from h18] at q; exact absurd q.2.1 (by decide))]
        | rw [if_neg (fun q => by rw [h26] at q; exact absurd q.2.2 (by decide))]
    · skip
      refine Wp.n (pc' := 15) 1 rfl ?_
      refine Wp.ecallS (len := 3) rfl rfl rfl rfl (c_isThought _) ?_
      refine Wp.ifb0 (tgt := 29) (len := 3) rfl (fun h18 => ?_) (fun h18 => ?_)
      · skip
        refine Wp.n (pc' := 32) 1 rfl ?_
        refine Wp.retI (len := 1) rfl rfl ?_
        refine RDI_r hH.2.2 ScC_r ?_
        first
          | rw [if_neg (fun q => by have q1 := q.1; unfold areT at q1; rw [h6] at q1; cases q1)]
          | rw [if_neg (fun q => by have q1 := q.1; unfold areT at q1; rw [decide_eq_true h11_, Bool.not_true, Bool.and_false] at q1; cases q1)]
          | rw [if_neg (fun q => by rw [show isR 1 99 m = false from h18] at q; exact absurd q.2.1 (by decide))]
          | rw [if_neg (fun q => by rw [h26] at q; exact absurd q.2.2 (by decide))]
      · skip
        refine Wp.n (pc' := 23) 1 rfl ?_
        refine Wp.ecallS (len := 3) rfl rfl rfl rfl (k_isSumN _) ?_
        refine Wp.ifb1 (tgt := 33) (len := 3) rfl (fun h26 => ?_) (fun h26 => ?_)
        · skip
          have hT : areT K x y = true := by unfold areT; rw [h6, decide_eq_false h11_]; rfl
          obtain ⟨a, t, ha, ht, hat, rfl, rfl⟩ := areT_of hT
          obtain ⟨m, hm1, hm9, hm, rfl⟩ := isR_of (lo := 1) (hi := 99) h18
          obtain ⟨k, hk4, rfl⟩ := isN_of h26
          rw [if_pos ⟨hT, h18, h26⟩, nI_clamp (by omega), nI_clamp (by omega), nI_clamp hm, nI_clamp (by omega), allK_lane ok]
          refine Wp.n (pc' := 34) 1 rfl ?_
          refine Wp.get (len := 3) rfl (hO0 _) rfl ?_
          refine Wp.n (pc' := 38) 1 rfl ?_
          refine Wp.get (len := 3) rfl (hO0 _) rfl ?_
          refine Wp.callV (len := 3) rfl rfl rfl (hD0 _) rfl (by decide) rfl (k_becomeD hH h11) ?_
          rintro _ _ ⟨rfl, ρ1, rfl, hK1, hDC1⟩
          refine Wp.n (pc' := 45) 1 rfl ?_
          refine Wp.get (len := 3) rfl (hO _ _) rfl ?_
          refine Wp.callV (len := 3) rfl rfl rfl (hDd _ _) rfl (by decide) rfl (k_addLaneD hK1 ok h11 (hd1 (by omega))) ?_
          rintro _ _ ⟨rfl, ρ2, rfl, hP2, hd2⟩
          refine Wp.n (pc' := 52) 1 rfl ?_
          refine Wp.get (len := 3) rfl (hO _ _) rfl ?_
          refine Wp.n (pc' := 58) 3 rfl ?_
          refine Wp.callV (len := 3) rfl rfl rfl (hDd _ _) rfl (by decide) rfl (k_placeD (a := a) (b := t) (m := m) hP2 ok) ?_
          rintro _ _ ⟨rfl, ρ3, rfl, hP3, hK3, hd3⟩
          have hD3 : DC (rds ρ3) K (distK K) := by rw [hd3, hd2]; exact hDC1
          have ok3 := laneK_ok ok (e := kh K 1 - 1) ha ht hat hm1 hm9 (by omega)
          refine Wp.n (pc' := 63) 2 rfl ?_
          refine Wp.get (len := 3) rfl (hO _ _) rfl ?_
          refine Wp.n (pc' := 68) 1 rfl ?_
          refine Wp.callV (len := 3) rfl rfl rfl (hO _ _) rfl (by decide) rfl (k_bestSum (HDR_d hH).1 (RK_lane ok3 hK3 hD3) hk4) ?_
          rintro _ _ ⟨rfl, κ4, rfl, hS4⟩
          refine Wp.n (pc' := 73) 2 rfl ?_
          refine Wp.get (len := 3) rfl (hO _ _) rfl ?_
          refine Wp.n (pc' := 78) 1 rfl ?_
          refine Wp.callV (len := 3) rfl rfl rfl (hO _ _) rfl (by decide) rfl (k_bestSum (HDR_d hH).1 (HDR_d hH).2.1 hk4) ?_
          rintro _ _ ⟨rfl, κ5, rfl, hS5⟩
          refine Wp.n (pc' := 82) 1 rfl ?_
          refine Wp.retI (len := 1) rfl rfl ?_
          exact RDI_s (ScC_t hS4 hS5) rfl
        · skip
          refine Wp.n (pc' := 32) 1 rfl ?_
          refine Wp.retI (len := 1) rfl rfl ?_
          refine RDI_r hH.2.2 ScC_r ?_
          first
            | rw [if_neg (fun q => by have q1 := q.1; unfold areT at q1; rw [h6] at q1; cases q1)]
            | rw [if_neg (fun q => by have q1 := q.1; unfold areT at q1; rw [decide_eq_true h11_, Bool.not_true, Bool.and_false] at q1; cases q1)]
            | rw [if_neg (fun q => by rw [show isR 1 99 m = false from h18] at q; exact absurd q.2.1 (by decide))]
            | rw [if_neg (fun q => by rw [h26] at q; exact absurd q.2.2 (by decide))]

theorem k_help_b (hH : HDR M K) (h11 : kh K 11 = 0) {m a : Nat} (h1 : 1 ≤ m) (h2 : m ≤ 99) (ha : a < kh K 0) : ∀ (n b : Nat) (st : Nat × Option Nat) (κ2 : CS) (ρ : RC) (z6 : Option Value), b + n = kh K 0 → a < b → ScC κ κ2 → st.1 ≤ 7662600 → PL ρ K (kh K 1 - 1) → DC (rds ρ) K (distK K) → (∀ κ3 ρ3 z6' st', st' = fld (hst K m a) n b st → st'.1 ≤ 7662600 → ScC κ κ3 → PL ρ3 K (kh K 1 - 1) → DC (rds ρ3) K (distK K) → Wp (d + 14) md_127 130 [some (.ref 32), some (.int (nI m)), some (.int (nI (st'.1))), some (.int (oI st'.2)), some (.int (nI a)), some (.int (nI (kh K 0))), z6'] [] (cset (rset M 83 ρ3) κ3) Q) → Wp (d + 14) md_127 71 [some (.ref 32), some (.int (nI m)), some (.int (nI (st.1))), some (.int (oI st.2)), some (.int (nI a)), some (.int (nI b)), z6] [] (cset (rset M 83 ρ) κ2) Q := by
  obtain ⟨ρr, hR, hK, hDC, ok, hr1, hr2⟩ := id hH.2.1
  obtain ⟨b0, b1, b2, b3, b4, b5, b6, b7, b8, b9, b10, b11, b12⟩ := ok_h ok
  obtain ⟨ow, hDo⟩ := hH.1.1
  have hO : ∀ (ρ : RC) (κ : CS), cset (rset M 83 ρ) κ 32 = .inr (9, hdl ow) := fun ρ κ => (cset_o (by omega)).trans ((rset_ne (by omega)).trans hDo)
  have hO0 : ∀ κ : CS, cset M κ 32 = .inr (9, hdl ow) := fun κ => (cset_o (by omega)).trans hDo
  have hR0 : ∀ κ : CS, RA (cset M κ) 36 ρr := fun κ => RA_c hR hr1 hr2
  have hRd : ∀ (ρ : RC) (κ : CS), RA (cset (rset M 83 ρ) κ) 36 ρr := fun ρ κ => RA_c (RA_of hR (fun k a b => rset_ne (by omega))) hr1 hr2
  have hDd : ∀ (ρ : RC) (κ : CS), cset (rset M 83 ρ) κ 83 = .inr (3, rfs 83 ρ) := fun ρ κ => (cset_o (by omega)).trans rs_obj
  have hD0 : ∃ ρ0, ∀ κ : CS, cset M κ 83 = .inr (3, rfs 83 ρ0) := by
    obtain ⟨ρ0, h0⟩ := hH.2.2
    exact ⟨ρ0, fun κ => (cset_o (by omega)).trans (ra_obj h0)⟩
  obtain ⟨ρ0, hD0⟩ := hD0
  intro n
  induction n with
  | zero =>
    intro b st κ2 ρ z6 hb hab hS hs7 hP hDd2 kk
    refine Wp.n (pc' := 74) 2 rfl ?_
    refine Wp.get (len := 3) rfl (hO _ _) rfl ?_
    refine Wp.get (len := 3) rfl (ra_obj (hRd _ _)) rfl ?_
    refine Wp.top (rc_pl hK) ?_
    refine Wp.nc3 (x := b) (y := kh K 0) (tgt := 130) (len := 3) rfl (by omega) (by omega) (fun h80 => ?_) (fun h80 => ?_)
    · skip
      rw [show b = kh K 0 by omega]
      exact kk κ2 ρ _ st rfl hs7 hS hP hDd2
    · omega
  | succ n ih =>
    intro b st κ2 ρ z6 hb hab hS hs7 hP hDd2 kk
    have ok3 := laneK_ok ok (e := kh K 1 - 1) ha (show b < kh K 0 by omega) (by omega) h1 h2 (by omega)
    have hab2 := allK_b (K := laneK K a b m 30) (k := 1) (laneK_ok ok ha (by omega) (by omega) h1 h2 (Nat.le_refl _))
    refine Wp.n (pc' := 74) 2 rfl ?_
    refine Wp.get (len := 3) rfl (hO _ _) rfl ?_
    refine Wp.get (len := 3) rfl (ra_obj (hRd _ _)) rfl ?_
    refine Wp.top (rc_pl hK) ?_
    refine Wp.nc3 (x := b) (y := kh K 0) (tgt := 130) (len := 3) rfl (by omega) (by omega) (fun h80 => ?_) (fun h80 => ?_)
    · omega
    · skip
      refine Wp.n (pc' := 84) 1 rfl ?_
      refine Wp.get (len := 3) rfl (hO _ _) rfl ?_
      refine Wp.n (pc' := 92) 3 rfl ?_
      refine Wp.callV (len := 3) rfl rfl rfl (hDd _ _) rfl (by decide) rfl (k_placeD (a := a) (b := b) (m := m) hP ok) ?_
      rintro _ _ ⟨rfl, ρ3, rfl, hP3, hK3, hd3⟩
      have hD3 : DC (rds ρ3) K (distK K) := by rw [hd3]; exact hDd2
      refine Wp.n (pc' := 97) 2 rfl ?_
      refine Wp.get (len := 3) rfl (hO _ _) rfl ?_
      refine Wp.n (pc' := 101) 1 rfl ?_
      refine Wp.callV (len := 3) rfl rfl rfl (hO _ _) rfl (by decide) rfl (k_bestSum (HDR_d hH).1 (RK_lane ok3 hK3 hD3) (by decide)) ?_
      rintro _ _ ⟨rfl, κ4, rfl, hS4⟩
      rw [← allK_lane ok]
      refine Wp.n (pc' := 109) 3 rfl ?_
      refine Wp.nc3 (x := allK (laneK K a b m 30) 1) (y := st.1) (tgt := 124) (len := 3) rfl (by omega) (by omega) (fun h109 => ?_) (fun h109 => ?_)
      · skip
        refine Wp.incN (x := b) (len := 3) rfl rfl ?_
        refine Wp.n (pc' := 71) 1 rfl ?_
        have ihh := ih (b + 1) (hst K m a st b) κ4 ρ3
        first
          | (have e : hst K m a st b = (allK (laneK K a b m 30) 1, some (10 * a + b)) := if_pos (by omega)
             rw [e] at ihh
             exact ihh _ (by omega) (by omega) (ScC_t hS hS4) hab2 hP3 hD3 (fun κ5 ρ5 z5 st5 e5 => kk κ5 ρ5 z5 st5 (by rw [e5, ← e]; rfl)))
          | (have e : hst K m a st b = st := if_neg (by omega)
             rw [e] at ihh
             exact ihh _ (by omega) (by omega) (ScC_t hS hS4) hs7 hP3 hD3 (fun κ5 ρ5 z5 st5 e5 => kk κ5 ρ5 z5 st5 (e5.trans (congrArg (fld (hst K m a) n (b + 1)) e.symm))))
      · skip
        refine Wp.n (pc' := 119) 4 rfl ?_
        refine Wp.imulN (x := 10) (y := a) (len := 1) rfl ?_
        refine Wp.n (pc' := 122) 1 rfl ?_
        refine Wp.iaddN (x := 10 * a) (y := b) (len := 1) rfl ?_
        refine Wp.n (pc' := 124) 1 rfl ?_
        refine Wp.incN (x := b) (len := 3) rfl rfl ?_
        refine Wp.n (pc' := 71) 1 rfl ?_
        have ihh := ih (b + 1) (hst K m a st b) κ4 ρ3
        first
          | (have e : hst K m a st b = (allK (laneK K a b m 30) 1, some (10 * a + b)) := if_pos (by omega)
             rw [e] at ihh
             exact ihh _ (by omega) (by omega) (ScC_t hS hS4) hab2 hP3 hD3 (fun κ5 ρ5 z5 st5 e5 => kk κ5 ρ5 z5 st5 (by rw [e5, ← e]; rfl)))
          | (have e : hst K m a st b = st := if_neg (by omega)
             rw [e] at ihh
             exact ihh _ (by omega) (by omega) (ScC_t hS hS4) hs7 hP3 hD3 (fun κ5 ρ5 z5 st5 e5 => kk κ5 ρ5 z5 st5 (e5.trans (congrArg (fld (hst K m a) n (b + 1)) e.symm))))

theorem k_help_a (hH : HDR M K) (h11 : kh K 11 = 0) {m : Nat} (h1 : 1 ≤ m) (h2 : m ≤ 99) : ∀ (n a : Nat) (st : Nat × Option Nat) (κ2 : CS) (ρ : RC) (z5 z6 : Option Value), a + n = kh K 0 → ScC κ κ2 → st.1 ≤ 7662600 → PL ρ K (kh K 1 - 1) → DC (rds ρ) K (distK K) → Wp (d + 14) md_127 53 [some (.ref 32), some (.int (nI m)), some (.int (nI (st.1))), some (.int (oI st.2)), some (.int (nI a)), z5, z6] [] (cset (rset M 83 ρ) κ2) (RDI M κ (oI (fld (hstA K m) n a st).2)) := by
  obtain ⟨ρr, hR, hK, hDC, ok, hr1, hr2⟩ := id hH.2.1
  obtain ⟨b0, b1, b2, b3, b4, b5, b6, b7, b8, b9, b10, b11, b12⟩ := ok_h ok
  obtain ⟨ow, hDo⟩ := hH.1.1
  have hO : ∀ (ρ : RC) (κ : CS), cset (rset M 83 ρ) κ 32 = .inr (9, hdl ow) := fun ρ κ => (cset_o (by omega)).trans ((rset_ne (by omega)).trans hDo)
  have hO0 : ∀ κ : CS, cset M κ 32 = .inr (9, hdl ow) := fun κ => (cset_o (by omega)).trans hDo
  have hR0 : ∀ κ : CS, RA (cset M κ) 36 ρr := fun κ => RA_c hR hr1 hr2
  have hRd : ∀ (ρ : RC) (κ : CS), RA (cset (rset M 83 ρ) κ) 36 ρr := fun ρ κ => RA_c (RA_of hR (fun k a b => rset_ne (by omega))) hr1 hr2
  have hDd : ∀ (ρ : RC) (κ : CS), cset (rset M 83 ρ) κ 83 = .inr (3, rfs 83 ρ) := fun ρ κ => (cset_o (by omega)).trans rs_obj
  have hD0 : ∃ ρ0, ∀ κ : CS, cset M κ 83 = .inr (3, rfs 83 ρ0) := by
    obtain ⟨ρ0, h0⟩ := hH.2.2
    exact ⟨ρ0, fun κ => (cset_o (by omega)).trans (ra_obj h0)⟩
  obtain ⟨ρ0, hD0⟩ := hD0
  intro n
  induction n with
  | zero =>
    intro a st κ2 ρ z5 z6 ha hS hs7 hP hDd2
    refine Wp.n (pc' := 56) 2 rfl ?_
    refine Wp.get (len := 3) rfl (hO _ _) rfl ?_
    refine Wp.get (len := 3) rfl (ra_obj (hRd _ _)) rfl ?_
    refine Wp.top (rc_pl hK) ?_
    refine Wp.nc3 (x := a) (y := kh K 0) (tgt := 136) (len := 3) rfl (by omega) (by omega) (fun h62 => ?_) (fun h62 => ?_)
    · skip
      refine Wp.n (pc' := 137) 1 rfl ?_
      refine Wp.retI (len := 1) rfl rfl ?_
      exact RDI_s hS rfl
    · omega
  | succ n ih =>
    intro a st κ2 ρ z5 z6 ha hS hs7 hP hDd2
    refine Wp.n (pc' := 56) 2 rfl ?_
    refine Wp.get (len := 3) rfl (hO _ _) rfl ?_
    refine Wp.get (len := 3) rfl (ra_obj (hRd _ _)) rfl ?_
    refine Wp.top (rc_pl hK) ?_
    refine Wp.nc3 (x := a) (y := kh K 0) (tgt := 136) (len := 3) rfl (by omega) (by omega) (fun h62 => ?_) (fun h62 => ?_)
    · omega
    · skip
      refine Wp.n (pc' := 68) 2 rfl ?_
      refine Wp.iaddN (x := a) (y := 1) (len := 1) rfl ?_
      refine Wp.n (pc' := 71) 1 rfl ?_
      refine k_help_b (κ := κ) hH h11 h1 h2 (by omega) (kh K 0 - (a + 1)) (a + 1) st κ2 ρ _ (by omega) (by omega) hS hs7 hP hDd2 (fun κ3 ρ3 z3 st3 e3 hs3 hS3 hP3 hD3 => ?_)
      refine Wp.incN (x := a) (len := 3) rfl rfl ?_
      refine Wp.n (pc' := 53) 1 rfl ?_
      subst e3
      exact ih (a + 1) _ κ3 ρ3 _ _ (by omega) hS3 hs3 hP3 hD3

theorem k_help (hH : HDR M K) (h11 : kh K 11 = 0) (hd1 : 0 < kh K 0 → 1 ≤ kh K 1) (x : Int32) : Wp (d + 14) md_127 0 [some (.ref 32), some (.int x), none, none, none, none, none] [] (cset M κ) (RDI M κ (helpA K x)) := by
  obtain ⟨ρr, hR, hK, hDC, ok, hr1, hr2⟩ := id hH.2.1
  obtain ⟨b0, b1, b2, b3, b4, b5, b6, b7, b8, b9, b10, b11, b12⟩ := ok_h ok
  obtain ⟨ow, hDo⟩ := hH.1.1
  have hO : ∀ (ρ : RC) (κ : CS), cset (rset M 83 ρ) κ 32 = .inr (9, hdl ow) := fun ρ κ => (cset_o (by omega)).trans ((rset_ne (by omega)).trans hDo)
  have hO0 : ∀ κ : CS, cset M κ 32 = .inr (9, hdl ow) := fun κ => (cset_o (by omega)).trans hDo
  have hR0 : ∀ κ : CS, RA (cset M κ) 36 ρr := fun κ => RA_c hR hr1 hr2
  have hRd : ∀ (ρ : RC) (κ : CS), RA (cset (rset M 83 ρ) κ) 36 ρr := fun ρ κ => RA_c (RA_of hR (fun k a b => rset_ne (by omega))) hr1 hr2
  have hDd : ∀ (ρ : RC) (κ : CS), cset (rset M 83 ρ) κ 83 = .inr (3, rfs 83 ρ) := fun ρ κ => (cset_o (by omega)).trans rs_obj
  have hD0 : ∃ ρ0, ∀ κ : CS, cset M κ 83 = .inr (3, rfs 83 ρ0) := by
    obtain ⟨ρ0, h0⟩ := hH.2.2
    exact ⟨ρ0, fun κ => (cset_o (by omega)).trans (ra_obj h0)⟩
  obtain ⟨ρ0, hD0⟩ := hD0
  unfold helpA
  refine Wp.n (pc' := 1) 1 rfl ?_
  refine Wp.get (len := 3) rfl (hO0 _) rfl ?_
  refine Wp.ecallV (len := 3) rfl rfl rfl (ra_obj (hR0 _)) rfl (by decide) rfl (k_exists (RK_c hH.2.1)) ?_
  refine Wp.ifb0 (tgt := 17) (len := 3) rfl (fun h7 => ?_) (fun h7 => ?_)
  · skip
    refine Wp.n (pc' := 19) 1 rfl ?_
    refine Wp.retI (len := 1) rfl rfl ?_
    refine RDI_r hH.2.2 ScC_r ?_
    first
      | rw [if_neg (fun q => of_decide_eq_false h7 q.1)]
      | rw [if_neg (fun q => by rw [show isR 1 99 x = false from h14] at q; exact absurd q.2 (by decide))]
  · skip
    refine Wp.n (pc' := 11) 1 rfl ?_
    refine Wp.ecallS (len := 3) rfl rfl rfl rfl (c_isThought _) ?_
    refine Wp.ifb1 (tgt := 20) (len := 3) rfl (fun h14 => ?_) (fun h14 => ?_)
    · skip
      obtain ⟨m, hm1, hm9, hm, rfl⟩ := isR_of (lo := 1) (hi := 99) h14
      rw [if_pos ⟨of_decide_eq_true h7, h14⟩, nI_clamp hm]
      refine Wp.n (pc' := 21) 1 rfl ?_
      refine Wp.get (len := 3) rfl (hO0 _) rfl ?_
      refine Wp.n (pc' := 25) 1 rfl ?_
      refine Wp.get (len := 3) rfl (hO0 _) rfl ?_
      refine Wp.callV (len := 3) rfl rfl rfl (hD0 _) rfl (by decide) rfl (k_becomeD hH h11) ?_
      rintro _ _ ⟨rfl, ρ1, rfl, hK1, hDC1⟩
      refine Wp.n (pc' := 32) 1 rfl ?_
      refine Wp.get (len := 3) rfl (hO _ _) rfl ?_
      refine Wp.callV (len := 3) rfl rfl rfl (hDd _ _) rfl (by decide) rfl (k_addLaneD hK1 ok h11 (hd1 (of_decide_eq_true h7))) ?_
      rintro _ _ ⟨rfl, ρ2, rfl, hP2, hd2⟩
      have hD2 : DC (rds ρ2) K (distK K) := by rw [hd2]; exact hDC1
      refine Wp.n (pc' := 40) 2 rfl ?_
      refine Wp.get (len := 3) rfl (hO _ _) rfl ?_
      refine Wp.n (pc' := 44) 1 rfl ?_
      refine Wp.callV (len := 3) rfl rfl rfl (hO _ _) rfl (by decide) rfl (k_bestSum (HDR_d hH).1 (HDR_d hH).2.1 (by decide)) ?_
      rintro _ _ ⟨rfl, κ5, rfl, hS5⟩
      refine Wp.n (pc' := 53) 5 rfl ?_
      exact k_help_a hH h11 hm1 hm9 (kh K 0) 0 (allK K 1, none) κ5 ρ2 _ _ (by omega) hS5 (allK_b ok) hP2 hD2
    · skip
      refine Wp.n (pc' := 19) 1 rfl ?_
      refine Wp.retI (len := 1) rfl rfl ?_
      refine RDI_r hH.2.2 ScC_r ?_
      first
        | rw [if_neg (fun q => of_decide_eq_false h7 q.1)]
        | rw [if_neg (fun q => by rw [show isR 1 99 x = false from h14] at q; exact absurd q.2 (by decide))]

theorem bent_repC {ρ : RC} (hK : RepC ρ K) {k m : Nat} (hk : k < kh K 2) (b2 : kh K 2 ≤ 12) : RepC (kset ρ k 3 (nI (kr K k 2 + m))) (bentK K k m) := by
  obtain ⟨p0, p1, p2, p3, p6, p8, p10, pl, pr, pn, pw⟩ := hK
  refine ⟨p0, p1, p2, p3, p6, p8, p10, pl, fun i hi => ?_, fun l hl => ?_, pw⟩
  · have q := pr i hi
    have e : ∀ j, j ≠ 2 → kr (bentK K k m) i j = kr K i j := fun j hj => by
      show (if i = k then (fun j => if j = 2 then kr K k 2 + m else kr K k j) else kr K i) j = kr K i j
      by_cases c : i = k
      · rw [if_pos c, c]
        exact if_neg hj
      · rw [if_neg c]
    rw [e 0 (by decide), e 1 (by decide)]
    by_cases c : i = k
    · subst c
      rw [rlk_ks, pk_un (by decide), pk_un (by decide), pk_us, pk_un (by decide)]
      refine ⟨q.1, q.2.1, ?_, q.2.2.2⟩
      show _ = nI ((if i = i then (fun j => if j = 2 then kr K i 2 + m else kr K i j) else kr K i) 2)
      rw [if_pos rfl]
      rfl
    · rw [rlk_kn c]
      refine ⟨q.1, q.2.1, ?_, q.2.2.2⟩
      show _ = nI ((if i = k then (fun j => if j = 2 then kr K k 2 + m else kr K k j) else kr K i) 2)
      rw [if_neg c]
      exact q.2.2.1
  · have hl' : 12 + phL (bentK K k m) l ≠ k := by omega
    rw [rlk_kn hl']
    exact pn l hl
theorem k_bendDraft (hH : HDR M K) (h11 : kh K 11 = 0) (h30 : R30 K) {k m : Nat} (hk : k < kh K 2) (hm : m ≤ 99) : Wp (d + 10) md_129 0 [some (.ref 32), some (.int (nI k)), some (.int (nI m))] [] (cset M κ) (fun v M' => v = none ∧ ∃ ρ, M' = cset (rset M 83 ρ) κ ∧ RK (rset M 83 ρ) 83 (bentK K k m)) := by
  obtain ⟨ρr, hR, hK, hDC, ok, hr1, hr2⟩ := id hH.2.1
  obtain ⟨b0, b1, b2, b3, b4, b5, b6, b7, b8, b9, b10, b11, b12⟩ := ok_h ok
  obtain ⟨ow, hDo⟩ := hH.1.1
  have hO : ∀ (ρ : RC) (κ : CS), cset (rset M 83 ρ) κ 32 = .inr (9, hdl ow) := fun ρ κ => (cset_o (by omega)).trans ((rset_ne (by omega)).trans hDo)
  have hO0 : ∀ κ : CS, cset M κ 32 = .inr (9, hdl ow) := fun κ => (cset_o (by omega)).trans hDo
  have hR0 : ∀ κ : CS, RA (cset M κ) 36 ρr := fun κ => RA_c hR hr1 hr2
  have hRd : ∀ (ρ : RC) (κ : CS), RA (cset (rset M 83 ρ) κ) 36 ρr := fun ρ κ => RA_c (RA_of hR (fun k a b => rset_ne (by omega))) hr1 hr2
  have hDd : ∀ (ρ : RC) (κ : CS), cset (rset M 83 ρ) κ 83 = .inr (3, rfs 83 ρ) := fun ρ κ => (cset_o (by omega)).trans rs_obj
  have hD0 : ∃ ρ0, ∀ κ : CS, cset M κ 83 = .inr (3, rfs 83 ρ0) := by
    obtain ⟨ρ0, h0⟩ := hH.2.2
    exact ⟨ρ0, fun κ => (cset_o (by omega)).trans (ra_obj h0)⟩
  obtain ⟨ρ0, hD0⟩ := hD0
  have h30k := h30 k hk
  have okb := bentK_ok ok hk h30 hm
  refine Wp.n (pc' := 1) 1 rfl ?_
  refine Wp.get (len := 3) rfl (hO0 _) rfl ?_
  refine Wp.n (pc' := 5) 1 rfl ?_
  refine Wp.get (len := 3) rfl (hO0 _) rfl ?_
  refine Wp.callV (len := 3) rfl rfl rfl (hD0 _) rfl (by decide) rfl (k_becomeD hH h11) ?_
  rintro _ _ ⟨rfl, ρ1, rfl, hK1, hDC1⟩
  have hrow : cset (rset M 83 ρ1) κ (83 + 2) = .inl (4, 12, .inr (.inr (.inr (.inr (fun i => if i < 12 then some (83 + 3 + i) else none))))) := (cset_o (by omega)).trans rs_roads
  have hrd : cset (rset M 83 ρ1) κ (83 + 3 + k) = .inr (1, kfs k (rlk ρ1 k)) := (cset_o (by omega)).trans (rs_road (by omega))
  refine Wp.n (pc' := 12) 1 rfl ?_
  refine Wp.get (len := 3) rfl (hO _ _) rfl ?_
  refine Wp.get (len := 3) rfl (hDd _ _) rfl ?_
  refine Wp.n (pc' := 19) 1 rfl ?_
  refine Wp.aaldN (j := k) (len := 1) rfl (hrow) rfl (by omega) (by decide) (if_pos (by omega)) ?_
  refine Wp.n (pc' := 21) 1 rfl ?_
  refine Wp.get (len := 3) rfl (hrd) rfl ?_
  refine Wp.top (rc_road hK1 hk).2.2.1 ?_
  refine Wp.n (pc' := 25) 1 rfl ?_
  refine Wp.iaddN (x := kr K k 2) (y := m) (len := 1) rfl ?_
  rw [← rset_c (by decide) (by decide)]
  refine Wp.kputR 3 rfl (i := k) (by omega) (len := 3) rfl ?_
  rw [rset_c (by decide) (by decide)]
  refine Wp.n (pc' := 30) 1 rfl ?_
  refine Wp.get (len := 3) rfl (hO _ _) rfl ?_
  refine Wp.callV (len := 3) rfl rfl rfl (hDd _ _) rfl (by decide) rfl (k_reckonRoads (d := d + 1) (bent_repC hK1 hk b2) okb (by decide) (RA_c rset_ra (by decide) (by decide))) ?_
  rintro _ _ ⟨rfl, f, rfl, hf⟩
  refine Wp.retV (len := 1) rfl rfl ?_
  refine ⟨rfl, dset (kset ρ1 k 3 (nI (kr K k 2 + m))) f, ?_, _, rset_ra, bent_repC hK1 hk b2, hf, okb, by decide, by decide⟩
  rw [rset_c (by decide) (by decide), rset_rset]

theorem k_bend (hH : HDR M K) (h11 : kh K 11 = 0) (h30 : R30 K) (x m k : Int32) : Wp (d + 14) md_128 0 [some (.ref 32), some (.int x), some (.int m), some (.int k)] [] (cset M κ) (RDI M κ (bendA K x m k)) := by
  obtain ⟨ρr, hR, hK, hDC, ok, hr1, hr2⟩ := id hH.2.1
  obtain ⟨b0, b1, b2, b3, b4, b5, b6, b7, b8, b9, b10, b11, b12⟩ := ok_h ok
  obtain ⟨ow, hDo⟩ := hH.1.1
  have hO : ∀ (ρ : RC) (κ : CS), cset (rset M 83 ρ) κ 32 = .inr (9, hdl ow) := fun ρ κ => (cset_o (by omega)).trans ((rset_ne (by omega)).trans hDo)
  have hO0 : ∀ κ : CS, cset M κ 32 = .inr (9, hdl ow) := fun κ => (cset_o (by omega)).trans hDo
  have hR0 : ∀ κ : CS, RA (cset M κ) 36 ρr := fun κ => RA_c hR hr1 hr2
  have hRd : ∀ (ρ : RC) (κ : CS), RA (cset (rset M 83 ρ) κ) 36 ρr := fun ρ κ => RA_c (RA_of hR (fun k a b => rset_ne (by omega))) hr1 hr2
  have hDd : ∀ (ρ : RC) (κ : CS), cset (rset M 83 ρ) κ 83 = .inr (3, rfs 83 ρ) := fun ρ κ => (cset_o (by omega)).trans rs_obj
  have hD0 : ∃ ρ0, ∀ κ : CS, cset M κ 83 = .inr (3, rfs 83 ρ0) := by
    obtain ⟨ρ0, h0⟩ := hH.2.2
    exact ⟨ρ0, fun κ => (cset_o (by omega)).trans (ra_obj h0)⟩
  obtain ⟨ρ0, hD0⟩ := hD0
  unfold bendA
  refine Wp.n (pc' := 1) 1 rfl ?_
  refine Wp.get (len := 3) rfl (hO0 _) rfl ?_
  refine Wp.n (pc' := 5) 1 rfl ?_
  refine Wp.ecallV (len := 3) rfl rfl rfl (ra_obj (hR0 _)) rfl (by decide) rfl (k_hasRoad (RK_c hH.2.1) _) ?_
  refine Wp.ifb0 (tgt := 25) (len := 3) rfl (fun h8 => ?_) (fun h8 => ?_)
  · skip
    refine Wp.n (pc' := 28) 1 rfl ?_
    refine Wp.retI (len := 1) rfl rfl ?_
    refine RDI_r hH.2.2 ScC_r ?_
    first
      | rw [if_neg (fun q => by rw [h8] at q; exact absurd q.1 (by decide))]
      | rw [if_neg (fun q => by rw [show isR 1 99 m = false from h15] at q; exact absurd q.2.1 (by decide))]
      | rw [if_neg (fun q => by rw [h22] at q; exact absurd q.2.2 (by decide))]
  · skip
    refine Wp.n (pc' := 12) 1 rfl ?_
    refine Wp.ecallS (len := 3) rfl rfl rfl rfl (c_isThought _) ?_
    refine Wp.ifb0 (tgt := 25) (len := 3) rfl (fun h15 => ?_) (fun h15 => ?_)
    · skip
      refine Wp.n (pc' := 28) 1 rfl ?_
      refine Wp.retI (len := 1) rfl rfl ?_
      refine RDI_r hH.2.2 ScC_r ?_
      first
        | rw [if_neg (fun q => by rw [h8] at q; exact absurd q.1 (by decide))]
        | rw [if_neg (fun q => by rw [show isR 1 99 m = false from h15] at q; exact absurd q.2.1 (by decide))]
        | rw [if_neg (fun q => by rw [h22] at q; exact absurd q.2.2 (by decide))]
    · skip
      refine Wp.n (pc' := 19) 1 rfl ?_
      refine Wp.ecallS (len := 3) rfl rfl rfl rfl (k_isSumN _) ?_
      refine Wp.ifb1 (tgt := 29) (len := 3) rfl (fun h22 => ?_) (fun h22 => ?_)
      · skip
        obtain ⟨w, hw, rfl⟩ := isN_of h8
        obtain ⟨m, hm1, hm9, hm, rfl⟩ := isR_of (lo := 1) (hi := 99) h15
        obtain ⟨k, hk4, rfl⟩ := isN_of h22
        rw [if_pos ⟨h8, h15, h22⟩, nI_clamp (by omega), nI_clamp hm, nI_clamp (by omega)]
        refine Wp.n (pc' := 32) 3 rfl ?_
        refine Wp.callV (len := 3) rfl rfl rfl (hO0 _) rfl (by decide) rfl (k_bendDraft hH h11 h30 hw hm9) ?_
        rintro _ _ ⟨rfl, ρ1, rfl, hk1⟩
        refine Wp.n (pc' := 37) 2 rfl ?_
        refine Wp.get (len := 3) rfl (hO _ _) rfl ?_
        refine Wp.n (pc' := 41) 1 rfl ?_
        refine Wp.callV (len := 3) rfl rfl rfl (hO _ _) rfl (by decide) rfl (k_bestSum (HDR_d hH).1 hk1 hk4) ?_
        rintro _ _ ⟨rfl, κ4, rfl, hS4⟩
        refine Wp.n (pc' := 46) 2 rfl ?_
        refine Wp.get (len := 3) rfl (hO _ _) rfl ?_
        refine Wp.n (pc' := 50) 1 rfl ?_
        refine Wp.callV (len := 3) rfl rfl rfl (hO _ _) rfl (by decide) rfl (k_bestSum (HDR_d hH).1 (HDR_d hH).2.1 hk4) ?_
        rintro _ _ ⟨rfl, κ5, rfl, hS5⟩
        refine Wp.n (pc' := 54) 1 rfl ?_
        refine Wp.retI (len := 1) rfl rfl ?_
        exact RDI_s (ScC_t hS4 hS5) rfl
      · skip
        refine Wp.n (pc' := 28) 1 rfl ?_
        refine Wp.retI (len := 1) rfl rfl ?_
        refine RDI_r hH.2.2 ScC_r ?_
        first
          | rw [if_neg (fun q => by rw [h8] at q; exact absurd q.1 (by decide))]
          | rw [if_neg (fun q => by rw [show isR 1 99 m = false from h15] at q; exact absurd q.2.1 (by decide))]
          | rw [if_neg (fun q => by rw [h22] at q; exact absurd q.2.2 (by decide))]

theorem k_duke_l (h11 : kh K 11 = 0) (h30 : R30 K) {m : Nat} (hm : m ≤ 99) : ∀ (n k : Nat) (st : Nat × Option Nat) (M : AM) (κ2 : CS) (z5 : Option Value), HDR M K → k + n = kh K 2 → ScC κ κ2 → st.1 ≤ 7662600 → Wp (d + 14) md_130 35 [some (.ref 32), some (.int (nI m)), some (.int (nI (st.1))), some (.int (oI st.2)), some (.int (nI k)), z5] [] (cset M κ2) (RDI M κ (oI (fld (dst K m) n k st).2)) := by
  intro n
  induction n with
  | zero =>
    intro k st M κ2 z5 hH hk hS hs7
    obtain ⟨ρr, hR, hK, hDC, ok, hr1, hr2⟩ := id hH.2.1
    obtain ⟨b0, b1, b2, b3, b4, b5, b6, b7, b8, b9, b10, b11, b12⟩ := ok_h ok
    obtain ⟨ow, hDo⟩ := hH.1.1
    have hO : ∀ (ρ : RC) (κ : CS), cset (rset M 83 ρ) κ 32 = .inr (9, hdl ow) := fun ρ κ => (cset_o (by omega)).trans ((rset_ne (by omega)).trans hDo)
    have hO0 : ∀ κ : CS, cset M κ 32 = .inr (9, hdl ow) := fun κ => (cset_o (by omega)).trans hDo
    have hR0 : ∀ κ : CS, RA (cset M κ) 36 ρr := fun κ => RA_c hR hr1 hr2
    have hRd : ∀ (ρ : RC) (κ : CS), RA (cset (rset M 83 ρ) κ) 36 ρr := fun ρ κ => RA_c (RA_of hR (fun k a b => rset_ne (by omega))) hr1 hr2
    have hDd : ∀ (ρ : RC) (κ : CS), cset (rset M 83 ρ) κ 83 = .inr (3, rfs 83 ρ) := fun ρ κ => (cset_o (by omega)).trans rs_obj
    have hD0 : ∃ ρ0, ∀ κ : CS, cset M κ 83 = .inr (3, rfs 83 ρ0) := by
      obtain ⟨ρ0, h0⟩ := hH.2.2
      exact ⟨ρ0, fun κ => (cset_o (by omega)).trans (ra_obj h0)⟩
    obtain ⟨ρ0, hD0⟩ := hD0
    refine Wp.n (pc' := 38) 2 rfl ?_
    refine Wp.get (len := 3) rfl (hO0 _) rfl ?_
    refine Wp.get (len := 3) rfl (ra_obj (hR0 _)) rfl ?_
    refine Wp.top (rc_rd hK) ?_
    refine Wp.nc3 (x := k) (y := kh K 2) (tgt := 83) (len := 3) rfl (by omega) (by omega) (fun h44 => ?_) (fun h44 => ?_)
    · skip
      refine Wp.n (pc' := 84) 1 rfl ?_
      refine Wp.retI (len := 1) rfl rfl ?_
      exact RDI_r hH.2.2 hS rfl
    · omega
  | succ n ih =>
    intro k st M κ2 z5 hH hk hS hs7
    obtain ⟨ρr, hR, hK, hDC, ok, hr1, hr2⟩ := id hH.2.1
    obtain ⟨b0, b1, b2, b3, b4, b5, b6, b7, b8, b9, b10, b11, b12⟩ := ok_h ok
    obtain ⟨ow, hDo⟩ := hH.1.1
    have hO : ∀ (ρ : RC) (κ : CS), cset (rset M 83 ρ) κ 32 = .inr (9, hdl ow) := fun ρ κ => (cset_o (by omega)).trans ((rset_ne (by omega)).trans hDo)
    have hO0 : ∀ κ : CS, cset M κ 32 = .inr (9, hdl ow) := fun κ => (cset_o (by omega)).trans hDo
    have hR0 : ∀ κ : CS, RA (cset M κ) 36 ρr := fun κ => RA_c hR hr1 hr2
    have hRd : ∀ (ρ : RC) (κ : CS), RA (cset (rset M 83 ρ) κ) 36 ρr := fun ρ κ => RA_c (RA_of hR (fun k a b => rset_ne (by omega))) hr1 hr2
    have hDd : ∀ (ρ : RC) (κ : CS), cset (rset M 83 ρ) κ 83 = .inr (3, rfs 83 ρ) := fun ρ κ => (cset_o (by omega)).trans rs_obj
    have hD0 : ∃ ρ0, ∀ κ : CS, cset M κ 83 = .inr (3, rfs 83 ρ0) := by
      obtain ⟨ρ0, h0⟩ := hH.2.2
      exact ⟨ρ0, fun κ => (cset_o (by omega)).trans (ra_obj h0)⟩
    obtain ⟨ρ0, hD0⟩ := hD0
    have hab2 := allK_b (K := bentK K k m) (k := 0) (bentK_ok ok (by omega) h30 hm)
    rw [show fld (dst K m) (n + 1) k st = fld (dst K m) n (k + 1) (dst K m st k) from rfl]
    refine Wp.n (pc' := 38) 2 rfl ?_
    refine Wp.get (len := 3) rfl (hO0 _) rfl ?_
    refine Wp.get (len := 3) rfl (ra_obj (hR0 _)) rfl ?_
    refine Wp.top (rc_rd hK) ?_
    refine Wp.nc3 (x := k) (y := kh K 2) (tgt := 83) (len := 3) rfl (by omega) (by omega) (fun h44 => ?_) (fun h44 => ?_)
    · omega
    · skip
      refine Wp.n (pc' := 51) 3 rfl ?_
      refine Wp.callV (len := 3) rfl rfl rfl (hO0 _) rfl (by decide) rfl (k_bendDraft hH h11 h30 (by omega) hm) ?_
      rintro _ _ ⟨rfl, ρ1, rfl, hk1⟩
      refine Wp.n (pc' := 56) 2 rfl ?_
      refine Wp.get (len := 3) rfl (hO _ _) rfl ?_
      refine Wp.n (pc' := 60) 1 rfl ?_
      refine Wp.callV (len := 3) rfl rfl rfl (hO _ _) rfl (by decide) rfl (k_bestSum (HDR_d hH).1 hk1 (by decide)) ?_
      rintro _ _ ⟨rfl, κ4, rfl, hS4⟩
      refine Wp.n (pc' := 68) 3 rfl ?_
      refine Wp.nc5 (x := allK (bentK K k m) 0) (y := st.1) (tgt := 77) (len := 3) rfl (by omega) (by omega) (fun h68 => ?_) (fun h68 => ?_)
      · skip
        refine Wp.incN (x := k) (len := 3) rfl rfl ?_
        refine Wp.n (pc' := 35) 1 rfl ?_
        have fin2 : ∀ st2 : Nat × Option Nat, dst K m st k = st2 → st2.1 ≤ 7662600 → ∀ z5, Wp (d + 14) md_130 35 [some (.ref 32), some (.int (nI m)), some (.int (nI (st2.1))), some (.int (oI st2.2)), some (.int (nI (k + 1))), z5] [] (cset (rset M 83 ρ1) κ4) (RDI M κ (oI (fld (dst K m) n (k + 1) (dst K m st k)).2)) := by
          intro st2 e2 hb2 z5
          rw [e2]
          refine Wp.mono (ih (k + 1) st2 (rset M 83 ρ1) κ4 z5 (HDR_d hH) (by omega) (ScC_t hS hS4) hb2) ?_
          rintro _ _ ⟨rfl, ρ9, κ9, rfl, h9⟩
          rw [rset_rset]
          exact RDI_s h9 rfl
        first
          | exact fin2 (allK (bentK K k m) 0, some k) (if_pos (by omega)) hab2 _
          | exact fin2 st (if_neg (by omega)) hs7 _
      · skip
        refine Wp.n (pc' := 77) 4 rfl ?_
        refine Wp.incN (x := k) (len := 3) rfl rfl ?_
        refine Wp.n (pc' := 35) 1 rfl ?_
        have fin2 : ∀ st2 : Nat × Option Nat, dst K m st k = st2 → st2.1 ≤ 7662600 → ∀ z5, Wp (d + 14) md_130 35 [some (.ref 32), some (.int (nI m)), some (.int (nI (st2.1))), some (.int (oI st2.2)), some (.int (nI (k + 1))), z5] [] (cset (rset M 83 ρ1) κ4) (RDI M κ (oI (fld (dst K m) n (k + 1) (dst K m st k)).2)) := by
          intro st2 e2 hb2 z5
          rw [e2]
          refine Wp.mono (ih (k + 1) st2 (rset M 83 ρ1) κ4 z5 (HDR_d hH) (by omega) (ScC_t hS hS4) hb2) ?_
          rintro _ _ ⟨rfl, ρ9, κ9, rfl, h9⟩
          rw [rset_rset]
          exact RDI_s h9 rfl
        first
          | exact fin2 (allK (bentK K k m) 0, some k) (if_pos (by omega)) hab2 _
          | exact fin2 st (if_neg (by omega)) hs7 _

theorem k_duke (hH : HDR M K) (h11 : kh K 11 = 0) (h30 : R30 K) (x : Int32) : Wp (d + 14) md_130 0 [some (.ref 32), some (.int x), none, none, none, none] [] (cset M κ) (RDI M κ (dukeA K x)) := by
  obtain ⟨ρr, hR, hK, hDC, ok, hr1, hr2⟩ := id hH.2.1
  obtain ⟨b0, b1, b2, b3, b4, b5, b6, b7, b8, b9, b10, b11, b12⟩ := ok_h ok
  obtain ⟨ow, hDo⟩ := hH.1.1
  have hO : ∀ (ρ : RC) (κ : CS), cset (rset M 83 ρ) κ 32 = .inr (9, hdl ow) := fun ρ κ => (cset_o (by omega)).trans ((rset_ne (by omega)).trans hDo)
  have hO0 : ∀ κ : CS, cset M κ 32 = .inr (9, hdl ow) := fun κ => (cset_o (by omega)).trans hDo
  have hR0 : ∀ κ : CS, RA (cset M κ) 36 ρr := fun κ => RA_c hR hr1 hr2
  have hRd : ∀ (ρ : RC) (κ : CS), RA (cset (rset M 83 ρ) κ) 36 ρr := fun ρ κ => RA_c (RA_of hR (fun k a b => rset_ne (by omega))) hr1 hr2
  have hDd : ∀ (ρ : RC) (κ : CS), cset (rset M 83 ρ) κ 83 = .inr (3, rfs 83 ρ) := fun ρ κ => (cset_o (by omega)).trans rs_obj
  have hD0 : ∃ ρ0, ∀ κ : CS, cset M κ 83 = .inr (3, rfs 83 ρ0) := by
    obtain ⟨ρ0, h0⟩ := hH.2.2
    exact ⟨ρ0, fun κ => (cset_o (by omega)).trans (ra_obj h0)⟩
  obtain ⟨ρ0, hD0⟩ := hD0
  unfold dukeA
  refine Wp.n (pc' := 1) 1 rfl ?_
  refine Wp.get (len := 3) rfl (hO0 _) rfl ?_
  refine Wp.ecallV (len := 3) rfl rfl rfl (ra_obj (hR0 _)) rfl (by decide) rfl (k_exists (RK_c hH.2.1)) ?_
  refine Wp.ifb0 (tgt := 17) (len := 3) rfl (fun h7 => ?_) (fun h7 => ?_)
  · skip
    refine Wp.n (pc' := 19) 1 rfl ?_
    refine Wp.retI (len := 1) rfl rfl ?_
    refine RDI_r hH.2.2 ScC_r ?_
    first
      | rw [if_neg (fun q => of_decide_eq_false h7 q.1)]
      | rw [if_neg (fun q => by rw [show isR 1 99 x = false from h14] at q; exact absurd q.2 (by decide))]
  · skip
    refine Wp.n (pc' := 11) 1 rfl ?_
    refine Wp.ecallS (len := 3) rfl rfl rfl rfl (c_isThought _) ?_
    refine Wp.ifb1 (tgt := 20) (len := 3) rfl (fun h14 => ?_) (fun h14 => ?_)
    · skip
      obtain ⟨m, hm1, hm9, hm, rfl⟩ := isR_of (lo := 1) (hi := 99) h14
      rw [if_pos ⟨of_decide_eq_true h7, h14⟩, nI_clamp hm]
      refine Wp.n (pc' := 22) 2 rfl ?_
      refine Wp.get (len := 3) rfl (hO0 _) rfl ?_
      refine Wp.n (pc' := 26) 1 rfl ?_
      refine Wp.callV (len := 3) rfl rfl rfl (hO0 _) rfl (by decide) rfl (k_bestSum hH.1 hH.2.1 (by decide)) ?_
      rintro _ _ ⟨rfl, κ5, rfl, hS5⟩
      refine Wp.n (pc' := 35) 5 rfl ?_
      exact k_duke_l h11 h30 hm9 (kh K 2) 0 (allK K 0, none) M κ5 _ hH (by omega) hS5 (allK_b ok)
    · skip
      refine Wp.n (pc' := 19) 1 rfl ?_
      refine Wp.retI (len := 1) rfl rfl ?_
      refine RDI_r hH.2.2 ScC_r ?_
      first
        | rw [if_neg (fun q => of_decide_eq_false h7 q.1)]
        | rw [if_neg (fun q => by rw [show isR 1 99 x = false from h14] at q; exact absurd q.2 (by decide))]

theorem laws_repC {ρ : RC} (hK : RepC ρ K) {x f : Nat} : RepC (wset (wset ρ 0 (nI x)) 1 (nI f)) (lawsK K x f) := by
  obtain ⟨p0, p1, p2, p3, p6, p8, p10, pl, pr, pn, pw⟩ := hK
  refine ⟨p0, p1, p2, p3, p6, p8, p10, fun h0 j hj => ?_, pr, pn, pw⟩
  have q := pl h0 j hj
  match j, hj with
  | 0, _ => rfl
  | 1, _ => rfl
  | 2, _ => exact q
  | 3, _ => exact q
  | 4, _ => exact q
theorem k_draftLaw (hH : HDR M K) (h11 : kh K 11 = 0) {x f : Nat} (hx : x ≤ 99) (hf : f ≤ 99) : Wp (d + 10) md_134 0 [some (.ref 32), some (.int (nI x)), some (.int (nI f))] [] (cset M κ) (fun v M' => v = none ∧ ∃ ρ, M' = cset (rset M 83 ρ) κ ∧ RK (rset M 83 ρ) 83 (lawsK K x f)) := by
  obtain ⟨ρr, hR, hK, hDC, ok, hr1, hr2⟩ := id hH.2.1
  obtain ⟨b0, b1, b2, b3, b4, b5, b6, b7, b8, b9, b10, b11, b12⟩ := ok_h ok
  obtain ⟨ow, hDo⟩ := hH.1.1
  have hO : ∀ (ρ : RC) (κ : CS), cset (rset M 83 ρ) κ 32 = .inr (9, hdl ow) := fun ρ κ => (cset_o (by omega)).trans ((rset_ne (by omega)).trans hDo)
  have hO0 : ∀ κ : CS, cset M κ 32 = .inr (9, hdl ow) := fun κ => (cset_o (by omega)).trans hDo
  have hR0 : ∀ κ : CS, RA (cset M κ) 36 ρr := fun κ => RA_c hR hr1 hr2
  have hRd : ∀ (ρ : RC) (κ : CS), RA (cset (rset M 83 ρ) κ) 36 ρr := fun ρ κ => RA_c (RA_of hR (fun k a b => rset_ne (by omega))) hr1 hr2
  have hDd : ∀ (ρ : RC) (κ : CS), cset (rset M 83 ρ) κ 83 = .inr (3, rfs 83 ρ) := fun ρ κ => (cset_o (by omega)).trans rs_obj
  have hD0 : ∃ ρ0, ∀ κ : CS, cset M κ 83 = .inr (3, rfs 83 ρ0) := by
    obtain ⟨ρ0, h0⟩ := hH.2.2
    exact ⟨ρ0, fun κ => (cset_o (by omega)).trans (ra_obj h0)⟩
  obtain ⟨ρ0, hD0⟩ := hD0
  refine Wp.n (pc' := 1) 1 rfl ?_
  refine Wp.get (len := 3) rfl (hO0 _) rfl ?_
  refine Wp.n (pc' := 5) 1 rfl ?_
  refine Wp.get (len := 3) rfl (hO0 _) rfl ?_
  refine Wp.callV (len := 3) rfl rfl rfl (hD0 _) rfl (by decide) rfl (k_becomeD hH h11) ?_
  rintro _ _ ⟨rfl, ρ1, rfl, hK1, hDC1⟩
  refine Wp.n (pc' := 12) 1 rfl ?_
  refine Wp.get (len := 3) rfl (hO _ _) rfl ?_
  refine Wp.get (len := 3) rfl (hDd _ _) rfl ?_
  refine Wp.n (pc' := 19) 1 rfl ?_
  rw [← rset_c (by decide) (by decide)]
  refine Wp.wput 0 rfl (len := 3) rfl ?_
  rw [rset_c (by decide) (by decide)]
  refine Wp.n (pc' := 23) 1 rfl ?_
  refine Wp.get (len := 3) rfl (hO _ _) rfl ?_
  refine Wp.get (len := 3) rfl (hDd _ _) rfl ?_
  refine Wp.n (pc' := 30) 1 rfl ?_
  rw [← rset_c (by decide) (by decide)]
  refine Wp.wput 1 rfl (len := 3) rfl ?_
  rw [rset_c (by decide) (by decide)]
  refine Wp.retV (len := 1) rfl rfl ?_
  exact ⟨rfl, _, rfl, _, rset_ra, laws_repC hK1, hDC1, lawsK_ok ok hx hf, by decide, by decide⟩

theorem k_by (hH : HDR M K) (h11 : kh K 11 = 0) (x y : Int32) : Wp (d + 13) md_133 0 [some (.ref 32), some (.int x), some (.int y)] [] (cset M κ) (RDI M κ (byA K x y)) := by
  obtain ⟨ρr, hR, hK, hDC, ok, hr1, hr2⟩ := id hH.2.1
  obtain ⟨b0, b1, b2, b3, b4, b5, b6, b7, b8, b9, b10, b11, b12⟩ := ok_h ok
  obtain ⟨ow, hDo⟩ := hH.1.1
  have hO : ∀ (ρ : RC) (κ : CS), cset (rset M 83 ρ) κ 32 = .inr (9, hdl ow) := fun ρ κ => (cset_o (by omega)).trans ((rset_ne (by omega)).trans hDo)
  have hO0 : ∀ κ : CS, cset M κ 32 = .inr (9, hdl ow) := fun κ => (cset_o (by omega)).trans hDo
  have hR0 : ∀ κ : CS, RA (cset M κ) 36 ρr := fun κ => RA_c hR hr1 hr2
  have hRd : ∀ (ρ : RC) (κ : CS), RA (cset (rset M 83 ρ) κ) 36 ρr := fun ρ κ => RA_c (RA_of hR (fun k a b => rset_ne (by omega))) hr1 hr2
  have hDd : ∀ (ρ : RC) (κ : CS), cset (rset M 83 ρ) κ 83 = .inr (3, rfs 83 ρ) := fun ρ κ => (cset_o (by omega)).trans rs_obj
  have hD0 : ∃ ρ0, ∀ κ : CS, cset M κ 83 = .inr (3, rfs 83 ρ0) := by
    obtain ⟨ρ0, h0⟩ := hH.2.2
    exact ⟨ρ0, fun κ => (cset_o (by omega)).trans (ra_obj h0)⟩
  obtain ⟨ρ0, hD0⟩ := hD0
  unfold byA
  refine Wp.n (pc' := 1) 1 rfl ?_
  refine Wp.get (len := 3) rfl (hO0 _) rfl ?_
  refine Wp.ecallV (len := 3) rfl rfl rfl (ra_obj (hR0 _)) rfl (by decide) rfl (k_exists (RK_c hH.2.1)) ?_
  refine Wp.ifb0 (tgt := 30) (len := 3) rfl (fun h7 => ?_) (fun h7 => ?_)
  · skip
    refine Wp.n (pc' := 32) 1 rfl ?_
    refine Wp.retI (len := 1) rfl rfl ?_
    refine RDI_r hH.2.2 ScC_r ?_
    first
      | rw [if_neg (fun q => of_decide_eq_false h7 q.1)]
      | rw [if_neg (fun q => by rw [h17] at q; exact absurd q.2.1 (by decide))]
      | rw [if_neg (fun q => by rw [h27] at q; exact absurd q.2.2 (by decide))]
  · skip
    refine Wp.n (pc' := 14) 3 rfl ?_
    refine Wp.ecallS (len := 3) rfl rfl rfl rfl (k_isWithinN (hi := 99) x (by decide)) ?_
    refine Wp.ifb0 (tgt := 30) (len := 3) rfl (fun h17 => ?_) (fun h17 => ?_)
    · skip
      refine Wp.n (pc' := 32) 1 rfl ?_
      refine Wp.retI (len := 1) rfl rfl ?_
      refine RDI_r hH.2.2 ScC_r ?_
      first
        | rw [if_neg (fun q => of_decide_eq_false h7 q.1)]
        | rw [if_neg (fun q => by rw [h17] at q; exact absurd q.2.1 (by decide))]
        | rw [if_neg (fun q => by rw [h27] at q; exact absurd q.2.2 (by decide))]
    · skip
      refine Wp.n (pc' := 24) 3 rfl ?_
      refine Wp.ecallS (len := 3) rfl rfl rfl rfl (k_isWithinN (hi := 99) y (by decide)) ?_
      refine Wp.ifb1 (tgt := 33) (len := 3) rfl (fun h27 => ?_) (fun h27 => ?_)
      · skip
        obtain ⟨v, hv, rfl⟩ := isN_of h17
        obtain ⟨f, hf, rfl⟩ := isN_of h27
        rw [if_pos ⟨of_decide_eq_true h7, h17, h27⟩, nI_clamp (by omega), nI_clamp (by omega)]
        refine Wp.n (pc' := 36) 3 rfl ?_
        refine Wp.callV (len := 3) rfl rfl rfl (hO0 _) rfl (by decide) rfl (k_draftLaw hH h11 (by omega) (by omega)) ?_
        rintro _ _ ⟨rfl, ρ1, rfl, hk1⟩
        refine Wp.n (pc' := 41) 2 rfl ?_
        refine Wp.get (len := 3) rfl (hO _ _) rfl ?_
        refine Wp.n (pc' := 46) 2 rfl ?_
        refine Wp.callV (len := 3) rfl rfl rfl (hO _ _) rfl (by decide) rfl (k_dutySum (HDR_d hH).1 hk1 (by decide) (-1) (-1)) ?_
        rintro _ _ ⟨rfl, κ4, rfl, hS4⟩
        refine Wp.retI (len := 1) rfl rfl ?_
        exact RDI_s hS4 rfl
      · skip
        refine Wp.n (pc' := 32) 1 rfl ?_
        refine Wp.retI (len := 1) rfl rfl ?_
        refine RDI_r hH.2.2 ScC_r ?_
        first
          | rw [if_neg (fun q => of_decide_eq_false h7 q.1)]
          | rw [if_neg (fun q => by rw [h17] at q; exact absurd q.2.1 (by decide))]
          | rw [if_neg (fun q => by rw [h27] at q; exact absurd q.2.2 (by decide))]

theorem k_rate_l {ρ : RC} {κ2 : CS} (hS : ScC κ κ2) {m s : Nat} (hm : m ≤ 999999) (hs : s ≤ 6896340) : ∀ (n x : Nat), x + n = 100 → Wp d md_135 52 [some (.ref 32), some (.int (nI m)), some (.int (nI s)), some (.int (nI x))] [] (cset (rset M 83 ρ) κ2) (RDI M κ (oI (fnd (fun x => decide (m ≤ x * s)) n x))) := by
  intro n
  induction n with
  | zero =>
    intro x hx
    refine Wp.n (pc' := 55) 2 rfl ?_
    refine Wp.nc4 (x := x) (y := 99) (tgt := 73) (len := 3) rfl (by omega) (by omega) (fun h55 => ?_) (fun h55 => ?_)
    · skip
      refine Wp.n (pc' := 74) 1 rfl ?_
      refine Wp.retI (len := 1) rfl rfl ?_
      exact RDI_s hS rfl
    · omega
  | succ n ih =>
    intro x hx
    have hb : x * s ≤ 99 * 6896340 := Nat.mul_le_mul (by omega) hs
    rw [show fnd (fun x => decide (m ≤ x * s)) (n + 1) x = if decide (m ≤ x * s) = true then some x else fnd (fun x => decide (m ≤ x * s)) n (x + 1) from rfl]
    refine Wp.n (pc' := 55) 2 rfl ?_
    refine Wp.nc4 (x := x) (y := 99) (tgt := 73) (len := 3) rfl (by omega) (by omega) (fun h55 => ?_) (fun h55 => ?_)
    · omega
    · skip
      refine Wp.n (pc' := 60) 2 rfl ?_
      refine Wp.imulN (x := x) (y := s) (len := 1) rfl ?_
      refine Wp.n (pc' := 62) 1 rfl ?_
      refine Wp.nc2 (x := x * s) (y := m) (tgt := 67) (len := 3) rfl (by omega) (by omega) (fun h62 => ?_) (fun h62 => ?_)
      · skip
        refine Wp.incN (x := x) (len := 3) rfl rfl ?_
        refine Wp.n (pc' := 52) 1 rfl ?_
        rw [if_neg (by rw [decide_eq_true_iff]; omega)]
        exact ih (x + 1) (by omega)
      · skip
        refine Wp.n (pc' := 66) 1 rfl ?_
        refine Wp.retI (len := 1) rfl rfl ?_
        rw [if_pos (decide_eq_true h62)]
        exact RDI_s hS rfl

theorem k_rate (hH : HDR M K) (h11 : kh K 11 = 0) (x : Int32) : Wp (d + 13) md_135 0 [some (.ref 32), some (.int x), none, none] [] (cset M κ) (RDI M κ (rateA K x)) := by
  obtain ⟨ρr, hR, hK, hDC, ok, hr1, hr2⟩ := id hH.2.1
  obtain ⟨b0, b1, b2, b3, b4, b5, b6, b7, b8, b9, b10, b11, b12⟩ := ok_h ok
  obtain ⟨ow, hDo⟩ := hH.1.1
  have hO : ∀ (ρ : RC) (κ : CS), cset (rset M 83 ρ) κ 32 = .inr (9, hdl ow) := fun ρ κ => (cset_o (by omega)).trans ((rset_ne (by omega)).trans hDo)
  have hO0 : ∀ κ : CS, cset M κ 32 = .inr (9, hdl ow) := fun κ => (cset_o (by omega)).trans hDo
  have hR0 : ∀ κ : CS, RA (cset M κ) 36 ρr := fun κ => RA_c hR hr1 hr2
  have hRd : ∀ (ρ : RC) (κ : CS), RA (cset (rset M 83 ρ) κ) 36 ρr := fun ρ κ => RA_c (RA_of hR (fun k a b => rset_ne (by omega))) hr1 hr2
  have hDd : ∀ (ρ : RC) (κ : CS), cset (rset M 83 ρ) κ 83 = .inr (3, rfs 83 ρ) := fun ρ κ => (cset_o (by omega)).trans rs_obj
  have hD0 : ∃ ρ0, ∀ κ : CS, cset M κ 83 = .inr (3, rfs 83 ρ0) := by
    obtain ⟨ρ0, h0⟩ := hH.2.2
    exact ⟨ρ0, fun κ => (cset_o (by omega)).trans (ra_obj h0)⟩
  obtain ⟨ρ0, hD0⟩ := hD0
  unfold rateA
  refine Wp.n (pc' := 1) 1 rfl ?_
  refine Wp.get (len := 3) rfl (hO0 _) rfl ?_
  refine Wp.ecallV (len := 3) rfl rfl rfl (ra_obj (hR0 _)) rfl (by decide) rfl (k_exists (RK_c hH.2.1)) ?_
  refine Wp.ifb0 (tgt := 21) (len := 3) rfl (fun h7 => ?_) (fun h7 => ?_)
  · skip
    refine Wp.n (pc' := 23) 1 rfl ?_
    refine Wp.retI (len := 1) rfl rfl ?_
    refine RDI_r hH.2.2 ScC_r ?_
    first
      | rw [if_neg (fun q => of_decide_eq_false h7 q.1)]
      | rw [if_neg (fun q => by rw [h18] at q; exact absurd q.2 (by decide))]
  · skip
    refine Wp.n (pc' := 15) 3 rfl ?_
    refine Wp.ecallS (len := 3) rfl rfl rfl rfl (k_isWithinR (lo := 1) (hi := 999999) x (by decide) (by decide)) ?_
    refine Wp.ifb1 (tgt := 24) (len := 3) rfl (fun h18 => ?_) (fun h18 => ?_)
    · skip
      obtain ⟨m, hm1, hm9, hm, rfl⟩ := isR_of (lo := 1) (hi := 999999) h18
      rw [if_pos ⟨of_decide_eq_true h7, h18⟩, nI_clamp hm]
      refine Wp.n (pc' := 27) 3 rfl ?_
      refine Wp.get (len := 3) rfl (hO0 _) rfl ?_
      refine Wp.get (len := 3) rfl (ra_obj (hR0 _)) rfl ?_
      refine Wp.get (len := 3) rfl (ra_law (hR0 _)) rfl ?_
      refine Wp.top (rc_law hK (of_decide_eq_true h7) (j := 1) (by decide)) ?_
      refine Wp.callV (len := 3) rfl rfl rfl (hO0 _) rfl (by decide) rfl (k_draftLaw (x := 1) (f := kh K 7) hH h11 (by omega) b7) ?_
      rintro _ _ ⟨rfl, ρ1, rfl, hk1⟩
      refine Wp.n (pc' := 41) 2 rfl ?_
      refine Wp.get (len := 3) rfl (hO _ _) rfl ?_
      refine Wp.n (pc' := 46) 2 rfl ?_
      refine Wp.callV (len := 3) rfl rfl rfl (hO _ _) rfl (by decide) rfl (k_dutySum (HDR_d hH).1 hk1 (by decide) (-1) (-1)) ?_
      rintro _ _ ⟨rfl, κ4, rfl, hS4⟩
      refine Wp.n (pc' := 52) 3 rfl ?_
      have e : rateP K m = (fun x => decide (m ≤ x * takeK (lawsK K 1 (kh K 7)))) := by
        funext x
        unfold rateP
        rw [take_lin]
      rw [e]
      exact k_rate_l hS4 hm9 (takeK_b (lawsK_ok ok (by decide) b7)) 100 0 (by decide)
    · skip
      refine Wp.n (pc' := 23) 1 rfl ?_
      refine Wp.retI (len := 1) rfl rfl ?_
      refine RDI_r hH.2.2 ScC_r ?_
      first
        | rw [if_neg (fun q => of_decide_eq_false h7 q.1)]
        | rw [if_neg (fun q => by rw [h18] at q; exact absurd q.2 (by decide))]

end THC
end
section
/-! HOW MANY BITS: the JDK's bitCount. -/
theorem and_split {y m b k : Nat} (hb : b < 256) (hk : k < 256) : (256 * y + b) &&& (256 * m + k) = 256 * (y &&& m) + (b &&& k) := by
  have hbk : b &&& k < 256 := Nat.lt_of_le_of_lt Nat.and_le_left hb
  apply Nat.eq_of_testBit_eq
  intro i
  rw [Nat.testBit_and, show (256 : Nat) = 2 ^ 8 from rfl, Nat.testBit_two_pow_mul_add _ hb, Nat.testBit_two_pow_mul_add _ hk, Nat.testBit_two_pow_mul_add _ hbk, Nat.testBit_and]
  by_cases c : i < 8
  · rw [if_pos c, if_pos c, if_pos c]
  · rw [if_neg c, if_neg c, if_neg c]
    exact (Nat.testBit_and _ _ _).symm
def sA (m x : Nat) : Nat := x - (x / 2 &&& m)
def sB (m x : Nat) : Nat := (x &&& m) + (x / 4 &&& m)
def sC (m x : Nat) : Nat := (x + x / 16) &&& m
theorem tA : ∀ b, b < 256 → ∀ q, q < 2 → ((128 * q + b / 2) &&& 85) = (b / 2 &&& 85) := by decide +kernel
theorem tB : ∀ b, b < 256 → ∀ q, q < 4 → ((64 * q + b / 4) &&& 51) = (b / 4 &&& 51) := by decide +kernel
theorem tT : ∀ x, x < 256 → sA 85 x < 256 ∧ sB 51 (sA 85 x) ≤ 68 ∧ sB 51 (sA 85 x) % 16 ≤ 4 ∧ sC 15 (sB 51 (sA 85 x)) = pop x := by decide +kernel
theorem LA8 {y m b : Nat} (hb : b < 256) : sA (256 * m + 85) (256 * y + b) = 256 * sA m y + sA 85 b := by
  unfold sA
  have e : (256 * y + b) / 2 = 256 * (y / 2) + (128 * (y % 2) + b / 2) := by omega
  have h1 : 128 * (y % 2) + b / 2 < 256 := by omega
  rw [e, and_split h1 (by decide), tA b hb (y % 2) (Nat.mod_lt _ (by decide))]
  have h2 : y / 2 &&& m ≤ y / 2 := Nat.and_le_left
  have h3 : b / 2 &&& 85 ≤ b / 2 := Nat.and_le_left
  omega
theorem LB8 {y m b : Nat} (hb : b < 256) : sB (256 * m + 51) (256 * y + b) = 256 * sB m y + sB 51 b := by
  unfold sB
  have e : (256 * y + b) / 4 = 256 * (y / 4) + (64 * (y % 4) + b / 4) := by omega
  have h1 : 64 * (y % 4) + b / 4 < 256 := by omega
  rw [e, and_split h1 (by decide), and_split hb (by decide), tB b hb (y % 4) (Nat.mod_lt _ (by decide))]
  omega
theorem LC8 {y m b : Nat} (hb : b ≤ 68) (hy : y % 16 ≤ 4) : sC (256 * m + 15) (256 * y + b) = 256 * sC m y + sC 15 b := by
  unfold sC
  have e : 256 * y + b + (256 * y + b) / 16 = 256 * (y + y / 16) + (b + 16 * (y % 16) + b / 16) := by omega
  have h1 : b + 16 * (y % 16) + b / 16 < 256 := by omega
  rw [e, and_split h1 (by decide)]
  have e2 : (b + 16 * (y % 16) + b / 16) &&& 15 = (b + b / 16) &&& 15 := by
    rw [show (15 : Nat) = 2 ^ 4 - 1 from rfl, Nat.and_two_pow_sub_one_eq_mod, Nat.and_two_pow_sub_one_eq_mod]
    omega
  rw [e2]
def pop4 (x : Nat) : Nat := pop (x % 256) + pop (x / 256 % 256) + pop (x / 65536 % 256) + pop (x / 16777216)
theorem swar {x : Nat} (hx : x < 4294967296) : sA 1431655765 x < 4294967296 ∧ sB 858993459 (sA 1431655765 x) < 4294967296 ∧ sC 252645135 (sB 858993459 (sA 1431655765 x)) = 256 * (256 * (256 * pop (x / 16777216) + pop (x / 65536 % 256)) + pop (x / 256 % 256)) + pop (x % 256) := by
  obtain ⟨x0, h0⟩ : ∃ z, x % 256 = z := ⟨_, rfl⟩
  obtain ⟨x1, h1⟩ : ∃ z, x / 256 % 256 = z := ⟨_, rfl⟩
  obtain ⟨x2, h2⟩ : ∃ z, x / 65536 % 256 = z := ⟨_, rfl⟩
  obtain ⟨x3, h3⟩ : ∃ z, x / 16777216 = z := ⟨_, rfl⟩
  have ex : x = 256 * (256 * (256 * x3 + x2) + x1) + x0 := by omega
  rw [h0, h1, h2, h3]
  obtain ⟨a0, p0, q0, r0⟩ := tT x0 (by omega)
  obtain ⟨a1, p1, q1, r1⟩ := tT x1 (by omega)
  obtain ⟨a2, p2, q2, r2⟩ := tT x2 (by omega)
  obtain ⟨a3, p3, q3, r3⟩ := tT x3 (by omega)
  have eA : sA 1431655765 x = 256 * (256 * (256 * sA 85 x3 + sA 85 x2) + sA 85 x1) + sA 85 x0 := by
    rw [ex, show (1431655765 : Nat) = 256 * (256 * (256 * 85 + 85) + 85) + 85 from rfl, LA8 (by omega), LA8 (by omega), LA8 (by omega)]
  have eB : sB 858993459 (sA 1431655765 x) = 256 * (256 * (256 * sB 51 (sA 85 x3) + sB 51 (sA 85 x2)) + sB 51 (sA 85 x1)) + sB 51 (sA 85 x0) := by
    rw [eA, show (858993459 : Nat) = 256 * (256 * (256 * 51 + 51) + 51) + 51 from rfl, LB8 a0, LB8 a1, LB8 a2]
  refine ⟨by omega, by omega, ?_⟩
  rw [eB, show (252645135 : Nat) = 256 * (256 * (256 * 15 + 15) + 15) + 15 from rfl, LC8 p0 (by omega), LC8 p1 (by omega), LC8 p2 q3, r0, r1, r2, r3]
section BITC
variable {d : Nat} {M : AM}
theorem us_k : ∀ k, k < 32 → (((nI k).toUInt32 &&& Int32.toUInt32 31).toBitVec % 32).toNat = k := by decide +kernel
theorem n_ushr {n k : Nat} (hk : k < 32) (hn : n < 2 ^ 32) : ((nI n).toUInt32 >>> ((nI k).toUInt32 &&& Int32.toUInt32 31)).toInt32 = nI (n / 2 ^ k) := pk_ushrN hn _ k (us_k k hk)
theorem j_bitCount {x : Nat} (hx : x < 2 ^ 31) : Ev d md_264 0 [some (.int (nI x))] [] M (some (.int (nI (pop4 x))), M) := by
  obtain ⟨hA, hB, hC⟩ := swar (x := x) (by omega)
  have hp : ∀ z, pop z ≤ 8 := fun z => pop_b
  have g0 := hp (x % 256)
  have g1 := hp (x / 256 % 256)
  have g2 := hp (x / 65536 % 256)
  have g3 := hp (x / 16777216)
  refine Wp.toEv ?_
  refine Wp.n (pc' := 4) 4 rfl ?_
  refine Wp.top (n_ushr (n := x) (k := 1) (by decide) (by omega)) ?_
  refine Wp.n (pc' := 8) 2 rfl ?_
  refine Wp.top (n_and (x / 2 ^ 1) 1431655765) ?_
  refine Wp.isubN (x := x) (y := x / 2 ^ 1 &&& 1431655765) (len := 1) rfl (Nat.le_trans Nat.and_le_left (Nat.div_le_self _ _)) ?_
  refine Wp.n (pc' := 15) 4 rfl ?_
  refine Wp.top (n_and (sA 1431655765 x) 858993459) ?_
  refine Wp.n (pc' := 18) 3 rfl ?_
  refine Wp.top (n_ushr (n := sA 1431655765 x) (k := 2) (by decide) (by omega)) ?_
  refine Wp.n (pc' := 22) 2 rfl ?_
  refine Wp.top (n_and (sA 1431655765 x / 2 ^ 2) 858993459) ?_
  refine Wp.iaddN (x := sA 1431655765 x &&& 858993459) (y := sA 1431655765 x / 2 ^ 2 &&& 858993459) (len := 1) rfl ?_
  refine Wp.n (pc' := 28) 5 rfl ?_
  refine Wp.top (n_ushr (n := sB 858993459 (sA 1431655765 x)) (k := 4) (by decide) (by omega)) ?_
  refine Wp.iaddN (x := sB 858993459 (sA 1431655765 x)) (y := sB 858993459 (sA 1431655765 x) / 2 ^ 4) (len := 1) rfl ?_
  refine Wp.n (pc' := 33) 2 rfl ?_
  refine Wp.top (show _ = nI (sC 252645135 (sB 858993459 (sA 1431655765 x))) from n_and _ _) ?_
  rw [hC]
  obtain ⟨c, hc⟩ : ∃ c, 256 * (256 * (256 * pop (x / 16777216) + pop (x / 65536 % 256)) + pop (x / 256 % 256)) + pop (x % 256) = c := ⟨_, rfl⟩
  rw [hc]
  refine Wp.n (pc' := 39) 5 rfl ?_
  refine Wp.top (n_ushr (n := c) (k := 8) (by decide) (by omega)) ?_
  refine Wp.iaddN (x := c) (y := c / 2 ^ 8) (len := 1) rfl ?_
  refine Wp.n (pc' := 46) 5 rfl ?_
  refine Wp.top (n_ushr (n := c + c / 2 ^ 8) (k := 16) (by decide) (by omega)) ?_
  refine Wp.iaddN (x := c + c / 2 ^ 8) (y := (c + c / 2 ^ 8) / 2 ^ 16) (len := 1) rfl ?_
  refine Wp.n (pc' := 52) 4 rfl ?_
  refine Wp.retI (len := 1) rfl rfl ?_
  refine ⟨?_, rfl⟩
  rw [show (63 : Int32) = nI 63 from rfl, n_and, show (63 : Nat) = 2 ^ 6 - 1 from rfl, Nat.and_two_pow_sub_one_eq_mod]
  have e : (c + c / 2 ^ 8 + (c + c / 2 ^ 8) / 2 ^ 16) % 2 ^ 6 = pop4 x := by
    unfold pop4
    obtain ⟨p0, e0⟩ : ∃ z, pop (x % 256) = z := ⟨_, rfl⟩
    obtain ⟨p1, e1⟩ : ∃ z, pop (x / 256 % 256) = z := ⟨_, rfl⟩
    obtain ⟨p2, e2⟩ : ∃ z, pop (x / 65536 % 256) = z := ⟨_, rfl⟩
    obtain ⟨p3, e3⟩ : ∃ z, pop (x / 16777216) = z := ⟨_, rfl⟩
    rw [e0, e1, e2, e3] at hc
    rw [e0] at g0
    rw [e1] at g1
    rw [e2] at g2
    rw [e3] at g3
    rw [e0, e1, e2, e3]
    have f1 : c / 2 ^ 8 = 256 * (256 * p3 + p2) + p1 := by
      rw [← hc, show (2 : Nat) ^ 8 = 256 from rfl]
      omega
    have f2 : (c + c / 2 ^ 8) / 2 ^ 16 = 256 * p3 + (p2 + p3) := by
      rw [f1, ← hc, show (2 : Nat) ^ 16 = 65536 from rfl]
      omega
    rw [f2, f1, ← hc, show (2 : Nat) ^ 6 = 64 from rfl]
    omega
  rw [e]
theorem pop4_8 {x : Nat} (hx : x < 256) : pop4 x = pop x := by
  unfold pop4
  rw [show x % 256 = x by omega, show x / 256 % 256 = 0 by omega, show x / 65536 % 256 = 0 by omega, show x / 16777216 = 0 by omega]
  rfl
theorem tbn (F y : Nat) : (F.testBit y).toNat = F / 2 ^ y % 2 := by
  rw [Nat.testBit_eq_decide_div_mod_eq]
  have : F / 2 ^ y % 2 < 2 := Nat.mod_lt _ (by decide)
  by_cases h : F / 2 ^ y % 2 = 1
  · rw [h]; rfl
  · rw [decide_eq_false h]
    show 0 = _
    omega
theorem pop_tb (v : Nat) : pop v = (v.testBit 0).toNat + (v.testBit 1).toNat + (v.testBit 2).toNat + (v.testBit 3).toNat + (v.testBit 4).toNat + (v.testBit 5).toNat + (v.testBit 6).toNat + (v.testBit 7).toNat := by
  unfold pop
  rw [tbn, tbn, tbn, tbn, tbn, tbn, tbn, tbn]
  show _ = v / 1 % 2 + v / 2 % 2 + v / 4 % 2 + v / 8 % 2 + v / 16 % 2 + v / 32 % 2 + v / 64 % 2 + v / 128 % 2
  rw [Nat.div_one]
theorem pop_sh (F k : Nat) : pop (F / 2 ^ k % 2 ^ 8) = (F.testBit (k + 0)).toNat + (F.testBit (k + 1)).toNat + (F.testBit (k + 2)).toNat + (F.testBit (k + 3)).toNat + (F.testBit (k + 4)).toNat + (F.testBit (k + 5)).toNat + (F.testBit (k + 6)).toNat + (F.testBit (k + 7)).toNat := by
  have e : ∀ i, i < 8 → (F / 2 ^ k % 2 ^ 8).testBit i = F.testBit (k + i) := by
    intro i hi
    rw [Nat.testBit_mod_two_pow, decide_eq_true hi, Bool.true_and, Nat.testBit_div_two_pow, Nat.add_comm]
  rw [pop_tb, e 0 (by decide), e 1 (by decide), e 2 (by decide), e 3 (by decide), e 4 (by decide), e 5 (by decide), e 6 (by decide), e 7 (by decide)]
theorem pop4_fld {F : Nat} (hF : F < 2 ^ 30) : pop4 F = fldN F := by
  have h0 := pop_sh F 0
  have h1 := pop_sh F 8
  have h2 := pop_sh F 16
  have h3 := pop_sh F 24
  have z30 : F.testBit (24 + 6) = false := Nat.testBit_lt_two_pow (by omega)
  have z31 : F.testBit (24 + 7) = false := Nat.testBit_lt_two_pow (by omega)
  rw [z30, z31] at h3
  have e3 : F / 2 ^ 24 % 2 ^ 8 = F / 16777216 := by omega
  have e0 : F / 2 ^ 0 % 2 ^ 8 = F % 256 := by omega
  rw [e3] at h3
  rw [e0] at h0
  have hf : fldN F = 0 + (F.testBit 0).toNat + (F.testBit 1).toNat + (F.testBit 2).toNat + (F.testBit 3).toNat + (F.testBit 4).toNat + (F.testBit 5).toNat + (F.testBit 6).toNat + (F.testBit 7).toNat + (F.testBit 8).toNat + (F.testBit 9).toNat + (F.testBit 10).toNat + (F.testBit 11).toNat + (F.testBit 12).toNat + (F.testBit 13).toNat + (F.testBit 14).toNat + (F.testBit 15).toNat + (F.testBit 16).toNat + (F.testBit 17).toNat + (F.testBit 18).toNat + (F.testBit 19).toNat + (F.testBit 20).toNat + (F.testBit 21).toNat + (F.testBit 22).toNat + (F.testBit 23).toNat + (F.testBit 24).toNat + (F.testBit 25).toNat + (F.testBit 26).toNat + (F.testBit 27).toNat + (F.testBit 28).toNat + (F.testBit 29).toNat := rfl
  rw [hf]
  unfold pop4
  rw [h0, h3, show F / 256 % 256 = F / 2 ^ 8 % 2 ^ 8 from rfl, h1, show F / 65536 % 256 = F / 2 ^ 16 % 2 ^ 8 from rfl, h2]
  simp only [Nat.zero_add, Bool.toNat_false, Nat.add_zero, Nat.reduceAdd]
  omega
end BITC
end
section
/-! THE CLASS: watchers, the law, slots, the tape, images, counts. -/
section WATCH
variable {d : Nat} {M : AM} {r : Nat} {K : KD} {κ κ' : CS} {Q : Option Value → AM → Prop}
/-- the class's object and its row of owing lanes, over M -/
def wmm (M : AM) (ow : Int32) (f : Nat → Int32) : AM := fun q => if q = 32 then .inr (9, hdl ow) else if q = 286 then .inl (0, 10, .inl f) else M q
theorem wmm_ne {ow : Int32} {f : Nat → Int32} {q : Nat} (h1 : q ≠ 32) (h2 : q ≠ 286) : wmm M ow f q = M q := by
  unfold wmm
  rw [if_neg h1, if_neg h2]
theorem wmm_r {ow : Int32} {f : Nat → Int32} : wmm M ow f 286 = .inl (0, 10, .inl f) := by
  unfold wmm
  rw [if_neg (by decide), if_pos rfl]
theorem wmm_hd {ow : Int32} {f : Nat → Int32} : HD (wmm M ow f) := ⟨⟨ow, if_pos rfl⟩, f, wmm_r⟩
theorem wmm_of (hD : HD M) : ∃ (ow : Int32) (f : Nat → Int32), M = wmm M ow f := by
  obtain ⟨⟨ow, h1⟩, f, h2⟩ := hD
  refine ⟨ow, f, ?_⟩
  funext q
  unfold wmm
  by_cases c1 : q = 32
  · rw [if_pos c1, c1, h1]
  · rw [if_neg c1]
    by_cases c2 : q = 286
    · rw [if_pos c2, c2, h2]
    · rw [if_neg c2]
theorem wmm_rk {ow : Int32} {f : Nat → Int32} (hk : RK M 36 K) : RK (wmm M ow f) 36 K := RK_of hk (fun q a b => wmm_ne (by omega) (by omega))
theorem wmm_32 {ow x : Int32} {f : Nat → Int32} : va_up (cset (wmm M ow f) κ) 32 (.inr (9, hdl x)) = cset (wmm M x f) κ := by
  funext q
  by_cases c : q = 32
  · rw [c, va_up_self]
    exact ((cset_o (by omega)).trans (if_pos rfl)).symm
  · rw [va_up_ne _ _ c]
    have e : wmm M ow f q = wmm M x f q := by
      unfold wmm
      rw [if_neg c, if_neg c]
    unfold cset
    rw [e]
theorem wmm_286 {ow : Int32} {f h : Nat → Int32} : va_up (cset (wmm M ow f) κ) 286 (.inl (0, 10, .inl h)) = cset (wmm M ow h) κ := by
  funext q
  by_cases c : q = 286
  · rw [c, va_up_self]
    exact ((cset_o (by omega)).trans wmm_r).symm
  · rw [va_up_ne _ _ c]
    have e : wmm M ow f q = wmm M ow h q := by
      unfold wmm
      rw [if_neg c, if_neg c]
    unfold cset
    rw [e]
theorem Wp.cgm {X : MD} {pc : Nat} {l : AL} {st : List Value} {M' : AM} (h : M = M') (w : Wp d X pc l st M' Q) : Wp d X pc l st M Q := h ▸ w
def NOp (M : AM) (κ : CS) : Option Value → AM → Prop := fun v M' => v = none ∧ ∃ (m : Nat) (f : Nat → Int32) (κ' : CS), m ≤ 10 ∧ M' = cset (wmm M (nI m) f) κ' ∧ ScC κ κ'
theorem k_owing_l (hk : RK M 36 K) : ∀ (n w m : Nat) (f : Nat → Int32) (κ2 : CS), w + n = kh K 4 → m ≤ 10 → ScC κ κ2 → Wp (d + 11) md_265 7 [some (.ref 32), some (.int (nI w))] [] (cset (wmm M (nI m) f) κ2) (NOp M κ) := by
  obtain ⟨ρ, hR, hK, hDC, ok, hr1, hr2⟩ := id hk
  obtain ⟨b0, b1, b2, b3, b4, b5, b6, b7, b8, b9, b10, b11, b12⟩ := ok_h ok
  have hO : ∀ (ow : Int32) (f : Nat → Int32) (κ : CS), cset (wmm M ow f) κ 32 = .inr (9, hdl ow) := fun ow f κ => (cset_o (by omega)).trans (if_pos rfl)
  have hrow : ∀ (ow : Int32) (f : Nat → Int32) (κ : CS), cset (wmm M ow f) κ 286 = .inl (0, 10, .inl f) := fun ow f κ => (cset_o (by omega)).trans wmm_r
  have hRc : ∀ (ow : Int32) (f : Nat → Int32) (κ : CS), RA (cset (wmm M ow f) κ) 36 ρ := fun ow f κ => RA_c (RA_of hR (fun q a b => wmm_ne (by omega) (by omega))) hr1 hr2
  intro n
  induction n with
  | zero =>
    intro w m f κ2 hw hm hS
    refine Wp.n (pc' := 9) 2 rfl ?_
    refine Wp.get (len := 3) rfl (hO _ _ _) rfl ?_
    refine Wp.get (len := 3) rfl (ra_obj (hRc _ _ _)) rfl ?_
    refine Wp.top (rc_wk hK) ?_
    refine Wp.nc3 (x := w) (y := kh K 4) (tgt := 81) (len := 3) rfl (by omega) (by omega) (fun h15 => ?_) (fun h15 => ?_)
    · skip
      refine Wp.retV (len := 1) rfl rfl ?_
      exact ⟨rfl, m, f, κ2, hm, rfl, hS⟩
    · omega
  | succ n ih =>
    intro w m f κ2 hw hm hS
    have hdb := dutW_b ok (w := w) (by omega)
    refine Wp.n (pc' := 9) 2 rfl ?_
    refine Wp.get (len := 3) rfl (hO _ _ _) rfl ?_
    refine Wp.get (len := 3) rfl (ra_obj (hRc _ _ _)) rfl ?_
    refine Wp.top (rc_wk hK) ?_
    refine Wp.nc3 (x := w) (y := kh K 4) (tgt := 81) (len := 3) rfl (by omega) (by omega) (fun h15 => ?_) (fun h15 => ?_)
    · omega
    · skip
      refine Wp.n (pc' := 20) 2 rfl ?_
      refine Wp.get (len := 3) rfl (hO _ _ _) rfl ?_
      refine Wp.n (pc' := 24) 1 rfl ?_
      refine Wp.callV (len := 3) rfl rfl rfl (hO _ _ _) rfl (by decide) rfl (k_isLawful wmm_hd (wmm_rk hk) (by omega)) ?_
      rintro _ _ ⟨rfl, κ3, rfl, hF, hT⟩
      refine Wp.ifb0 (tgt := 75) (len := 3) rfl (fun h27 => ?_) (fun h27 => ?_)
      · skip
        refine Wp.incN (x := w) (len := 3) rfl rfl ?_
        refine Wp.n (pc' := 7) 1 rfl ?_
        first
          | exact ih (w + 1) m f κ3 (by omega) hm (ScC_t hS (ScC_11 hF))
          | exact ih (w + 1) (m + 1) _ κ3 (by omega) (by omega) (ScC_t hS (ScC_11 hF))
      · skip
        refine Wp.n (pc' := 31) 1 rfl ?_
        refine Wp.get (len := 3) rfl (hO _ _ _) rfl ?_
        refine Wp.get (len := 3) rfl (rfl) rfl ?_
        refine Wp.top hT.2.2.2 ?_
        refine Wp.nz5 (x := dutW K w) (tgt := 75) (len := 3) rfl (by omega) (fun h37 => ?_) (fun h37 => ?_)
        · skip
          refine Wp.incN (x := w) (len := 3) rfl rfl ?_
          refine Wp.n (pc' := 7) 1 rfl ?_
          first
            | exact ih (w + 1) m f κ3 (by omega) hm (ScC_t hS (ScC_11 hF))
            | exact ih (w + 1) (m + 1) _ κ3 (by omega) (by omega) (ScC_t hS (ScC_11 hF))
        · skip
          refine Wp.n (pc' := 41) 1 rfl ?_
          refine Wp.get (len := 3) rfl (hO _ _ _) rfl ?_
          refine Wp.n (pc' := 46) 1 rfl ?_
          refine Wp.nc3 (x := m) (y := 10) (tgt := 75) (len := 3) rfl (by omega) (by omega) (fun h46 => ?_) (fun h46 => ?_)
          · skip
            refine Wp.incN (x := w) (len := 3) rfl rfl ?_
            refine Wp.n (pc' := 7) 1 rfl ?_
            first
              | exact ih (w + 1) m f κ3 (by omega) hm (ScC_t hS (ScC_11 hF))
              | exact ih (w + 1) (m + 1) _ κ3 (by omega) (by omega) (ScC_t hS (ScC_11 hF))
          · skip
            refine Wp.n (pc' := 50) 1 rfl ?_
            refine Wp.get (len := 3) rfl (hO _ _ _) rfl ?_
            refine Wp.n (pc' := 54) 1 rfl ?_
            refine Wp.get (len := 3) rfl (hO _ _ _) rfl ?_
            refine Wp.n (pc' := 58) 1 rfl ?_
            refine Wp.get (len := 3) rfl (hO _ _ _) rfl ?_
            refine Wp.get (len := 3) rfl (rfl) rfl ?_
            refine Wp.iastN (j := m) (len := 1) rfl (hrow _ _ _) (by omega) (by decide) ?_
            refine Wp.cgm wmm_286 ?_
            refine Wp.n (pc' := 67) 2 rfl ?_
            refine Wp.get (len := 3) rfl (hO _ _ _) rfl ?_
            refine Wp.n (pc' := 71) 1 rfl ?_
            refine Wp.iaddN (x := m) (y := 1) (len := 1) rfl ?_
            refine Wp.put (len := 3) rfl (hO _ _ _) rfl ?_
            refine Wp.cgm (wmm_32 (ow := nI m) (x := nI (m + 1))) ?_
            refine Wp.incN (x := w) (len := 3) rfl rfl ?_
            refine Wp.n (pc' := 7) 1 rfl ?_
            first
              | exact ih (w + 1) m f κ3 (by omega) hm (ScC_t hS (ScC_11 hF))
              | exact ih (w + 1) (m + 1) _ κ3 (by omega) (by omega) (ScC_t hS (ScC_11 hF))
theorem k_owing (hD : HD M) (hk : RK M 36 K) : Wp (d + 11) md_265 0 [some (.ref 32), none] [] (cset M κ) (NOp M κ) := by
  obtain ⟨ow, f, e⟩ := wmm_of hD
  have e2 : cset M κ = cset (wmm M ow f) κ := congrArg (fun m => cset m κ) e
  rw [e2]
  obtain ⟨ρ, hR, hK, hDC, ok, hr1, hr2⟩ := id hk
  obtain ⟨b0, b1, b2, b3, b4, b5, b6, b7, b8, b9, b10, b11, b12⟩ := ok_h ok
  have hO : ∀ (ow : Int32) (f : Nat → Int32) (κ : CS), cset (wmm M ow f) κ 32 = .inr (9, hdl ow) := fun ow f κ => (cset_o (by omega)).trans (if_pos rfl)
  have hrow : ∀ (ow : Int32) (f : Nat → Int32) (κ : CS), cset (wmm M ow f) κ 286 = .inl (0, 10, .inl f) := fun ow f κ => (cset_o (by omega)).trans wmm_r
  have hRc : ∀ (ow : Int32) (f : Nat → Int32) (κ : CS), RA (cset (wmm M ow f) κ) 36 ρ := fun ow f κ => RA_c (RA_of hR (fun q a b => wmm_ne (by omega) (by omega))) hr1 hr2
  refine Wp.n (pc' := 2) 2 rfl ?_
  refine Wp.put (len := 3) rfl (hO _ _ _) rfl ?_
  refine Wp.cgm (wmm_32 (ow := ow) (x := nI 0)) ?_
  refine Wp.n (pc' := 7) 2 rfl ?_
  exact k_owing_l hk (kh K 4) 0 0 f κ (by omega) (by omega) ScC_r
theorem k_meets_l (hk : RK M 36 K) {m : Nat} (hm : m ≤ 10) {f : Nat → Int32} {x : Int32} : ∀ (n i : Nat), i + n = m → Wp (d + 11) md_132 2 [some (.ref 32), some (.int x), some (.int (nI i))] [] (cset (wmm M (nI m) f) κ) (fun v M' => (∃ b : Bool, v = some (.int (bI b))) ∧ M' = cset (wmm M (nI m) f) κ) := by
  obtain ⟨ρ, hR, hK, hDC, ok, hr1, hr2⟩ := id hk
  obtain ⟨b0, b1, b2, b3, b4, b5, b6, b7, b8, b9, b10, b11, b12⟩ := ok_h ok
  have hO : ∀ (ow : Int32) (f : Nat → Int32) (κ : CS), cset (wmm M ow f) κ 32 = .inr (9, hdl ow) := fun ow f κ => (cset_o (by omega)).trans (if_pos rfl)
  have hrow : ∀ (ow : Int32) (f : Nat → Int32) (κ : CS), cset (wmm M ow f) κ 286 = .inl (0, 10, .inl f) := fun ow f κ => (cset_o (by omega)).trans wmm_r
  have hRc : ∀ (ow : Int32) (f : Nat → Int32) (κ : CS), RA (cset (wmm M ow f) κ) 36 ρ := fun ow f κ => RA_c (RA_of hR (fun q a b => wmm_ne (by omega) (by omega))) hr1 hr2
  intro n
  induction n with
  | zero =>
    intro i hi
    refine Wp.n (pc' := 4) 2 rfl ?_
    refine Wp.get (len := 3) rfl (hO _ _ _) rfl ?_
    refine Wp.nc3 (x := i) (y := m) (tgt := 29) (len := 3) rfl (by omega) (by omega) (fun h7 => ?_) (fun h7 => ?_)
    · skip
      refine Wp.n (pc' := 30) 1 rfl ?_
      refine Wp.retZ (len := 1) (c := true) rfl rfl rfl ?_
      exact ⟨⟨_, rfl⟩, rfl⟩
    · omega
  | succ n ih =>
    intro i hi
    refine Wp.n (pc' := 4) 2 rfl ?_
    refine Wp.get (len := 3) rfl (hO _ _ _) rfl ?_
    refine Wp.nc3 (x := i) (y := m) (tgt := 29) (len := 3) rfl (by omega) (by omega) (fun h7 => ?_) (fun h7 => ?_)
    · omega
    · skip
      refine Wp.n (pc' := 11) 1 rfl ?_
      refine Wp.get (len := 3) rfl (hO _ _ _) rfl ?_
      refine Wp.n (pc' := 15) 1 rfl ?_
      refine Wp.ialdN (j := i) (len := 1) rfl (hrow _ _ _) rfl (by omega) (by decide) ?_
      refine Wp.n (pc' := 18) 2 rfl ?_
      refine Wp.if1 (tgt := 23) (len := 3) rfl (fun h18 => ?_) (fun h18 => ?_)
      · skip
        refine Wp.incN (x := i) (len := 3) rfl rfl ?_
        refine Wp.n (pc' := 2) 1 rfl ?_
        exact ih (i + 1) (by omega)
      · skip
        refine Wp.n (pc' := 22) 1 rfl ?_
        refine Wp.retZ (len := 1) (c := false) rfl rfl rfl ?_
        exact ⟨⟨_, rfl⟩, rfl⟩
theorem k_meets (hk : RK M 36 K) {m : Nat} (hm : m ≤ 10) {f : Nat → Int32} {x : Int32} : Wp (d + 11) md_132 0 [some (.ref 32), some (.int x), none] [] (cset (wmm M (nI m) f) κ) (fun v M' => (∃ b : Bool, v = some (.int (bI b))) ∧ M' = cset (wmm M (nI m) f) κ) := by
  refine Wp.n (pc' := 2) 2 rfl ?_
  exact k_meets_l hk hm m 0 (by omega)
/-- watchers answers something, and -2 where there is no kingdom; the object's row and count may change -/
def WAp (M : AM) (κ : CS) (K : KD) : Option Value → AM → Prop := fun v M' => (∃ a : Int32, v = some (.int a) ∧ (kh K 0 = 0 → a = -2)) ∧ ∃ (ow : Int32) (f : Nat → Int32) (κ' : CS), M' = cset (wmm M ow f) κ' ∧ ScC κ κ'
theorem k_wt_l (hk : RK M 36 K) (h11 : kh K 11 = 0) (h0 : 0 < kh K 0) {m : Nat} (hm : m ≤ 10) {f : Nat → Int32} {x : Int32} {κ2 : CS} (hS : ScC κ κ2) : ∀ (n s b : Nat), s + n = 2 ^ kh K 3 → b < 256 → Wp (d + 12) md_131 49 [some (.ref 32), some (.int x), some (.int (nI b)), some (.int (nI s))] [] (cset (wmm M (nI m) f) κ2) (WAp M κ K) := by
  obtain ⟨ρ, hR, hK, hDC, ok, hr1, hr2⟩ := id hk
  obtain ⟨b0, b1, b2, b3, b4, b5, b6, b7, b8, b9, b10, b11, b12⟩ := ok_h ok
  have hO : ∀ (ow : Int32) (f : Nat → Int32) (κ : CS), cset (wmm M ow f) κ 32 = .inr (9, hdl ow) := fun ow f κ => (cset_o (by omega)).trans (if_pos rfl)
  have hrow : ∀ (ow : Int32) (f : Nat → Int32) (κ : CS), cset (wmm M ow f) κ 286 = .inl (0, 10, .inl f) := fun ow f κ => (cset_o (by omega)).trans wmm_r
  have hRc : ∀ (ow : Int32) (f : Nat → Int32) (κ : CS), RA (cset (wmm M ow f) κ) 36 ρ := fun ow f κ => RA_c (RA_of hR (fun q a b => wmm_ne (by omega) (by omega))) hr1 hr2
  have h28 : 2 ^ kh K 3 ≤ 256 := Nat.pow_le_pow_right (by decide) b3
  have h8 : rhd ρ 8 = nI (kh K 3) := by rw [rc_la hK, h11, Nat.add_zero]
  intro n
  induction n with
  | zero =>
    intro s b hs hb2
    refine Wp.n (pc' := 52) 3 rfl ?_
    refine Wp.get (len := 3) rfl (hO _ _ _) rfl ?_
    refine Wp.get (len := 3) rfl (ra_obj (hRc _ _ _)) rfl ?_
    refine Wp.top h8 ?_
    refine Wp.n (pc' := 59) 1 rfl ?_
    refine Wp.top (n_sh1 _ (by omega)) ?_
    refine Wp.nc3 (x := s) (y := 2 ^ kh K 3) (tgt := 89) (len := 3) rfl (by omega) (by omega) (fun h59 => ?_) (fun h59 => ?_)
    · skip
      refine Wp.n (pc' := 90) 1 rfl ?_
      refine Wp.if1 (tgt := 100) (len := 3) rfl (fun h90 => ?_) (fun h90 => ?_)
      · skip
        refine Wp.n (pc' := 101) 1 rfl ?_
        refine Wp.retI (len := 1) rfl rfl ?_
        exact ⟨⟨_, rfl, fun q => by omega⟩, _, f, κ2, rfl, hS⟩
      · skip
        refine Wp.n (pc' := 94) 1 rfl ?_
        refine Wp.ecallS (len := 3) rfl rfl rfl rfl (j_bitCount (by omega)) ?_
        refine Wp.n (pc' := 101) 1 rfl ?_
        refine Wp.retI (len := 1) rfl rfl ?_
        exact ⟨⟨_, rfl, fun q => by omega⟩, _, f, κ2, rfl, hS⟩
    · omega
  | succ n ih =>
    intro s b hs hb2
    have hs2 : s < 256 := by omega
    have pb1 := pop_b (v := b)
    have pb2 := pop_b (v := s)
    refine Wp.n (pc' := 52) 3 rfl ?_
    refine Wp.get (len := 3) rfl (hO _ _ _) rfl ?_
    refine Wp.get (len := 3) rfl (ra_obj (hRc _ _ _)) rfl ?_
    refine Wp.top h8 ?_
    refine Wp.n (pc' := 59) 1 rfl ?_
    refine Wp.top (n_sh1 _ (by omega)) ?_
    refine Wp.nc3 (x := s) (y := 2 ^ kh K 3) (tgt := 89) (len := 3) rfl (by omega) (by omega) (fun h59 => ?_) (fun h59 => ?_)
    · omega
    · skip
      refine Wp.n (pc' := 63) 1 rfl ?_
      refine Wp.ecallS (len := 3) rfl rfl rfl rfl (j_bitCount (by omega)) ?_
      refine Wp.top (show _ = nI (pop s) from by rw [pop4_8 hs2]) ?_
      refine Wp.n (pc' := 67) 1 rfl ?_
      refine Wp.ecallS (len := 3) rfl rfl rfl rfl (j_bitCount (by omega)) ?_
      refine Wp.top (show _ = nI (pop b) from by rw [pop4_8 hb2]) ?_
      refine Wp.nc3 (x := pop s) (y := pop b) (tgt := 83) (len := 3) rfl (by omega) (by omega) (fun h70 => ?_) (fun h70 => ?_)
      · skip
        refine Wp.incN (x := s) (len := 3) rfl rfl ?_
        refine Wp.n (pc' := 49) 1 rfl ?_
        first
          | exact ih (s + 1) b (by omega) hb2
          | exact ih (s + 1) s (by omega) hs2
      · skip
        refine Wp.n (pc' := 75) 2 rfl ?_
        refine Wp.callV (len := 3) rfl rfl rfl (hO _ _ _) rfl (by decide) rfl (k_meets hk hm) ?_
        rintro _ _ ⟨⟨u, rfl⟩, rfl⟩
        refine Wp.ifb0 (tgt := 83) (len := 3) rfl (fun h78 => ?_) (fun h78 => ?_)
        · skip
          refine Wp.incN (x := s) (len := 3) rfl rfl ?_
          refine Wp.n (pc' := 49) 1 rfl ?_
          first
            | exact ih (s + 1) b (by omega) hb2
            | exact ih (s + 1) s (by omega) hs2
        · skip
          refine Wp.n (pc' := 83) 2 rfl ?_
          refine Wp.incN (x := s) (len := 3) rfl rfl ?_
          refine Wp.n (pc' := 49) 1 rfl ?_
          first
            | exact ih (s + 1) b (by omega) hb2
            | exact ih (s + 1) s (by omega) hs2
theorem k_watchers (hD : HD M) (hk : RK M 36 K) (h11 : kh K 11 = 0) (x : Int32) : Wp (d + 12) md_131 0 [some (.ref 32), some (.int x), none, none] [] (cset M κ) (WAp M κ K) := by
  obtain ⟨ρ, hR, hK, hDC, ok, hr1, hr2⟩ := id hk
  obtain ⟨b0, b1, b2, b3, b4, b5, b6, b7, b8, b9, b10, b11, b12⟩ := ok_h ok
  have hO : ∀ (ow : Int32) (f : Nat → Int32) (κ : CS), cset (wmm M ow f) κ 32 = .inr (9, hdl ow) := fun ow f κ => (cset_o (by omega)).trans (if_pos rfl)
  have hrow : ∀ (ow : Int32) (f : Nat → Int32) (κ : CS), cset (wmm M ow f) κ 286 = .inl (0, 10, .inl f) := fun ow f κ => (cset_o (by omega)).trans wmm_r
  have hRc : ∀ (ow : Int32) (f : Nat → Int32) (κ : CS), RA (cset (wmm M ow f) κ) 36 ρ := fun ow f κ => RA_c (RA_of hR (fun q a b => wmm_ne (by omega) (by omega))) hr1 hr2
  have h28 : 2 ^ kh K 3 ≤ 256 := Nat.pow_le_pow_right (by decide) b3
  have h1p : 1 ≤ 2 ^ kh K 3 := Nat.one_le_two_pow
  have h8 : rhd ρ 8 = nI (kh K 3) := by rw [rc_la hK, h11, Nat.add_zero]
  obtain ⟨ow, f, e⟩ := wmm_of hD
  have hO0 : ∀ κ : CS, cset M κ 32 = .inr (9, hdl ow) := fun κ => by rw [e]; exact hO _ _ _
  have hR0 : ∀ κ : CS, RA (cset M κ) 36 ρ := fun κ => RA_c hR hr1 hr2
  have hE : ∃ (ow : Int32) (f : Nat → Int32) (κ' : CS), cset M κ = cset (wmm M ow f) κ' ∧ ScC κ κ' := ⟨ow, f, κ, congrArg (fun m => cset m κ) e, ScC_r⟩
  refine Wp.n (pc' := 1) 1 rfl ?_
  refine Wp.get (len := 3) rfl (hO0 _) rfl ?_
  refine Wp.ecallV (len := 3) rfl rfl rfl (ra_obj (hR0 _)) rfl (by decide) rfl (k_exists (RK_c hk)) ?_
  refine Wp.ifb0 (tgt := 19) (len := 3) rfl (fun h7 => ?_) (fun h7 => ?_)
  · skip
    refine Wp.n (pc' := 21) 1 rfl ?_
    refine Wp.retI (len := 1) rfl rfl ?_
    exact ⟨⟨_, rfl, fun _ => rfl⟩, hE⟩
  · skip
    refine Wp.n (pc' := 11) 1 rfl ?_
    refine Wp.if2 (tgt := 19) (len := 3) rfl (fun h11_ => ?_) (fun h11_ => ?_)
    · skip
      refine Wp.n (pc' := 21) 1 rfl ?_
      refine Wp.retI (len := 1) rfl rfl ?_
      exact ⟨⟨_, rfl, fun _ => rfl⟩, hE⟩
    · skip
      refine Wp.n (pc' := 16) 2 rfl ?_
      refine Wp.ic5 (tgt := 22) (len := 3) rfl (fun h16 => ?_) (fun h16 => ?_)
      · skip
        refine Wp.n (pc' := 23) 1 rfl ?_
        refine Wp.callV (len := 3) rfl rfl rfl (hO0 _) rfl (by decide) rfl (k_owing hD hk) ?_
        have hp := of_decide_eq_true h7
        rintro _ _ ⟨rfl, m, g, κ2, hm, rfl, hS⟩
        refine Wp.n (pc' := 27) 1 rfl ?_
        refine Wp.get (len := 3) rfl (hO _ _ _) rfl ?_
        refine Wp.nz1 (x := m) (tgt := 35) (len := 3) rfl (by omega) (fun h30 => ?_) (fun h30 => ?_)
        · skip
          refine Wp.n (pc' := 37) 2 rfl ?_
          refine Wp.get (len := 3) rfl (hO _ _ _) rfl ?_
          refine Wp.get (len := 3) rfl (ra_obj (hRc _ _ _)) rfl ?_
          refine Wp.top h8 ?_
          refine Wp.n (pc' := 44) 1 rfl ?_
          refine Wp.top (n_sh1 _ (by omega)) ?_
          refine Wp.n (pc' := 45) 1 rfl ?_
          refine Wp.isubN (x := 2 ^ kh K 3) (y := 1) (len := 1) rfl (by omega) ?_
          refine Wp.n (pc' := 49) 3 rfl ?_
          exact k_wt_l hk h11 hp hm hS (2 ^ kh K 3 - 1) 1 (2 ^ kh K 3 - 1) (by omega) (by omega)
        · skip
          refine Wp.n (pc' := 34) 1 rfl ?_
          refine Wp.retI (len := 1) rfl rfl ?_
          exact ⟨⟨_, rfl, fun q => by omega⟩, _, g, κ2, rfl, hS⟩
      · skip
        refine Wp.n (pc' := 21) 1 rfl ?_
        refine Wp.retI (len := 1) rfl rfl ?_
        exact ⟨⟨_, rfl, fun _ => rfl⟩, hE⟩
theorem set_repC {ρ : RC} (hK : RepC ρ K) {w m : Nat} (hw : w < 5) : RepC (wset ρ w (nI m)) (setK K w m) := by
  obtain ⟨p0, p1, p2, p3, p6, p8, p10, pl, pr, pn, pw⟩ := hK
  have e : ∀ i, i < 6 ∨ 11 ≤ i → kh (setK K w m) i = kh K i := fun i hi => if_neg (by omega)
  refine ⟨?_, ?_, ?_, ?_, ?_, ?_, ?_, fun h0 j hj => ?_, ?_, ?_, ?_⟩
  · rw [e 0 (by omega)]; exact p0
  · rw [e 1 (by omega)]; exact p1
  · rw [e 5 (by omega)]; exact p2
  · rw [e 12 (by omega)]; exact p3
  · rw [e 2 (by omega)]; exact p6
  · rw [e 3 (by omega), e 11 (by omega)]; exact p8
  · rw [e 4 (by omega)]; exact p10
  · rw [e 0 (by omega)] at h0
    show upd (rlw ρ) w (nI m) j = nI (if 6 + j = 6 + w then m else kh K (6 + j))
    by_cases c : j = w
    · rw [if_pos (by omega), c, pk_us]
    · rw [if_neg (by omega), pk_un c]
      exact pl h0 j hj
  · rw [e 2 (by omega)]; exact pr
  · intro l hl
    rw [e 3 (by omega), e 11 (by omega)] at hl
    have ph : phL (setK K w m) l = phL K l := by
      unfold phL
      rw [e 3 (by omega)]
    rw [ph]
    exact pn l hl
  · rw [e 4 (by omega)]; exact pw
theorem k_exchange {ρ : RC} {w : Nat} (hw : w < 5) {x : Int32} : Wp d md_4 0 [some (.ref (r + 1)), some (.int (nI w)), some (.int x), none] [] (rset M r ρ) (fun v M' => v = some (.int (rlw ρ w)) ∧ M' = rset M r (wset ρ w x)) := by
  refine Wp.n (pc' := 3) 3 rfl ?_
  have ex : (nI w).toInt = (0 : Int) + w := by rw [nI_toInt (by omega)]; omega
  match w, hw, ex with

  | 0, _, ex =>
    refine Wp.sw (len := 29) (t := 32) rfl (sw_at rfl 0 ex rfl) ?_
    refine Wp.n (pc' := 33) 1 rfl ?_
    refine Wp.get (len := 3) rfl (rs_law) rfl ?_
    refine Wp.n (pc' := 39) 3 rfl ?_
    refine Wp.wput 0 rfl (len := 3) rfl ?_
    refine Wp.n (pc' := 95) 2 rfl ?_
    refine Wp.retI (len := 1) rfl rfl ?_
    exact ⟨rfl, rfl⟩
  | 1, _, ex =>
    refine Wp.sw (len := 29) (t := 45) rfl (sw_at rfl 1 ex rfl) ?_
    refine Wp.n (pc' := 46) 1 rfl ?_
    refine Wp.get (len := 3) rfl (rs_law) rfl ?_
    refine Wp.n (pc' := 52) 3 rfl ?_
    refine Wp.wput 1 rfl (len := 3) rfl ?_
    refine Wp.n (pc' := 95) 2 rfl ?_
    refine Wp.retI (len := 1) rfl rfl ?_
    exact ⟨rfl, rfl⟩
  | 2, _, ex =>
    refine Wp.sw (len := 29) (t := 58) rfl (sw_at rfl 2 ex rfl) ?_
    refine Wp.n (pc' := 59) 1 rfl ?_
    refine Wp.get (len := 3) rfl (rs_law) rfl ?_
    refine Wp.n (pc' := 65) 3 rfl ?_
    refine Wp.wput 2 rfl (len := 3) rfl ?_
    refine Wp.n (pc' := 95) 2 rfl ?_
    refine Wp.retI (len := 1) rfl rfl ?_
    exact ⟨rfl, rfl⟩
  | 3, _, ex =>
    refine Wp.sw (len := 29) (t := 71) rfl (sw_at rfl 3 ex rfl) ?_
    refine Wp.n (pc' := 72) 1 rfl ?_
    refine Wp.get (len := 3) rfl (rs_law) rfl ?_
    refine Wp.n (pc' := 78) 3 rfl ?_
    refine Wp.wput 3 rfl (len := 3) rfl ?_
    refine Wp.n (pc' := 95) 2 rfl ?_
    refine Wp.retI (len := 1) rfl rfl ?_
    exact ⟨rfl, rfl⟩
  | 4, _, ex =>
    refine Wp.sw (len := 29) (t := 84) rfl (sw_def rfl (Or.inr (by rw [ex]; decide))) ?_
    refine Wp.n (pc' := 85) 1 rfl ?_
    refine Wp.get (len := 3) rfl (rs_law) rfl ?_
    refine Wp.n (pc' := 91) 3 rfl ?_
    refine Wp.wput 4 rfl (len := 3) rfl ?_
    refine Wp.n (pc' := 95) 1 rfl ?_
    refine Wp.retI (len := 1) rfl rfl ?_
    exact ⟨rfl, rfl⟩
theorem k_law (hD : HD M) (hk : RK M 36 K) (x y : Int32) : Wp (d + 2) md_136 0 [some (.ref 32), some (.int x), some (.int y)] [] (cset M κ) (fun v M' => v = some (.int (lawA K x y)) ∧ ∃ ρ, M' = cset (rset M 36 ρ) κ ∧ RK (rset M 36 ρ) 36 (lawN K x y)) := by
  obtain ⟨ρ, hR, hK, hDC, ok, hr1, hr2⟩ := id hk
  obtain ⟨b0, b1, b2, b3, b4, b5, b6, b7, b8, b9, b10, b11, b12⟩ := ok_h ok
  obtain ⟨ow, hDo⟩ := hD.1
  have hO : ∀ κ : CS, cset M κ 32 = .inr (9, hdl ow) := fun κ => (cset_o (by omega)).trans hDo
  have hRc : ∀ κ : CS, RA (cset M κ) 36 ρ := fun κ => RA_c hR hr1 hr2
  unfold lawA lawN
  have kn : ∃ ρ, cset M κ = cset (rset M 36 ρ) κ ∧ RK (rset M 36 ρ) 36 K := by
    refine ⟨ρ, ?_, ?_⟩
    · rw [show rset M 36 ρ = M from hR]
    · rw [show rset M 36 ρ = M from hR]; exact hk
  refine Wp.n (pc' := 1) 1 rfl ?_
  refine Wp.get (len := 3) rfl (hO _) rfl ?_
  refine Wp.ecallV (len := 3) rfl rfl rfl (ra_obj (hRc _)) rfl (by decide) rfl (k_exists (RK_c hk)) ?_
  refine Wp.ifb0 (tgt := 38) (len := 3) rfl (fun h7 => ?_) (fun h7 => ?_)
  · skip
    refine Wp.n (pc' := 40) 1 rfl ?_
    refine Wp.retI (len := 1) rfl rfl ?_
    have hC : lawC K x y = false := by
      unfold lawC
      first
        | (rw [h7, Bool.false_and, Bool.false_and])
        | (rw [h16, Bool.and_false, Bool.false_and])
        | (rw [show decide ((0 : Int32).toInt ≤ y.toInt ∧ y.toInt ≤ (99 : Int32).toInt) = isN 100 y from isR_0 (hi := 99)] at h35
           rw [if_pos (by rw [i_le] at h23; have : x.toInt ≤ 2 := h23; omega), h35, Bool.and_false])
        | (rw [show decide ((0 : Int32).toInt ≤ y.toInt ∧ y.toInt ≤ (1 : Int32).toInt) = isN 2 y from isR_0 (hi := 1)] at h35
           rw [if_neg (by rw [i_le] at h23; have : ¬ x.toInt ≤ 2 := h23; omega), h35, Bool.and_false])
    rw [if_neg (by rw [hC]; decide), if_neg (by rw [hC]; decide)]
    exact ⟨rfl, kn⟩
  · skip
    refine Wp.n (pc' := 13) 3 rfl ?_
    refine Wp.ecallS (len := 3) rfl rfl rfl rfl (k_isWithinN (hi := 4) x (by decide)) ?_
    refine Wp.ifb0 (tgt := 38) (len := 3) rfl (fun h16 => ?_) (fun h16 => ?_)
    · skip
      refine Wp.n (pc' := 40) 1 rfl ?_
      refine Wp.retI (len := 1) rfl rfl ?_
      have hC : lawC K x y = false := by
        unfold lawC
        first
          | (rw [h7, Bool.false_and, Bool.false_and])
          | (rw [h16, Bool.and_false, Bool.false_and])
          | (rw [show decide ((0 : Int32).toInt ≤ y.toInt ∧ y.toInt ≤ (99 : Int32).toInt) = isN 100 y from isR_0 (hi := 99)] at h35
             rw [if_pos (by rw [i_le] at h23; have : x.toInt ≤ 2 := h23; omega), h35, Bool.and_false])
          | (rw [show decide ((0 : Int32).toInt ≤ y.toInt ∧ y.toInt ≤ (1 : Int32).toInt) = isN 2 y from isR_0 (hi := 1)] at h35
             rw [if_neg (by rw [i_le] at h23; have : ¬ x.toInt ≤ 2 := h23; omega), h35, Bool.and_false])
      rw [if_neg (by rw [hC]; decide), if_neg (by rw [hC]; decide)]
      exact ⟨rfl, kn⟩
    · skip
      refine Wp.n (pc' := 23) 4 rfl ?_
      refine Wp.ic5 (tgt := 30) (len := 3) rfl (fun h23 => ?_) (fun h23 => ?_)
      · skip
        refine Wp.n (pc' := 32) 1 rfl ?_
        refine Wp.ecallS (len := 3) rfl rfl rfl rfl (c_isWithin _ _ _) ?_
        refine Wp.ifb1 (tgt := 41) (len := 3) rfl (fun h35 => ?_) (fun h35 => ?_)
        · skip
          have hC : lawC K x y = true := by
            unfold lawC
            rw [h7, h16]
            first
              | (rw [show decide ((0 : Int32).toInt ≤ y.toInt ∧ y.toInt ≤ (99 : Int32).toInt) = isN 100 y from isR_0 (hi := 99)] at h35
                 rw [if_pos (by rw [i_le] at h23; have : x.toInt ≤ 2 := h23; omega), h35]; rfl)
              | (rw [show decide ((0 : Int32).toInt ≤ y.toInt ∧ y.toInt ≤ (1 : Int32).toInt) = isN 2 y from isR_0 (hi := 1)] at h35
                 rw [if_neg (by rw [i_le] at h23; have : ¬ x.toInt ≤ 2 := h23; omega), h35]; rfl)
          obtain ⟨h0, w, m, hw, hm, rfl, rfl, hm1⟩ := lawC_of hC
          rw [if_pos hC, if_pos hC, nI_clamp (by omega), nI_clamp (by omega)]
          refine Wp.n (pc' := 42) 1 rfl ?_
          refine Wp.get (len := 3) rfl (hO _) rfl ?_
          refine Wp.get (len := 3) rfl (ra_obj (hRc _)) rfl ?_
          refine Wp.n (pc' := 50) 2 rfl ?_
          rw [show cset M κ = rset (cset M κ) 36 ρ from (hRc κ).symm]
          refine Wp.callV (len := 3) rfl rfl rfl rs_law rfl (by decide) rfl (k_exchange hw) ?_
          rintro _ _ ⟨rfl, rfl⟩
          refine Wp.retI (len := 1) rfl rfl ?_
          refine ⟨by rw [rc_law hK h0 hw], _, rset_c (by decide) (by decide), _, rset_ra, set_repC hK hw, ?_, setK_ok ok hw hm, by decide, by decide⟩
          intro p q hp hq
          have e0 : kh (setK K w m) 0 = kh K 0 := if_neg (by omega)
          rw [e0] at hp hq
          have ed : distK (setK K w m) = distK K := by
            unfold distK
            rw [e0]
            have e2 : D0 (setK K w m) = D0 K := by
              funext a b
              unfold D0 roadK
              rw [show kh (setK K w m) 2 = kh K 2 from if_neg (by omega)]
              rfl
            rw [e2]
          rw [ed]
          exact hDC p q hp hq
        · skip
          refine Wp.n (pc' := 40) 1 rfl ?_
          refine Wp.retI (len := 1) rfl rfl ?_
          have hC : lawC K x y = false := by
            unfold lawC
            first
              | (rw [h7, Bool.false_and, Bool.false_and])
              | (rw [h16, Bool.and_false, Bool.false_and])
              | (rw [show decide ((0 : Int32).toInt ≤ y.toInt ∧ y.toInt ≤ (99 : Int32).toInt) = isN 100 y from isR_0 (hi := 99)] at h35
                 rw [if_pos (by rw [i_le] at h23; have : x.toInt ≤ 2 := h23; omega), h35, Bool.and_false])
              | (rw [show decide ((0 : Int32).toInt ≤ y.toInt ∧ y.toInt ≤ (1 : Int32).toInt) = isN 2 y from isR_0 (hi := 1)] at h35
                 rw [if_neg (by rw [i_le] at h23; have : ¬ x.toInt ≤ 2 := h23; omega), h35, Bool.and_false])
          rw [if_neg (by rw [hC]; decide), if_neg (by rw [hC]; decide)]
          exact ⟨rfl, kn⟩
      · skip
        refine Wp.n (pc' := 32) 2 rfl ?_
        refine Wp.ecallS (len := 3) rfl rfl rfl rfl (c_isWithin _ _ _) ?_
        refine Wp.ifb1 (tgt := 41) (len := 3) rfl (fun h35 => ?_) (fun h35 => ?_)
        · skip
          have hC : lawC K x y = true := by
            unfold lawC
            rw [h7, h16]
            first
              | (rw [show decide ((0 : Int32).toInt ≤ y.toInt ∧ y.toInt ≤ (99 : Int32).toInt) = isN 100 y from isR_0 (hi := 99)] at h35
                 rw [if_pos (by rw [i_le] at h23; have : x.toInt ≤ 2 := h23; omega), h35]; rfl)
              | (rw [show decide ((0 : Int32).toInt ≤ y.toInt ∧ y.toInt ≤ (1 : Int32).toInt) = isN 2 y from isR_0 (hi := 1)] at h35
                 rw [if_neg (by rw [i_le] at h23; have : ¬ x.toInt ≤ 2 := h23; omega), h35]; rfl)
          obtain ⟨h0, w, m, hw, hm, rfl, rfl, hm1⟩ := lawC_of hC
          rw [if_pos hC, if_pos hC, nI_clamp (by omega), nI_clamp (by omega)]
          refine Wp.n (pc' := 42) 1 rfl ?_
          refine Wp.get (len := 3) rfl (hO _) rfl ?_
          refine Wp.get (len := 3) rfl (ra_obj (hRc _)) rfl ?_
          refine Wp.n (pc' := 50) 2 rfl ?_
          rw [show cset M κ = rset (cset M κ) 36 ρ from (hRc κ).symm]
          refine Wp.callV (len := 3) rfl rfl rfl rs_law rfl (by decide) rfl (k_exchange hw) ?_
          rintro _ _ ⟨rfl, rfl⟩
          refine Wp.retI (len := 1) rfl rfl ?_
          refine ⟨by rw [rc_law hK h0 hw], _, rset_c (by decide) (by decide), _, rset_ra, set_repC hK hw, ?_, setK_ok ok hw hm, by decide, by decide⟩
          intro p q hp hq
          have e0 : kh (setK K w m) 0 = kh K 0 := if_neg (by omega)
          rw [e0] at hp hq
          have ed : distK (setK K w m) = distK K := by
            unfold distK
            rw [e0]
            have e2 : D0 (setK K w m) = D0 K := by
              funext a b
              unfold D0 roadK
              rw [show kh (setK K w m) 2 = kh K 2 from if_neg (by omega)]
              rfl
            rw [e2]
          rw [ed]
          exact hDC p q hp hq
        · skip
          refine Wp.n (pc' := 40) 1 rfl ?_
          refine Wp.retI (len := 1) rfl rfl ?_
          have hC : lawC K x y = false := by
            unfold lawC
            first
              | (rw [h7, Bool.false_and, Bool.false_and])
              | (rw [h16, Bool.and_false, Bool.false_and])
              | (rw [show decide ((0 : Int32).toInt ≤ y.toInt ∧ y.toInt ≤ (99 : Int32).toInt) = isN 100 y from isR_0 (hi := 99)] at h35
                 rw [if_pos (by rw [i_le] at h23; have : x.toInt ≤ 2 := h23; omega), h35, Bool.and_false])
              | (rw [show decide ((0 : Int32).toInt ≤ y.toInt ∧ y.toInt ≤ (1 : Int32).toInt) = isN 2 y from isR_0 (hi := 1)] at h35
                 rw [if_neg (by rw [i_le] at h23; have : ¬ x.toInt ≤ 2 := h23; omega), h35, Bool.and_false])
          rw [if_neg (by rw [hC]; decide), if_neg (by rw [hC]; decide)]
          exact ⟨rfl, kn⟩

end WATCH
section MUSTC
variable {d : Nat} {M : AM} {K : KD} {κ κ' : CS} {Q : Option Value → AM → Prop}
theorem k_must_l {ρ : RC} {κ2 : CS} {a b w dn lg : Nat} {z6 : Option Value} (hD : HD (rset M 83 ρ)) (hk : RK (rset M 83 ρ) 83 (laneK K a b 1 (kh K 1 - 1))) (hw : w < kh K 4) (hW : WRw κ2 (laneK K a b 1 (kh K 1 - 1)) 83 w) (hS : ScC κ κ2) (hdn : dn < 2 ^ 31) (hlg : lg ≤ 99) : ∀ (n m : Nat), m + n = lg + 1 → 1 ≤ m → Wp (d + 11) md_140 131 [some (.ref 32), some (.int (nI a)), some (.int (nI b)), some (.int (nI w)), some (.int (nI dn)), some (.int (nI (2 ^ kh K 3))), z6, some (.int (nI lg)), some (.int (nI m))] [] (cset (rset M 83 ρ) κ2) (RDI M κ (oI (fnd (fun m => (allW (laneK K a b 1 (kh K 1 - 1)) (kw K w 2) (kw K w 4) (kw K w (3 + kw K w 3))).any (canP (laneK K a b 1 (kh K 1 - 1)) (kw K w 4) (kw K w (3 + kw K w 3)) (kw K w 2) (kw K w 1) (2 ^ kh K 3) (m - 1) dn)) n m))) := by
  obtain ⟨ow, hDo⟩ := hD.1
  have hO : ∀ κ : CS, cset (rset M 83 ρ) κ 32 = .inr (9, hdl ow) := fun κ => (cset_o (by omega)).trans hDo
  obtain ⟨p0, p1, p2, p3, p4⟩ := walk_b (K := laneK K a b 1 (kh K 1 - 1)) hk.choose_spec.2.2.2.1 hw
  intro n
  induction n with
  | zero =>
    intro m hm h1
    refine Wp.n (pc' := 135) 2 rfl ?_
    refine Wp.nc4 (x := m) (y := lg) (tgt := 165) (len := 3) rfl (by omega) (by omega) (fun h135 => ?_) (fun h135 => ?_)
    · skip
      refine Wp.n (pc' := 166) 1 rfl ?_
      refine Wp.retI (len := 1) rfl rfl ?_
      exact RDI_s hS rfl
    · omega
  | succ n ih =>
    intro m hm h1
    rw [show ∀ p : Nat → Bool, fnd p (n + 1) m = if p m = true then some m else fnd p n (m + 1) from fun p => rfl]
    refine Wp.n (pc' := 135) 2 rfl ?_
    refine Wp.nc4 (x := m) (y := lg) (tgt := 165) (len := 3) rfl (by omega) (by omega) (fun h135 => ?_) (fun h135 => ?_)
    · omega
    · skip
      refine Wp.n (pc' := 139) 1 rfl ?_
      refine Wp.get (len := 3) rfl (hO _) rfl ?_
      refine Wp.n (pc' := 147) 3 rfl ?_
      refine Wp.isubN (x := m) (y := 1) (len := 1) rfl (by omega) ?_
      refine Wp.n (pc' := 150) 1 rfl ?_
      refine Wp.ecallV (len := 3) rfl rfl rfl (rfl) rfl (by decide) rfl (t_can (lb := 2 ^ kh K 3) (m := m - 1) (dn := dn) hk p0 p2 p3 hW p4 hdn (by omega)) ?_
      refine Wp.ifb0 (tgt := 159) (len := 3) rfl (fun h153 => ?_) (fun h153 => ?_)
      · skip
        refine Wp.incN (x := m) (len := 3) rfl rfl ?_
        refine Wp.n (pc' := 131) 1 rfl ?_
        have h153f : (allW (laneK K a b 1 (kh K 1 - 1)) (kw K w 2) (kw K w 4) (kw K w (3 + kw K w 3))).any (canP (laneK K a b 1 (kh K 1 - 1)) (kw K w 4) (kw K w (3 + kw K w 3)) (kw K w 2) (kw K w 1) (2 ^ kh K 3) (m - 1) dn) = false := h153
        rw [if_neg (by rw [h153f]; decide)]
        exact ih (m + 1) (by omega) (by omega)
      · skip
        refine Wp.n (pc' := 158) 1 rfl ?_
        refine Wp.retI (len := 1) rfl rfl ?_
        have h153t : (allW (laneK K a b 1 (kh K 1 - 1)) (kw K w 2) (kw K w 4) (kw K w (3 + kw K w 3))).any (canP (laneK K a b 1 (kh K 1 - 1)) (kw K w 4) (kw K w (3 + kw K w 3)) (kw K w 2) (kw K w 1) (2 ^ kh K 3) (m - 1) dn) = true := h153
        rw [if_pos h153t]
        exact RDI_s hS rfl

theorem k_must (hH : HDR M K) (h11 : kh K 11 = 0) (hd1 : 0 < kh K 0 → 1 ≤ kh K 1) (x y z u : Int32) : Wp (d + 14) md_140 0 [some (.ref 32), some (.int x), some (.int y), some (.int z), some (.int u), none, none, none, none] [] (cset M κ) (RDI M κ (mustA K x y z u)) := by
  obtain ⟨ρr, hR, hK, hDC, ok, hr1, hr2⟩ := id hH.2.1
  obtain ⟨b0, b1, b2, b3, b4, b5, b6, b7, b8, b9, b10, b11, b12⟩ := ok_h ok
  obtain ⟨ow, hDo⟩ := hH.1.1
  have hO : ∀ (ρ : RC) (κ : CS), cset (rset M 83 ρ) κ 32 = .inr (9, hdl ow) := fun ρ κ => (cset_o (by omega)).trans ((rset_ne (by omega)).trans hDo)
  have hO0 : ∀ κ : CS, cset M κ 32 = .inr (9, hdl ow) := fun κ => (cset_o (by omega)).trans hDo
  have hR0 : ∀ κ : CS, RA (cset M κ) 36 ρr := fun κ => RA_c hR hr1 hr2
  have hRd : ∀ (ρ : RC) (κ : CS), RA (cset (rset M 83 ρ) κ) 36 ρr := fun ρ κ => RA_c (RA_of hR (fun k a b => rset_ne (by omega))) hr1 hr2
  have hDd : ∀ (ρ : RC) (κ : CS), cset (rset M 83 ρ) κ 83 = .inr (3, rfs 83 ρ) := fun ρ κ => (cset_o (by omega)).trans rs_obj
  have hD0 : ∃ ρ0, ∀ κ : CS, cset M κ 83 = .inr (3, rfs 83 ρ0) := by
    obtain ⟨ρ0, h0⟩ := hH.2.2
    exact ⟨ρ0, fun κ => (cset_o (by omega)).trans (ra_obj h0)⟩
  obtain ⟨ρ0, hD0⟩ := hD0
  have h8 : rhd ρr 8 = nI (kh K 3) := by rw [rc_la hK, h11, Nat.add_zero]
  unfold mustA
  refine Wp.n (pc' := 3) 3 rfl ?_
  refine Wp.ecallV (len := 3) rfl rfl rfl (hO0 _) rfl (by decide) rfl (k_arePlaces hH.1 hH.2.1 _ _) ?_
  refine Wp.ifb0 (tgt := 30) (len := 3) rfl (fun h6 => ?_) (fun h6 => ?_)
  · skip
    refine Wp.n (pc' := 32) 1 rfl ?_
    refine Wp.retI (len := 1) rfl rfl ?_
    refine RDI_r hH.2.2 ScC_r ?_
    first
      | rw [if_neg (fun q => by have q1 := q.1; unfold areT at q1; rw [h6] at q1; cases q1)]
      | rw [if_neg (fun q => by have q1 := q.1; unfold areT at q1; rw [decide_eq_true h11_, Bool.not_true, Bool.and_false] at q1; cases q1)]
      | rw [if_neg (fun q => by rw [h22] at q; exact absurd q.2.1 (by decide))]
      | rw [if_neg (fun q => h27 q.2.2)]
  · skip
    refine Wp.n (pc' := 11) 2 rfl ?_
    refine Wp.ic0 (tgt := 30) (len := 3) rfl (fun h11_ => ?_) (fun h11_ => ?_)
    · skip
      refine Wp.n (pc' := 32) 1 rfl ?_
      refine Wp.retI (len := 1) rfl rfl ?_
      refine RDI_r hH.2.2 ScC_r ?_
      first
        | rw [if_neg (fun q => by have q1 := q.1; unfold areT at q1; rw [h6] at q1; cases q1)]
        | rw [if_neg (fun q => by have q1 := q.1; unfold areT at q1; rw [decide_eq_true h11_, Bool.not_true, Bool.and_false] at q1; cases q1)]
        | rw [if_neg (fun q => by rw [h22] at q; exact absurd q.2.1 (by decide))]
        | rw [if_neg (fun q => h27 q.2.2)]
    · skip
      refine Wp.n (pc' := 15) 1 rfl ?_
      refine Wp.get (len := 3) rfl (hO0 _) rfl ?_
      refine Wp.n (pc' := 19) 1 rfl ?_
      refine Wp.ecallV (len := 3) rfl rfl rfl (ra_obj (hR0 _)) rfl (by decide) rfl (k_hasWalk (RK_c hH.2.1) _) ?_
      refine Wp.ifb0 (tgt := 30) (len := 3) rfl (fun h22 => ?_) (fun h22 => ?_)
      · skip
        refine Wp.n (pc' := 32) 1 rfl ?_
        refine Wp.retI (len := 1) rfl rfl ?_
        refine RDI_r hH.2.2 ScC_r ?_
        first
          | rw [if_neg (fun q => by have q1 := q.1; unfold areT at q1; rw [h6] at q1; cases q1)]
          | rw [if_neg (fun q => by have q1 := q.1; unfold areT at q1; rw [decide_eq_true h11_, Bool.not_true, Bool.and_false] at q1; cases q1)]
          | rw [if_neg (fun q => by rw [h22] at q; exact absurd q.2.1 (by decide))]
          | rw [if_neg (fun q => h27 q.2.2)]
      · skip
        refine Wp.n (pc' := 27) 1 rfl ?_
        refine Wp.if3 (tgt := 33) (len := 3) rfl (fun h27 => ?_) (fun h27 => ?_)
        · skip
          have hT : areT K x y = true := by unfold areT; rw [h6, decide_eq_false h11_]; rfl
          obtain ⟨a, t, ha, ht, hat, rfl, rfl⟩ := areT_of hT
          obtain ⟨w, hw, rfl⟩ := isN_of h22
          obtain ⟨dn, hdn, rfl⟩ := ge_of h27
          have tw := ok_walk ok hw
          rw [if_pos ⟨hT, h22, h27⟩, nI_clamp (by omega), nI_clamp (by omega), nI_clamp (by omega), nI_clamp hdn]
          refine Wp.n (pc' := 34) 1 rfl ?_
          refine Wp.get (len := 3) rfl (hO0 _) rfl ?_
          refine Wp.n (pc' := 38) 1 rfl ?_
          refine Wp.get (len := 3) rfl (hO0 _) rfl ?_
          refine Wp.callV (len := 3) rfl rfl rfl (hD0 _) rfl (by decide) rfl (k_becomeD hH h11) ?_
          rintro _ _ ⟨rfl, ρ1, rfl, hK1, hDC1⟩
          refine Wp.n (pc' := 45) 1 rfl ?_
          refine Wp.get (len := 3) rfl (hO _ _) rfl ?_
          refine Wp.callV (len := 3) rfl rfl rfl (hDd _ _) rfl (by decide) rfl (k_addLaneD hK1 ok h11 (hd1 (by omega))) ?_
          rintro _ _ ⟨rfl, ρ2, rfl, hP2, hd2⟩
          refine Wp.n (pc' := 52) 1 rfl ?_
          refine Wp.get (len := 3) rfl (hO _ _) rfl ?_
          refine Wp.n (pc' := 58) 3 rfl ?_
          refine Wp.callV (len := 3) rfl rfl rfl (hDd _ _) rfl (by decide) rfl (k_placeD (a := a) (b := t) (m := 1) hP2 ok) ?_
          rintro _ _ ⟨rfl, ρ3, rfl, hP3, hK3, hd3⟩
          have hD3 : DC (rds ρ3) K (distK K) := by rw [hd3, hd2]; exact hDC1
          have ok3 := laneK_ok ok (e := kh K 1 - 1) ha ht hat (Nat.le_refl 1) (by decide) (by omega)
          have hkL : RK (rset M 83 ρ3) 83 (laneK K a t 1 (kh K 1 - 1)) := RK_lane ok3 hK3 hD3
          refine Wp.n (pc' := 63) 2 rfl ?_
          refine Wp.get (len := 3) rfl (hO _ _) rfl ?_
          refine Wp.n (pc' := 67) 1 rfl ?_
          refine Wp.callV (len := 3) rfl rfl rfl (hO _ _) rfl (by decide) rfl (k_findForWalk (HDR_d hH).1 hkL (w := w) hw) ?_
          rintro _ _ ⟨rfl, κ4, rfl, hS4, hW4⟩
          have q := rc_walk hK hw
          have hwk : cset (rset M 83 ρ3) κ4 (36 + 26 + 2 * w) = .inr (7, wfs (rwk ρr w) (36 + 27 + 2 * w)) := ra_walk (hRd _ _) (by omega)
          refine Wp.n (pc' := 72) 2 rfl ?_
          refine Wp.get (len := 3) rfl (hO _ _) rfl ?_
          refine Wp.get (len := 3) rfl (ra_obj (hRd _ _)) rfl ?_
          refine Wp.top h8 ?_
          refine Wp.n (pc' := 79) 1 rfl ?_
          refine Wp.top (n_sh1 _ (by omega)) ?_
          refine Wp.n (pc' := 82) 2 rfl ?_
          refine Wp.get (len := 3) rfl (hO _ _) rfl ?_
          refine Wp.n (pc' := 88) 3 rfl ?_
          refine Wp.get (len := 3) rfl (hO _ _) rfl ?_
          refine Wp.get (len := 3) rfl (ra_obj (hRd _ _)) rfl ?_
          refine Wp.n (pc' := 95) 1 rfl ?_
          refine Wp.aaldN (j := w) (len := 1) rfl (ra_walks (hRd _ _)) rfl (by omega) (by decide) (if_pos (by omega)) ?_
          refine Wp.get (len := 3) rfl (hwk) rfl ?_
          refine Wp.top q.2.2.1 ?_
          refine Wp.ecallV (len := 3) rfl rfl rfl (ra_obj (hRd _ _)) rfl (by decide) rfl (k_linkOf (hRd _ _) hK ok (by decide) (by omega) (by omega) (by omega)) ?_
          rcases hj : joinK K a t (kw K w 2) with _ | j
          · have hlg : lngK K a t (kw K w 2) = 99 := by unfold lngK; rw [hj]
            refine Wp.n (pc' := 106) 2 rfl ?_
            refine Wp.s (pc' := 109) rfl ?_
            refine Wp.n (pc' := 131) 5 rfl ?_
            have hl99 : lngK K a t (kw K w 2) ≤ 99 := by rw [hlg]; omega
            rw [fnd_cut (m := lngK K a t (kw K w 2)) (q := fun m => (allW (laneK K a t 1 (kh K 1 - 1)) (kw K w 2) (kw K w 4) (kw K w (3 + kw K w 3))).any (canP (laneK K a t 1 (kh K 1 - 1)) (kw K w 4) (kw K w (3 + kw K w 3)) (kw K w 2) (kw K w 1) (2 ^ kh K 3) (m - 1) dn)) 99 1 (fun j h1 h2 => must_eq ok h11 ha ht hat hw h1 (by omega)) (by omega) (by omega)]
            have wl := fun z6 => k_must_l (d := d + 3) (κ := κ) (z6 := z6) (a := a) (b := t) (dn := dn) (lg := lngK K a t (kw K w 2)) (HDR_d hH).1 hkL hw hW4 hS4 hdn hl99 (lngK K a t (kw K w 2) + 1 - 1) 1 (by omega) (Nat.le_refl 1)
            rw [hlg] at wl ⊢
            exact wl _
          · have hjv := joinK_v ok hj
            have hsj := spanJ_b ok hjv
            have hlg : lngK K a t (kw K w 2) = min 99 (spanJ K j - 1) := by unfold lngK; rw [hj]
            obtain ⟨n0, f0, q1, hf3, _, _⟩ := j_obj (hRd ρ3 κ4) hK ok hjv
            have hjm : cset (rset M 83 ρ3) κ4 (jad K 36 j) = .inr (1, kfs n0 f0) := q1
            refine Wp.n (pc' := 106) 2 rfl ?_
            refine Wp.s (pc' := 114) rfl ?_
            refine Wp.n (pc' := 118) 2 rfl ?_
            refine Wp.get (len := 3) rfl (hjm) rfl ?_
            refine Wp.top hf3 ?_
            refine Wp.n (pc' := 122) 1 rfl ?_
            refine Wp.isubN (x := spanJ K j) (y := 1) (len := 1) rfl (by omega) ?_
            refine Wp.bi (len := 3) rfl (by decide) rfl (by omega) ?_
            refine Wp.top (n_min (x := 99) (y := spanJ K j - 1) (by decide) (by omega)) ?_
            refine Wp.n (pc' := 131) 3 rfl ?_
            have hl99 : lngK K a t (kw K w 2) ≤ 99 := by rw [hlg]; omega
            rw [fnd_cut (m := lngK K a t (kw K w 2)) (q := fun m => (allW (laneK K a t 1 (kh K 1 - 1)) (kw K w 2) (kw K w 4) (kw K w (3 + kw K w 3))).any (canP (laneK K a t 1 (kh K 1 - 1)) (kw K w 4) (kw K w (3 + kw K w 3)) (kw K w 2) (kw K w 1) (2 ^ kh K 3) (m - 1) dn)) 99 1 (fun j h1 h2 => must_eq ok h11 ha ht hat hw h1 (by omega)) (by omega) (by omega)]
            have wl := fun z6 => k_must_l (d := d + 3) (κ := κ) (z6 := z6) (a := a) (b := t) (dn := dn) (lg := lngK K a t (kw K w 2)) (HDR_d hH).1 hkL hw hW4 hS4 hdn hl99 (lngK K a t (kw K w 2) + 1 - 1) 1 (by omega) (Nat.le_refl 1)
            rw [hlg] at wl ⊢
            exact wl _
        · skip
          refine Wp.n (pc' := 32) 1 rfl ?_
          refine Wp.retI (len := 1) rfl rfl ?_
          refine RDI_r hH.2.2 ScC_r ?_
          first
            | rw [if_neg (fun q => by have q1 := q.1; unfold areT at q1; rw [h6] at q1; cases q1)]
            | rw [if_neg (fun q => by have q1 := q.1; unfold areT at q1; rw [decide_eq_true h11_, Bool.not_true, Bool.and_false] at q1; cases q1)]
            | rw [if_neg (fun q => by rw [h22] at q; exact absurd q.2.1 (by decide))]
            | rw [if_neg (fun q => h27 q.2.2)]

end MUSTC
end
section
/-! THE CLASS: slots, the tape, images, counts, the ford. -/
section CR2
variable {d : Nat} {X : MD} {pc len : Nat} {l : AL} {st : List Value} {M : AM} {Q : Option Value → AM → Prop} {κ : CS} {v : Value}
theorem Wp.clast {j : Nat} {x : Int64} (hc : cdx X pc = some (.inr (.inl .lastore), len)) (hj : j < 240) (h : Wp d X (pc + len) l st (cset M (cq κ (vp_updL κ.2.2.1 j x))) Q) : Wp d X pc l (.long x :: .int (nI j) :: .ref 283 :: st) (cset M κ) Q := by
  refine Wp.lastN (n := 240) (f := κ.2.2.1) hc rfl hj (by decide) ?_
  have e := cset_up (M := M) (κ := κ) (κ' := cq κ (vp_updL κ.2.2.1 j x)) (s := 14) (by decide) rfl (fun i hi => cc_cq hi)
  rw [← e] at h
  exact h
theorem Wp.cbast1 {j : Nat} {x : Int32} (hc : cdx X pc = some (.inr (.inl .bastore), len)) (hj : j < 2000) (h : Wp d X (pc + len) l st (cset M (ca κ 1 (upd (κ.2.1 1) j (anar 2 x)))) Q) : Wp d X pc l (.int x :: .int (nI j) :: .ref 34 :: st) (cset M κ) Q := by
  refine Wp.bastN (t := 2) (n := 2000) (f := κ.2.1 1) hc rfl rfl hj (by decide) ?_
  have e := cset_upa (M := M) (κ := κ) (s := 1) (f := upd (κ.2.1 1) j (anar 2 x)) (by decide) rfl
  rw [← e] at h
  exact h
theorem Wp.cbast3 {j : Nat} {x : Int32} (hc : cdx X pc = some (.inr (.inl .bastore), len)) (hj : j < 3) (h : Wp d X (pc + len) l st (cset M (ca κ 3 (upd (κ.2.1 3) j (anar 3 x)))) Q) : Wp d X pc l (.int x :: .int (nI j) :: .ref 272 :: st) (cset M κ) Q := by
  refine Wp.bastN (t := 3) (n := 3) (f := κ.2.1 3) hc rfl rfl hj (by decide) ?_
  have e := cset_upa (M := M) (κ := κ) (s := 3) (f := upd (κ.2.1 3) j (anar 3 x)) (by decide) rfl
  rw [← e] at h
  exact h
theorem Wp.acopyL {sp dp m : Nat} {a b : Nat} (hc : cdx X pc = some (.inr (.inr (9, a, b, v)), len)) (hs : sp + m ≤ 240) (hp : dp + m ≤ 240) (hr : Nat.blt 4 st.length = false) (hd : 8 ≤ d) (h : Wp d X (pc + len) l st (cset M (cq κ (va_cpy κ.2.2.1 κ.2.2.1 sp dp m))) Q) : Wp d X pc l (.int (nI m) :: .int (nI dp) :: .ref 283 :: .int (nI sp) :: .ref 283 :: st) (cset M κ) Q := by
  have e := cset_up (M := M) (κ := κ) (κ' := cq κ (va_cpy κ.2.2.1 κ.2.2.1 sp dp m)) (s := 14) (by decide) rfl (fun i hi => cc_cq hi)
  rw [← e] at h
  refine Wp.bi hc (by decide) ?_ hd h
  show (bif decide (nI m < 0) || decide (nI dp < 0) || decide (nI sp < 0) || Nat.blt 4 st.length then none else (bif Nat.ble ((nI sp).toNatClampNeg + (nI m).toNatClampNeg) 240 && Nat.ble ((nI dp).toNatClampNeg + (nI m).toNatClampNeg) 240 then some (st, va_up (cset M κ) 283 (.inl (1, 240, .inr (.inl (va_cpy κ.2.2.1 κ.2.2.1 (nI sp).toNatClampNeg (nI dp).toNatClampNeg (nI m).toNatClampNeg))))) else none)) = _
  rw [decide_eq_false (nI_pos (show m < 2 ^ 31 by omega)), decide_eq_false (nI_pos (show dp < 2 ^ 31 by omega)), decide_eq_false (nI_pos (show sp < 2 ^ 31 by omega)), hr, nI_clamp (show m < 2 ^ 31 by omega), nI_clamp (show dp < 2 ^ 31 by omega), nI_clamp (show sp < 2 ^ 31 by omega), Nat.ble_eq_true_of_le hs, Nat.ble_eq_true_of_le hp]
  rfl
end CR2
def SC (κ : CS) (S : SS) : Prop := SOK S ∧ ∀ s, s < 4 → κ.2.1 16 s = S.1 s ∧ κ.2.1 15 s = nI (S.2.1 s) ∧ ∀ i, i < S.2.1 s → κ.2.2.1 (60 * s + i) = S.2.2 s i
/-- only the slots differ -/
def FZ (κ κ' : CS) : Prop := κ'.1 = κ.1 ∧ (∀ s, s ≠ 15 → s ≠ 16 → κ'.2.1 s = κ.2.1 s) ∧ κ'.2.2.2 = κ.2.2.2
theorem FZ.r {κ : CS} : FZ κ κ := ⟨rfl, fun _ _ _ => rfl, rfl⟩
section SLC
variable {d : Nat} {M : AM} {r : Nat} {K : KD} {S : SS} {T : TP} {κ κ' : CS} {Q : Option Value → AM → Prop}
theorem k_has (x : Int32) : Ev d md_50 0 [some (.ref 282), some (.int x)] [] M (some (.int (bI (isN 4 x))), M) := by
  refine Wp.toEv ?_
  refine Wp.n (pc' := 1) 1 rfl ?_
  refine Wp.if2 (tgt := 13) (len := 3) rfl (fun h1 => ?_) (fun h1 => ?_)
  · rw [i_lt] at h1
    refine Wp.n (pc' := 14) 1 rfl ?_
    refine Wp.retZ (len := 1) (c := false) rfl rfl rfl ?_
    first
      | exact ⟨by rw [show isN 4 x = true from decide_eq_true (by have e1 : ¬ x.toInt < 0 := h1; have e2 : ¬ (4 : Int) ≤ x.toInt := h6; omega)], rfl⟩
      | exact ⟨by rw [show isN 4 x = false from decide_eq_false (fun q => by have e1 : x.toInt < 0 := h1; omega)], rfl⟩
      | exact ⟨by rw [show isN 4 x = false from decide_eq_false (fun q => by have e1 : (4 : Int) ≤ x.toInt := h6; omega)], rfl⟩
  · rw [i_lt] at h1
    refine Wp.n (pc' := 6) 2 rfl ?_
    refine Wp.ic3 (tgt := 13) (len := 3) rfl (fun h6 => ?_) (fun h6 => ?_)
    · rw [i_le] at h6
      refine Wp.n (pc' := 14) 1 rfl ?_
      refine Wp.retZ (len := 1) (c := false) rfl rfl rfl ?_
      first
        | exact ⟨by rw [show isN 4 x = true from decide_eq_true (by have e1 : ¬ x.toInt < 0 := h1; have e2 : ¬ (4 : Int) ≤ x.toInt := h6; omega)], rfl⟩
        | exact ⟨by rw [show isN 4 x = false from decide_eq_false (fun q => by have e1 : x.toInt < 0 := h1; omega)], rfl⟩
        | exact ⟨by rw [show isN 4 x = false from decide_eq_false (fun q => by have e1 : (4 : Int) ≤ x.toInt := h6; omega)], rfl⟩
    · rw [i_le] at h6
      refine Wp.n (pc' := 14) 2 rfl ?_
      refine Wp.retZ (len := 1) (c := true) rfl rfl rfl ?_
      first
        | exact ⟨by rw [show isN 4 x = true from decide_eq_true (by have e1 : ¬ x.toInt < 0 := h1; have e2 : ¬ (4 : Int) ≤ x.toInt := h6; omega)], rfl⟩
        | exact ⟨by rw [show isN 4 x = false from decide_eq_false (fun q => by have e1 : x.toInt < 0 := h1; omega)], rfl⟩
        | exact ⟨by rw [show isN 4 x = false from decide_eq_false (fun q => by have e1 : (4 : Int) ≤ x.toInt := h6; omega)], rfl⟩

theorem k_isBare (hS : SC κ S) {s : Nat} (hs : s < 4) : Ev d md_51 0 [some (.ref 282), some (.int (nI s))] [] (cset M κ) (some (.int (bI (decide (S.1 s = -1)))), cset M κ) := by
  refine Wp.toEv ?_
  refine Wp.n (pc' := 1) 1 rfl ?_
  refine Wp.get (len := 3) rfl (rfl) rfl ?_
  refine Wp.n (pc' := 5) 1 rfl ?_
  refine Wp.ialdN (j := s) (len := 1) rfl (rfl) rfl (by omega) (by decide) ?_
  refine Wp.top (hS.2 s hs).1 ?_
  refine Wp.n (pc' := 7) 1 rfl ?_
  refine Wp.ic1 (tgt := 14) (len := 3) rfl (fun h7 => ?_) (fun h7 => ?_)
  · skip
    refine Wp.n (pc' := 15) 1 rfl ?_
    refine Wp.retZ (len := 1) (c := false) rfl rfl rfl ?_
    first
      | exact ⟨by rw [decide_eq_true h7], rfl⟩
      | exact ⟨by rw [decide_eq_false h7], rfl⟩
  · skip
    refine Wp.n (pc' := 15) 2 rfl ?_
    refine Wp.retZ (len := 1) (c := true) rfl rfl rfl ?_
    first
      | exact ⟨by rw [decide_eq_true h7], rfl⟩
      | exact ⟨by rw [decide_eq_false h7], rfl⟩

theorem k_valueAt (hS : SC κ S) {s i : Nat} (hs : s < 4) (hi : i < S.2.1 s) : Ev d md_52 0 [some (.ref 282), some (.int (nI s)), some (.int (nI i))] [] (cset M κ) (some (.long (S.2.2 s i)), cset M κ) := by
  refine Wp.toEv ?_
  have h60 := hS.1 s hs
  refine Wp.n (pc' := 1) 1 rfl ?_
  refine Wp.get (len := 3) rfl (rfl) rfl ?_
  refine Wp.n (pc' := 7) 2 rfl ?_
  refine Wp.imulN (x := s) (y := 60) (len := 1) rfl ?_
  refine Wp.n (pc' := 9) 1 rfl ?_
  refine Wp.iaddN (x := s * 60) (y := i) (len := 1) rfl ?_
  refine Wp.laldN (j := (s * 60) + i) (len := 1) rfl (rfl) (by omega) (by decide) ?_
  refine Wp.topL (show _ = S.2.2 s i from by rw [Nat.mul_comm s 60]; exact (hS.2 s hs).2.2 i hi) ?_
  refine Wp.retL (len := 1) rfl rfl ?_
  exact ⟨rfl, rfl⟩

theorem k_filled_l (hS : SC κ S) : ∀ (n s c : Nat), s + n = 4 → Wp (d + 1) md_53 4 [some (.ref 282), some (.int (nI c)), some (.int (nI s))] [] (cset M κ) (IsR (some (.int (nI (fld (fun c s => if S.1 s = -1 then c else c + 1) n s c)))) (cset M κ)) := by
  intro n
  induction n with
  | zero =>
    intro s c hs
    refine Wp.n (pc' := 6) 2 rfl ?_
    refine Wp.nc3 (x := s) (y := 4) (tgt := 31) (len := 3) rfl (by omega) (by omega) (fun h6 => ?_) (fun h6 => ?_)
    · skip
      refine Wp.n (pc' := 32) 1 rfl ?_
      refine Wp.retI (len := 1) rfl rfl ?_
      exact ⟨rfl, rfl⟩
    · omega
  | succ n ih =>
    intro s c hs
    show Wp _ _ _ _ _ _ (IsR (some (.int (nI (fld (fun c s => if S.1 s = -1 then c else c + 1) n (s + 1) (if S.1 s = -1 then c else c + 1))))) (cset M κ))
    refine Wp.n (pc' := 6) 2 rfl ?_
    refine Wp.nc3 (x := s) (y := 4) (tgt := 31) (len := 3) rfl (by omega) (by omega) (fun h6 => ?_) (fun h6 => ?_)
    · omega
    · skip
      refine Wp.n (pc' := 12) 3 rfl ?_
      refine Wp.ecallV (len := 3) rfl rfl rfl (rfl) rfl (by decide) rfl (k_isBare hS (by omega)) ?_
      refine Wp.ifb0 (tgt := 22) (len := 3) rfl (fun h15 => ?_) (fun h15 => ?_)
      · skip
        refine Wp.n (pc' := 23) 1 rfl ?_
        refine Wp.iaddN (x := c) (y := 1) (len := 1) rfl ?_
        refine Wp.n (pc' := 25) 1 rfl ?_
        refine Wp.incN (x := s) (len := 3) rfl rfl ?_
        refine Wp.n (pc' := 4) 1 rfl ?_
        first
          | (rw [if_pos (of_decide_eq_true h15)]; exact ih (s + 1) c (by omega))
          | (rw [if_neg (of_decide_eq_false h15)]; exact ih (s + 1) (c + 1) (by omega))
      · skip
        refine Wp.n (pc' := 23) 2 rfl ?_
        refine Wp.iaddN (x := c) (y := 0) (len := 1) rfl ?_
        refine Wp.n (pc' := 25) 1 rfl ?_
        refine Wp.incN (x := s) (len := 3) rfl rfl ?_
        refine Wp.n (pc' := 4) 1 rfl ?_
        first
          | (rw [if_pos (of_decide_eq_true h15)]; exact ih (s + 1) c (by omega))
          | (rw [if_neg (of_decide_eq_false h15)]; exact ih (s + 1) (c + 1) (by omega))

theorem k_filled (hS : SC κ S) : Ev (d + 1) md_53 0 [some (.ref 282), none, none] [] (cset M κ) (some (.int (nI (sltN S))), cset M κ) := by
  refine Wp.toEv ?_
  refine Wp.n (pc' := 4) 4 rfl ?_
  exact k_filled_l hS 4 0 0 (by decide)
theorem k_begin_l {s w m : Nat} (hs : s < 4) : ∀ (n i : Nat) (g : Nat → Int64), i + n = 60 → (∀ q, q < i → g (60 * s + q) = 0) → (∀ q, q < 60 * s ∨ 60 * s + 60 ≤ q → g q = κ.2.2.1 q) → Wp d md_54 17 [some (.ref 282), some (.int (nI s)), some (.int (nI w)), some (.int (nI m)), some (.int (nI i))] [] (cset M (cq κ g)) (fun v M' => v = none ∧ ∃ g, M' = cset M (cq κ g) ∧ (∀ q, q < 60 → g (60 * s + q) = 0) ∧ (∀ q, q < 60 * s ∨ 60 * s + 60 ≤ q → g q = κ.2.2.1 q)) := by
  intro n
  induction n with
  | zero =>
    intro i g hi h0 h1
    refine Wp.n (pc' := 21) 2 rfl ?_
    refine Wp.nc3 (x := i) (y := 60) (tgt := 43) (len := 3) rfl (by omega) (by omega) (fun h21 => ?_) (fun h21 => ?_)
    · skip
      refine Wp.retV (len := 1) rfl rfl ?_
      exact ⟨rfl, g, rfl, fun q hq => h0 q (by omega), h1⟩
    · omega
  | succ n ih =>
    intro i g hi h0 h1
    refine Wp.n (pc' := 21) 2 rfl ?_
    refine Wp.nc3 (x := i) (y := 60) (tgt := 43) (len := 3) rfl (by omega) (by omega) (fun h21 => ?_) (fun h21 => ?_)
    · omega
    · skip
      refine Wp.n (pc' := 25) 1 rfl ?_
      refine Wp.get (len := 3) rfl (rfl) rfl ?_
      refine Wp.n (pc' := 31) 2 rfl ?_
      refine Wp.imulN (x := s) (y := 60) (len := 1) rfl ?_
      refine Wp.n (pc' := 34) 1 rfl ?_
      refine Wp.iaddN (x := s * 60) (y := i) (len := 1) rfl ?_
      refine Wp.n (pc' := 36) 1 rfl ?_
      refine Wp.clast (len := 1) rfl (by omega) ?_
      refine Wp.incN (x := i) (len := 3) rfl rfl ?_
      refine Wp.n (pc' := 17) 1 rfl ?_
      refine ih (i + 1) _ (by omega) (fun q hq => ?_) (fun q hq => ?_)
      · show vp_updL g (s * 60 + i) _ (60 * s + q) = 0
        by_cases c : q = i
        · rw [c, show 60 * s + i = s * 60 + i by omega, lu_s]
        · rw [lu_n (by omega)]; exact h0 q (by omega)
      · show vp_updL g (s * 60 + i) _ q = _
        rw [lu_n (by omega)]; exact h1 q hq

theorem k_begin (hS : SC κ S) {s w m : Nat} (hs : s < 4) (hm : m ≤ 60) : Wp d md_54 0 [some (.ref 282), some (.int (nI s)), some (.int (nI w)), some (.int (nI m)), none] [] (cset M κ) (fun v M' => v = none ∧ ∃ κ', M' = cset M κ' ∧ FZ κ κ' ∧ SC κ' (upd S.1 s (nI w), va_up S.2.1 s m, va_up S.2.2 s (fun _ => 0))) := by
  refine Wp.n (pc' := 1) 1 rfl ?_
  refine Wp.get (len := 3) rfl (rfl) rfl ?_
  refine Wp.n (pc' := 6) 2 rfl ?_
  refine Wp.ciastN (s := 16) (n := 4) (j := s) (len := 1) rfl rfl rfl rfl (by omega) ?_
  refine Wp.n (pc' := 8) 1 rfl ?_
  refine Wp.get (len := 3) rfl (rfl) rfl ?_
  refine Wp.n (pc' := 13) 2 rfl ?_
  refine Wp.ciastN (s := 15) (n := 4) (j := s) (len := 1) rfl rfl rfl rfl (by omega) ?_
  refine Wp.n (pc' := 17) 2 rfl ?_
  have w0 := k_begin_l (d := d) (M := M) (κ := ca (ca κ 16 (upd (κ.2.1 16) s (nI w))) 15 (upd (κ.2.1 15) s (nI m))) (s := s) (w := w) (m := m) hs 60 0 κ.2.2.1 (by decide) (fun q hq => absurd hq (Nat.not_lt_zero q)) (fun q _ => rfl)
  refine Wp.mono w0 ?_
  rintro _ _ ⟨rfl, g, rfl, g0, g1⟩
  refine ⟨rfl, _, rfl, ⟨rfl, fun z h5 h6 => ?_, rfl⟩, fun t ht => ?_, fun t ht => ?_⟩
  · show va_up (va_up κ.2.1 16 _) 15 _ z = _
    rw [va_up_ne _ _ h5, va_up_ne _ _ h6]
  · show va_up S.2.1 s m t ≤ 60
    by_cases c : t = s
    · rw [c, va_up_self]; omega
    · rw [va_up_ne _ _ c]; exact hS.1 t ht
  · have h60 := hS.1 t ht
    obtain ⟨a1, a2, a3⟩ := hS.2 t ht
    show upd (κ.2.1 16) s (nI w) t = upd S.1 s (nI w) t ∧ upd (κ.2.1 15) s (nI m) t = nI (va_up S.2.1 s m t) ∧ ∀ i, i < va_up S.2.1 s m t → g (60 * t + i) = va_up S.2.2 s (fun _ => 0) t i
    by_cases c : t = s
    · subst c
      rw [pk_us, pk_us, pk_us, va_up_self, va_up_self]
      exact ⟨rfl, rfl, fun i hi => g0 i (by omega)⟩
    · rw [pk_un c, pk_un c, pk_un c, va_up_ne _ _ c, va_up_ne _ _ c]
      exact ⟨a1, a2, fun i hi => by rw [g1 _ (by omega)]; exact a3 i hi⟩

theorem k_cut (x : Int64) (w : Int32) : Ev d md_56 0 [some (.long x), none, some (.int w)] [] M (some (.long (cutV x w)), M) := by
  refine Wp.toEv ?_
  unfold cutV
  refine Wp.n (pc' := 1) 1 rfl ?_
  by_cases c0 : w = 0
  · subst c0
    refine Wp.sw (len := 27) (t := 28) rfl (sw_at rfl 0 rfl rfl) ?_
    rw [if_pos rfl]
    refine Wp.n (pc' := 32) 4 rfl ?_
    refine Wp.retL (len := 1) rfl rfl ?_
    exact ⟨rfl, rfl⟩
  · rw [if_neg c0]
    by_cases c1 : w = 1
    · subst c1
      refine Wp.sw (len := 27) (t := 33) rfl (sw_at rfl 1 rfl rfl) ?_
      rw [if_pos rfl]
      refine Wp.n (pc' := 37) 4 rfl ?_
      refine Wp.retL (len := 1) rfl rfl ?_
      exact ⟨rfl, rfl⟩
    · rw [if_neg c1]
      by_cases c2 : w = 2
      · subst c2
        refine Wp.sw (len := 27) (t := 38) rfl (sw_at rfl 2 rfl rfl) ?_
        rw [if_pos rfl]
        refine Wp.n (pc' := 41) 3 rfl ?_
        refine Wp.retL (len := 1) rfl rfl ?_
        exact ⟨rfl, rfl⟩
      · rw [if_neg c2]
        refine Wp.sw (len := 27) (t := 42) rfl (sw_def rfl ?_) ?_
        · rw [i_eq] at c0 c1 c2
          have d0 : ¬ w.toInt = 0 := c0
          have d1 : ¬ w.toInt = 1 := c1
          have d2 : ¬ w.toInt = 2 := c2
          by_cases z : w.toInt < 0
          · exact Or.inl z
          · refine Or.inr ?_
            show (0 : Int) + 3 ≤ w.toInt
            omega
        · refine Wp.n (pc' := 43) 1 rfl ?_
          refine Wp.retL (len := 1) rfl rfl ?_
          exact ⟨rfl, rfl⟩
theorem SC_val (hS : SC κ S) {s i : Nat} {x : Int64} (hs : s < 4) (hi : i < 60) : SC (cq κ (vp_updL κ.2.2.1 (s * 60 + i) x)) (S.1, S.2.1, va_up S.2.2 s (vp_updL (S.2.2 s) i x)) := by
  refine ⟨hS.1, fun t ht => ?_⟩
  obtain ⟨a1, a2, a3⟩ := hS.2 t ht
  have h60 := hS.1 t ht
  refine ⟨a1, a2, fun j hj => ?_⟩
  have hj' : j < S.2.1 t := hj
  show vp_updL κ.2.2.1 (s * 60 + i) x (60 * t + j) = va_up S.2.2 s (vp_updL (S.2.2 s) i x) t j
  by_cases c : t = s
  · subst c
    rw [va_up_self]
    by_cases c2 : j = i
    · rw [c2, show 60 * t + i = t * 60 + i by omega, lu_s, lu_s]
    · rw [lu_n (by omega), lu_n c2]; exact a3 j hj'
  · rw [va_up_ne _ _ c, lu_n (by omega)]; exact a3 j hj'
theorem k_put (hS : SC κ S) {s i : Nat} (hs : s < 4) (hi : i < 60) (x : Int64) : Wp (d + 1) md_55 0 [some (.ref 282), some (.int (nI s)), some (.int (nI i)), some (.long x), none] [] (cset M κ) (fun v M' => v = none ∧ ∃ κ', M' = cset M κ' ∧ FZ κ κ' ∧ SC κ' (S.1, S.2.1, va_up S.2.2 s (vp_updL (S.2.2 s) i (cutV x (S.1 s))))) := by
  refine Wp.n (pc' := 1) 1 rfl ?_
  refine Wp.get (len := 3) rfl (rfl) rfl ?_
  refine Wp.n (pc' := 7) 2 rfl ?_
  refine Wp.imulN (x := s) (y := 60) (len := 1) rfl ?_
  refine Wp.n (pc' := 9) 1 rfl ?_
  refine Wp.iaddN (x := s * 60) (y := i) (len := 1) rfl ?_
  refine Wp.n (pc' := 12) 2 rfl ?_
  refine Wp.get (len := 3) rfl (rfl) rfl ?_
  refine Wp.n (pc' := 16) 1 rfl ?_
  refine Wp.ialdN (j := s) (len := 1) rfl (rfl) rfl (by omega) (by decide) ?_
  refine Wp.top (hS.2 s hs).1 ?_
  refine Wp.ecallS (len := 3) rfl rfl rfl rfl (k_cut _ _) ?_
  refine Wp.clast (len := 1) rfl (by omega) ?_
  refine Wp.retV (len := 1) rfl rfl ?_
  exact ⟨rfl, _, rfl, ⟨rfl, fun _ _ _ => rfl, rfl⟩, SC_val hS hs hi⟩

theorem k_covers (hS : SC κ S) {s : Nat} (hs : s < 4) (i m : Int32) : Ev d md_57 0 [some (.ref 282), some (.int (nI s)), some (.int i), some (.int m)] [] (cset M κ) (some (.int (bI (cov (S.2.1 s) i m))), cset M κ) := by
  refine Wp.toEv ?_
  have h60 := hS.1 s hs
  have hsub : ¬ m.toInt < 0 → (nI (S.2.1 s) - m).toInt = (S.2.1 s : Int) - m.toInt := by
    intro hm
    have h1 := Int32.toInt_lt m
    rw [Int32.toInt_sub, nI_toInt (by omega), Int.bmod_def]
    omega
  refine Wp.n (pc' := 1) 1 rfl ?_
  refine Wp.if2 (tgt := 24) (len := 3) rfl (fun h1 => ?_) (fun h1 => ?_)
  · rw [i_lt] at h1
    refine Wp.n (pc' := 25) 1 rfl ?_
    refine Wp.retZ (len := 1) (c := false) rfl rfl rfl ?_
    first
      | exact ⟨by rw [show cov (S.2.1 s) i m = true from decide_eq_true ⟨by have e1 : ¬ i.toInt < 0 := h1; omega, by have e1 : ¬ m.toInt < 0 := h5; omega, by omega⟩], rfl⟩
      | exact ⟨by rw [show cov (S.2.1 s) i m = false from decide_eq_false (fun q => by have e1 : i.toInt < 0 := h1; omega)], rfl⟩
      | exact ⟨by rw [show cov (S.2.1 s) i m = false from decide_eq_false (fun q => by have e1 : m.toInt < 0 := h5; omega)], rfl⟩
      | exact ⟨by rw [show cov (S.2.1 s) i m = false from decide_eq_false (fun q => by omega)], rfl⟩
  · rw [i_lt] at h1
    refine Wp.n (pc' := 5) 1 rfl ?_
    refine Wp.if2 (tgt := 24) (len := 3) rfl (fun h5 => ?_) (fun h5 => ?_)
    · rw [i_lt] at h5
      refine Wp.n (pc' := 25) 1 rfl ?_
      refine Wp.retZ (len := 1) (c := false) rfl rfl rfl ?_
      first
        | exact ⟨by rw [show cov (S.2.1 s) i m = true from decide_eq_true ⟨by have e1 : ¬ i.toInt < 0 := h1; omega, by have e1 : ¬ m.toInt < 0 := h5; omega, by omega⟩], rfl⟩
        | exact ⟨by rw [show cov (S.2.1 s) i m = false from decide_eq_false (fun q => by have e1 : i.toInt < 0 := h1; omega)], rfl⟩
        | exact ⟨by rw [show cov (S.2.1 s) i m = false from decide_eq_false (fun q => by have e1 : m.toInt < 0 := h5; omega)], rfl⟩
        | exact ⟨by rw [show cov (S.2.1 s) i m = false from decide_eq_false (fun q => by omega)], rfl⟩
    · rw [i_lt] at h5
      refine Wp.n (pc' := 10) 2 rfl ?_
      refine Wp.get (len := 3) rfl (rfl) rfl ?_
      refine Wp.n (pc' := 14) 1 rfl ?_
      refine Wp.ialdN (j := s) (len := 1) rfl (rfl) rfl (by omega) (by decide) ?_
      refine Wp.top (hS.2 s hs).2.1 ?_
      refine Wp.n (pc' := 17) 2 rfl ?_
      refine Wp.ic4 (tgt := 24) (len := 3) rfl (fun h17 => ?_) (fun h17 => ?_)
      · rw [i_lt, hsub h5] at h17
        refine Wp.n (pc' := 25) 1 rfl ?_
        refine Wp.retZ (len := 1) (c := false) rfl rfl rfl ?_
        first
          | exact ⟨by rw [show cov (S.2.1 s) i m = true from decide_eq_true ⟨by have e1 : ¬ i.toInt < 0 := h1; omega, by have e1 : ¬ m.toInt < 0 := h5; omega, by omega⟩], rfl⟩
          | exact ⟨by rw [show cov (S.2.1 s) i m = false from decide_eq_false (fun q => by have e1 : i.toInt < 0 := h1; omega)], rfl⟩
          | exact ⟨by rw [show cov (S.2.1 s) i m = false from decide_eq_false (fun q => by have e1 : m.toInt < 0 := h5; omega)], rfl⟩
          | exact ⟨by rw [show cov (S.2.1 s) i m = false from decide_eq_false (fun q => by omega)], rfl⟩
      · rw [i_lt, hsub h5] at h17
        refine Wp.n (pc' := 25) 2 rfl ?_
        refine Wp.retZ (len := 1) (c := true) rfl rfl rfl ?_
        first
          | exact ⟨by rw [show cov (S.2.1 s) i m = true from decide_eq_true ⟨by have e1 : ¬ i.toInt < 0 := h1; omega, by have e1 : ¬ m.toInt < 0 := h5; omega, by omega⟩], rfl⟩
          | exact ⟨by rw [show cov (S.2.1 s) i m = false from decide_eq_false (fun q => by have e1 : i.toInt < 0 := h1; omega)], rfl⟩
          | exact ⟨by rw [show cov (S.2.1 s) i m = false from decide_eq_false (fun q => by have e1 : m.toInt < 0 := h5; omega)], rfl⟩
          | exact ⟨by rw [show cov (S.2.1 s) i m = false from decide_eq_false (fun q => by omega)], rfl⟩

theorem k_transfer (hS : SC κ S) {s i t k m : Nat} (hs : s < 4) (ht : t < 4) (hi : i + m ≤ S.2.1 s) (hk : k + m ≤ S.2.1 t) : Wp (d + 8) md_58 0 [some (.ref 282), some (.int (nI s)), some (.int (nI i)), some (.int (nI t)), some (.int (nI k)), some (.int (nI m))] [] (cset M κ) (fun v M' => v = none ∧ ∃ κ', M' = cset M κ' ∧ FZ κ κ' ∧ SC κ' (S.1, S.2.1, va_up S.2.2 t (pst (S.2.2 s) (S.2.2 t) i k m))) := by
  have s60 := hS.1 s hs
  have t60 := hS.1 t ht
  refine Wp.n (pc' := 1) 1 rfl ?_
  refine Wp.get (len := 3) rfl (rfl) rfl ?_
  refine Wp.n (pc' := 7) 2 rfl ?_
  refine Wp.imulN (x := s) (y := 60) (len := 1) rfl ?_
  refine Wp.n (pc' := 9) 1 rfl ?_
  refine Wp.iaddN (x := s * 60) (y := i) (len := 1) rfl ?_
  refine Wp.n (pc' := 11) 1 rfl ?_
  refine Wp.get (len := 3) rfl (rfl) rfl ?_
  refine Wp.n (pc' := 17) 2 rfl ?_
  refine Wp.imulN (x := t) (y := 60) (len := 1) rfl ?_
  refine Wp.n (pc' := 20) 1 rfl ?_
  refine Wp.iaddN (x := t * 60) (y := k) (len := 1) rfl ?_
  refine Wp.n (pc' := 23) 1 rfl ?_
  refine Wp.acopyL (sp := s * 60 + i) (dp := t * 60 + k) (m := m) (len := 3) rfl (by omega) (by omega) rfl (by omega) ?_
  refine Wp.retV (len := 1) rfl rfl ?_
  refine ⟨rfl, _, rfl, ⟨rfl, fun _ _ _ => rfl, rfl⟩, hS.1, fun u hu => ?_⟩
  obtain ⟨u1, u2, u3⟩ := hS.2 u hu
  have u60 := hS.1 u hu
  refine ⟨u1, u2, fun j hj => ?_⟩
  have hj' : j < S.2.1 u := hj
  show va_cpy κ.2.2.1 κ.2.2.1 (s * 60 + i) (t * 60 + k) m (60 * u + j) = va_up S.2.2 t (pst (S.2.2 s) (S.2.2 t) i k m) u j
  by_cases c : u = t
  · subst c
    rw [va_up_self]
    unfold pst
    by_cases c2 : k ≤ j ∧ j < k + m
    · rw [if_pos c2, pk_cpy_in (by omega) (by omega), show s * 60 + i + (60 * u + j - (u * 60 + k)) = 60 * s + (i + (j - k)) by omega]
      exact (hS.2 s hs).2.2 _ (by omega)
    · rw [if_neg c2, pk_cpy_out (by omega)]
      exact u3 j hj'
  · rw [va_up_ne _ _ c, pk_cpy_out (by omega)]
    exact u3 j hj'

theorem k_row (hD : HD M) (hS : SC κ S) (x w m : Int32) : Wp (d + 1) md_146 0 [some (.ref 32), some (.int x), some (.int w), some (.int m)] [] (cset M κ) (fun v M' => v = some (.int (rowA x w m)) ∧ ∃ κ', M' = cset M κ' ∧ FZ κ κ' ∧ SC κ' (rowN S x w m)) := by
  obtain ⟨ow, hDo⟩ := hD.1
  have hO : ∀ κ : CS, cset M κ 32 = .inr (9, hdl ow) := fun κ => (cset_o (by omega)).trans hDo
  unfold rowA rowN
  refine Wp.n (pc' := 1) 1 rfl ?_
  refine Wp.get (len := 3) rfl (hO _) rfl ?_
  refine Wp.n (pc' := 5) 1 rfl ?_
  refine Wp.ecallV (len := 3) rfl rfl rfl (rfl) rfl (by decide) rfl (k_has _) ?_
  refine Wp.ifb0 (tgt := 26) (len := 3) rfl (fun h8 => ?_) (fun h8 => ?_)
  · skip
    refine Wp.n (pc' := 28) 1 rfl ?_
    refine Wp.retI (len := 1) rfl rfl ?_
    first
      | (rw [if_neg (fun q => by rw [h8] at q; exact absurd q.1 (by decide)), if_neg (fun q => by rw [h8] at q; exact absurd q.1 (by decide))]; exact ⟨rfl, κ, rfl, FZ.r, hS⟩)
      | (rw [if_neg (fun q => by rw [h17] at q; exact absurd q.2.1 (by decide)), if_neg (fun q => by rw [h17] at q; exact absurd q.2.1 (by decide))]; exact ⟨rfl, κ, rfl, FZ.r, hS⟩)
      | (rw [if_neg (fun q => h23 q.2.2), if_neg (fun q => h23 q.2.2.1)]; exact ⟨rfl, κ, rfl, FZ.r, hS⟩)
  · skip
    refine Wp.n (pc' := 14) 3 rfl ?_
    refine Wp.ecallS (len := 3) rfl rfl rfl rfl (k_isWithinN (hi := 3) w (by decide)) ?_
    refine Wp.ifb0 (tgt := 26) (len := 3) rfl (fun h17 => ?_) (fun h17 => ?_)
    · skip
      refine Wp.n (pc' := 28) 1 rfl ?_
      refine Wp.retI (len := 1) rfl rfl ?_
      first
        | (rw [if_neg (fun q => by rw [h8] at q; exact absurd q.1 (by decide)), if_neg (fun q => by rw [h8] at q; exact absurd q.1 (by decide))]; exact ⟨rfl, κ, rfl, FZ.r, hS⟩)
        | (rw [if_neg (fun q => by rw [h17] at q; exact absurd q.2.1 (by decide)), if_neg (fun q => by rw [h17] at q; exact absurd q.2.1 (by decide))]; exact ⟨rfl, κ, rfl, FZ.r, hS⟩)
        | (rw [if_neg (fun q => h23 q.2.2), if_neg (fun q => h23 q.2.2.1)]; exact ⟨rfl, κ, rfl, FZ.r, hS⟩)
    · skip
      refine Wp.n (pc' := 23) 2 rfl ?_
      refine Wp.ic5 (tgt := 29) (len := 3) rfl (fun h23 => ?_) (fun h23 => ?_)
      · rw [i_le] at h23
        have hm60 : m.toInt ≤ 60 := h23
        rw [if_pos ⟨h8, h17, hm60⟩]
        refine Wp.n (pc' := 30) 1 rfl ?_
        refine Wp.if3 (tgt := 36) (len := 3) rfl (fun h30 => ?_) (fun h30 => ?_)
        · rw [i_le] at h30
          have hm0 : 0 ≤ m.toInt := h30
          obtain ⟨s, hs, rfl⟩ := isN_of h8
          obtain ⟨w, hw, rfl⟩ := isN_of h17
          obtain ⟨m, hm, rfl⟩ := nI_of (x := m) (by rw [i_lt]; intro q; have : m.toInt < 0 := q; omega)
          rw [nI_toInt hm] at hm60
          rw [if_neg (by rw [nI_toInt hm]; omega), if_pos ⟨h8, h17, by rw [nI_toInt hm]; omega, by rw [nI_toInt hm]; omega⟩, nI_clamp (by omega), nI_clamp hm]
          refine Wp.n (pc' := 37) 1 rfl ?_
          refine Wp.get (len := 3) rfl (hO _) rfl ?_
          refine Wp.n (pc' := 43) 3 rfl ?_
          refine Wp.callV (len := 3) rfl rfl rfl (rfl) rfl (by decide) rfl (k_begin hS hs (by omega)) ?_
          rintro _ _ ⟨rfl, κ2, rfl, hF, hS2⟩
          refine Wp.n (pc' := 47) 1 rfl ?_
          refine Wp.retI (len := 1) rfl rfl ?_
          exact ⟨rfl, κ2, rfl, hF, hS2⟩
        · rw [i_le] at h30
          refine Wp.n (pc' := 35) 1 rfl ?_
          refine Wp.retI (len := 1) rfl rfl ?_
          rw [if_pos (by have : ¬ (0 : Int) ≤ m.toInt := h30; omega), if_neg (fun q => h30 q.2.2.2)]
          exact ⟨rfl, κ, rfl, FZ.r, hS⟩
      · rw [i_le] at h23
        refine Wp.n (pc' := 28) 1 rfl ?_
        refine Wp.retI (len := 1) rfl rfl ?_
        first
          | (rw [if_neg (fun q => by rw [h8] at q; exact absurd q.1 (by decide)), if_neg (fun q => by rw [h8] at q; exact absurd q.1 (by decide))]; exact ⟨rfl, κ, rfl, FZ.r, hS⟩)
          | (rw [if_neg (fun q => by rw [h17] at q; exact absurd q.2.1 (by decide)), if_neg (fun q => by rw [h17] at q; exact absurd q.2.1 (by decide))]; exact ⟨rfl, κ, rfl, FZ.r, hS⟩)
          | (rw [if_neg (fun q => h23 q.2.2), if_neg (fun q => h23 q.2.2.1)]; exact ⟨rfl, κ, rfl, FZ.r, hS⟩)

theorem k_write (hD : HD M) (hS : SC κ S) (x i : Int32) (v : Int64) : Wp (d + 2) md_147 0 [some (.ref 32), some (.int x), some (.int i), some (.long v), none] [] (cset M κ) (fun r M' => r = some (.int (writeA S x i)) ∧ ∃ κ', M' = cset M κ' ∧ FZ κ κ' ∧ SC κ' (writeN S x i v)) := by
  obtain ⟨ow, hDo⟩ := hD.1
  have hO : ∀ κ : CS, cset M κ 32 = .inr (9, hdl ow) := fun κ => (cset_o (by omega)).trans hDo
  unfold writeA writeN
  refine Wp.n (pc' := 1) 1 rfl ?_
  refine Wp.get (len := 3) rfl (hO _) rfl ?_
  refine Wp.n (pc' := 5) 1 rfl ?_
  refine Wp.ecallV (len := 3) rfl rfl rfl (rfl) rfl (by decide) rfl (k_has _) ?_
  refine Wp.ifb1 (tgt := 14) (len := 3) rfl (fun h8 => ?_) (fun h8 => ?_)
  · skip
    obtain ⟨s, hs, rfl⟩ := isN_of h8
    have h60 := hS.1 s hs
    rw [if_pos h8, nI_clamp (by omega)]
    refine Wp.n (pc' := 15) 1 rfl ?_
    refine Wp.get (len := 3) rfl (hO _) rfl ?_
    refine Wp.n (pc' := 19) 1 rfl ?_
    refine Wp.ecallV (len := 3) rfl rfl rfl (rfl) rfl (by decide) rfl (k_isBare hS hs) ?_
    refine Wp.ifb0 (tgt := 28) (len := 3) rfl (fun h22 => ?_) (fun h22 => ?_)
    · skip
      have h22f := of_decide_eq_false h22
      rw [if_neg h22f]
      refine Wp.n (pc' := 29) 1 rfl ?_
      refine Wp.if2 (tgt := 45) (len := 3) rfl (fun h29 => ?_) (fun h29 => ?_)
      · rw [i_lt] at h29
        refine Wp.n (pc' := 47) 1 rfl ?_
        refine Wp.retI (len := 1) rfl rfl ?_
        have hN : ¬ isN (S.2.1 s) i = true := fun q => by
          have := of_decide_eq_true q
          first
            | (have e1 : i.toInt < 0 := h29; omega)
            | omega
        rw [if_neg hN, if_neg (fun q => hN q.2.2)]
        exact ⟨rfl, κ, rfl, FZ.r, hS⟩
      · rw [i_lt] at h29
        refine Wp.n (pc' := 34) 2 rfl ?_
        refine Wp.get (len := 3) rfl (hO _) rfl ?_
        refine Wp.get (len := 3) rfl (rfl) rfl ?_
        refine Wp.n (pc' := 41) 1 rfl ?_
        refine Wp.ialdN (j := s) (len := 1) rfl (rfl) rfl (by omega) (by decide) ?_
        refine Wp.top (hS.2 s hs).2.1 ?_
        refine Wp.ic2 (tgt := 48) (len := 3) rfl (fun h42 => ?_) (fun h42 => ?_)
        · rw [i_lt, nI_toInt (show S.2.1 s < 2 ^ 31 by omega)] at h42
          have hN : isN (S.2.1 s) i = true := decide_eq_true (by have e1 : ¬ i.toInt < 0 := h29; omega)
          obtain ⟨j, hj, rfl⟩ := isN_of hN
          rw [if_pos hN, if_pos ⟨h8, h22f, hN⟩, nI_clamp (by omega)]
          refine Wp.n (pc' := 49) 1 rfl ?_
          refine Wp.get (len := 3) rfl (hO _) rfl ?_
          refine Wp.n (pc' := 55) 3 rfl ?_
          refine Wp.callV (len := 3) rfl rfl rfl (rfl) rfl (by decide) rfl (k_put hS hs (by omega) v) ?_
          rintro _ _ ⟨rfl, κ2, rfl, hF, hS2⟩
          refine Wp.n (pc' := 59) 1 rfl ?_
          refine Wp.retI (len := 1) rfl rfl ?_
          exact ⟨rfl, κ2, rfl, hF, hS2⟩
        · rw [i_lt, nI_toInt (show S.2.1 s < 2 ^ 31 by omega)] at h42
          refine Wp.n (pc' := 47) 1 rfl ?_
          refine Wp.retI (len := 1) rfl rfl ?_
          have hN : ¬ isN (S.2.1 s) i = true := fun q => by
            have := of_decide_eq_true q
            first
              | (have e1 : i.toInt < 0 := h29; omega)
              | omega
          rw [if_neg hN, if_neg (fun q => hN q.2.2)]
          exact ⟨rfl, κ, rfl, FZ.r, hS⟩
    · skip
      refine Wp.n (pc' := 27) 1 rfl ?_
      refine Wp.retI (len := 1) rfl rfl ?_
      rw [if_pos (of_decide_eq_true h22), if_neg (fun q => q.2.1 (of_decide_eq_true h22))]
      exact ⟨rfl, κ, rfl, FZ.r, hS⟩
  · skip
    refine Wp.n (pc' := 13) 1 rfl ?_
    refine Wp.retI (len := 1) rfl rfl ?_
    rw [if_neg (by rw [h8]; decide), if_neg (fun q => by rw [h8] at q; exact absurd q.1 (by decide))]
    exact ⟨rfl, κ, rfl, FZ.r, hS⟩

theorem k_paste (hD : HD M) (hS : SC κ S) (x i t k m : Int32) : Wp (d + 9) md_148 0 [some (.ref 32), some (.int x), some (.int i), some (.int t), some (.int k), some (.int m)] [] (cset M κ) (fun r M' => r = some (.int (pasteA S x i t k m)) ∧ ∃ κ', M' = cset M κ' ∧ FZ κ κ' ∧ SC κ' (pasteN S x i t k m)) := by
  obtain ⟨ow, hDo⟩ := hD.1
  have hO : ∀ κ : CS, cset M κ 32 = .inr (9, hdl ow) := fun κ => (cset_o (by omega)).trans hDo
  unfold pasteA pasteN
  have kn : pasteC S x i t k m = false → (∃ κ', cset M κ = cset M κ' ∧ FZ κ κ' ∧ SC κ' (if pasteC S x i t k m = true then (S.1, S.2.1, va_up S.2.2 t.toNatClampNeg (pst (S.2.2 x.toNatClampNeg) (S.2.2 t.toNatClampNeg) i.toNatClampNeg k.toNatClampNeg m.toNatClampNeg)) else S)) := fun h => ⟨κ, rfl, FZ.r, by rw [if_neg (by rw [h]; decide)]; exact hS⟩
  refine Wp.n (pc' := 1) 1 rfl ?_
  refine Wp.get (len := 3) rfl (hO _) rfl ?_
  refine Wp.n (pc' := 5) 1 rfl ?_
  refine Wp.ecallV (len := 3) rfl rfl rfl (rfl) rfl (by decide) rfl (k_has _) ?_
  refine Wp.ifb0 (tgt := 22) (len := 3) rfl (fun h8 => ?_) (fun h8 => ?_)
  · skip
    refine Wp.n (pc' := 24) 1 rfl ?_
    refine Wp.retI (len := 1) rfl rfl ?_
    first
      | (rw [if_neg (by rw [h8, Bool.false_and]; decide)]; exact ⟨rfl, kn (by unfold pasteC; rw [h8]; simp only [Bool.false_and])⟩)
      | (rw [if_neg (by rw [h19, Bool.and_false]; decide)]; exact ⟨rfl, kn (by unfold pasteC; rw [h19]; simp only [Bool.and_false, Bool.false_and])⟩)
  · skip
    refine Wp.n (pc' := 12) 1 rfl ?_
    refine Wp.get (len := 3) rfl (hO _) rfl ?_
    refine Wp.n (pc' := 16) 1 rfl ?_
    refine Wp.ecallV (len := 3) rfl rfl rfl (rfl) rfl (by decide) rfl (k_has _) ?_
    refine Wp.ifb1 (tgt := 25) (len := 3) rfl (fun h19 => ?_) (fun h19 => ?_)
    · skip
      rw [if_pos (by rw [h8, h19]; rfl)]
      obtain ⟨s, hs, rfl⟩ := isN_of h8
      obtain ⟨t, ht, rfl⟩ := isN_of h19
      rw [nI_clamp (show s < 2 ^ 31 by omega), nI_clamp (show t < 2 ^ 31 by omega)] at kn ⊢
      refine Wp.n (pc' := 26) 1 rfl ?_
      refine Wp.get (len := 3) rfl (hO _) rfl ?_
      refine Wp.n (pc' := 30) 1 rfl ?_
      refine Wp.ecallV (len := 3) rfl rfl rfl (rfl) rfl (by decide) rfl (k_isBare hS hs) ?_
      refine Wp.ifb1 (tgt := 47) (len := 3) rfl (fun h33 => ?_) (fun h33 => ?_)
      · skip
        refine Wp.n (pc' := 49) 1 rfl ?_
        refine Wp.retI (len := 1) rfl rfl ?_
        first
          | (rw [if_pos (Or.inl (of_decide_eq_true h33))]; exact ⟨rfl, kn (by unfold pasteC; rw [nI_clamp (show s < 2 ^ 31 by omega), h33]; simp only [Bool.not_true, Bool.and_false, Bool.false_and])⟩)
          | (rw [if_pos (Or.inr (of_decide_eq_true h44))]; exact ⟨rfl, kn (by unfold pasteC; rw [nI_clamp (show t < 2 ^ 31 by omega), h44]; simp only [Bool.not_true, Bool.and_false, Bool.false_and])⟩)
      · skip
        refine Wp.n (pc' := 37) 1 rfl ?_
        refine Wp.get (len := 3) rfl (hO _) rfl ?_
        refine Wp.n (pc' := 41) 1 rfl ?_
        refine Wp.ecallV (len := 3) rfl rfl rfl (rfl) rfl (by decide) rfl (k_isBare hS ht) ?_
        refine Wp.ifb0 (tgt := 50) (len := 3) rfl (fun h44 => ?_) (fun h44 => ?_)
        · skip
          rw [if_neg (by rintro (q | q); exact of_decide_eq_false h33 q; exact of_decide_eq_false h44 q)]
          refine Wp.n (pc' := 51) 1 rfl ?_
          refine Wp.get (len := 3) rfl (hO _) rfl ?_
          refine Wp.get (len := 3) rfl (rfl) rfl ?_
          refine Wp.n (pc' := 58) 1 rfl ?_
          refine Wp.ialdN (j := s) (len := 1) rfl (rfl) rfl (by omega) (by decide) ?_
          refine Wp.top (hS.2 s hs).1 ?_
          refine Wp.n (pc' := 60) 1 rfl ?_
          refine Wp.get (len := 3) rfl (hO _) rfl ?_
          refine Wp.get (len := 3) rfl (rfl) rfl ?_
          refine Wp.n (pc' := 67) 1 rfl ?_
          refine Wp.ialdN (j := t) (len := 1) rfl (rfl) rfl (by omega) (by decide) ?_
          refine Wp.top (hS.2 t ht).1 ?_
          refine Wp.ic0 (tgt := 74) (len := 3) rfl (fun h68 => ?_) (fun h68 => ?_)
          · skip
            rw [if_neg (fun q => q h68)]
            refine Wp.n (pc' := 75) 1 rfl ?_
            refine Wp.get (len := 3) rfl (hO _) rfl ?_
            refine Wp.n (pc' := 82) 3 rfl ?_
            refine Wp.ecallV (len := 3) rfl rfl rfl (rfl) rfl (by decide) rfl (k_covers hS hs i m) ?_
            refine Wp.ifb0 (tgt := 103) (len := 3) rfl (fun h85 => ?_) (fun h85 => ?_)
            · skip
              refine Wp.n (pc' := 105) 1 rfl ?_
              refine Wp.retI (len := 1) rfl rfl ?_
              have hC : (cov (S.2.1 s) i m && cov (S.2.1 t) k m) = false := by first | (rw [h85]; rfl) | (rw [h100, Bool.and_false])
              rw [if_neg (by rw [hC]; decide)]
              refine ⟨rfl, kn ?_⟩
              unfold pasteC
              rw [nI_clamp (show s < 2 ^ 31 by omega), nI_clamp (show t < 2 ^ 31 by omega), Bool.and_assoc, hC, Bool.and_false]
            · skip
              refine Wp.n (pc' := 89) 1 rfl ?_
              refine Wp.get (len := 3) rfl (hO _) rfl ?_
              refine Wp.n (pc' := 97) 3 rfl ?_
              refine Wp.ecallV (len := 3) rfl rfl rfl (rfl) rfl (by decide) rfl (k_covers hS ht k m) ?_
              refine Wp.ifb1 (tgt := 106) (len := 3) rfl (fun h100 => ?_) (fun h100 => ?_)
              · skip
                have hC : pasteC S (nI s) i (nI t) k m = true := by
                  unfold pasteC
                  rw [nI_clamp (show s < 2 ^ 31 by omega), nI_clamp (show t < 2 ^ 31 by omega), h8, h19, h33, h44, decide_eq_true h68, h85, h100]
                  rfl
                rw [if_pos (by rw [h85, h100]; rfl), if_pos hC]
                obtain ⟨i, m, rfl, rfl, him, hi31, hm31⟩ := cov_of h85
                obtain ⟨k, m', rfl, em, hkm, hk31, hm31'⟩ := cov_of h100
                obtain rfl : m = m' := (nI_eq hm31 hm31').mp em
                rw [nI_clamp hi31, nI_clamp hk31, nI_clamp hm31]
                clear kn
                refine Wp.n (pc' := 107) 1 rfl ?_
                refine Wp.get (len := 3) rfl (hO _) rfl ?_
                refine Wp.n (pc' := 117) 5 rfl ?_
                refine Wp.callV (len := 3) rfl rfl rfl (rfl) rfl (by decide) rfl (k_transfer hS hs ht him hkm) ?_
                rintro _ _ ⟨rfl, κ2, rfl, hF, hS2⟩
                refine Wp.n (pc' := 121) 1 rfl ?_
                refine Wp.retI (len := 1) rfl rfl ?_
                exact ⟨rfl, κ2, rfl, hF, hS2⟩
              · skip
                refine Wp.n (pc' := 105) 1 rfl ?_
                refine Wp.retI (len := 1) rfl rfl ?_
                have hC : (cov (S.2.1 s) i m && cov (S.2.1 t) k m) = false := by first | (rw [h85]; rfl) | (rw [h100, Bool.and_false])
                rw [if_neg (by rw [hC]; decide)]
                refine ⟨rfl, kn ?_⟩
                unfold pasteC
                rw [nI_clamp (show s < 2 ^ 31 by omega), nI_clamp (show t < 2 ^ 31 by omega), Bool.and_assoc, hC, Bool.and_false]
          · skip
            refine Wp.n (pc' := 73) 1 rfl ?_
            refine Wp.retI (len := 1) rfl rfl ?_
            rw [if_pos h68]
            exact ⟨rfl, kn (by unfold pasteC; rw [nI_clamp (show s < 2 ^ 31 by omega), nI_clamp (show t < 2 ^ 31 by omega), decide_eq_false h68]; simp only [Bool.and_false, Bool.false_and])⟩
        · skip
          refine Wp.n (pc' := 49) 1 rfl ?_
          refine Wp.retI (len := 1) rfl rfl ?_
          first
            | (rw [if_pos (Or.inl (of_decide_eq_true h33))]; exact ⟨rfl, kn (by unfold pasteC; rw [nI_clamp (show s < 2 ^ 31 by omega), h33]; simp only [Bool.not_true, Bool.and_false, Bool.false_and])⟩)
            | (rw [if_pos (Or.inr (of_decide_eq_true h44))]; exact ⟨rfl, kn (by unfold pasteC; rw [nI_clamp (show t < 2 ^ 31 by omega), h44]; simp only [Bool.not_true, Bool.and_false, Bool.false_and])⟩)
    · skip
      refine Wp.n (pc' := 24) 1 rfl ?_
      refine Wp.retI (len := 1) rfl rfl ?_
      first
        | (rw [if_neg (by rw [h8, Bool.false_and]; decide)]; exact ⟨rfl, kn (by unfold pasteC; rw [h8]; simp only [Bool.false_and])⟩)
        | (rw [if_neg (by rw [h19, Bool.and_false]; decide)]; exact ⟨rfl, kn (by unfold pasteC; rw [h19]; simp only [Bool.and_false, Bool.false_and])⟩)

def TC (κ : CS) (T : TP) : Prop := κ.1 0 1 = nI T.1 ∧ T.1 ≤ 2000 ∧ ∀ i, i < T.1 → κ.2.1 1 i = T.2 i
def FT (κ κ' : CS) : Prop := (∀ s, s ≠ 0 → κ'.1 s = κ.1 s) ∧ (∀ s, s ≠ 1 → κ'.2.1 s = κ.2.1 s) ∧ κ'.2.2 = κ.2.2
theorem FT.refl {κ : CS} : FT κ κ := ⟨fun _ _ => rfl, fun _ _ => rfl, rfl⟩
theorem FT.t {κ κ' κ'' : CS} (h : FT κ κ') (h' : FT κ' κ'') : FT κ κ'' := ⟨fun s hs => (h'.1 s hs).trans (h.1 s hs), fun s hs => (h'.2.1 s hs).trans (h.2.1 s hs), h'.2.2.trans h.2.2⟩
theorem k_app_1 (hT : TC κ T) (h2 : T.1 < 2000) {v k : Int32} (hk : ¬ k < 0) (kk : ∀ κ', FT κ κ' → TC κ' (tpb T v k) → Wp d md_61 3 [some (.ref 33), some (.int v), some (.int (k + (-8)))] [] (cset M κ') Q) : Wp d md_61 3 [some (.ref 33), some (.int v), some (.int k)] [] (cset M κ) Q := by
  refine Wp.n (pc' := 4) 1 rfl ?_
  refine Wp.if2 (tgt := 46) (len := 3) rfl (fun h4 => ?_) (fun h4 => ?_)
  · exact absurd h4 hk
  · skip
    refine Wp.n (pc' := 8) 1 rfl ?_
    refine Wp.get (len := 3) rfl (rfl) rfl ?_
    refine Wp.top hT.1 ?_
    refine Wp.n (pc' := 14) 1 rfl ?_
    refine Wp.nc3 (x := T.1) (y := 2000) (tgt := 40) (len := 3) rfl (by omega) (by omega) (fun h14 => ?_) (fun h14 => ?_)
    · omega
    · skip
      refine Wp.n (pc' := 18) 1 rfl ?_
      refine Wp.get (len := 3) rfl (rfl) rfl ?_
      refine Wp.n (pc' := 22) 1 rfl ?_
      refine Wp.get (len := 3) rfl (rfl) rfl ?_
      refine Wp.top hT.1 ?_
      refine Wp.n (pc' := 29) 4 rfl ?_
      refine Wp.cbast1 (len := 1) rfl h2 ?_
      refine Wp.n (pc' := 32) 2 rfl ?_
      refine Wp.get (len := 3) rfl (rfl) rfl ?_
      refine Wp.top hT.1 ?_
      refine Wp.n (pc' := 36) 1 rfl ?_
      refine Wp.iaddN (x := T.1) (y := 1) (len := 1) rfl ?_
      refine Wp.cput0 (len := 3) rfl ?_
      refine Wp.n (pc' := 3) 2 rfl ?_
      refine kk _ ⟨fun s hs => va_up_ne _ _ hs, fun s hs => va_up_ne _ _ hs, rfl⟩ ⟨rfl, h2, fun i hi => ?_⟩
      show (ca κ 1 (upd (κ.2.1 1) T.1 (byt v k))).2.1 1 i = upd T.2 T.1 (byt v k) i
      rw [ca_get]
      have hi' : i < T.1 + 1 := hi
      by_cases c : i = T.1
      · rw [c, pk_us, pk_us]
      · rw [pk_un c, pk_un c]; exact hT.2.2 i (by omega)

theorem k_append (hT : TC κ T) (h4 : T.1 + 4 ≤ 2000) (v : Int32) : Wp d md_61 0 [some (.ref 33), some (.int v), none] [] (cset M κ) (fun r M' => r = none ∧ ∃ κ', M' = cset M κ' ∧ FT κ κ' ∧ TC κ' (tp4 T v)) := by
  refine Wp.n (pc' := 3) 2 rfl ?_
  refine k_app_1 hT (by omega) (by decide) (fun σ1 f1 t1 => ?_)
  refine k_app_1 (k := 16) t1 (show T.1 + 1 < 2000 by omega) (by decide) (fun σ2 f2 t2 => ?_)
  refine k_app_1 (k := 8) t2 (show T.1 + 1 + 1 < 2000 by omega) (by decide) (fun σ3 f3 t3 => ?_)
  refine k_app_1 (k := 0) t3 (show T.1 + 1 + 1 + 1 < 2000 by omega) (by decide) (fun σ4 f4 t4 => ?_)
  refine Wp.n (pc' := 4) 1 rfl ?_
  refine Wp.if2 (tgt := 46) (len := 3) rfl (fun h => ?_) (fun h => absurd h (by decide))
  refine Wp.retV (len := 1) rfl rfl ?_
  exact ⟨rfl, σ4, rfl, ((f1.t f2).t f3).t f4, t4⟩
theorem k_hasRoom (hT : TC κ T) : Ev d md_60 0 [some (.ref 33)] [] (cset M κ) (some (.int (bI (decide (T.1 + 20 ≤ 2000)))), cset M κ) := by
  refine Wp.toEv ?_
  have h2 := hT.2.1
  refine Wp.n (pc' := 1) 1 rfl ?_
  refine Wp.get (len := 3) rfl (rfl) rfl ?_
  refine Wp.top hT.1 ?_
  refine Wp.n (pc' := 6) 1 rfl ?_
  refine Wp.iaddN (x := T.1) (y := 20) (len := 1) rfl ?_
  refine Wp.n (pc' := 10) 1 rfl ?_
  refine Wp.nc4 (x := (T.1) + 20) (y := 2000) (tgt := 17) (len := 3) rfl (by omega) (by omega) (fun h10 => ?_) (fun h10 => ?_)
  · skip
    refine Wp.n (pc' := 18) 1 rfl ?_
    refine Wp.retZ (len := 1) (c := false) rfl rfl rfl ?_
    first
      | exact ⟨by rw [decide_eq_true (show T.1 + 20 ≤ 2000 by omega)], rfl⟩
      | exact ⟨by rw [decide_eq_false (show ¬ T.1 + 20 ≤ 2000 by omega)], rfl⟩
  · skip
    refine Wp.n (pc' := 18) 2 rfl ?_
    refine Wp.retZ (len := 1) (c := true) rfl rfl rfl ?_
    first
      | exact ⟨by rw [decide_eq_true (show T.1 + 20 ≤ 2000 by omega)], rfl⟩
      | exact ⟨by rw [decide_eq_false (show ¬ T.1 + 20 ≤ 2000 by omega)], rfl⟩

theorem k_feed (hD : HD M) (hT : TC κ T) (a b c e f : Int32) : Wp (d + 1) md_88 0 [some (.ref 32), some (.int a), some (.int b), some (.int c), some (.int e), some (.int f)] [] (cset M κ) (fun r M' => r = some (.int (feedA T)) ∧ ∃ κ', M' = cset M κ' ∧ FT κ κ' ∧ TC κ' (feedN T a b c e f)) := by
  obtain ⟨ow, hDo⟩ := hD.1
  have hO : ∀ κ : CS, cset M κ 32 = .inr (9, hdl ow) := fun κ => (cset_o (by omega)).trans hDo
  unfold feedA feedN
  refine Wp.n (pc' := 1) 1 rfl ?_
  refine Wp.get (len := 3) rfl (hO _) rfl ?_
  refine Wp.ecallV (len := 3) rfl rfl rfl (rfl) rfl (by decide) rfl (k_hasRoom hT) ?_
  refine Wp.ifb1 (tgt := 12) (len := 3) rfl (fun h7 => ?_) (fun h7 => ?_)
  · skip
    have h7t := of_decide_eq_true h7
    rw [if_pos h7t, if_pos h7t]
    refine Wp.n (pc' := 13) 1 rfl ?_
    refine Wp.get (len := 3) rfl (hO _) rfl ?_
    refine Wp.n (pc' := 17) 1 rfl ?_
    refine Wp.callV (len := 3) rfl rfl rfl (rfl) rfl (by decide) rfl (k_append hT (by omega) a) ?_
    rintro _ _ ⟨rfl, σ1, rfl, f1, t1⟩
    refine Wp.n (pc' := 21) 1 rfl ?_
    refine Wp.get (len := 3) rfl (hO _) rfl ?_
    refine Wp.n (pc' := 25) 1 rfl ?_
    refine Wp.callV (len := 3) rfl rfl rfl (rfl) rfl (by decide) rfl (k_append t1 (show T.1 + 1 + 1 + 1 + 1 + 4 ≤ 2000 by omega) b) ?_
    rintro _ _ ⟨rfl, σ2, rfl, f2, t2⟩
    refine Wp.n (pc' := 29) 1 rfl ?_
    refine Wp.get (len := 3) rfl (hO _) rfl ?_
    refine Wp.n (pc' := 33) 1 rfl ?_
    refine Wp.callV (len := 3) rfl rfl rfl (rfl) rfl (by decide) rfl (k_append t2 (show T.1 + 1 + 1 + 1 + 1 + 1 + 1 + 1 + 1 + 4 ≤ 2000 by omega) c) ?_
    rintro _ _ ⟨rfl, σ3, rfl, f3, t3⟩
    refine Wp.n (pc' := 37) 1 rfl ?_
    refine Wp.get (len := 3) rfl (hO _) rfl ?_
    refine Wp.n (pc' := 42) 1 rfl ?_
    refine Wp.callV (len := 3) rfl rfl rfl (rfl) rfl (by decide) rfl (k_append t3 (show T.1 + 1 + 1 + 1 + 1 + 1 + 1 + 1 + 1 + 1 + 1 + 1 + 1 + 4 ≤ 2000 by omega) e) ?_
    rintro _ _ ⟨rfl, σ4, rfl, f4, t4⟩
    refine Wp.n (pc' := 46) 1 rfl ?_
    refine Wp.get (len := 3) rfl (hO _) rfl ?_
    refine Wp.n (pc' := 51) 1 rfl ?_
    refine Wp.callV (len := 3) rfl rfl rfl (rfl) rfl (by decide) rfl (k_append t4 (show T.1 + 1 + 1 + 1 + 1 + 1 + 1 + 1 + 1 + 1 + 1 + 1 + 1 + 1 + 1 + 1 + 1 + 4 ≤ 2000 by omega) f) ?_
    rintro _ _ ⟨rfl, σ5, rfl, f5, t5⟩
    refine Wp.n (pc' := 55) 1 rfl ?_
    refine Wp.get (len := 3) rfl (hO _) rfl ?_
    refine Wp.get (len := 3) rfl (rfl) rfl ?_
    refine Wp.top t5.1 ?_
    refine Wp.retI (len := 1) rfl rfl ?_
    exact ⟨rfl, σ5, rfl, (((f1.t f2).t f3).t f4).t f5, t5⟩
  · skip
    refine Wp.n (pc' := 11) 1 rfl ?_
    refine Wp.retI (len := 1) rfl rfl ?_
    have h7f := of_decide_eq_false h7
    rw [if_neg h7f, if_neg h7f]
    exact ⟨rfl, κ, rfl, FT.refl, hT⟩

theorem k_end (hD : HD M) (hT : TC κ T) (x : Int32) : Wp (d + 1) md_89 0 [some (.ref 32), some (.int x)] [] (cset M κ) (fun r M' => r = some (.int (endA T x)) ∧ ∃ κ', M' = cset M κ' ∧ FT κ κ' ∧ TC κ' (endN T x)) := by
  obtain ⟨ow, hDo⟩ := hD.1
  have hO : ∀ κ : CS, cset M κ 32 = .inr (9, hdl ow) := fun κ => (cset_o (by omega)).trans hDo
  have t20 := hT.2.1
  unfold endA endN
  refine Wp.n (pc' := 1) 1 rfl ?_
  refine Wp.if2 (tgt := 15) (len := 3) rfl (fun h1 => ?_) (fun h1 => ?_)
  · rw [i_lt] at h1
    refine Wp.n (pc' := 16) 1 rfl ?_
    refine Wp.retI (len := 1) rfl rfl ?_
    have hN : ¬ isN (T.1 + 1) x = true := fun q => by
      have := of_decide_eq_true q
      first
        | (have e1 : x.toInt < 0 := h1; omega)
        | omega
    rw [if_neg hN, if_neg hN]
    exact ⟨rfl, κ, rfl, FT.refl, hT⟩
  · rw [i_lt] at h1
    refine Wp.n (pc' := 6) 2 rfl ?_
    refine Wp.get (len := 3) rfl (hO _) rfl ?_
    refine Wp.get (len := 3) rfl (rfl) rfl ?_
    refine Wp.top hT.1 ?_
    refine Wp.ic5 (tgt := 17) (len := 3) rfl (fun h12 => ?_) (fun h12 => ?_)
    · rw [i_le, nI_toInt (show T.1 < 2 ^ 31 by omega)] at h12
      have hN : isN (T.1 + 1) x = true := decide_eq_true (by have e1 : ¬ x.toInt < 0 := h1; omega)
      obtain ⟨m, hm, rfl⟩ := isN_of hN
      rw [if_pos hN, if_pos hN, nI_clamp (by omega)]
      refine Wp.n (pc' := 18) 1 rfl ?_
      refine Wp.get (len := 3) rfl (hO _) rfl ?_
      refine Wp.n (pc' := 22) 1 rfl ?_
      refine Wp.cput0 (len := 3) rfl ?_
      refine Wp.n (pc' := 26) 1 rfl ?_
      refine Wp.retI (len := 1) rfl rfl ?_
      exact ⟨rfl, _, rfl, ⟨fun s hs => va_up_ne _ _ hs, fun _ _ => rfl, rfl⟩, rfl, (by show m ≤ 2000; omega), fun i hi => hT.2.2 i (by have : i < m := hi; omega)⟩
    · rw [i_le, nI_toInt (show T.1 < 2 ^ 31 by omega)] at h12
      refine Wp.n (pc' := 16) 1 rfl ?_
      refine Wp.retI (len := 1) rfl rfl ?_
      have hN : ¬ isN (T.1 + 1) x = true := fun q => by
        have := of_decide_eq_true q
        first
          | (have e1 : x.toInt < 0 := h1; omega)
          | omega
      rw [if_neg hN, if_neg hN]
      exact ⟨rfl, κ, rfl, FT.refl, hT⟩

def FCl (κ : CS) (f : Nat × Option Nat) : Prop := κ.1 2 2 = nI f.1 ∧ κ.1 2 3 = oI f.2
theorem k_fault (hD : HD M) {f : Nat × Option Nat} (hF : FCl κ f) (x : Int32) : Ev d md_92 0 [some (.ref 32), some (.int x)] [] (cset M κ) (some (.int (faultA f x)), cset M κ) := by
  obtain ⟨ow, hDo⟩ := hD.1
  have hO : ∀ κ : CS, cset M κ 32 = .inr (9, hdl ow) := fun κ => (cset_o (by omega)).trans hDo
  refine Wp.toEv ?_
  unfold faultA
  refine Wp.n (pc' := 1) 1 rfl ?_
  by_cases c0 : x = 0
  · subst c0
    refine Wp.sw (len := 27) (t := 28) rfl (sw_at rfl 0 rfl rfl) ?_
    rw [if_pos rfl]
    refine Wp.n (pc' := 29) 1 rfl ?_
    refine Wp.get (len := 3) rfl (hO _) rfl ?_
    refine Wp.get (len := 3) rfl (rfl) rfl ?_
    refine Wp.top hF.1 ?_
    refine Wp.retI (len := 1) rfl rfl ?_
    exact ⟨rfl, rfl⟩
  · rw [if_neg c0]
    by_cases c1 : x = 1
    · subst c1
      refine Wp.sw (len := 27) (t := 36) rfl (sw_at rfl 1 rfl rfl) ?_
      rw [if_pos rfl]
      refine Wp.n (pc' := 37) 1 rfl ?_
      refine Wp.get (len := 3) rfl (hO _) rfl ?_
      refine Wp.get (len := 3) rfl (rfl) rfl ?_
      refine Wp.top hF.2 ?_
      refine Wp.retI (len := 1) rfl rfl ?_
      exact ⟨rfl, rfl⟩
    · rw [if_neg c1]
      refine Wp.sw (len := 27) (t := 44) rfl (sw_def rfl ?_) ?_
      · rw [i_eq] at c0 c1
        have d0 : ¬ x.toInt = 0 := c0
        have d1 : ¬ x.toInt = 1 := c1
        by_cases z : x.toInt < 0
        · exact Or.inl z
        · refine Or.inr ?_
          show (0 : Int) + 2 ≤ x.toInt
          omega
      · refine Wp.n (pc' := 45) 1 rfl ?_
        refine Wp.retI (len := 1) rfl rfl ?_
        exact ⟨rfl, rfl⟩
theorem k_count (hD : HD M) (hk : RK M 36 K) (h11 : kh K 11 = 0) (hS : SC κ S) (hT : TC κ T) (x : Int32) : Ev (d + 2) md_143 0 [some (.ref 32), some (.int x)] [] (cset M κ) (some (.int (countA K S T x)), cset M κ) := by
  obtain ⟨ρ, hR, hK, hDC, ok, hr1, hr2⟩ := id hk
  obtain ⟨b0, b1, b2, b3, b4, b5, b6, b7, b8, b9, b10, b11, b12⟩ := ok_h ok
  obtain ⟨ow, hDo⟩ := hD.1
  have hO : ∀ κ : CS, cset M κ 32 = .inr (9, hdl ow) := fun κ => (cset_o (by omega)).trans hDo
  have hRc : ∀ κ : CS, RA (cset M κ) 36 ρ := fun κ => RA_c hR hr1 hr2
  refine Wp.toEv ?_
  unfold countA
  refine Wp.n (pc' := 1) 1 rfl ?_
  by_cases h : isN 9 x = true
  · rw [if_pos h]
    obtain ⟨k, hk9, rfl⟩ := isN_of h
    rw [nI_clamp (by omega)]
    have ex : (nI k).toInt = (0 : Int) + k := by rw [nI_toInt (by omega)]; omega
    match k, hk9, ex with

    | 0, _, ex =>
      refine Wp.sw (len := 51) (t := 52) rfl (sw_at rfl 0 ex rfl) ?_
      refine Wp.n (pc' := 53) 1 rfl ?_
      refine Wp.get (len := 3) rfl (hO _) rfl ?_
      refine Wp.get (len := 3) rfl (ra_obj (hRc _)) rfl ?_
      refine Wp.top (rc_pl hK) ?_
      refine Wp.retI (len := 1) rfl rfl ?_
      exact ⟨rfl, rfl⟩
    | 1, _, ex =>
      refine Wp.sw (len := 51) (t := 60) rfl (sw_at rfl 1 ex rfl) ?_
      refine Wp.n (pc' := 61) 1 rfl ?_
      refine Wp.get (len := 3) rfl (hO _) rfl ?_
      refine Wp.get (len := 3) rfl (ra_obj (hRc _)) rfl ?_
      refine Wp.top (rc_dy hK) ?_
      refine Wp.retI (len := 1) rfl rfl ?_
      exact ⟨rfl, rfl⟩
    | 2, _, ex =>
      refine Wp.sw (len := 51) (t := 68) rfl (sw_at rfl 2 ex rfl) ?_
      refine Wp.n (pc' := 69) 1 rfl ?_
      refine Wp.get (len := 3) rfl (hO _) rfl ?_
      refine Wp.get (len := 3) rfl (ra_obj (hRc _)) rfl ?_
      refine Wp.top (rc_rd hK) ?_
      refine Wp.retI (len := 1) rfl rfl ?_
      exact ⟨rfl, rfl⟩
    | 3, _, ex =>
      refine Wp.sw (len := 51) (t := 76) rfl (sw_at rfl 3 ex rfl) ?_
      refine Wp.n (pc' := 77) 1 rfl ?_
      refine Wp.get (len := 3) rfl (hO _) rfl ?_
      refine Wp.get (len := 3) rfl (ra_obj (hRc _)) rfl ?_
      refine Wp.top (show _ = nI (kh K 3) from by rw [show rhd ρ 8 = _ from rc_la hK, h11, Nat.add_zero]) ?_
      refine Wp.retI (len := 1) rfl rfl ?_
      exact ⟨rfl, rfl⟩
    | 4, _, ex =>
      refine Wp.sw (len := 51) (t := 84) rfl (sw_at rfl 4 ex rfl) ?_
      refine Wp.n (pc' := 85) 1 rfl ?_
      refine Wp.get (len := 3) rfl (hO _) rfl ?_
      refine Wp.get (len := 3) rfl (ra_obj (hRc _)) rfl ?_
      refine Wp.top (rc_wk hK) ?_
      refine Wp.retI (len := 1) rfl rfl ?_
      exact ⟨rfl, rfl⟩
    | 5, _, ex =>
      refine Wp.sw (len := 51) (t := 92) rfl (sw_at rfl 5 ex rfl) ?_
      refine Wp.n (pc' := 93) 1 rfl ?_
      refine Wp.get (len := 3) rfl (hO _) rfl ?_
      refine Wp.get (len := 3) rfl (ra_obj (hRc _)) rfl ?_
      refine Wp.top (rc_fl hK) ?_
      refine Wp.ecallS (len := 3) rfl rfl rfl rfl (j_bitCount (by omega)) ?_
      refine Wp.retI (len := 1) rfl rfl ?_
      exact ⟨by rw [pop4_fld b12]; rfl, rfl⟩
    | 6, _, ex =>
      refine Wp.sw (len := 51) (t := 103) rfl (sw_at rfl 6 ex rfl) ?_
      refine Wp.n (pc' := 104) 1 rfl ?_
      refine Wp.get (len := 3) rfl (hO _) rfl ?_
      refine Wp.get (len := 3) rfl (ra_obj (hRc _)) rfl ?_
      refine Wp.top (rc_ln hK) ?_
      refine Wp.retI (len := 1) rfl rfl ?_
      exact ⟨rfl, rfl⟩
    | 7, _, ex =>
      refine Wp.sw (len := 51) (t := 111) rfl (sw_at rfl 7 ex rfl) ?_
      refine Wp.n (pc' := 112) 1 rfl ?_
      refine Wp.get (len := 3) rfl (hO _) rfl ?_
      refine Wp.get (len := 3) rfl (rfl) rfl ?_
      refine Wp.top hT.1 ?_
      refine Wp.retI (len := 1) rfl rfl ?_
      exact ⟨rfl, rfl⟩
    | 8, _, ex =>
      refine Wp.sw (len := 51) (t := 119) rfl (sw_at rfl 8 ex rfl) ?_
      refine Wp.n (pc' := 120) 1 rfl ?_
      refine Wp.get (len := 3) rfl (hO _) rfl ?_
      refine Wp.ecallV (len := 3) rfl rfl rfl (rfl) rfl (by decide) rfl (k_filled hS) ?_
      refine Wp.retI (len := 1) rfl rfl ?_
      exact ⟨rfl, rfl⟩
  · rw [if_neg h]
    refine Wp.sw (len := 51) (t := 127) rfl (sw_def rfl ?_) ?_
    · by_cases c : x.toInt < 0
      · exact Or.inl c
      · refine Or.inr ?_
        show (0 : Int) + 9 ≤ x.toInt
        by_cases c2 : x.toInt < 9
        · exact absurd (isN_f c c2) h
        · omega
    · refine Wp.n (pc' := 128) 1 rfl ?_
      refine Wp.retI (len := 1) rfl rfl ?_
      exact ⟨rfl, rfl⟩
theorem frd_eq (ok : KOK K) (h11 : kh K 11 = 0) {w : Nat} (hw : w < kh K 4) {c : Nat → Int64} : frdP K c w = decide (List.foldl (cnt1 K (kw K w 4) (kw K w (3 + kw K w 3)) (kw K w 2) (kw K w 1) (c w)) 0 (allW K (kw K w 2) (kw K w 4) (kw K w (3 + kw K w 3))) = 0) := by
  obtain ⟨p0, p1, p2, p3, p4⟩ := walk_b ok hw
  unfold frdP
  by_cases z : (c w).toInt < 0 ∨ 2000000000 < (c w).toInt
  · rw [decide_eq_true (show _ ∨ _ ∨ _ from by rcases z with z | z; exact Or.inl z; exact Or.inr (Or.inl z)), cnt_out ok p0 p3 (fun m hm e => ?_)]
    · rfl
    · rw [← e, l_toInt (by omega)] at z
      omega
  · obtain ⟨v, e1, e2, e3⟩ := l_of (x := c w) (by omega)
    have hE := owe_eq (K := K) (t := kw K w (3 + kw K w 3)) (y := kw K w 2) (load := kw K w 1) (dn := v) ok h11 p0 p3 (by omega)
    rw [e1, l_toInt e3, Int.toNat_natCast, ← hE.1]
    rw [e1, l_toInt e3] at z
    by_cases c0 : (finP K 3 w v).1 = 0
    · rw [decide_eq_true (Or.inr (Or.inr c0)), decide_eq_true (show (fin K 3 _ _ _ _ v).1 = 0 from c0)]
    · rw [decide_eq_false (fun q => by rcases q with q | q | q; omega; omega; exact c0 q)]
      exact (decide_eq_false c0).symm
theorem k_ford_l (hD : HD M) (hk : RK M 36 K) (h11 : kh K 11 = 0) {s : Nat} (hs : s < 4) (hn : S.2.1 s = kh K 4) : ∀ (n w : Nat) (κ2 : CS), w + n = kh K 4 → ScC κ κ2 → SC κ2 S → Wp (d + 13) md_139 62 [some (.ref 32), some (.int (nI s)), some (.int (nI w))] [] (cset M κ2) (RCI M κ (oI (fnd (frdP K (S.2.2 s)) n w))) := by
  obtain ⟨ρ, hR, hK, hDC, ok, hr1, hr2⟩ := id hk
  obtain ⟨b0, b1, b2, b3, b4, b5, b6, b7, b8, b9, b10, b11, b12⟩ := ok_h ok
  obtain ⟨ow, hDo⟩ := hD.1
  have hO : ∀ κ : CS, cset M κ 32 = .inr (9, hdl ow) := fun κ => (cset_o (by omega)).trans hDo
  have hRc : ∀ κ : CS, RA (cset M κ) 36 ρ := fun κ => RA_c hR hr1 hr2
  intro n
  induction n with
  | zero =>
    intro w κ2 hw hC hS
    refine Wp.n (pc' := 64) 2 rfl ?_
    refine Wp.get (len := 3) rfl (hO _) rfl ?_
    refine Wp.get (len := 3) rfl (ra_obj (hRc _)) rfl ?_
    refine Wp.top (rc_wk hK) ?_
    refine Wp.nc3 (x := w) (y := kh K 4) (tgt := 109) (len := 3) rfl (by omega) (by omega) (fun h70 => ?_) (fun h70 => ?_)
    · skip
      refine Wp.n (pc' := 110) 1 rfl ?_
      refine Wp.retI (len := 1) rfl rfl ?_
      exact RCI_s hC rfl
    · omega
  | succ n ih =>
    intro w κ2 hw hC hS
    obtain ⟨p0, p1, p2, p3, p4⟩ := walk_b ok (w := w) (by omega)
    have hcl := cnt_le (K := K) (a := kw K w 4) (t := kw K w (3 + kw K w 3)) (y := kw K w 2) (load := kw K w 1) (v := S.2.2 s w)
    rw [show fnd (frdP K (S.2.2 s)) (n + 1) w = if frdP K (S.2.2 s) w = true then some w else fnd (frdP K (S.2.2 s)) n (w + 1) from rfl, frd_eq ok h11 (by omega)]
    refine Wp.n (pc' := 64) 2 rfl ?_
    refine Wp.get (len := 3) rfl (hO _) rfl ?_
    refine Wp.get (len := 3) rfl (ra_obj (hRc _)) rfl ?_
    refine Wp.top (rc_wk hK) ?_
    refine Wp.nc3 (x := w) (y := kh K 4) (tgt := 109) (len := 3) rfl (by omega) (by omega) (fun h70 => ?_) (fun h70 => ?_)
    · omega
    · skip
      refine Wp.n (pc' := 75) 2 rfl ?_
      refine Wp.get (len := 3) rfl (hO _) rfl ?_
      refine Wp.n (pc' := 79) 1 rfl ?_
      refine Wp.callV (len := 3) rfl rfl rfl (hO _) rfl (by decide) rfl (k_findForWalk hD hk (w := w) (by omega)) ?_
      rintro _ _ ⟨rfl, κ3, rfl, hS3, hW⟩
      have hSC3 : SC κ3 S := ⟨hS.1, fun t ht => by
        obtain ⟨q1, q2, q3⟩ := hS.2 t ht
        rw [hS3.2.1 16 rfl, hS3.2.1 15 rfl, hS3.2.2.2]
        exact ⟨q1, q2, q3⟩⟩
      refine Wp.n (pc' := 83) 1 rfl ?_
      refine Wp.get (len := 3) rfl (hO _) rfl ?_
      refine Wp.n (pc' := 87) 1 rfl ?_
      refine Wp.get (len := 3) rfl (hO _) rfl ?_
      refine Wp.n (pc' := 92) 2 rfl ?_
      refine Wp.ecallV (len := 3) rfl rfl rfl (rfl) rfl (by decide) rfl (k_valueAt hSC3 hs (i := w) (by omega)) ?_
      refine Wp.ecallV (len := 3) rfl rfl rfl (rfl) rfl (by decide) rfl (t_count hk p0 p2 p3 hW p4 (S.2.2 s w)) ?_
      refine Wp.nz1 (x := List.foldl (cnt1 K (kw K w 4) (kw K w (3 + kw K w 3)) (kw K w 2) (kw K w 1) (S.2.2 s w)) 0 (allW K (kw K w 2) (kw K w 4) (kw K w (3 + kw K w 3)))) (tgt := 103) (len := 3) rfl (by omega) (fun h98 => ?_) (fun h98 => ?_)
      · skip
        refine Wp.incN (x := w) (len := 3) rfl rfl ?_
        refine Wp.n (pc' := 62) 1 rfl ?_
        rw [if_neg (by rw [decide_eq_true_iff]; exact h98)]
        exact ih (w + 1) κ3 (by omega) (ScC_t hC hS3) hSC3
      · skip
        refine Wp.n (pc' := 102) 1 rfl ?_
        refine Wp.retI (len := 1) rfl rfl ?_
        rw [if_pos (decide_eq_true h98)]
        exact RCI_s (ScC_t hC hS3) rfl

theorem k_ford (hD : HD M) (hk : RK M 36 K) (h11 : kh K 11 = 0) (hS : SC κ S) (x : Int32) : Wp (d + 13) md_139 0 [some (.ref 32), some (.int x), none] [] (cset M κ) (RCI M κ (fordA K S x)) := by
  obtain ⟨ρ, hR, hK, hDC, ok, hr1, hr2⟩ := id hk
  obtain ⟨b0, b1, b2, b3, b4, b5, b6, b7, b8, b9, b10, b11, b12⟩ := ok_h ok
  obtain ⟨ow, hDo⟩ := hD.1
  have hO : ∀ κ : CS, cset M κ 32 = .inr (9, hdl ow) := fun κ => (cset_o (by omega)).trans hDo
  have hRc : ∀ κ : CS, RA (cset M κ) 36 ρ := fun κ => RA_c hR hr1 hr2
  unfold fordA
  refine Wp.n (pc' := 1) 1 rfl ?_
  refine Wp.get (len := 3) rfl (hO _) rfl ?_
  refine Wp.ecallV (len := 3) rfl rfl rfl (ra_obj (hRc _)) rfl (by decide) rfl (k_exists (RK_c hk)) ?_
  refine Wp.ifb0 (tgt := 21) (len := 3) rfl (fun h7 => ?_) (fun h7 => ?_)
  · skip
    refine Wp.n (pc' := 23) 1 rfl ?_
    refine Wp.retI (len := 1) rfl rfl ?_
    first
      | (rw [if_neg (fun q => of_decide_eq_false h7 q.2)]; exact RCI_r rfl)
      | (rw [if_neg (fun q => by rw [h18] at q; exact absurd q.1 (by decide))]; exact RCI_r rfl)
  · skip
    refine Wp.n (pc' := 11) 1 rfl ?_
    refine Wp.get (len := 3) rfl (hO _) rfl ?_
    refine Wp.n (pc' := 15) 1 rfl ?_
    refine Wp.ecallV (len := 3) rfl rfl rfl (rfl) rfl (by decide) rfl (k_has _) ?_
    refine Wp.ifb1 (tgt := 24) (len := 3) rfl (fun h18 => ?_) (fun h18 => ?_)
    · skip
      obtain ⟨s, hs, rfl⟩ := isN_of h18
      have s60 := hS.1 s hs
      rw [if_pos ⟨h18, of_decide_eq_true h7⟩, nI_clamp (by omega)]
      refine Wp.n (pc' := 25) 1 rfl ?_
      refine Wp.get (len := 3) rfl (hO _) rfl ?_
      refine Wp.n (pc' := 29) 1 rfl ?_
      refine Wp.ecallV (len := 3) rfl rfl rfl (rfl) rfl (by decide) rfl (k_isBare hS hs) ?_
      refine Wp.ifb0 (tgt := 38) (len := 3) rfl (fun h32 => ?_) (fun h32 => ?_)
      · skip
        rw [if_neg (of_decide_eq_false h32)]
        refine Wp.n (pc' := 39) 1 rfl ?_
        refine Wp.get (len := 3) rfl (hO _) rfl ?_
        refine Wp.get (len := 3) rfl (rfl) rfl ?_
        refine Wp.n (pc' := 46) 1 rfl ?_
        refine Wp.ialdN (j := s) (len := 1) rfl (rfl) rfl (by omega) (by decide) ?_
        refine Wp.top (hS.2 s hs).2.1 ?_
        refine Wp.n (pc' := 48) 1 rfl ?_
        refine Wp.get (len := 3) rfl (hO _) rfl ?_
        refine Wp.get (len := 3) rfl (ra_obj (hRc _)) rfl ?_
        refine Wp.top (rc_wk hK) ?_
        refine Wp.nc0 (x := S.2.1 s) (y := kh K 4) (tgt := 60) (len := 3) rfl (by omega) (by omega) (fun h54 => ?_) (fun h54 => ?_)
        · skip
          rw [if_neg (fun q => q h54)]
          refine Wp.n (pc' := 62) 2 rfl ?_
          exact k_ford_l hD hk h11 hs h54 (kh K 4) 0 κ (by omega) ScC_r hS
        · skip
          refine Wp.n (pc' := 59) 1 rfl ?_
          refine Wp.retI (len := 1) rfl rfl ?_
          rw [if_pos h54]
          exact RCI_r rfl
      · skip
        refine Wp.n (pc' := 37) 1 rfl ?_
        refine Wp.retI (len := 1) rfl rfl ?_
        rw [if_pos (of_decide_eq_true h32)]
        exact RCI_r rfl
    · skip
      refine Wp.n (pc' := 23) 1 rfl ?_
      refine Wp.retI (len := 1) rfl rfl ?_
      first
        | (rw [if_neg (fun q => of_decide_eq_false h7 q.2)]; exact RCI_r rfl)
        | (rw [if_neg (fun q => by rw [h18] at q; exact absurd q.1 (by decide))]; exact RCI_r rfl)

end SLC
end
section
/-! IMAGES: keep and back. -/
def keepA (x : Int32) : Int32 := if isN 3 x = true then 0 else -2
def keepN (I : Nat → Option KD) (K : KD) (x : Int32) : Nat → Option KD := if isN 3 x = true then va_up I x.toNatClampNeg (some K) else I
def backA (I : Nat → Option KD) (x : Int32) : Int32 := if isN 3 x = true then (match I x.toNatClampNeg with | none => -6 | some _ => 0) else -2
def backN (I : Nat → Option KD) (K : KD) (x : Int32) : KD := if isN 3 x = true then (match I x.toNatClampNeg with | none => K | some K' => K') else K
/-- the reference's images -/
def IMm (σ : MS) (I : Nat → Option KD) : Prop := ∀ k, k < 3 → (I k = none ∧ σ.2.2.1 12 k = 0) ∨ ∃ K, I k = some K ∧ σ.2.2.1 12 k = 1 ∧ RepM σ (1 + k) K ∧ KOK K ∧ kh K 11 = 0
section IMG
variable {d : Nat} {M : AM} {σ σ' : MS} {K : KD} {I : Nat → Option KD} {κ : CS} {Q : Option Value → AM → Prop}
theorem rm12 {s : Nat} {v : Nat → Int32} (h : RepM σ s K) : RepM (aset σ 12 v) s K := h
theorem m_keep (hM : MK σ K) (h11 : kh K 11 = 0) (hI : IMm σ I) (x : Int32) : Wp (d + 2) md_261 0 [some (.ref 287), some (.int x)] [] (mset M σ) (fun v M' => v = some (.int (keepA x)) ∧ ∃ σ', M' = mset M σ' ∧ MK σ' K ∧ IMm σ' (keepN I K x) ∧ σ'.1 = σ.1 ∧ σ'.2.1 = σ.2.1 ∧ (∀ k, List.elem k [5, 6, 7, 9, 10, 11, 12] = false → σ'.2.2.1 k = σ.2.2.1 k) ∧ (∀ k, k ≠ 8 → σ'.2.2.2 k = σ.2.2.2 k)) := by
  have ok := hM.2.1
  have hσ0 := hM.2.2.2
  unfold keepA keepN
  refine Wp.n (pc' := 2) 2 rfl ?_
  refine Wp.mput0 (len := 3) rfl hσ0 ?_
  refine Wp.n (pc' := 11) 4 rfl ?_
  refine Wp.ecallS (len := 3) rfl rfl rfl rfl (m_in _ _ _) ?_
  refine Wp.ifb1 (tgt := 20) (len := 3) rfl (fun h14 => ?_) (fun h14 => ?_)
  · rw [in_isN (k := 3) (by decide)] at h14
    obtain ⟨k, hk, rfl⟩ := isN_of h14
    rw [if_pos h14, if_pos h14, nI_clamp (by omega)]
    refine Wp.n (pc' := 24) 4 rfl ?_
    refine Wp.iaddN (x := 1) (y := k) (len := 1) rfl ?_
    refine Wp.callV (len := 3) rfl rfl rfl (rfl) rfl (by decide) rfl (m_copyKingdom (a := 0) (b := 1 + k) (by decide) (by omega) (by omega)) ?_
    rintro _ _ ⟨rfl, τ, rfl, hC⟩
    refine Wp.n (pc' := 34) 4 rfl ?_
    refine Wp.mbast12 (len := 1) rfl hk ?_
    refine Wp.n (pc' := 36) 1 rfl ?_
    refine Wp.retI (len := 1) rfl rfl ?_
    have e12 : τ.2.2.1 12 = σ.2.2.1 12 := hC.2.2.1 12 rfl
    refine ⟨rfl, _, rfl, ⟨rm12 (CK_o hC ok (show (0:Nat) ≠ 1 + k by omega) hM.1), ok, by show τ.1 25 = _; rw [hC.1]; exact hM.2.2.1, by show τ.1 0 = _; rw [hC.1]; exact hσ0⟩, fun j hj => ?_, hC.1, hC.2.1, fun q hq => ?_, hC.2.2.2.1⟩
    · by_cases c : j = k
      · subst c
        refine Or.inr ⟨K, va_up_self _ _ _, ?_, rm12 (CK_t hC ok hM.1), ok, h11⟩
        rw [aset_get, pk_us]
        rfl
      · have e1 : (aset τ 12 (upd (τ.2.2.1 12) k (anar 3 1))).2.2.1 12 j = σ.2.2.1 12 j := by rw [aset_get, pk_un c, e12]
        rw [e1, va_up_ne _ _ c]
        rcases hI j hj with q | ⟨K', q1, q2, q3, q4, q5⟩
        · exact Or.inl q
        · exact Or.inr ⟨K', q1, q2, rm12 (CK_o hC q4 (show 1 + j ≠ 1 + k by omega) q3), q4, q5⟩
    · show va_up τ.2.2.1 12 _ q = _
      rw [va_up_ne _ _ (fun e => by rw [e] at hq; cases hq)]
      refine hC.2.2.1 q (elem_sub (F' := [5, 6, 7, 9, 10, 11, 12]) rfl hq)
  · rw [in_isN (k := 3) (by decide)] at h14
    refine Wp.n (pc' := 19) 1 rfl ?_
    refine Wp.retI (len := 1) rfl rfl ?_
    rw [if_neg (by rw [h14]; decide), if_neg (by rw [h14]; decide)]
    exact ⟨rfl, σ, rfl, hM, hI, rfl, rfl, fun _ _ => rfl, fun _ _ => rfl⟩

theorem m_back (hM : MK σ K) (h11 : kh K 11 = 0) (hI : IMm σ I) (x : Int32) : Wp (d + 2) md_262 0 [some (.ref 287), some (.int x)] [] (mset M σ) (fun v M' => v = some (.int (backA I x)) ∧ ∃ σ', M' = mset M σ' ∧ MK σ' (backN I K x) ∧ IMm σ' I ∧ σ'.1 = σ.1 ∧ σ'.2.1 = σ.2.1 ∧ (∀ k, List.elem k [5, 6, 7, 9, 10, 11, 12] = false → σ'.2.2.1 k = σ.2.2.1 k) ∧ (∀ k, k ≠ 8 → σ'.2.2.2 k = σ.2.2.2 k)) := by
  have ok := hM.2.1
  have hσ0 := hM.2.2.2
  unfold backA backN
  refine Wp.n (pc' := 2) 2 rfl ?_
  refine Wp.mput0 (len := 3) rfl hσ0 ?_
  refine Wp.n (pc' := 11) 4 rfl ?_
  refine Wp.ecallS (len := 3) rfl rfl rfl rfl (m_in _ _ _) ?_
  refine Wp.ifb1 (tgt := 20) (len := 3) rfl (fun h14 => ?_) (fun h14 => ?_)
  · rw [in_isN (k := 3) (by decide)] at h14
    obtain ⟨k, hk, rfl⟩ := isN_of h14
    rw [if_pos h14, if_pos h14, nI_clamp (by omega)]
    refine Wp.n (pc' := 25) 3 rfl ?_
    refine Wp.baldN (j := k) (len := 1) rfl rfl rfl (hk) (by decide) ?_
    rcases hI k hk with ⟨e, e0⟩ | ⟨K2, e, e1, hR2, ok2, h112⟩
    · rw [e, e0]
      refine Wp.if1 (tgt := 32) (len := 3) rfl (fun h26 => ?_) (fun h26 => ?_)
      · exact absurd rfl h26
      · skip
        refine Wp.n (pc' := 31) 1 rfl ?_
        refine Wp.retI (len := 1) rfl rfl ?_
        exact ⟨rfl, σ, rfl, hM, hI, rfl, rfl, fun _ _ => rfl, fun _ _ => rfl⟩
    · rw [e, e1]
      refine Wp.if1 (tgt := 32) (len := 3) rfl (fun h26 => ?_) (fun h26 => ?_)
      · skip
        refine Wp.n (pc' := 35) 3 rfl ?_
        refine Wp.iaddN (x := 1) (y := k) (len := 1) rfl ?_
        refine Wp.n (pc' := 37) 1 rfl ?_
        refine Wp.callV (len := 3) rfl rfl rfl (rfl) rfl (by decide) rfl (m_copyKingdom (a := 1 + k) (b := 0) (by omega) (by decide) (by omega)) ?_
        rintro _ _ ⟨rfl, τ, rfl, hC⟩
        refine Wp.n (pc' := 41) 1 rfl ?_
        refine Wp.retI (len := 1) rfl rfl ?_
        refine ⟨rfl, τ, rfl, ⟨CK_t hC ok2 hR2, ok2, by rw [hC.1, hM.2.2.1, h11]; show nI 0 = nI (kh K2 11); rw [h112], by rw [hC.1]; exact hσ0⟩, fun j hj => ?_, hC.1, hC.2.1, fun q hq => hC.2.2.1 q (elem_sub (F' := [5, 6, 7, 9, 10, 11, 12]) rfl hq), hC.2.2.2.1⟩
        rw [hC.2.2.1 12 rfl]
        rcases hI j hj with q | ⟨K', q1, q2, q3, q4, q5⟩
        · exact Or.inl q
        · exact Or.inr ⟨K', q1, q2, CK_o hC q4 (by omega) q3, q4, q5⟩
      · exact absurd h26 (by decide)
  · rw [in_isN (k := 3) (by decide)] at h14
    refine Wp.n (pc' := 19) 1 rfl ?_
    refine Wp.retI (len := 1) rfl rfl ?_
    rw [if_neg (by rw [h14]; decide), if_neg (by rw [h14]; decide)]
    exact ⟨rfl, σ, rfl, hM, hI, rfl, rfl, fun _ _ => rfl, fun _ _ => rfl⟩

theorem ca_same {κ : CS} {s : Nat} : ca κ s (κ.2.1 s) = κ := by
  unfold ca
  rw [show va_up κ.2.1 s (κ.2.1 s) = κ.2.1 from by
    funext j
    by_cases c : j = s
    · rw [c, va_up_self]
    · rw [va_up_ne _ _ c]]
/-- the class's images -/
def HI (M : AM) : Prop := M 130 = .inl (6, 3, .inr (.inr (.inr (.inr (fun i => if i < 3 then some (131 + 47 * i) else none)))))
def IMc (M : AM) (κ : CS) (I : Nat → Option KD) : Prop := (∀ k, k < 3 → ∃ ρ, RA M (131 + 47 * k) ρ) ∧ ∀ k, k < 3 → (I k = none ∧ κ.2.1 3 k = 0) ∨ ∃ K, I k = some K ∧ κ.2.1 3 k = 1 ∧ RK M (131 + 47 * k) K ∧ kh K 11 = 0
theorem k_keep (hD : HD M) (hk : RK M 36 K) (h11 : kh K 11 = 0) (hH : HI M) (hI : IMc M κ I) (x : Int32) : Wp (d + 10) md_144 0 [some (.ref 32), some (.int x)] [] (cset M κ) (fun v M' => v = some (.int (keepA x)) ∧ ∃ M2 f, M' = cset M2 (ca κ 3 f) ∧ IMc M2 (ca κ 3 f) (keepN I K x) ∧ ∀ q, q < 131 ∨ 272 ≤ q → M2 q = M q) := by
  obtain ⟨ρ, hR, hK, hDC, ok, hr1, hr2⟩ := id hk
  have b0 := (ok_h ok).1
  obtain ⟨ow, hDo⟩ := hD.1
  have hO : ∀ κ : CS, cset M κ 32 = .inr (9, hdl ow) := fun κ => (cset_o (by omega)).trans hDo
  have hH2 : ∀ κ : CS, cset M κ 130 = .inl (6, 3, .inr (.inr (.inr (.inr (fun i => if i < 3 then some (131 + 47 * i) else none))))) := fun κ => (cset_o (by omega)).trans hH
  unfold keepA keepN
  refine Wp.n (pc' := 3) 3 rfl ?_
  refine Wp.ecallS (len := 3) rfl rfl rfl rfl (k_isWithinN (hi := 2) x (by decide)) ?_
  refine Wp.ifb1 (tgt := 12) (len := 3) rfl (fun h6 => ?_) (fun h6 => ?_)
  · skip
    obtain ⟨k, hk3, rfl⟩ := isN_of h6
    obtain ⟨ρk, hρk⟩ := hI.1 k hk3
    have hT : ∀ κ : CS, cset M κ (131 + 47 * k) = .inr (3, rfs (131 + 47 * k) ρk) := fun κ => (cset_o (by omega)).trans (ra_obj hρk)
    rw [if_pos h6, if_pos h6, nI_clamp (by omega)]
    refine Wp.n (pc' := 13) 1 rfl ?_
    refine Wp.get (len := 3) rfl (hO _) rfl ?_
    refine Wp.n (pc' := 17) 1 rfl ?_
    refine Wp.aaldN (j := k) (len := 1) rfl (hH2 _) rfl (by omega) (by decide) (if_pos (by omega)) ?_
    refine Wp.n (pc' := 19) 1 rfl ?_
    refine Wp.get (len := 3) rfl (hO _) rfl ?_
    refine Wp.callV (len := 3) rfl rfl rfl (hT _) rfl (by omega) rfl (k_become (RA_c hρk (by omega) (by omega)) (RA_c hR (by decide) (by decide)) (by omega) (by omega) (by decide) hK ok h11) ?_
    rintro _ _ ⟨rfl, ρ2, rfl, hK2, hd2⟩
    rw [rset_c (by omega) (by omega)]
    have hO2 : rset M (131 + 47 * k) ρ2 32 = .inr (9, hdl ow) := (rset_ne (by omega)).trans hDo
    refine Wp.n (pc' := 26) 1 rfl ?_
    refine Wp.get (len := 3) rfl ((cset_o (by omega)).trans hO2) rfl ?_
    refine Wp.n (pc' := 31) 2 rfl ?_
    refine Wp.cbast3 (len := 1) rfl hk3 ?_
    refine Wp.n (pc' := 33) 1 rfl ?_
    refine Wp.retI (len := 1) rfl rfl ?_
    have hkk : RK (rset M (131 + 47 * k) ρ2) (131 + 47 * k) K := ⟨ρ2, rset_ra, hK2, fun p q hp hq => by rw [hd2 _ (by omega)]; exact hDC p q hp hq, ok, by omega, by omega⟩
    refine ⟨rfl, rset M (131 + 47 * k) ρ2, _, rfl, ⟨fun j hj => ?_, fun j hj => ?_⟩, fun q hq => rset_ne (by omega)⟩
    · by_cases c : j = k
      · subst c; exact ⟨ρ2, rset_ra⟩
      · obtain ⟨ρj, hρj⟩ := hI.1 j hj
        exact ⟨ρj, RA_of hρj (fun q a b => rset_ne (by omega))⟩
    · by_cases c : j = k
      · subst c
        refine Or.inr ⟨K, va_up_self _ _ _, ?_, hkk, h11⟩
        rw [ca_get, pk_us]
        rfl
      · rw [ca_get, pk_un c, va_up_ne _ _ c]
        rcases hI.2 j hj with q | ⟨K', q1, q2, q3, q4⟩
        · exact Or.inl q
        · exact Or.inr ⟨K', q1, q2, RK_of q3 (fun q a b => rset_ne (by omega)), q4⟩
  · skip
    refine Wp.n (pc' := 11) 1 rfl ?_
    refine Wp.retI (len := 1) rfl rfl ?_
    rw [if_neg (by rw [h6]; decide), if_neg (by rw [h6]; decide)]
    refine ⟨rfl, M, κ.2.1 3, ?_, ?_, fun _ _ => rfl⟩
    · rw [ca_same]
    · rw [ca_same]; exact hI

theorem k_back (hD : HD M) (hk : RK M 36 K) (hH : HI M) (hI : IMc M κ I) (x : Int32) : Wp (d + 10) md_145 0 [some (.ref 32), some (.int x)] [] (cset M κ) (fun v M' => v = some (.int (backA I x)) ∧ ∃ M2, M' = cset M2 κ ∧ RK M2 36 (backN I K x) ∧ ∀ q, q < 36 ∨ 83 ≤ q → M2 q = M q) := by
  obtain ⟨ρ, hR, hK, hDC, ok, hr1, hr2⟩ := id hk
  obtain ⟨ow, hDo⟩ := hD.1
  have hO : ∀ κ : CS, cset M κ 32 = .inr (9, hdl ow) := fun κ => (cset_o (by omega)).trans hDo
  have hH2 : ∀ κ : CS, cset M κ 130 = .inl (6, 3, .inr (.inr (.inr (.inr (fun i => if i < 3 then some (131 + 47 * i) else none))))) := fun κ => (cset_o (by omega)).trans hH
  unfold backA backN
  refine Wp.n (pc' := 3) 3 rfl ?_
  refine Wp.ecallS (len := 3) rfl rfl rfl rfl (k_isWithinN (hi := 2) x (by decide)) ?_
  refine Wp.ifb1 (tgt := 12) (len := 3) rfl (fun h6 => ?_) (fun h6 => ?_)
  · skip
    obtain ⟨k, hk3, rfl⟩ := isN_of h6
    rw [if_pos h6, if_pos h6, nI_clamp (by omega)]
    refine Wp.n (pc' := 13) 1 rfl ?_
    refine Wp.get (len := 3) rfl (hO _) rfl ?_
    refine Wp.n (pc' := 17) 1 rfl ?_
    refine Wp.baldN (j := k) (len := 1) rfl (rfl) rfl (hk3) (by decide) ?_
    rcases hI.2 k hk3 with ⟨e, e0⟩ | ⟨K2, e, e1, ⟨ρ2, hR2, hK2, hDC2, ok2, _, _⟩, h112⟩
    · rw [e, e0]
      refine Wp.if1 (tgt := 24) (len := 3) rfl (fun h18 => ?_) (fun h18 => ?_)
      · exact absurd rfl h18
      · skip
        refine Wp.n (pc' := 23) 1 rfl ?_
        refine Wp.retI (len := 1) rfl rfl ?_
        exact ⟨rfl, M, rfl, hk, fun _ _ => rfl⟩
    · rw [e, e1]
      refine Wp.if1 (tgt := 24) (len := 3) rfl (fun h18 => ?_) (fun h18 => ?_)
      · skip
        refine Wp.n (pc' := 25) 1 rfl ?_
        refine Wp.get (len := 3) rfl (hO _) rfl ?_
        refine Wp.n (pc' := 29) 1 rfl ?_
        refine Wp.get (len := 3) rfl (hO _) rfl ?_
        refine Wp.n (pc' := 33) 1 rfl ?_
        refine Wp.aaldN (j := k) (len := 1) rfl (hH2 _) rfl (by omega) (by decide) (if_pos (by omega)) ?_
        refine Wp.callV (len := 3) rfl rfl rfl (ra_obj (RA_c hR (by decide) (by decide))) rfl (by decide) rfl (k_become (RA_c hR (by decide) (by decide)) (RA_c hR2 (by omega) (by omega)) (by omega) (by decide) (by omega) hK2 ok2 h112) ?_
        rintro _ _ ⟨rfl, ρ3, rfl, hK3, hd3⟩
        rw [rset_c (by decide) (by decide)]
        refine Wp.n (pc' := 38) 1 rfl ?_
        refine Wp.retI (len := 1) rfl rfl ?_
        have b02 := (ok_h ok2).1
        exact ⟨rfl, rset M 36 ρ3, rfl, ⟨ρ3, rset_ra, hK3, fun p q hp hq => by have hp' : p < kh K2 0 := hp; have hq' : q < kh K2 0 := hq; rw [hd3 _ (by omega)]; exact hDC2 p q hp hq, ok2, by decide, by decide⟩, fun q hq => rset_ne (by omega)⟩
      · exact absurd h18 (by decide)
  · skip
    refine Wp.n (pc' := 11) 1 rfl ?_
    refine Wp.retI (len := 1) rfl rfl ?_
    rw [if_neg (by rw [h6]; decide), if_neg (by rw [h6]; decide)]
    exact ⟨rfl, M, rfl, hk, fun _ _ => rfl⟩

end IMG
end
