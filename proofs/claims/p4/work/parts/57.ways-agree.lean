/-! CLASS AND REFERENCE go the same ways: what each finds is the same. -/
section AGREE
variable {K : KD} {a t y load dn : Nat}
theorem fin0_len : (fin K 0 a t y load dn).1 = (allW K y a t).length := by
  have h : ∀ (ws : List WY) (st : MT), (List.foldl (meet K 0 a t y load dn) st ws).1 = st.1 + ws.length := by
    intro ws
    induction ws with
    | nil => intro st; rfl
    | cons w ws ih =>
      intro st
      rw [List.foldl_cons, ih, List.length_cons]
      have e : (meet K 0 a t y load dn st w).1 = st.1 + 1 := by
        unfold meet
        rw [if_neg (by omega), if_neg (by omega)]
        split <;> rfl
      rw [e]
      omega
  have := h (allW K y a t) st0
  rw [show st0.1 = 0 from rfl, Nat.zero_add] at this
  exact this
theorem wat_any (ls : List Nat) : 0 < (wat K ls).length ↔ ls.any (watP K) = true := by
  unfold wat watP
  rw [List.length_map, List.length_pos_iff_exists_mem, List.any_eq_true]
  constructor
  · rintro ⟨x, hx⟩
    rw [List.mem_filter] at hx
    exact ⟨x, hx.1, hx.2⟩
  · rintro ⟨x, hx, h2⟩
    exact ⟨x, List.mem_filter.mpr ⟨hx, h2⟩⟩
def PA (K : KD) (aim : Nat) (w : WY) : Bool := if aim = 1 then !(w.2.2.any (watP K)) else true
def R01 (st : MT) (c : Option Nat) : Prop := (c = none ∧ st.1 = 0 ∧ st.2.1 = 100000000) ∨ ∃ x, c = some x ∧ 0 < st.1 ∧ st.2.1 = 0 ∧ st.2.2.1 = x
theorem R01_s {aim : Nat} (haim : aim = 0 ∨ aim = 1) {st : MT} {c : Option Nat} {w : WY} (h : R01 st c) : R01 (meet K aim a t y load dn st w) (lst1 (PA K aim) c w) := by
  have hc0 : cW K aim (dW K a t y load w.2) w.2 = 0 := if_neg (by omega)
  by_cases hp : PA K aim w = true
  · have hn : ¬ (aim = 1 ∧ 0 < (wat K w.2.2).length) := by
      rintro ⟨q1, q2⟩
      unfold PA at hp
      rw [if_pos q1, (wat_any w.2.2).mp q2] at hp
      cases hp
    unfold meet
    rw [if_neg hn, if_neg (by omega), hc0]
    rcases h with ⟨rfl, h1, h2⟩ | ⟨x, rfl, h1, h2, h3⟩
    · rw [if_neg (by omega), show lst1 (PA K aim) none w = some w.2.1 from if_pos ⟨hp, rfl⟩]
      exact Or.inr ⟨w.2.1, rfl, Nat.succ_pos _, rfl, rfl⟩
    · by_cases c : x ≤ w.2.1
      · rw [if_pos (by omega), show lst1 (PA K aim) (some x) w = some x from if_neg (fun q => by have := of_decide_eq_true q.2; omega)]
        exact Or.inr ⟨x, rfl, Nat.succ_pos _, h2, h3⟩
      · rw [if_neg (by omega), show lst1 (PA K aim) (some x) w = some w.2.1 from if_pos ⟨hp, decide_eq_true (by omega)⟩]
        exact Or.inr ⟨w.2.1, rfl, Nat.succ_pos _, rfl, rfl⟩
  · have hn : aim = 1 ∧ 0 < (wat K w.2.2).length := by
      unfold PA at hp
      by_cases q1 : aim = 1
      · rw [if_pos q1] at hp
        refine ⟨q1, (wat_any w.2.2).mpr ?_⟩
        cases e : w.2.2.any (watP K) with
        | true => rfl
        | false => rw [e] at hp; exact absurd rfl hp
      · rw [if_neg q1] at hp
        exact absurd rfl hp
    unfold meet
    rw [if_pos hn, show lst1 (PA K aim) c w = c from if_neg (fun q => hp q.1)]
    exact h
theorem shortW_eq {aim : Nat} (haim : aim = 0 ∨ aim = 1) : shortW (fin K aim a t y load dn) = oI (List.foldl (lst1 (PA K aim)) none (allW K y a t)) := by
  have h : ∀ (ws : List WY) (st : MT) (c : Option Nat), R01 st c → R01 (List.foldl (meet K aim a t y load dn) st ws) (List.foldl (lst1 (PA K aim)) c ws) := by
    intro ws
    induction ws with
    | nil => intro st c h; exact h
    | cons w ws ih => intro st c h; exact ih _ _ (R01_s haim h)
  have := h (allW K y a t) st0 none (Or.inl ⟨rfl, rfl, rfl⟩)
  unfold shortW
  rcases this with ⟨e1, e2, e3⟩ | ⟨x, e1, e2, e3, e4⟩
  · rw [if_pos (show (fin K aim a t y load dn).1 = 0 from e2), e1]
    rfl
  · rw [if_neg (show ¬ (fin K aim a t y load dn).1 = 0 by have e2' : 0 < (fin K aim a t y load dn).1 := e2; omega), e1]
    exact congrArg nI (show (fin K aim a t y load dn).2.2.1 = x from e4)
/-- the best of the ways -/
def RB (K : KD) (a t y load : Nat) (ws : List WY) (c : Option Nat × Nat) (st : MT) : Prop := (c.1 = none ∧ st.1 = 0 ∧ st.2.1 = 100000000) ∨ ∃ b, c.1 = some b ∧ b < ws.length ∧ 0 < st.1 ∧ st.2.1 = c.2 ∧ c.2 = cstW K a t y load (ws.getD b wy0) ∧ st.2.2.1 = (ws.getD b wy0).2.1 ∧ st.2.2.2.2 = some (dW K a t y load (ws.getD b wy0).2, (ws.getD b wy0).1)
theorem RB_s {ws : List WY} {c : Option Nat × Nat} {st : MT} {i : Nat} (hi : i < ws.length) (hb : cstW K a t y load (ws.getD i wy0) ≤ 766260) (h : RB K a t y load ws c st) : RB K a t y load ws (bst K a t y load ws c i) (meet K 2 a t y load dn st (ws.getD i wy0)) := by
  have hc0 : cW K 2 (dW K a t y load (ws.getD i wy0).2) (ws.getD i wy0).2 = cstW K a t y load (ws.getD i wy0) := rfl
  have hn : ∀ x : Nat, RB K a t y load ws (some i, cstW K a t y load (ws.getD i wy0)) (x + 1, cstW K a t y load (ws.getD i wy0), (ws.getD i wy0).2.1, st.2.2.2.1, some (if 2 = 2 then dW K a t y load (ws.getD i wy0).2 else 0, (ws.getD i wy0).1)) := fun x => Or.inr ⟨i, rfl, hi, Nat.succ_pos _, rfl, rfl, rfl, rfl⟩
  unfold meet
  rw [if_neg (by omega), if_neg (by omega), hc0]
  obtain ⟨cb, cl⟩ := c
  rcases h with ⟨h0, h1, h2⟩ | ⟨b, h0, h1, h2, h3, h4, h5, h6⟩
  · have e0 : cb = none := h0
    subst e0
    rw [if_neg (by omega), show bst K a t y load ws (none, cl) i = (some i, cstW K a t y load (ws.getD i wy0)) from if_pos rfl]
    exact hn st.1
  · have e0 : cb = some b := h0
    subst e0
    replace h3 : st.2.1 = cl := h3
    replace h4 : cl = cstW K a t y load (ws.getD b wy0) := h4
    by_cases c : cstW K a t y load (ws.getD i wy0) < cl ∨ (cstW K a t y load (ws.getD i wy0) = cl ∧ (ws.getD i wy0).2.1 < (ws.getD b wy0).2.1)
    · rw [if_neg (by omega), show bst K a t y load ws (some b, cl) i = (some i, cstW K a t y load (ws.getD i wy0)) from if_pos (decide_eq_true c)]
      exact hn st.1
    · rw [if_pos (by omega), show bst K a t y load ws (some b, cl) i = (some b, cl) from if_neg (fun q => c (of_decide_eq_true q))]
      exact Or.inr ⟨b, rfl, h1, Nat.succ_pos _, h3, h4, h5, h6⟩
theorem RB_all {ws : List WY} (hb : ∀ w, w ∈ ws → cstW K a t y load w ≤ 766260) : ∀ (n i : Nat) (c : Option Nat × Nat) (st : MT), i + n = ws.length → RB K a t y load ws c st → RB K a t y load ws (fld (bst K a t y load ws) n i c) (List.foldl (meet K 2 a t y load dn) st (ws.drop i)) := by
  intro n
  induction n with
  | zero =>
    intro i c st hi h
    rw [List.drop_eq_nil_of_le (by omega)]
    exact h
  | succ n ih =>
    intro i c st hi h
    have hil : i < ws.length := by omega
    rw [List.drop_eq_getElem_cons hil, List.foldl_cons]
    have e : ws[i] = ws.getD i wy0 := by rw [List.getD_eq_getElem?_getD, List.getElem?_eq_getElem hil]; rfl
    rw [e]
    exact ih (i + 1) _ _ (by omega) (RB_s hil (hb _ (getDw_mem hil)) h)
theorem best_eq (ok : KOK K) (ha : a < kh K 0) (hl : load ≤ 9) : ((fin K 2 a t y load dn).1 = 0 ∧ bstK K a t y load = none) ∨ (0 < (fin K 2 a t y load dn).1 ∧ ∃ b, bstK K a t y load = some b ∧ b < (allW K y a t).length ∧ (fin K 2 a t y load dn).2.1 = cstW K a t y load ((allW K y a t).getD b wy0) ∧ (fin K 2 a t y load dn).2.2.1 = ((allW K y a t).getD b wy0).2.1 ∧ bD (fin K 2 a t y load dn) = dW K a t y load ((allW K y a t).getD b wy0).2 ∧ bP (fin K 2 a t y load dn) = ((allW K y a t).getD b wy0).1) := by
  have h := RB_all (dn := dn) (ws := allW K y a t) (fun w hw => cstW_b (load := load) ok ha hl hw) (allW K y a t).length 0 (none, 0) st0 (by omega) (Or.inl ⟨rfl, rfl, rfl⟩)
  rw [List.drop_zero] at h
  rcases h with ⟨h0, h1, h2⟩ | ⟨b, h0, h1, h2, h3, h4, h5, h6⟩
  · exact Or.inl ⟨h1, h0⟩
  · refine Or.inr ⟨h2, b, h0, h1, h3.trans h4, h5, ?_, ?_⟩
    · unfold bD
      rw [show (fin K 2 a t y load dn).2.2.2.2 = some (dW K a t y load ((allW K y a t).getD b wy0).2, ((allW K y a t).getD b wy0).1) from h6]
    · unfold bP
      rw [show (fin K 2 a t y load dn).2.2.2.2 = some (dW K a t y load ((allW K y a t).getD b wy0).2, ((allW K y a t).getD b wy0).1) from h6]
theorem bstK_b (ok : KOK K) (ha : a < kh K 0) (hl : load ≤ 9) {b : Nat} (hb : bstK K a t y load = some b) : b < (allW K y a t).length := by
  rcases best_eq (K := K) (t := t) (y := y) (dn := 0) ok ha hl with ⟨_, h⟩ | ⟨_, b', h, h1, _⟩
  · rw [h] at hb; cases hb
  · rw [h] at hb; cases hb; exact h1
/-- owing: how many, and the lanes of all -/
def R3 (st : MT) (n : Nat) (c : Option Nat) : Prop := st.1 = n ∧ st.2.2.2.1 = c ∧ (n = 0 ↔ c = none)
theorem R3_s (ok : KOK K) (h11 : kh K 11 = 0) (ha : a < kh K 0) (hl : load ≤ 9) (hdn : dn < 2 ^ 31) {st : MT} {n : Nat} {c : Option Nat} {w : WY} (hw : ∀ l, l ∈ w.2.2 → LV K l) (h : R3 st n c) : R3 (meet K 3 a t y load dn st w) (cnt1 K a t y load (lN dn) n w) (com1 K a t y load dn c w) := by
  have hd : dW K a t y load w.2 ≤ 689634 := dutyS_b ok (savK_b ok ha) hl
  obtain ⟨rfl, rfl, h3⟩ := h
  unfold meet
  rw [if_neg (by omega), if_pos (by omega)]
  by_cases e : dW K a t y load w.2 = dn
  · rw [if_pos ⟨e, fun q => by omega⟩, show cnt1 K a t y load (lN dn) st.1 w = st.1 + 1 from if_pos (by rw [e]), show com1 K a t y load dn st.2.2.2.1 w = some (match st.2.2.2.1 with | none => bitsC K w.2.2 | some b => b &&& bitsC K w.2.2) from if_pos e, bitsC_0 ok h11 hw]
    refine ⟨rfl, rfl, ?_⟩
    constructor
    · intro q; exact absurd q (Nat.succ_ne_zero _)
    · intro q; cases q
  · rw [if_neg (fun q => e q.1), show cnt1 K a t y load (lN dn) st.1 w = st.1 from if_neg (fun q => e ((l_inj (by omega) (by omega)).mp q)), show com1 K a t y load dn st.2.2.2.1 w = st.2.2.2.1 from if_neg e]
    exact ⟨rfl, rfl, h3⟩
theorem owe_eq (ok : KOK K) (h11 : kh K 11 = 0) (ha : a < kh K 0) (hl : load ≤ 9) (hdn : dn < 2 ^ 31) : R3 (fin K 3 a t y load dn) (List.foldl (cnt1 K a t y load (lN dn)) 0 (allW K y a t)) (List.foldl (com1 K a t y load dn) none (allW K y a t)) := by
  have h : ∀ (ws : List WY) (st : MT) (n : Nat) (c : Option Nat), (∀ w, w ∈ ws → ∀ l, l ∈ w.2.2 → LV K l) → R3 st n c → R3 (List.foldl (meet K 3 a t y load dn) st ws) (List.foldl (cnt1 K a t y load (lN dn)) n ws) (List.foldl (com1 K a t y load dn) c ws) := by
    intro ws
    induction ws with
    | nil => intro st n c _ h; exact h
    | cons w ws ih => intro st n c hw h; exact ih _ _ _ (fun v hv => hw v (List.mem_cons_of_mem _ hv)) (R3_s ok h11 ha hl hdn (hw w List.mem_cons_self) h)
  exact h (allW K y a t) st0 0 none (fun w hw => (allW_b ok ha hw).2.1) ⟨rfl, rfl, ⟨fun _ => rfl, fun _ => rfl⟩⟩
/-- a duty that no way owes -/
theorem cnt_out (ok : KOK K) (ha : a < kh K 0) (hl : load ≤ 9) {v : Int64} (hv : ∀ m : Nat, m ≤ 689634 → lN m ≠ v) : List.foldl (cnt1 K a t y load v) 0 (allW K y a t) = 0 := by
  have h : ∀ (ws : List WY) (n : Nat), List.foldl (cnt1 K a t y load v) n ws = n := by
    intro ws
    induction ws with
    | nil => intro n; rfl
    | cons w ws ih =>
      intro n
      have hd : dW K a t y load w.2 ≤ 689634 := dutyS_b ok (savK_b ok ha) hl
      rw [List.foldl_cons, show cnt1 K a t y load v n w = n from if_neg (hv _ hd)]
      exact ih n
  exact h _ 0
theorem cnt_le {v : Int64} : List.foldl (cnt1 K a t y load v) 0 (allW K y a t) ≤ (allW K y a t).length := by
  have h : ∀ (ws : List WY) (n : Nat), List.foldl (cnt1 K a t y load v) n ws ≤ n + ws.length := by
    intro ws
    induction ws with
    | nil => intro n; exact Nat.le_refl _
    | cons w ws ih =>
      intro n
      have h1 : cnt1 K a t y load v n w ≤ n + 1 := by unfold cnt1; split <;> omega
      have := ih (cnt1 K a t y load v n w)
      rw [List.foldl_cons, List.length_cons]
      omega
  have := h (allW K y a t) 0
  omega
end AGREE
