/-! ALL WAYS, as a list, in the order in which both sides go. -/
def loopL {α : Type} (g : Nat → List α) : Nat → Nat → List α
  | 0, _ => []
  | n + 1, p => g p ++ loopL g n (p + 1)
def dfs (K : KD) (y t : Nat) : Nat → List Nat → Nat → Nat × List Nat → List (List Nat × Nat × List Nat)
  | 0, _, _, _ => []
  | f + 1, ps, q, s => if q = t then [(ps, s)] else loopL (fun p => if ps.contains p = true then [] else match joinK K q p y with
    | none => []
    | some j => dfs K y t f (ps ++ [p]) p (addJ K s j)) (kh K 0) 0
def PV (K : KD) (y : Nat) (ps : List Nat) (q : Nat) (s : Nat × List Nat) : Prop := 1 ≤ ps.length ∧ ps.getD (ps.length - 1) 0 = q ∧ ps.Nodup ∧ (∀ p, p ∈ ps → p < kh K 0) ∧ lookK K y (fun i => ps.getD i 0) (ps.length - 1) 0 (0, []) = (ps.length - 1, s)
theorem lookK_snoc {K : KD} {y : Nat} {P : Nat → Nat} {s : Nat × List Nat} : ∀ (n i : Nat) (s0 : Nat × List Nat), lookK K y P n i s0 = (i + n, s) → lookK K y P (n + 1) i s0 = match joinK K (P (i + n)) (P (i + n + 1)) y with
    | none => (i + n, s)
    | some j => (i + n + 1, addJ K s j)
  | 0, i, s0, h => by
    have h2 : s0 = s := by
      have := congrArg Prod.snd h
      exact this
    subst h2
    show (match joinK K (P i) (P (i + 1)) y with | none => (i, s0) | some j => lookK K y P 0 (i + 1) (addJ K s0 j)) = _
    cases joinK K (P i) (P (i + 1)) y with
    | none => rfl
    | some j => rfl
  | n + 1, i, s0, h => by
    have h1 : (match joinK K (P i) (P (i + 1)) y with | none => (i, s0) | some j => lookK K y P n (i + 1) (addJ K s0 j)) = (i + (n + 1), s) := h
    show (match joinK K (P i) (P (i + 1)) y with | none => (i, s0) | some j => lookK K y P (n + 1) (i + 1) (addJ K s0 j)) = _
    cases e : joinK K (P i) (P (i + 1)) y with
    | none =>
      rw [e] at h1
      have h2 : i = i + (n + 1) := congrArg Prod.fst h1
      omega
    | some j =>
      rw [e] at h1
      have h2 : lookK K y P n (i + 1) (addJ K s0 j) = (i + 1 + n, s) := by rw [show i + 1 + n = i + (n + 1) by omega]; exact h1
      have := lookK_snoc n (i + 1) (addJ K s0 j) h2
      rw [show i + 1 + n = i + (n + 1) by omega] at this
      exact this
theorem lookK_c {K : KD} {y : Nat} {P P' : Nat → Nat} : ∀ (n i : Nat) (s : Nat × List Nat), (∀ j, j ≤ i + n → P j = P' j) → lookK K y P n i s = lookK K y P' n i s
  | 0, _, _, _ => rfl
  | n + 1, i, s, h => by
    show (match joinK K (P i) (P (i + 1)) y with | none => (i, s) | some j => lookK K y P n (i + 1) (addJ K s j)) = (match joinK K (P' i) (P' (i + 1)) y with | none => (i, s) | some j => lookK K y P' n (i + 1) (addJ K s j))
    rw [h i (by omega), h (i + 1) (by omega)]
    cases joinK K (P' i) (P' (i + 1)) y with
    | none => rfl
    | some j => exact lookK_c n (i + 1) (addJ K s j) (fun j hj => h j (by omega))
theorem cn_one (x : Nat) : ∀ n, cn (fun q => decide (q = x)) n = if x < n then 1 else 0
  | 0 => by rw [if_neg (by omega)]; rfl
  | n + 1 => by
    unfold cn
    rw [cn_one x n]
    by_cases h : n = x
    · subst h
      rw [if_neg (by omega), if_pos (by omega), decide_eq_true rfl]
      rfl
    · rw [decide_eq_false h]
      by_cases c : x < n
      · rw [if_pos c, if_pos (by omega)]; rfl
      · rw [if_neg c, if_neg (by omega)]; rfl
theorem cn_or {P Q : Nat → Bool} : ∀ n, (∀ q, ¬ (P q = true ∧ Q q = true)) → cn (fun q => P q || Q q) n = cn P n + cn Q n
  | 0, _ => rfl
  | n + 1, h => by
    unfold cn
    rw [cn_or n h]
    have := h n
    cases hp : P n <;> cases hq : Q n
    · show _ + 0 = _; simp
    · show _ + 1 = _; show _ = _ + 0 + (_ + 1); omega
    · show _ + 1 = _; show _ = _ + 1 + (_ + 0); omega
    · exact absurd ⟨hp, hq⟩ this
theorem cn_list {n : Nat} : ∀ {ps : List Nat}, ps.Nodup → (∀ p, p ∈ ps → p < n) → cn (fun q => ps.contains q) n = ps.length
  | [], _, _ => by
    have : ∀ n, cn (fun q => ([] : List Nat).contains q) n = 0 := by
      intro n
      induction n with
      | zero => rfl
      | succ n ih => unfold cn; rw [ih]; rfl
    exact this n
  | x :: t, hn, hb => by
    have hn' := List.nodup_cons.mp hn
    have e : (fun q => (x :: t).contains q) = fun q => decide (q = x) || t.contains q := by
      funext q
      rw [List.contains_cons]
      congr 1
    rw [e, cn_or n, cn_one, if_pos (hb x List.mem_cons_self), cn_list hn'.2 (fun p hp => hb p (List.mem_cons_of_mem _ hp)), List.length_cons]
    · omega
    · intro q hq
      have h1 := of_decide_eq_true hq.1
      have h2 := List.contains_iff_mem.mp hq.2
      rw [h1] at h2
      exact hn'.1 h2
section PVS
variable {K : KD}
theorem PV_len {y q : Nat} {ps : List Nat} {s : Nat × List Nat} (ok : KOK K) (h : PV K y ps q s) : ps.length ≤ kh K 0 := by
  have h1 := cn_list h.2.2.1 h.2.2.2.1
  have h2 := cn_le (P := fun q => ps.contains q) (Q := fun _ => true) (kh K 0) (fun _ _ _ => rfl)
  rw [cn_all] at h2
  omega
/-- when all places are met, none is left -/
theorem PV_full {y q : Nat} {ps : List Nat} {s : Nat × List Nat} (h : PV K y ps q s) (hl : kh K 0 ≤ ps.length) {p : Nat} (hp : p < kh K 0) : ps.contains p = true := by
  cases e : ps.contains p with
  | true => rfl
  | false =>
    have h1 := cn_list h.2.2.1 h.2.2.2.1
    have h2 := cn_lt (P := fun q => ps.contains q) (Q := fun _ => true) (kh K 0) (fun _ _ _ => rfl) ⟨p, hp, e, rfl⟩
    rw [cn_all] at h2
    omega
theorem PV_1 {y a : Nat} (ha : a < kh K 0) : PV K y [a] a (0, []) := ⟨Nat.le_refl _, rfl, List.nodup_cons.mpr ⟨List.not_mem_nil, List.nodup_nil⟩, fun p hp => by rw [List.mem_singleton] at hp; omega, rfl⟩
theorem PV_q {y q : Nat} {ps : List Nat} {s : Nat × List Nat} (h : PV K y ps q s) : q < kh K 0 := by
  have h1 := h.1
  rw [← h.2.1, List.getD_eq_getElem?_getD, List.getElem?_eq_getElem (by omega)]
  exact h.2.2.2.1 _ (List.getElem_mem _)
theorem PV_s {y q p j : Nat} {ps : List Nat} {s : Nat × List Nat} (h : PV K y ps q s) (hp : p < kh K 0) (hc : ps.contains p = false) (hj : joinK K q p y = some j) : PV K y (ps ++ [p]) p (addJ K s j) := by
  obtain ⟨h1, h2, h3, h4, h5⟩ := h
  have hl : (ps ++ [p]).length = ps.length + 1 := by rw [List.length_append]; rfl
  refine ⟨by omega, ?_, ?_, ?_, ?_⟩
  · rw [hl, show ps.length + 1 - 1 = ps.length by omega, getD_end]
  · rw [List.nodup_append]
    refine ⟨h3, List.nodup_cons.mpr ⟨List.not_mem_nil, List.nodup_nil⟩, ?_⟩
    intro a ha b hb
    rw [List.mem_singleton] at hb
    rw [hb]
    intro e
    rw [e] at ha
    rw [List.contains_iff_mem.mpr ha] at hc
    cases hc
  · intro x hx
    rw [List.mem_append] at hx
    rcases hx with hx | hx
    · exact h4 x hx
    · rw [List.mem_singleton] at hx; omega
  · rw [hl, show ps.length + 1 - 1 = (ps.length - 1) + 1 by omega]
    have e1 : lookK K y (fun i => (ps ++ [p]).getD i 0) (ps.length - 1) 0 (0, []) = (0 + (ps.length - 1), s) := by
      rw [Nat.zero_add, ← h5]
      exact lookK_c _ _ _ (fun i hi => getD_app (by omega))
    rw [lookK_snoc _ _ _ e1]
    have e2 : (ps ++ [p]).getD (0 + (ps.length - 1)) 0 = q := by
      rw [Nat.zero_add, getD_app (by omega), h2]
    have e3 : (ps ++ [p]).getD (0 + (ps.length - 1) + 1) 0 = p := by
      rw [show 0 + (ps.length - 1) + 1 = ps.length by omega, getD_end]
    show (match joinK K ((ps ++ [p]).getD (0 + (ps.length - 1)) 0) ((ps ++ [p]).getD (0 + (ps.length - 1) + 1) 0) y with | none => (0 + (ps.length - 1), s) | some j => (0 + (ps.length - 1) + 1, addJ K s j)) = _
    rw [e2, e3, hj, Nat.zero_add]
theorem PV_sb (ok : KOK K) {y q : Nat} {ps : List Nat} {s : Nat × List Nat} (h : PV K y ps q s) : SB K 6 s := by
  obtain ⟨⟨a1, a2, a3⟩, _, _⟩ := lookK_b ok (y := y) (P := fun i => ps.getD i 0) (ps.length - 1) 0 (0, []) ⟨Nat.le_refl _, Nat.le_refl _, fun l hl => absurd hl List.not_mem_nil⟩
  rw [h.2.2.2.2] at a1 a2 a3
  have hl := PV_len ok h
  have h0 := (ok_h ok).1
  exact ⟨by show s.1 ≤ _; have : s.1 ≤ 129 * (0 + (ps.length - 1)) := a1; omega, by have : s.2.length ≤ 0 + (ps.length - 1) := a2; omega, a3⟩
end PVS
/-- what a way gives: ways, least cost, its length, lanes of all, the best with its duty -/
abbrev MT : Type := Nat × Nat × Nat × Option Nat × Option (Nat × List Nat)
def dW (K : KD) (a b y load : Nat) (s : Nat × List Nat) : Nat := dutyS K (boatK K s.2) (savK K a b s.1) y load
def cW (K : KD) (aim d : Nat) (s : Nat × List Nat) : Nat := if aim = 2 then kh K 8 * s.1 + d else 0
def meet (K : KD) (aim a b y load dn : Nat) (st : MT) (w : List Nat × Nat × List Nat) : MT :=
  if aim = 1 ∧ 0 < (wat K w.2.2).length then st
  else if aim = 3 ∨ aim = 4 then (if dW K a b y load w.2 = dn ∧ (aim = 4 → w.2.2.contains 8 = true) then (st.1 + 1, st.2.1, st.2.2.1, some (match st.2.2.2.1 with | none => bitsM w.2.2 | some c => c &&& bitsM w.2.2), st.2.2.2.2) else st)
  else if st.2.1 < cW K aim (dW K a b y load w.2) w.2 ∨ (cW K aim (dW K a b y load w.2) w.2 = st.2.1 ∧ st.2.2.1 ≤ w.2.1) then (st.1 + 1, st.2)
  else (st.1 + 1, cW K aim (dW K a b y load w.2) w.2, w.2.1, st.2.2.2.1, some (if aim = 2 then dW K a b y load w.2 else 0, w.1))
