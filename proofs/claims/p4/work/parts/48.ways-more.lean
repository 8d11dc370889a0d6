/-! ALL WAYS: what each is, how many there are at most; what the best is. -/
theorem loopL_mem {α : Type} {g : Nat → List α} {w : α} : ∀ {n p : Nat}, w ∈ loopL g n p → ∃ q, p ≤ q ∧ q < p + n ∧ w ∈ g q
  | 0, _, h => by cases h
  | n + 1, p, h => by
    unfold loopL at h
    rcases List.mem_append.mp h with h | h
    · exact ⟨p, Nat.le_refl _, by omega, h⟩
    · obtain ⟨q, h1, h2, h3⟩ := loopL_mem h
      exact ⟨q, by omega, by omega, h3⟩
theorem dfs_pv {K : KD} {y t : Nat} : ∀ (f : Nat) (ps : List Nat) (q : Nat) (s : Nat × List Nat), PV K y ps q s → ∀ w, w ∈ dfs K y t f ps q s → PV K y w.1 t w.2 ∧ w.1.getD 0 0 = ps.getD 0 0
  | 0, _, _, _, _, _, hw => by cases hw
  | f + 1, ps, q, s, hP, w, hw => by
    unfold dfs at hw
    by_cases hq : q = t
    · rw [if_pos hq, List.mem_singleton] at hw
      subst hw
      subst hq
      exact ⟨hP, rfl⟩
    · rw [if_neg hq] at hw
      obtain ⟨p, h1, h2, h3⟩ := loopL_mem hw
      by_cases hc : ps.contains p = true
      · rw [if_pos hc] at h3
        cases h3
      · rw [if_neg hc] at h3
        cases hj : joinK K q p y with
        | none => rw [hj] at h3; cases h3
        | some j =>
          rw [hj] at h3
          obtain ⟨a1, a2⟩ := dfs_pv f (ps ++ [p]) p (addJ K s j) (PV_s hP (by omega) (by cases e : ps.contains p with | false => rfl | true => exact absurd e hc) hj) w h3
          refine ⟨a1, a2.trans (getD_app ?_)⟩
          have := hP.1
          omega
theorem allW_pv {K : KD} {y t a : Nat} (ha : a < kh K 0) {w : List Nat × Nat × List Nat} (hw : w ∈ allW K y a t) : PV K y w.1 t w.2 ∧ w.1.getD 0 0 = a := by
  have h := dfs_pv 7 [a] a (0, []) (PV_1 ha) w hw
  exact ⟨h.1, h.2⟩
def nb : Nat → Nat
  | 0 => 1
  | m + 1 => 1 + (m + 1) * nb m
theorem loopL_len {α : Type} {g : Nat → List α} {P Q : Nat → Bool} {B : Nat} : ∀ (n p : Nat), (∀ q, p ≤ q → q < p + n → (g q).length ≤ (bif P q then 1 else 0) + (bif Q q then B else 0)) → (loopL g n p).length ≤ fld (fun c q => c + (bif P q then 1 else 0)) n p 0 + fld (fun c q => c + (bif Q q then 1 else 0)) n p 0 * B
  | 0, p, _ => by show 0 ≤ _; omega
  | n + 1, p, h => by
    have ih := loopL_len (g := g) (P := P) (Q := Q) (B := B) n (p + 1) (fun q h1 h2 => h q (by omega) (by omega))
    have hp := h p (Nat.le_refl _) (by omega)
    have sh : ∀ (R : Nat → Bool) (m i c : Nat), fld (fun c q => c + (bif R q then 1 else 0)) m i c = c + fld (fun c q => c + (bif R q then 1 else 0)) m i 0 := by
      intro R m
      induction m with
      | zero => intro i c; rfl
      | succ m ihm =>
        intro i c
        show fld _ m (i + 1) (c + _) = c + fld _ m (i + 1) (0 + _)
        rw [ihm (i + 1) (c + _), ihm (i + 1) (0 + _)]
        omega
    show (g p ++ loopL g n (p + 1)).length ≤ fld _ n (p + 1) (0 + (bif P p then 1 else 0)) + fld _ n (p + 1) (0 + (bif Q p then 1 else 0)) * B
    rw [List.length_append, sh P n (p + 1) (0 + _), sh Q n (p + 1) (0 + _), Nat.add_mul]
    have e : (0 + (bif Q p then 1 else 0)) * B = bif Q p then B else 0 := by cases Q p <;> simp
    rw [e]
    omega
theorem fld_cn (P : Nat → Bool) : ∀ n, fld (fun c q => c + (bif P q then 1 else 0)) n 0 0 = cn P n
  | 0 => rfl
  | n + 1 => by
    rw [fld_s, fld_cn P n, Nat.zero_add]
    show cn P n + _ = cn P n + (P n).toNat
    cases h : P n <;> rfl
theorem nb_mono : ∀ {a b : Nat}, a ≤ b → nb a ≤ nb b
  | a, 0, h => by rw [Nat.le_zero.mp h]; exact Nat.le_refl _
  | a, b + 1, h => by
    by_cases e : a = b + 1
    · rw [e]; exact Nat.le_refl _
    · have h1 := nb_mono (a := a) (b := b) (by omega)
      have h2 : nb b ≤ nb (b + 1) := by
        show nb b ≤ 1 + (b + 1) * nb b
        rw [Nat.add_mul]
        omega
      exact Nat.le_trans h1 h2
/-- places that are not yet met, the goal aside -/
def lft (K : KD) (ps : List Nat) (t : Nat) : Nat := cn (fun p => !(ps.contains p) && !(decide (p = t))) (kh K 0)
theorem dfs_len {K : KD} {y t : Nat} : ∀ (f : Nat) (ps : List Nat) (q : Nat) (s : Nat × List Nat), (dfs K y t f ps q s).length ≤ nb (lft K ps t)
  | 0, _, _, _ => Nat.zero_le _
  | f + 1, ps, q, s => by
    unfold dfs
    by_cases hq : q = t
    · rw [if_pos hq]
      exact nb_mono (a := 0) (Nat.zero_le _)
    · rw [if_neg hq]
      have hl : ∀ p, p < kh K 0 → ps.contains p = false → p ≠ t → lft K (ps ++ [p]) t + 1 ≤ lft K ps t := by
        intro p hp hc ht
        refine cn_lt (kh K 0) (fun r hr h => ?_) ⟨p, hp, ?_, ?_⟩
        · simp only [List.contains_append, Bool.not_or, Bool.and_eq_true] at h ⊢
          exact ⟨h.1.1, h.2⟩
        · simp
        · rw [hc]; simp [ht]
      obtain ⟨m, hm⟩ : ∃ m, lft K ps t = m := ⟨_, rfl⟩
      refine Nat.le_trans (loopL_len (P := fun p => decide (p = t)) (Q := fun p => !(ps.contains p) && !(decide (p = t))) (B := nb (m - 1)) (kh K 0) 0 (fun p h1 h2 => ?_)) ?_
      · skip
        by_cases hc : ps.contains p = true
        · rw [if_pos hc]; exact Nat.zero_le _
        · rw [if_neg hc]
          have hc' : ps.contains p = false := by cases e : ps.contains p with | false => rfl | true => exact absurd e hc
          cases hj : joinK K q p y with
          | none => exact Nat.zero_le _
          | some j =>
            dsimp only
            by_cases ht : p = t
            · rw [decide_eq_true ht]
              have : (dfs K y t f (ps ++ [p]) p (addJ K s j)).length ≤ 1 := by
                cases f with
                | zero => exact Nat.zero_le _
                | succ f => unfold dfs; rw [if_pos ht]; exact Nat.le_refl _
              show _ ≤ 1 + _
              omega
            · rw [decide_eq_false ht, hc']
              have := dfs_len (K := K) (y := y) (t := t) f (ps ++ [p]) p (addJ K s j)
              have := hl p (by omega) hc' ht
              have := nb_mono (a := lft K (ps ++ [p]) t) (b := m - 1) (by omega)
              show _ ≤ 0 + nb (m - 1)
              omega
      rw [fld_cn, fld_cn]
      have e1 : cn (fun p => decide (p = t)) (kh K 0) ≤ 1 := by
        rw [cn_one]
        split <;> omega
      have e2 : cn (fun p => !(ps.contains p) && !(decide (p = t))) (kh K 0) = m := hm
      rw [e2, hm]
      cases m with
      | zero =>
        rw [Nat.zero_mul]
        show _ ≤ 1
        omega
      | succ m =>
        show _ ≤ 1 + (m + 1) * nb m
        rw [show m + 1 - 1 = m from rfl]
        omega
theorem allW_len {K : KD} (ok : KOK K) {y t a : Nat} (ha : a < kh K 0) (ht : t < kh K 0) : (allW K y a t).length ≤ 326 := by
  by_cases e : a = t
  · unfold allW dfs
    rw [if_pos e]
    show 1 ≤ 326
    decide
  · refine Nat.le_trans (dfs_len 7 [a] a (0, [])) ?_
    have h0 := (ok_h ok).1
    have h1 : lft K [a] t + 2 ≤ kh K 0 := by
      have c1 := cn_or (P := fun p => !([a].contains p) && !(decide (p = t))) (Q := fun p => decide (p = a) || decide (p = t)) (kh K 0) (fun q h => by
        obtain ⟨h2, h3⟩ := h
        simp at h2 h3
        omega)
      have c2 := cn_or (P := fun p => decide (p = a)) (Q := fun p => decide (p = t)) (kh K 0) (fun q h => by
        obtain ⟨h2, h3⟩ := h
        simp at h2 h3
        omega)
      rw [cn_one, cn_one, if_pos ha, if_pos ht] at c2
      have c3 := cn_le (P := fun q => (!([a].contains q) && !(decide (q = t))) || (decide (q = a) || decide (q = t))) (Q := fun _ => true) (kh K 0) (fun _ _ _ => rfl)
      rw [cn_all] at c3
      have c4 : lft K [a] t = cn (fun p => !([a].contains p) && !(decide (p = t))) (kh K 0) := rfl
      omega
    exact nb_mono (a := lft K [a] t) (b := 5) (by omega)
section FIN
variable {K : KD}
/-- what a run of meets keeps -/
def FI (aim k : Nat) (st : MT) : Prop := MB st ∧ st.1 ≤ k ∧ (aim ≤ 2 → 0 < st.1 → st.2.1 ≤ 766260 ∧ st.2.2.1 ≤ 774 ∧ ∃ dq pq, st.2.2.2.2 = some (dq, pq) ∧ dq ≤ 689634 ∧ 1 ≤ pq.length ∧ pq.length ≤ 7 ∧ ∀ p, p ∈ pq → p < kh K 0)
theorem cW_b2 (ok : KOK K) {aim dd : Nat} {s : Nat × List Nat} (hs : s.1 ≤ 774) (hd : dd ≤ 689634) : cW K aim dd s ≤ 766260 := by
  unfold cW
  have b8 := (ok_h ok).2.2.2.2.2.2.2.2.1
  split
  · have := Nat.mul_le_mul b8 hs
    omega
  · omega
theorem FI_s (ok : KOK K) {aim a b y load dn k : Nat} {st : MT} {w : List Nat × Nat × List Nat} (ha : a < kh K 0) (hl : load ≤ 9) (hw : PV K y w.1 b w.2) (h : FI (K := K) aim k st) (hb : st.1 = 0 → st = st0) : FI (K := K) aim (k + 1) (meet K aim a b y load dn st w) ∧ ((meet K aim a b y load dn st w).1 = 0 → meet K aim a b y load dn st w = st0) := by
  have hs : w.2.1 ≤ 774 := (PV_sb ok hw).1
  have hlen := PV_len ok hw
  have h0 := (ok_h ok).1
  have hd : dW K a b y load w.2 ≤ 689634 := dutyS_b ok (savK_b ok ha) hl
  have hc := cW_b2 (aim := aim) ok hs hd
  have hm := meet_b (aim := aim) (b := b) (y := y) (dn := dn) (w := w) ok hs ha hl h.1
  obtain ⟨h1, h2, h3⟩ := h
  refine ⟨⟨hm, ?_, ?_⟩, ?_⟩
  · unfold meet
    split
    · omega
    · split
      · split
        · show st.1 + 1 ≤ _; omega
        · omega
      · split
        · show st.1 + 1 ≤ _; omega
        · show st.1 + 1 ≤ _; omega
  · intro haim
    unfold meet
    split
    · exact h3 haim
    · rw [if_neg (by omega)]
      split
      · rename_i hcc
        intro _
        by_cases e : 0 < st.1
        · exact h3 haim e
        · exfalso
          rw [hb (by omega)] at hcc
          unfold st0 at hcc
          rcases hcc with q | q
          · have q' : 100000000 < cW K aim (dW K a b y load w.2) w.2 := q
            omega
          · have q' : cW K aim (dW K a b y load w.2) w.2 = 100000000 := q.1
            omega
      · intro _
        refine ⟨hc, hs, _, _, rfl, ?_, hw.1, by omega, hw.2.2.2.1⟩
        split
        · exact hd
        · omega
  · unfold meet
    split
    · exact hb
    · split
      · split
        · intro q; exact absurd q (Nat.succ_ne_zero _)
        · exact hb
      · split
        · intro q; exact absurd q (Nat.succ_ne_zero _)
        · intro q; exact absurd q (Nat.succ_ne_zero _)
theorem FI_all (ok : KOK K) {aim a b y load dn : Nat} (ha : a < kh K 0) (hl : load ≤ 9) : ∀ (ws : List (List Nat × Nat × List Nat)) (st : MT) (k : Nat), (∀ w, w ∈ ws → PV K y w.1 b w.2) → FI (K := K) aim k st → (st.1 = 0 → st = st0) → FI (K := K) aim (k + ws.length) (List.foldl (meet K aim a b y load dn) st ws)
  | [], st, k, _, h, _ => h
  | w :: ws, st, k, hw, h, hb => by
    obtain ⟨h1, h2⟩ := FI_s (dn := dn) ok ha hl (hw w List.mem_cons_self) h hb
    have := FI_all ok (dn := dn) ha hl ws _ (k + 1) (fun v hv => hw v (List.mem_cons_of_mem _ hv)) h1 h2
    rw [show k + 1 + ws.length = k + (w :: ws).length by rw [List.length_cons]; omega] at this
    exact this
theorem fin_i (ok : KOK K) {aim a t y load dn : Nat} (ha : a < kh K 0) (ht : t < kh K 0) (hl : load ≤ 9) : FI (K := K) aim 326 (fin K aim a t y load dn) := by
  have h := FI_all ok (aim := aim) (b := t) (y := y) (dn := dn) ha hl (allW K y a t) st0 0 (fun w hw => (allW_pv ha hw).1) ⟨⟨Nat.le_refl _, Nat.le_refl _⟩, Nat.le_refl _, fun _ q => absurd q (Nat.lt_irrefl 0)⟩ (fun _ => rfl)
  have := allW_len ok (y := y) ha ht
  exact ⟨h.1, Nat.le_trans h.2.1 (by omega), h.2.2⟩
end FIN
def bD (f : MT) : Nat := match f.2.2.2.2 with | none => 0 | some b => b.1
def bP (f : MT) : List Nat := match f.2.2.2.2 with | none => [] | some b => b.2
