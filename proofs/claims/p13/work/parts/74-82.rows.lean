section
/-! THE TEXT: what it makes; it goes on; the kingdom stays one. -/
def bodS (T : TP) (K : KD) (s : Nat) : St := if kh K 5 = 0 then pf6 T (.inr s) else linS T K s
def bodK (T : TP) (K : KD) (s : Nat) : KD := if kh K 5 = 0 then firK T (.inr s) else linK T K s
def incL (K : KD) : KD := (fun i => if i = 5 then kh K 5 + 1 else kh K i, K.2)
def prsT (T : TP) : Nat → St → KD → St × KD
  | 0, st, K => (st, K)
  | _ + 1, .inl x, K => (.inl x, K)
  | n + 1, .inr s, K => if tk T s = 0 then (.inr s, K) else prsT T n (endS T (bodS T K s)) (incL (bodK T K s))
def Ge (T : TP) (s : Nat) (st : St) : Prop := ∀ s', st = .inr s' → s ≤ s' ∧ s' ≤ T.1
section GE
variable {T : TP} {s : Nat} {st : St} {K : KD}
theorem Ge_i {x : Nat × Nat} : Ge T s (.inl x) := fun s' h => by cases h
theorem Ge_s (h : s ≤ T.1) : Ge T s (.inr s) := fun s' e => by cases e; exact ⟨Nat.le_refl _, h⟩
theorem nx_ge (h : s ≤ T.1) : s ≤ nx T s ∧ nx T s ≤ T.1 := by
  have h1 := en_le h
  have h2 := nx_le h
  omega
theorem Ge_n {q : Nat} (h : Ge T s (.inr q)) : Ge T s (.inr (nx T q)) := fun s' e => by
  cases e
  have h1 := h q rfl
  have h2 := nx_ge h1.2
  omega
theorem Ge_nm {lo hi : Nat} (h : Ge T s st) : Ge T s (nmS T lo hi st) := by
  rcases st with x | q
  · exact Ge_i
  · show Ge T s (if _ then (if _ then _ else _) else _)
    split
    · split
      · exact Ge_n h
      · exact Ge_i
    · exact Ge_i
theorem Ge_wd {w : Nat} (h : Ge T s st) : Ge T s (wdS T w st) := by
  rcases st with x | q
  · exact Ge_i
  · show Ge T s (if _ then _ else _)
    split
    · exact Ge_n h
    · exact Ge_i
theorem Ge_ot {P : Nat} {ok : Nat → Bool} (h : Ge T s st) : Ge T s (otS T P ok st) := by
  rcases st with x | q
  · exact Ge_i
  · show Ge T s (if _ then (if _ then _ else _) else _)
    split
    · split
      · exact Ge_n h
      · exact Ge_i
    · exact Ge_i
theorem Ge_ad (h : Ge T s st) : Ge T s (adS T st) := by
  rcases st with x | q
  · exact Ge_i
  · exact Ge_n h
theorem Ge_lw (h : Ge T s st) : Ge T s (lawS T st) := by
  rcases st with x | q
  · exact Ge_i
  · show Ge T s (if _ then _ else _)
    split
    · exact Ge_n h
    · exact Ge_i
theorem Ge_wk {P : Nat} : ∀ (n : Nat) {pl : Nat → Nat} {i : Nat} {st : St}, Ge T s st → Ge T s (wlk T P n pl i st).1
  | 0, pl, i, st, h => by
    show Ge T s (fl3 st (otS T P (wlo pl i) st))
    rcases st with x | q
    · exact Ge_i
    · rcases otS T P (wlo pl i) (.inr q) with x | q2
      · exact Ge_i
      · exact Ge_i
  | n + 1, pl, i, st, h => by
    have h1 : Ge T s (otS T P (wlo pl i) st) := Ge_ot h
    rcases hq : otS T P (wlo pl i) st with x | q2
    · have e : wlk T P (n + 1) pl i st = (.inl x, pl, i) := by
        show (match otS T P (wlo pl i) st with | .inl x => _ | .inr s' => _) = _
        rw [hq]
      rw [e]; exact Ge_i
    · have e : wlk T P (n + 1) pl i st = if tk T q2 = 2 then wlk T P n (nup pl i (nmV T st)) (i + 1) (.inr q2) else (.inr q2, nup pl i (nmV T st), i + 1) := by
        show (match otS T P (wlo pl i) st with | .inl x => _ | .inr s' => _) = _
        rw [hq]
      rw [hq] at h1
      rw [e]
      split
      · exact Ge_wk n h1
      · exact h1
theorem Ge_bod (h : s ≤ T.1) : Ge T s (bodS T K s) := by
  have h0 := Ge_s h
  have h1 := Ge_n h0
  unfold bodS
  split
  · exact Ge_nm (Ge_wd (Ge_nm (Ge_wd (Ge_nm (Ge_wd (Ge_nm (Ge_wd (Ge_nm (Ge_wd (Ge_wd h0))))))))))
  · unfold linS
    split
    · split
      · exact Ge_i
      · exact Ge_nm (Ge_ot (Ge_wd (Ge_nm h1)))
    · split
      · split
        · exact Ge_i
        · have h4 : Ge T s (ln4 T K (.inr (nx T s))) := Ge_nm (Ge_ot (Ge_wd (Ge_nm h1)))
          have h6 : ∀ so, Ge T s (ln6 T K so (.inr (nx T s))) := fun so => by
            unfold ln6
            split
            · exact Ge_nm (Ge_wd (Ge_nm (Ge_wd h4)))
            · exact h4
          unfold ln7
          split
          · exact Ge_nm (Ge_ad (h6 _))
          · exact h6 _
      · split
        · exact Ge_nm (Ge_wd h1)
        · split
          · split
            · exact Ge_i
            · exact Ge_wk 6 (Ge_wd (Ge_nm (Ge_wd (Ge_nm (Ge_wd (Ge_nm (Ge_wd (Ge_nm h1))))))))
          · exact Ge_lw (Ge_wd h0)
/-- each line goes on -/
theorem step_lt {s' : Nat} (h : s ≤ T.1) (e : endS T (bodS T K s) = .inr s') : s < s' ∧ s' ≤ T.1 := by
  have h1 := Ge_bod (K := K) h
  rcases hq : bodS T K s with x | q
  · rw [hq] at e; cases e
  · rw [hq] at e h1
    have h2 := h1 q rfl
    by_cases c : tk T q = 3
    · rw [show endS T (.inr q) = .inr (nx T q) from if_pos c] at e
      cases e
      have h3 : q < T.1 := by
        by_cases cq : q < T.1
        · exact cq
        · rw [tk_0.mpr (by omega)] at c; cases c
      have h4 := en_lt h3
      have h5 := nx_le h2.2
      omega
    · rw [show endS T (.inr q) = .inl (1, q) from if_neg c] at e
      cases e
theorem gd_end (h : gd (endS T st) = true) : gd st = true := by
  rcases st with x | q
  · cases h
  · rfl
end GE
/-- a kingdom that is being read -/
def PK (K : KD) : Prop := KOK K ∧ kh K 11 = 0 ∧ R30 K ∧ (0 < kh K 5 → 2 ≤ kh K 0 ∧ 1 ≤ kh K 1) ∧ (kh K 5 = 0 → K = K0)
theorem KOK_K0 : KOK K0 := by
  refine ⟨?_, ?_, ?_, ?_, ?_, ?_, ?_, ?_, ?_, ?_, ?_, ?_, ?_, ?_, ?_, ?_, ?_, ?_⟩
  all_goals first
    | decide
    | (intro i hi; exact absurd hi (Nat.not_lt_zero _))
    | (intro i j hi; exact absurd hi (Nat.not_lt_zero _))
    | (intro i hi
       rcases hi with hi | hi
       · exact absurd hi (Nat.not_lt_zero _)
       · exact absurd hi.2 (by show ¬ (0 : Nat) = 1; decide))
theorem PK_K0 : PK K0 := ⟨KOK_K0, rfl, fun i hi => absurd hi (Nat.not_lt_zero _), fun h => absurd h (by decide), fun _ => rfl⟩
section PKS
variable {T : TP} {s : Nat} {st : St} {K : KD}
theorem btw_s (a b x y : Nat) : btw a b x y = btw x y a b := by
  unfold btw
  rw [Bool.eq_iff_iff]
  simp only [Bool.or_eq_true, Bool.and_eq_true, decide_eq_true_eq]
  omega
theorem PK_road (h : PK K) (h5 : 0 < kh K 5) (hl : kh K 5 < 2000) (hr : kh K 2 < 12) (g : gd (rd4 T K st) = true) : PK (incL (rdK T K st)) := by
  obtain ⟨ok, h11, h30, hpd, _⟩ := h
  obtain ⟨p1, p2⟩ := hpd h5
  have g3 : gd (rd3 T K st) = true := gd_nm g
  have g1 : gd (rd1 T K st) = true := gd_wd (gd_ot g3)
  have na : 0 ≤ nmV T st ∧ nmV T st ≤ kh K 0 - 1 := nm_le g1
  have nb : nmV T (rd2 T K st) < kh K 0 ∧ rdo T K st (nmV T (rd2 T K st)) = true := ot_ok g3
  have nc : 1 ≤ nmV T (rd3 T K st) ∧ nmV T (rd3 T K st) ≤ 30 := nm_le g
  unfold rdK
  generalize nmV T (rd3 T K st) = c at nc
  obtain ⟨nb1, nb2⟩ := nb
  unfold rdo at nb2
  generalize nmV T (rd2 T K st) = b at nb1 nb2
  generalize nmV T st = a at na nb2
  rw [Bool.and_eq_true] at nb2
  have nb3 : b ≠ a := of_decide_eq_true nb2.1
  have nb4 : roadK K a b = none := by
    cases e : roadK K a b with
    | none => rfl
    | some z => rw [e] at nb2; cases nb2.2
  have nb5 := fnd_none nb4
  obtain ⟨k0, k1, k2, k3, k4, k5, k6, k7, k8, k9, k10, k11, k12, kz, kR, kL, kW, kU⟩ := ok
  have er : ∀ i, kr (incL (addR K a b c)) i = if i = kh K 2 then (fun j => if j = 0 then a else if j = 1 then b else c) else kr K i := fun i => rfl
  have rn : kr (incL (addR K a b c)) (kh K 2) = (fun j => if j = 0 then a else if j = 1 then b else c) := if_pos rfl
  have ro : ∀ i, i ≠ kh K 2 → kr (incL (addR K a b c)) i = kr K i := fun i hi => if_neg hi
  refine ⟨⟨k0, k1, ?_, k3, k4, ?_, k6, k7, k8, k9, k10, k11, k12, ?_, fun i hi => ?_, kL, kW, fun i j hi hj hb => ?_⟩, h11, fun i hi => ?_, fun _ => ⟨p1, p2⟩, fun q => by cases q⟩
  · show kh K 2 + 1 ≤ 12; omega
  · show kh K 5 + 1 ≤ 2000; omega
  · show 0 < kh K 5 + 1 ↔ 0 < kh K 0; omega
  · have hi' : i < kh K 2 + 1 := hi
    by_cases q : i = kh K 2
    · subst q
      rw [rn]
      show a < kh K 0 ∧ b < kh K 0 ∧ a ≠ b ∧ 1 ≤ c ∧ c ≤ 129
      omega
    · rw [ro i q]; exact kR i (by omega)
  · have hi' : i < kh K 2 + 1 := hi
    have hj' : j < kh K 2 + 1 := hj
    by_cases qi : i = kh K 2
    · by_cases qj : j = kh K 2
      · omega
      · subst qi
        rw [rn, ro j qj] at hb
        have hb' : btw a b (kr K j 0) (kr K j 1) = true := hb
        rw [btw_s, nb5 j (by omega) (by omega)] at hb'
        cases hb'
    · by_cases qj : j = kh K 2
      · subst qj
        rw [rn, ro i qi] at hb
        have hb' : btw (kr K i 0) (kr K i 1) a b = true := hb
        rw [nb5 i (by omega) (by omega)] at hb'
        cases hb'
      · rw [ro i qi, ro j qj] at hb
        exact kU i j (by omega) (by omega) hb
  · have hi' : i < kh K 2 + 1 := hi
    by_cases q : i = kh K 2
    · subst q
      rw [rn]
      exact nc.2
    · rw [ro i q]; exact h30 i (by omega)
theorem PK_lane (h : PK K) (h5 : 0 < kh K 5) (hl : kh K 5 < 2000) (hr : kh K 3 < 8) {so : Nat} (hso : so ≤ 2) (g : gd (ln7 T K so st) = true) : PK (incL (lnK T K so st)) := by
  obtain ⟨ok, h11, h30, hpd, _⟩ := h
  obtain ⟨p1, p2⟩ := hpd h5
  have g6 : gd (ln6 T K so st) = true := by
    unfold ln7 at g
    split at g
    · exact gd_ad (gd_nm g)
    · exact g
  have hw : lnR T K so st 6 ≤ 100 := by
    show (if lnw T K so st = true then _ else _) ≤ 100
    unfold ln7 at g
    by_cases c : lnw T K so st = true
    · rw [if_pos c]; rw [if_pos c] at g; exact (nm_le g).2
    · rw [if_neg c]; omega
  have k1 := ok.2.1
  have g4 : gd (ln4 T K st) = true ∧ lnR T K so st 3 ≤ 30 ∧ lnR T K so st 4 ≤ 30 := by
    show _ ∧ (if so = 0 then _ else _) ≤ 30 ∧ (if so = 0 then _ else _) ≤ 30
    unfold ln6 at g6
    by_cases c : so = 0
    · rw [if_pos c] at g6
      rw [if_pos c, if_pos c]
      have g5 : gd (ln5 T K st) = true := gd_wd (gd_nm g6)
      have n1 := (nm_le g6).2
      have n2 : 0 ≤ nmV T (lnf T K st) ∧ nmV T (lnf T K st) ≤ kh K 1 - 1 := nm_le g5
      exact ⟨gd_wd (gd_nm g5), by omega, by omega⟩
    · rw [if_neg c] at g6
      rw [if_neg c, if_neg c]
      exact ⟨g6, by omega, by omega⟩
  have g3 : gd (ln3 T K st) = true := gd_nm g4.1
  have na : 0 ≤ nmV T st ∧ nmV T st ≤ kh K 0 - 1 := nm_le (gd_wd (gd_ot g3))
  have nb : nmV T (rd2 T K st) < kh K 0 ∧ lno T st (nmV T (rd2 T K st)) = true := ot_ok g3
  have nb3 : nmV T (rd2 T K st) ≠ nmV T st := of_decide_eq_true nb.2
  have nc : 1 ≤ nmV T (ln3 T K st) ∧ nmV T (ln3 T K st) ≤ 30 := nm_le g4.1
  have v0 : lnR T K so st 0 = nmV T st := rfl
  have v1 : lnR T K so st 1 = nmV T (rd2 T K st) := rfl
  have v2 : lnR T K so st 2 = nmV T (ln3 T K st) := rfl
  have v5 : lnR T K so st 5 = so := rfl
  unfold lnK
  obtain ⟨k0, k1, k2, k3, k4, k5, k6, k7, k8, k9, k10, k11, k12, kz, kR, kL, kW, kU⟩ := ok
  refine ⟨⟨k0, k1, k2, ?_, k4, ?_, k6, k7, k8, k9, k10, k11, k12, ?_, kR, fun i hi => ?_, kW, kU⟩, h11, h30, fun _ => ⟨p1, p2⟩, fun q => by cases q⟩
  · show kh K 3 + 1 ≤ 8; omega
  · show kh K 5 + 1 ≤ 2000; omega
  · show 0 < kh K 5 + 1 ↔ 0 < kh K 0; omega
  · have hi' : i < kh K 3 + 1 ∨ (i = 8 ∧ kh K 11 = 1) := hi
    have el : kl (incL (addL K (lnR T K so st))) i = if i = kh K 3 then lnR T K so st else kl K i := rfl
    rw [el]
    by_cases q : i = kh K 3
    · rw [if_pos q]
      show _ < kh K 0 ∧ _ < kh K 0 ∧ _
      omega
    · rw [if_neg q]; exact kL i (Or.inl (by omega))
theorem wlk_ok {P : Nat} : ∀ (n : Nat) {pl : Nat → Nat} {i : Nat} {st : St}, n + i = 7 → 1 ≤ i → (∀ j, j < i → pl j < P) → (∀ j, j + 1 < i → pl j ≠ pl (j + 1)) → gd (wlk T P n pl i st).1 = true → 2 ≤ (wlk T P n pl i st).2.2 ∧ (wlk T P n pl i st).2.2 ≤ 7 ∧ (∀ j, j < (wlk T P n pl i st).2.2 → (wlk T P n pl i st).2.1 j < P) ∧ ∀ j, j + 1 < (wlk T P n pl i st).2.2 → (wlk T P n pl i st).2.1 j ≠ (wlk T P n pl i st).2.1 (j + 1)
  | 0, pl, i, st, hn, hi, h1, h2, g => by
    have g' : gd (fl3 st (otS T P (wlo pl i) st)) = true := g
    rcases st with x | q
    · cases g'
    · rcases hq : otS T P (wlo pl i) (.inr q) with x | q2
      · rw [hq] at g'; cases g'
      · rw [hq] at g'; cases g'
  | n + 1, pl, i, st, hn, hi, h1, h2, g => by
    rcases hq : otS T P (wlo pl i) st with x | q2
    · have e : wlk T P (n + 1) pl i st = (.inl x, pl, i) := by
        show (match otS T P (wlo pl i) st with | .inl x => _ | .inr s' => _) = _
        rw [hq]
      rw [e] at g; cases g
    · have e : wlk T P (n + 1) pl i st = if tk T q2 = 2 then wlk T P n (nup pl i (nmV T st)) (i + 1) (.inr q2) else (.inr q2, nup pl i (nmV T st), i + 1) := by
        show (match otS T P (wlo pl i) st with | .inl x => _ | .inr s' => _) = _
        rw [hq]
      have o := ot_ok (st := st) (by rw [hq]; rfl)
      have o2 : nmV T st ≠ pl (i - 1) := of_decide_eq_true o.2
      have u1 : ∀ j, j < i + 1 → nup pl i (nmV T st) j < P := fun j hj => by
        unfold nup
        by_cases c : j = i
        · rw [if_pos c]; exact o.1
        · rw [if_neg c]; exact h1 j (by omega)
      have u2 : ∀ j, j + 1 < i + 1 → nup pl i (nmV T st) j ≠ nup pl i (nmV T st) (j + 1) := fun j hj => by
        unfold nup
        rw [if_neg (by omega)]
        by_cases c : j + 1 = i
        · rw [if_pos c]
          rw [show i - 1 = j by omega] at o2
          exact fun z => o2 z.symm
        · rw [if_neg c]; exact h2 j (by omega)
      rw [e] at g ⊢
      by_cases c : tk T q2 = 2
      · rw [if_pos c] at g ⊢
        exact wlk_ok n (by omega) (by omega) u1 u2 g
      · rw [if_neg c]
        exact ⟨by show 2 ≤ i + 1; omega, by show i + 1 ≤ 7; omega, u1, u2⟩
theorem gd_wk {P : Nat} : ∀ (n : Nat) {pl : Nat → Nat} {i : Nat} {st : St}, gd (wlk T P n pl i st).1 = true → gd st = true
  | 0, pl, i, st, g => by
    rcases st with x | q
    · cases (show gd (fl3 (.inl x) (otS T P (wlo pl i) (.inl x))) = true from g)
    · rfl
  | n + 1, pl, i, st, g => by
    rcases st with x | q
    · cases (show gd (.inl x) = true from g)
    · rfl
theorem PK_walk (h : PK K) (h5 : 0 < kh K 5) (hl : kh K 5 < 2000) (hr : kh K 4 < 10) (g : gd (wkr T K st).1 = true) : PK (incL (wkK T K st)) := by
  obtain ⟨ok, h11, h30, hpd, _⟩ := h
  obtain ⟨p1, p2⟩ := hpd h5
  have g5 : gd (wk5 T K st) = true := gd_wk 6 g
  have g4 : gd (wk4 T K st) = true := gd_wd g5
  have g3 : gd (wk3 T K st) = true := gd_wd (gd_nm g4)
  have g2 : gd (wk2 T st) = true := gd_wd (gd_nm g3)
  have g1 : gd (wk1 T st) = true := gd_wd (gd_nm g2)
  have n1 := (nm_le g1).2
  have n2 : 1 ≤ nmV T (wka T st) ∧ nmV T (wka T st) ≤ 9 := nm_le g2
  have n3 : 0 ≤ nmV T (wkb T st) ∧ nmV T (wkb T st) ≤ kh K 1 - 1 := nm_le g3
  have n4 : 0 ≤ nmV T (wkc T K st) ∧ nmV T (wkc T K st) ≤ kh K 0 - 1 := nm_le g4
  have w := wlk_ok (T := T) (P := kh K 0) 6 (pl := fun _ => nmV T (wkc T K st)) (i := 1) (st := wk5 T K st) (by decide) (by decide) (fun j hj => by omega) (fun j hj => by omega) g
  change 2 ≤ (wkr T K st).2.2 ∧ (wkr T K st).2.2 ≤ 7 ∧ (∀ j, j < (wkr T K st).2.2 → (wkr T K st).2.1 j < kh K 0) ∧ ∀ j, j + 1 < (wkr T K st).2.2 → (wkr T K st).2.1 j ≠ (wkr T K st).2.1 (j + 1) at w
  unfold wkK
  generalize wkr T K st = r at w
  obtain ⟨k0, k1, k2, k3, k4, k5, k6, k7, k8, k9, k10, k11, k12, kz, kR, kL, kW, kU⟩ := ok
  refine ⟨⟨k0, k1, k2, k3, ?_, ?_, k6, k7, k8, k9, k10, k11, k12, ?_, kR, kL, fun i hi => ?_, kU⟩, h11, h30, fun _ => ⟨p1, p2⟩, fun q => by cases q⟩
  · show kh K 4 + 1 ≤ 10; omega
  · show kh K 5 + 1 ≤ 2000; omega
  · show 0 < kh K 5 + 1 ↔ 0 < kh K 0; omega
  · have hi' : i < kh K 4 + 1 := hi
    have el : kw (incL (addW K (wkG (nmV T st) (nmV T (wka T st)) (nmV T (wkb T st)) r))) i = if i = kh K 4 then wkG (nmV T st) (nmV T (wka T st)) (nmV T (wkb T st)) r else kw K i := rfl
    rw [el]
    by_cases q : i = kh K 4
    · rw [if_pos q]
      refine ⟨n1, n2.1, n2.2, ?_, w.1, w.2.1, fun j hj => ?_, fun j hj => ?_⟩
      · show nmV T (wkb T st) < kh K 1; omega
      · rw [wkG_4]; exact w.2.2.1 j hj
      · rw [wkG_4, show 4 + j + 1 = 4 + (j + 1) by omega, wkG_4]; exact w.2.2.2 j hj
    · rw [if_neg q]; exact kW i (by omega)
theorem PK_flood (h : PK K) (h5 : 0 < kh K 5) (hl : kh K 5 < 2000) (g : gd (fd2 T K st) = true) : PK (incL (fdK T K st)) := by
  obtain ⟨ok, h11, h30, hpd, _⟩ := h
  obtain ⟨p1, p2⟩ := hpd h5
  have n3 : 0 ≤ nmV T (fd1 T st) ∧ nmV T (fd1 T st) ≤ kh K 1 - 1 := nm_le g
  obtain ⟨k0, k1, k2, k3, k4, k5, k6, k7, k8, k9, k10, k11, k12, kz, kR, kL, kW, kU⟩ := ok
  refine ⟨⟨k0, k1, k2, k3, k4, ?_, k6, k7, k8, k9, k10, k11, ?_, ?_, kR, kL, kW, kU⟩, h11, h30, fun _ => ⟨p1, p2⟩, fun q => by cases q⟩
  · show kh K 5 + 1 ≤ 2000; omega
  · show kh K 12 ||| 2 ^ nmV T (fd1 T st) < 2 ^ 30
    exact Nat.or_lt_two_pow k12 (Nat.pow_lt_pow_right (by decide) (by omega))
  · show 0 < kh K 5 + 1 ↔ 0 < kh K 0; omega
theorem PK_law (h : PK K) (h5 : 0 < kh K 5) (hl : kh K 5 < 2000) {k : Nat} : PK (incL (lawH K k)) := by
  obtain ⟨ok, h11, h30, hpd, _⟩ := h
  obtain ⟨p1, p2⟩ := hpd h5
  have hm : lwm k = 3 ∨ lwm k = 4 := by unfold lwm; split <;> simp
  have hv : lwv k ≤ 1 := by unfold lwv; split <;> omega
  have ek : ∀ j, j ≠ 5 → j ≠ 9 → j ≠ 10 → kh (incL (lawH K k)) j = kh K j := fun j h5 h9 h10 => by
    show (if j = 5 then _ else if j = 6 + lwm k then lwv k else kh K j) = _
    rw [if_neg h5, if_neg (by omega)]
  have e9 : ∀ j, j = 9 ∨ j = 10 → kh K j ≤ 1 → kh (incL (lawH K k)) j ≤ 1 := fun j hj hk => by
    show (if j = 5 then _ else if j = 6 + lwm k then lwv k else kh K j) ≤ 1
    rw [if_neg (by omega)]
    split
    · exact hv
    · exact hk
  have e5 : kh (incL (lawH K k)) 5 = kh K 5 + 1 := by
    show (if (5 : Nat) = 6 + lwm k then lwv k else kh K 5) + 1 = _
    rw [if_neg (by omega)]
  have eR : kr (incL (lawH K k)) = kr K := rfl
  have eL : kl (incL (lawH K k)) = kl K := rfl
  have eW : kw (incL (lawH K k)) = kw K := rfl
  obtain ⟨k0, k1, k2, k3, k4, k5, k6, k7, k8, k9, k10, k11, k12, kz, kR, kL, kW, kU⟩ := ok
  unfold PK KOK R30
  rw [eR, eL, eW, e5, ek 0 (by decide) (by decide) (by decide), ek 1 (by decide) (by decide) (by decide), ek 2 (by decide) (by decide) (by decide), ek 3 (by decide) (by decide) (by decide), ek 4 (by decide) (by decide) (by decide), ek 6 (by decide) (by decide) (by decide), ek 7 (by decide) (by decide) (by decide), ek 8 (by decide) (by decide) (by decide), ek 11 (by decide) (by decide) (by decide), ek 12 (by decide) (by decide) (by decide)]
  exact ⟨⟨k0, k1, k2, k3, k4, by omega, k6, k7, k8, e9 9 (by decide) k9, e9 10 (by decide) k10, k11, k12, by omega, kR, kL, kW, kU⟩, h11, h30, fun _ => ⟨p1, p2⟩, fun q => absurd q (by omega)⟩
theorem PK_first (g : gd (pf6 T st) = true) : PK (incL (firK T st)) := by
  have g5 : gd (pf5 T st) = true := gd_wd (gd_nm g)
  have g4 : gd (pf4 T st) = true := gd_wd (gd_nm g5)
  have g3 : gd (pf3 T st) = true := gd_wd (gd_nm g4)
  have g2 : gd (pf2 T st) = true := gd_wd (gd_nm g3)
  have n6 := (nm_le g).2
  have n5 := (nm_le g5).2
  have n4 := (nm_le g4).2
  have n3 := nm_le g3
  have n2 := nm_le g2
  refine ⟨⟨n2.2, n3.2, (show (0 : Nat) ≤ 12 by decide), (show (0 : Nat) ≤ 8 by decide), (show (0 : Nat) ≤ 10 by decide), (show (1 : Nat) ≤ 2000 by decide), n4, n5, n6, (show (1 : Nat) ≤ 1 by decide), (show (0 : Nat) ≤ 1 by decide), (show (0 : Nat) ≤ 1 by decide), (show (0 : Nat) < 2 ^ 30 by decide), ?_, fun i hi => absurd hi (Nat.not_lt_zero _), fun i hi => ?_, fun i hi => absurd hi (Nat.not_lt_zero _), fun i j hi => absurd hi (Nat.not_lt_zero _)⟩, rfl, fun i hi => absurd hi (Nat.not_lt_zero _), fun _ => ⟨n2.1, n3.1⟩, fun q => by cases q⟩
  · exact ⟨fun _ => Nat.lt_of_lt_of_le (by decide) n2.1, fun _ => show (0 : Nat) < 1 by decide⟩
  · rcases hi with hi | hi
    · exact absurd hi (Nat.not_lt_zero _)
    · exact absurd hi.2 (by show ¬ (0 : Nat) = 1; decide)
theorem srt_le : srt T s ≤ 6 := by
  unfold srt
  repeat' split
  all_goals omega
theorem PK_step (h : PK K) (hl : kh K 5 < 2000) (g : gd (endS T (bodS T K s)) = true) : PK (incL (bodK T K s)) := by
  have gb := gd_end g
  have hs := srt_le (T := T) (s := s)
  have k2 := h.1.2.2.1
  have k3 := h.1.2.2.2.1
  have k4 := h.1.2.2.2.2.1
  unfold bodS at gb
  unfold bodK
  by_cases c : kh K 5 = 0
  · rw [if_pos c] at gb ⊢
    exact PK_first gb
  · rw [if_neg c] at gb ⊢
    have h5 : 0 < kh K 5 := by omega
    by_cases c0 : srt T s = 0
    · rw [show linS T K s = _ from if_pos c0] at gb
      rw [show linK T K s = _ from if_pos c0]
      by_cases cc : kh K 2 = 12
      · rw [if_pos cc] at gb; cases gb
      · rw [if_neg cc] at gb
        exact PK_road h h5 hl (by omega) gb
    · by_cases c1 : srt T s < 4
      · obtain ⟨k, hk⟩ : ∃ k, srt T s = k + 1 := ⟨srt T s - 1, by omega⟩
        rw [(lin_1 hk (by omega)).1] at gb
        rw [(lin_1 hk (by omega)).2]
        by_cases cc : kh K 3 = 8
        · rw [if_pos cc] at gb; cases gb
        · rw [if_neg cc] at gb
          exact PK_lane h h5 hl (by omega) (by omega) gb
      · by_cases c4 : srt T s = 4
        · rw [(lin_4 c4).1] at gb
          rw [(lin_4 c4).2]
          exact PK_flood h h5 hl gb
        · by_cases c5 : srt T s = 5
          · rw [(lin_5 c5).1] at gb
            rw [(lin_5 c5).2]
            by_cases cc : kh K 4 = 10
            · rw [if_pos cc] at gb; cases gb
            · rw [if_neg cc] at gb
              exact PK_walk h h5 hl (by omega) gb
          · rw [(lin_6 (by omega)).2]
            exact PK_law h h5 hl
end PKS
end
section
/-! THE TEXT READ: the reference. -/
def flt : St → Nat × Option Nat
  | .inl x => (x.1, some x.2)
  | .inr _ => (0, none)
def kinR (T : TP) : St × KD := prsT T 2001 (.inr (bl T 0)) K0
def kinA (T : TP) : Int32 := if gd (kinR T).1 = true then nI (kh (kinR T).2 5) else -4
def kinN (T : TP) (K : KD) : KD := if gd (kinR T).1 = true then (kinR T).2 else K
def FrKin (σ σ' : MS) : Prop := (∀ j, List.elem j [6, 7, 8, 9, 10, 12, 13, 14, 15] = false → σ'.1 j = σ.1 j) ∧ (∀ k, List.elem k [5, 6, 7, 9, 10, 11] = false → σ'.2.2.1 k = σ.2.2.1 k) ∧ (∀ k, k ≠ 8 → σ'.2.2.2 k = σ.2.2.2 k) ∧ ∀ s K, 1 ≤ s → s < 4 → KOK K → RepM σ s K → RepM σ' s K
section KIN
variable {d : Nat} {M : AM} {σ σ' τ τ' : MS} {T : TP} {st : St} {K : KD} {Q : Option Value → AM → Prop}
theorem m_clears_l : ∀ (n i : Nat) {τ : MS}, i + n = 5 → FrK σ τ → τ.2.2.1 5 4 = nI 0 → (∀ j, j < i → τ.2.2.1 6 (20 + j) = nI 0 ∧ τ.2.2.1 7 (20 + j) = nI (if j = 3 then 1 else 0)) → Wp d md_161 9 [some (.ref 287), some (.int (nI i))] [] (mset M τ) (fun v M' => v = none ∧ ∃ σ', M' = mset M σ' ∧ FrK σ σ' ∧ BM σ' K0)
  | 0, i, τ, hn, f, h5, h => by
    refine Wp.n (pc' := 11) 2 rfl ?_
    refine Wp.nc3 (x := i) (y := 5) (tgt := 49) (len := 3) rfl (by omega) (by omega) (fun h11 => ?_) (fun h11 => ?_)
    · skip
      refine Wp.n (pc' := 55) 4 rfl ?_
      refine Wp.mlastN (j := 4) (len := 1) rfl rfl rfl (by omega) ?_
      refine Wp.retV (len := 1) rfl rfl ?_
      have hl : ∀ j, j < 5 → τ.2.2.1 7 (20 + j) = nI (kh K0 (6 + j)) := fun j hj => by
        rw [(h j (by omega)).2]
        show _ = nI (if 6 + j = 9 then 1 else 0)
        by_cases c : j = 3
        · rw [if_pos c, if_pos (by omega)]
        · rw [if_neg c, if_neg (by omega)]
      refine ⟨rfl, _, rfl, f.t FrK.l, ⟨fun j hj => ?_, fun h0 => absurd h0 (by decide), h5, ?_, fun i hi => absurd hi (Nat.not_lt_zero _), fun i hi => ?_, fun i hi => absurd hi (Nat.not_lt_zero _)⟩, hl, rfl⟩
      · show τ.2.2.1 6 (20 + j) = nI (if j = 9 then 1 else 0)
        rw [if_neg (by omega)]; exact (h j (by omega)).1
      · show vp_updL (τ.2.2.2 8) 4 _ 4 = _
        rw [lu_s]
        rfl
      · rcases hi with hi | hi
        · exact absurd hi (Nat.not_lt_zero _)
        · exact absurd hi.2 (by show ¬ (0 : Nat) = 1; decide)
    · omega
  | n + 1, i, τ, hn, f, h5, h => by
    have nx2 : ∀ (x : Int32), x = nI (if i = 3 then 1 else 0) → Wp d md_161 9 [some (.ref 287), some (.int (nI (i + 1)))] [] (mset M (aset (aset τ 6 (upd (τ.2.2.1 6) (20 + i) 0)) 7 (upd ((aset τ 6 (upd (τ.2.2.1 6) (20 + i) 0)).2.2.1 7) (20 + i) x))) (fun v M' => v = none ∧ ∃ σ', M' = mset M σ' ∧ FrK σ σ' ∧ BM σ' K0) := by
      intro x hx
      refine m_clears_l n (i + 1) (by omega) (f.t ((FrK.a (by unfold dcl; omega)).t (FrK.a (by unfold dcl; omega)))) h5 (fun j hj => ?_)
      refine ⟨?_, ?_⟩
      · show upd (τ.2.2.1 6) (20 + i) 0 (20 + j) = _
        by_cases c : j = i
        · rw [c, pk_us]; rfl
        · rw [pk_un (by omega)]; exact (h j (by omega)).1
      · show upd (τ.2.2.1 7) (20 + i) x (20 + j) = _
        by_cases c : j = i
        · rw [c, pk_us, hx]
        · rw [pk_un (by omega)]; exact (h j (by omega)).2
    refine Wp.n (pc' := 11) 2 rfl ?_
    refine Wp.nc3 (x := i) (y := 5) (tgt := 49) (len := 3) rfl (by omega) (by omega) (fun h11 => ?_) (fun h11 => ?_)
    · omega
    · skip
      refine Wp.n (pc' := 21) 4 rfl ?_
      refine Wp.iaddN (x := 20) (y := i) (len := 1) rfl ?_
      refine Wp.n (pc' := 23) 1 rfl ?_
      refine Wp.miastN (j := 20 + i) (len := 1) rfl rfl rfl (by omega) ?_
      refine Wp.n (pc' := 31) 4 rfl ?_
      refine Wp.iaddN (x := 20) (y := i) (len := 1) rfl ?_
      refine Wp.n (pc' := 34) 2 rfl ?_
      refine Wp.nc1 (x := i) (y := 3) (tgt := 41) (len := 3) rfl (by omega) (by omega) (fun h34 => ?_) (fun h34 => ?_)
      · skip
        refine Wp.n (pc' := 42) 1 rfl ?_
        refine Wp.miastN (j := 20 + i) (len := 1) rfl rfl rfl (by omega) ?_
        refine Wp.incN (x := i) (len := 3) rfl rfl ?_
        refine Wp.n (pc' := 9) 1 rfl ?_
        first
          | (have q : i = 3 := h34
             exact nx2 1 (by rw [if_pos q]; rfl))
          | (have q : ¬ i = 3 := h34
             exact nx2 0 (by rw [if_neg q]; rfl))
      · skip
        refine Wp.n (pc' := 42) 2 rfl ?_
        refine Wp.miastN (j := 20 + i) (len := 1) rfl rfl rfl (by omega) ?_
        refine Wp.incN (x := i) (len := 3) rfl rfl ?_
        refine Wp.n (pc' := 9) 1 rfl ?_
        first
          | (have q : i = 3 := h34
             exact nx2 1 (by rw [if_pos q]; rfl))
          | (have q : ¬ i = 3 := h34
             exact nx2 0 (by rw [if_neg q]; rfl))
theorem m_clears : Wp d md_161 0 [some (.ref 287), none] [] (mset M σ) (fun v M' => v = none ∧ ∃ σ', M' = mset M σ' ∧ FrK σ σ' ∧ BM σ' K0) := by
  refine Wp.n (pc' := 6) 4 rfl ?_
  refine Wp.miastN (j := 4) (len := 1) rfl rfl rfl (by omega) ?_
  refine Wp.n (pc' := 9) 2 rfl ?_
  exact m_clears_l 5 0 (by decide) (FrK.a (by unfold dcl; omega)) (show upd (σ.2.2.1 5) 4 0 4 = _ by rw [pk_us]; rfl) (fun j hj => by omega)
theorem m_begins (hT : TM σ T) : Wp (d + 2) md_162 0 [some (.ref 287)] [] (mset M σ) (fun v M' => v = none ∧ RdB M σ T (.inr (bl T 0)) M') := by
  refine Wp.n (pc' := 2) 2 rfl ?_
  refine Wp.mput (len := 3) rfl rfl ?_
  refine Wp.n (pc' := 7) 2 rfl ?_
  refine Wp.mput (len := 3) rfl rfl ?_
  refine Wp.n (pc' := 12) 2 rfl ?_
  refine Wp.mput (len := 3) rfl rfl ?_
  refine Wp.n (pc' := 16) 1 rfl ?_
  refine Wp.callV (len := 3) rfl rfl rfl (rfl) rfl (by decide) rfl (m_next (p := 0) (FrB.T ((FrB.f rfl).t ((FrB.f rfl).t (FrB.f rfl))) hT) (Nat.zero_le _) rfl) ?_
  rintro _ _ ⟨rfl, τ, rfl, f, h⟩
  refine Wp.retV (len := 1) rfl rfl ?_
  exact ⟨rfl, τ, rfl, ((FrB.f rfl).t ((FrB.f rfl).t (FrB.f rfl))).t f.b, f.1 12 rfl, h⟩
theorem m_isOver (hL : LM σ T st) (hT : TM σ T) : Wp d md_183 0 [some (.ref 287)] [] (mset M σ) (fun v M' => v = none ∧ ∃ σ', M' = mset M σ' ∧ (∀ j, List.elem j [6, 14, 15] = false → σ'.1 j = σ.1 j) ∧ σ'.2 = σ.2 ∧ FM σ' (flt st) ∧ TM σ' (0, T.2)) := by
  have e : ∀ (a b c : Int32) j, List.elem j [6, 14, 15] = false → (fset (fset (fset σ 6 a) 14 b) 15 c).1 j = σ.1 j := fun a b c j hj => (pk_un (fun q => by rw [q] at hj; cases hj)).trans ((pk_un (fun q => by rw [q] at hj; cases hj)).trans (pk_un (fun q => by rw [q] at hj; cases hj)))
  rcases st with x | s
  · have x1 := hL.2.1
    have x3 := hL.2.2.1
    refine Wp.n (pc' := 2) 2 rfl ?_
    refine Wp.mput (len := 3) rfl rfl ?_
    refine Wp.n (pc' := 10) 3 rfl ?_
    refine Wp.top hL.1 ?_
    refine Wp.mput (len := 3) rfl rfl ?_
    refine Wp.n (pc' := 18) 3 rfl ?_
    refine Wp.top hL.1 ?_
    refine Wp.nz1 (x := x.1) (tgt := 25) (len := 3) rfl (by omega) (fun h18 => ?_) (fun h18 => ?_)
    · skip
      refine Wp.n (pc' := 29) 2 rfl ?_
      refine Wp.top hL.2.2.2.1 ?_
      refine Wp.mput (len := 3) rfl rfl ?_
      refine Wp.retV (len := 1) rfl rfl ?_
      exact ⟨rfl, _, rfl, e _ _ _, rfl, ⟨rfl, rfl⟩, rfl, Nat.zero_le _, fun i hi => absurd hi (Nat.not_lt_zero _)⟩
    · omega
  · skip
    refine Wp.n (pc' := 2) 2 rfl ?_
    refine Wp.mput (len := 3) rfl rfl ?_
    refine Wp.n (pc' := 10) 3 rfl ?_
    refine Wp.top hL.1 ?_
    refine Wp.mput (len := 3) rfl rfl ?_
    refine Wp.n (pc' := 18) 3 rfl ?_
    refine Wp.top hL.1 ?_
    refine Wp.nz1 (x := 0) (tgt := 25) (len := 3) rfl (by omega) (fun h18 => ?_) (fun h18 => ?_)
    · omega
    · skip
      refine Wp.n (pc' := 29) 2 rfl ?_
      refine Wp.mput (len := 3) rfl rfl ?_
      refine Wp.retV (len := 1) rfl rfl ?_
      exact ⟨rfl, _, rfl, e _ _ _, rfl, ⟨rfl, rfl⟩, rfl, Nat.zero_le _, fun i hi => absurd hi (Nat.not_lt_zero _)⟩
theorem bod_5 {s : Nat} : kh (bodK T K s) 5 = kh K 5 := by
  unfold bodK
  by_cases c : kh K 5 = 0
  · rw [if_pos c, c]; rfl
  · rw [if_neg c]
    unfold linK
    split
    · rfl
    · split
      · rfl
      · split
        · rfl
        · split
          · rfl
          · have hm : ∀ k, lwm k = 3 ∨ lwm k = 4 := fun k => by unfold lwm; split <;> simp
            exact if_neg (by have := hm (lwq T (lw1 T (.inr s))); omega)
theorem BM_inc (hB : BM σ K) : BM (aset σ 5 (upd (σ.2.2.1 5) 4 (nI (kh K 5 + 1)))) (incL K) := by
  obtain ⟨⟨h1, h2, h3, h4, h5, h6, h7⟩, hl, h11⟩ := hB
  have ek : ∀ j, j ≠ 5 → kh (incL K) j = kh K j := fun j hj => if_neg hj
  have hl' : ∀ j, j < 5 → σ.2.2.1 7 (20 + j) = nI (kh (incL K) (6 + j)) := fun j hj => by rw [ek (6 + j) (by omega)]; exact hl j hj
  refine ⟨⟨fun j hj => ?_, fun _ => hl', ?_, h4, h5, h6, h7⟩, hl', h11⟩
  · rw [ek j (by omega)]; exact h1 j hj
  · show upd (σ.2.2.1 5) 4 _ 4 = _
    rw [pk_us]; rfl
theorem m_kin_l (hT : TM σ T) {r : St × KD} (kk : ∀ τ', FrK σ τ' → LM τ' T r.1 → (gd r.1 = true → BM τ' r.2 ∧ PK r.2) → Wp (d + 8) md_160 71 [some (.ref 287)] [] (mset M τ') Q) : ∀ (n : Nat) {st : St} {K : KD} {τ : MS}, FrK σ τ → LM τ T st → (gd st = true → BM τ K ∧ PK K) → (∀ s, st = .inr s → kh K 5 ≤ s ∧ T.1 - s < n) → prsT T n st K = r → Wp (d + 8) md_160 13 [some (.ref 287)] [] (mset M τ) Q
  | n, .inl x, K, τ, f, l, hB, hs, hr => by
    have e : r = (.inl x, K) := by
      rw [← hr]
      cases n <;> rfl
    subst e
    refine Wp.n (pc' := 14) 1 rfl ?_
    refine Wp.ecallV (len := 3) rfl rfl rfl (rfl) rfl (by decide) rfl (m_isGood l) ?_
    refine Wp.ifb0 (tgt := 71) (len := 3) rfl (fun h17 => ?_) (fun h17 => ?_)
    · skip
      exact kk τ f l (fun q => by cases q)
    · cases h17
  | 0, .inr s, K, τ, f, l, hB, hs, hr => absurd (hs s rfl).2 (Nat.not_lt_zero _)
  | n + 1, .inr s, K, τ, f, l, hB, hs, hr => by
    obtain ⟨hB1, hP⟩ := hB rfl
    obtain ⟨s5, sn⟩ := hs s rfl
    obtain ⟨l12, lN_⟩ := id l
    have sT := lN_.2.2.2.2.2
    have t20 := hT.2.1
    have t4 := tk_le (T := T) (s := s)
    have ok := hP.1
    have k5 := (ok_h ok).2.2.2.2.2.1
    by_cases c0 : tk T s = 0
    · have e : r = (.inr s, K) := by
        rw [← hr]
        exact if_pos c0
      subst e
      refine Wp.n (pc' := 14) 1 rfl ?_
      refine Wp.ecallV (len := 3) rfl rfl rfl (rfl) rfl (by decide) rfl (m_isGood l) ?_
      refine Wp.ifb0 (tgt := 71) (len := 3) rfl (fun h17 => ?_) (fun h17 => ?_)
      · cases h17
      · skip
        refine Wp.n (pc' := 24) 2 rfl ?_
        refine Wp.top lN_.2.1 ?_
        refine Wp.nz0 (x := tk T s) (tgt := 71) (len := 3) rfl (by omega) (fun h24 => ?_) (fun h24 => ?_)
        · skip
          exact kk τ f l (fun _ => ⟨hB1, hP⟩)
        · omega
    · have st0 : s < T.1 := by
        by_cases c : s < T.1
        · exact c
        · exact absurd (tk_0.mpr (by omega)) c0
      have e : r = prsT T n (endS T (bodS T K s)) (incL (bodK T K s)) := by
        rw [← hr]
        exact if_neg c0
      have tail : ∀ τ1, FrK τ τ1 → LM τ1 T (bodS T K s) → (gd (bodS T K s) = true → BM τ1 (bodK T K s)) → Wp (d + 8) md_160 47 [some (.ref 287)] [] (mset M τ1) Q := by
        intro τ1 f1 l1 b1
        have hT1 := (f.t f1).T hT
        rcases hq : bodS T K s with x | s1
        · rw [hq] at l1
          have es : endS T (bodS T K s) = .inl x := by rw [hq]; rfl
          rw [es] at e
          refine Wp.n (pc' := 48) 1 rfl ?_
          refine Wp.ecallV (len := 3) rfl rfl rfl (rfl) rfl (by decide) rfl (m_isGood l1) ?_
          refine Wp.ifb0 (tgt := 58) (len := 3) rfl (fun h51 => ?_) (fun h51 => ?_)
          · skip
            refine Wp.n (pc' := 64) 4 rfl ?_
            refine Wp.mialdN (j := 4) (len := 1) rfl rfl rfl (by omega) ?_
            refine Wp.n (pc' := 67) 2 rfl ?_
            refine Wp.miastN (j := 4) (len := 1) rfl rfl rfl (by omega) ?_
            refine Wp.n (pc' := 13) 1 rfl ?_
            exact m_kin_l hT kk n (f.t (f1.t (FrK.a (by unfold dcl; omega)))) (LM_a (st := .inl x) l1) (fun q => by cases q) (fun s q => by cases q) e.symm
          · cases h51
        · rw [hq] at l1 b1
          have b2 := b1 rfl
          refine Wp.n (pc' := 48) 1 rfl ?_
          refine Wp.ecallV (len := 3) rfl rfl rfl (rfl) rfl (by decide) rfl (m_isGood l1) ?_
          refine Wp.ifb0 (tgt := 58) (len := 3) rfl (fun h51 => ?_) (fun h51 => ?_)
          · cases h51
          · skip
            refine Wp.n (pc' := 55) 1 rfl ?_
            refine Wp.callV (len := 3) rfl rfl rfl (rfl) rfl (by decide) rfl (m_ends (d := d + 5) hT1 l1) ?_
            rintro _ _ ⟨rfl, τ2, rfl, f2, l2⟩
            have b3 := BM_b b2 f2
            refine Wp.n (pc' := 64) 4 rfl ?_
            refine Wp.mialdN (j := 4) (len := 1) rfl rfl rfl (by omega) ?_
            refine Wp.top (b3.1.2.2.1.trans (congrArg nI bod_5)) ?_
            refine Wp.n (pc' := 66) 1 rfl ?_
            refine Wp.iaddN (x := kh K 5) (y := 1) (len := 1) rfl ?_
            refine Wp.miastN (j := 4) (len := 1) rfl rfl rfl (by omega) ?_
            refine Wp.n (pc' := 13) 1 rfl ?_
            refine m_kin_l hT kk n (f.t (f1.t (f2.k.t (FrK.a (by unfold dcl; omega))))) (st := endS T (bodS T K s)) (by rw [hq]; exact LM_a l2) (fun g => ⟨?_, ?_⟩) (fun s' q => ?_) e.symm
            · have w := BM_inc b3
              rw [bod_5] at w
              exact w
            · exact PK_step hP (by omega) g
            · have h1 := step_lt sT q
              have h2 : kh (incL (bodK T K s)) 5 = kh K 5 + 1 := by
                show kh (bodK T K s) 5 + 1 = _
                rw [bod_5]
              omega
      by_cases c5 : kh K 5 = 0
      · have eK := hP.2.2.2.2 c5
        subst eK
        refine Wp.n (pc' := 14) 1 rfl ?_
        refine Wp.ecallV (len := 3) rfl rfl rfl (rfl) rfl (by decide) rfl (m_isGood l) ?_
        refine Wp.ifb0 (tgt := 71) (len := 3) rfl (fun h17 => ?_) (fun h17 => ?_)
        · cases h17
        · skip
          refine Wp.n (pc' := 24) 2 rfl ?_
          refine Wp.top lN_.2.1 ?_
          refine Wp.nz0 (x := tk T s) (tgt := 71) (len := 3) rfl (by omega) (fun h24 => ?_) (fun h24 => ?_)
          · omega
          · skip
            refine Wp.n (pc' := 32) 3 rfl ?_
            refine Wp.mialdN (j := 4) (len := 1) rfl rfl rfl (by omega) ?_
            refine Wp.top hB1.1.2.2.1 ?_
            refine Wp.nz1 (x := 0) (tgt := 43) (len := 3) rfl (by omega) (fun h33 => ?_) (fun h33 => ?_)
            · omega
            · skip
              refine Wp.n (pc' := 37) 1 rfl ?_
              refine Wp.callV (len := 3) rfl rfl rfl (rfl) rfl (by decide) rfl (m_first (d := d + 2) (f.T hT) l hB1) ?_
              rintro _ _ ⟨rfl, τ1, rfl, f1, l1, b1⟩
              refine Wp.n (pc' := 47) 1 rfl ?_
              exact tail τ1 f1 l1 b1
      · obtain ⟨p1, p2⟩ := hP.2.2.2.1 (by omega)
        have eS : bodS T K s = linS T K s := if_neg c5
        have eK : bodK T K s = linK T K s := if_neg c5
        refine Wp.n (pc' := 14) 1 rfl ?_
        refine Wp.ecallV (len := 3) rfl rfl rfl (rfl) rfl (by decide) rfl (m_isGood l) ?_
        refine Wp.ifb0 (tgt := 71) (len := 3) rfl (fun h17 => ?_) (fun h17 => ?_)
        · cases h17
        · skip
          refine Wp.n (pc' := 24) 2 rfl ?_
          refine Wp.top lN_.2.1 ?_
          refine Wp.nz0 (x := tk T s) (tgt := 71) (len := 3) rfl (by omega) (fun h24 => ?_) (fun h24 => ?_)
          · omega
          · skip
            refine Wp.n (pc' := 32) 3 rfl ?_
            refine Wp.mialdN (j := 4) (len := 1) rfl rfl rfl (by omega) ?_
            refine Wp.top hB1.1.2.2.1 ?_
            refine Wp.nz1 (x := kh K 5) (tgt := 43) (len := 3) rfl (by omega) (fun h33 => ?_) (fun h33 => ?_)
            · skip
              refine Wp.n (pc' := 44) 1 rfl ?_
              refine Wp.callV (len := 3) rfl rfl rfl (rfl) rfl (by decide) rfl (m_line (d := d + 1) (f.T hT) l hB1 ok p1 p2) ?_
              rintro _ _ ⟨rfl, τ1, rfl, f1, l1, b1⟩
              exact tail τ1 f1 (by rw [eS]; exact l1) (by rw [eS, eK]; exact b1)
            · omega
theorem m_kingdom (hM : MK σ K) (h11 : kh K 11 = 0) (hT : TM σ T) : Wp (d + 9) md_160 0 [some (.ref 287)] [] (mset M σ) (fun v M' => v = some (.int (kinA T)) ∧ ∃ σ', M' = mset M σ' ∧ FrKin σ σ' ∧ MK σ' (kinN T K) ∧ FM σ' (flt (kinR T).1) ∧ TM σ' (0, T.2)) := by
  obtain ⟨hR0, ok, h25, hσ0⟩ := hM
  have t20 := hT.2.1
  refine Wp.n (pc' := 2) 2 rfl ?_
  refine Wp.mput0 (len := 3) rfl hσ0 ?_
  refine Wp.n (pc' := 6) 1 rfl ?_
  refine Wp.callV (len := 3) rfl rfl rfl (rfl) rfl (by decide) rfl (m_clears (d := d + 8)) ?_
  rintro _ _ ⟨rfl, τ1, rfl, f1, b1⟩
  refine Wp.n (pc' := 10) 1 rfl ?_
  refine Wp.callV (len := 3) rfl rfl rfl (rfl) rfl (by decide) rfl (m_begins (d := d + 6) (f1.T hT)) ?_
  rintro _ _ ⟨rfl, τ2, rfl, f2, l2⟩
  have b2 := BM_b b1 f2
  have hbl : bl T 0 ≤ T.1 := (tn_le (T := T) (p := isBl) (Nat.zero_le _)).2
  refine m_kin_l (d := d + 1) (r := kinR T) hT (fun τ f l hB => ?_) 2001 (f1.t f2.k) l2 (fun _ => ⟨b2, PK_K0⟩) (fun s q => ⟨Nat.zero_le _, by omega⟩) rfl
  refine Wp.n (pc' := 72) 1 rfl ?_
  refine Wp.callV (len := 3) rfl rfl rfl (rfl) rfl (by decide) rfl (m_isOver (d := d + 8) l (f.T hT)) ?_
  rintro _ _ ⟨rfl, τ3, rfl, g1, g2, hF, hT3⟩
  have e1 : ∀ j, List.elem j [6, 7, 8, 9, 10, 12, 13, 14, 15] = false → τ3.1 j = σ.1 j := fun j hj => (g1 j (elem_sub (F' := [6, 7, 8, 9, 10, 12, 13, 14, 15]) rfl hj)).trans (f.1 j (elem_sub (F' := [6, 7, 8, 9, 10, 12, 13, 14, 15]) rfl hj))
  have g12 : τ3.1 12 = τ.1 12 := g1 12 rfl
  refine Wp.n (pc' := 76) 1 rfl ?_
  rcases hq : (kinR T).1 with x | s
  · rw [hq] at l
    have x1 := l.2.1
    have x3 := l.2.2.1
    have ng : ¬ gd (kinR T).1 = true := by rw [hq]; exact Bool.false_ne_true
    refine Wp.n (pc' := 79) 1 rfl ?_
    refine Wp.top (g12.trans l.1) ?_
    refine Wp.nz0 (x := x.1) (tgt := 85) (len := 3) rfl (by omega) (fun h79 => ?_) (fun h79 => ?_)
    · omega
    · skip
      refine Wp.n (pc' := 84) 1 rfl ?_
      refine Wp.retI (len := 1) rfl rfl ?_
      refine ⟨by unfold kinA; rw [if_neg ng], τ3, rfl, ⟨e1, fun k hk => by rw [g2]; exact f.2.1 k hk, fun k hk => by rw [g2]; exact f.2.2.1 k hk, fun s K' h1 h4 okk hR => ?_⟩, ?_, by rw [hq] at hF; exact hF, hT3⟩
      · have w := f.rep h4 okk hR
        unfold RepM at w ⊢
        rw [g2]
        exact w
      · unfold kinN
        rw [if_neg ng]
        have w := f.rep (s := 0) (by decide) ok hR0
        refine ⟨?_, ok, (e1 25 rfl).trans h25, (e1 0 rfl).trans hσ0⟩
        unfold RepM at w ⊢
        rw [g2]
        exact w
  · rw [hq] at l
    have yg : gd (kinR T).1 = true := by rw [hq]; rfl
    obtain ⟨bK, pK⟩ := hB yg
    refine Wp.n (pc' := 79) 1 rfl ?_
    refine Wp.top (g12.trans l.1) ?_
    refine Wp.nz0 (x := 0) (tgt := 85) (len := 3) rfl (by omega) (fun h79 => ?_) (fun h79 => ?_)
    · skip
      refine Wp.n (pc' := 88) 3 rfl ?_
      refine Wp.callV (len := 3) rfl rfl rfl (rfl) rfl (by decide) rfl (m_copyKingdom (d := d + 7) (a := 4) (b := 0) (by decide) (by decide) (by decide)) ?_
      rintro _ _ ⟨rfl, τ4, rfl, hC⟩
      have bK3 : RepM τ3 4 (kinR T).2 := by
        have w := bK.1
        unfold RepM at w ⊢
        rw [g2]
        exact w
      have bK4 : RepM τ4 0 (kinR T).2 := CK_t hC pK.1 bK3
      have hL5 : τ4.2.2.1 5 0 = nI (kh (kinR T).2 5) := bK4.2.2.1
      refine Wp.n (pc' := 96) 3 rfl ?_
      refine Wp.mialdN (j := 0) (len := 1) rfl rfl rfl (by omega) ?_
      refine Wp.top hL5 ?_
      refine Wp.retI (len := 1) rfl rfl ?_
      refine ⟨by unfold kinA; rw [if_pos yg], τ4, rfl, ⟨fun j hj => by rw [hC.1]; exact e1 j hj, fun k hk => (hC.2.2.1 k hk).trans (by rw [g2]; exact f.2.1 k hk), fun k hk => (hC.2.2.2.1 k hk).trans (by rw [g2]; exact f.2.2.1 k hk), fun s K' h1 h4 okk hR => ?_⟩, ?_, ?_, ?_⟩
      · have w := f.rep h4 okk hR
        have w3 : RepM τ3 s K' := by
          unfold RepM at w ⊢
          rw [g2]
          exact w
        exact CK_o hC okk (by omega) w3
      · unfold kinN
        rw [if_pos yg]
        exact ⟨bK4, pK.1, by rw [hC.1, pK.2.1, e1 25 rfl, h25, h11], by rw [hC.1]; exact (e1 0 rfl).trans hσ0⟩
      · rw [hq] at hF
        unfold FM at hF ⊢
        rw [hC.1]
        exact hF
      · exact ⟨by rw [hC.1]; exact hT3.1, Nat.zero_le _, fun i hi => absurd hi (Nat.not_lt_zero _)⟩
    · omega
end KIN
end
section
/-! TOKENS: the class's way to the next one. -/
def kdc (x : Int32) : Nat := if isBl x = true then 4 else if isLt x = true then 1 else if isDg x = true then 2 else if x = 59 then 3 else 5
def ck (t : Nat) : Nat := if t = 4 then 5 else t
/-- only the reader differs -/
def FA (κ κ' : CS) : Prop := (∀ s, s ≠ 2 → κ'.1 s = κ.1 s) ∧ κ'.2 = κ.2
theorem FA.r {κ : CS} : FA κ κ := ⟨fun _ _ => rfl, rfl⟩
theorem FA.t {κ κ' κ'' : CS} (h : FA κ κ') (h' : FA κ' κ'') : FA κ κ'' := ⟨fun s hs => (h'.1 s hs).trans (h.1 s hs), h'.2.trans h.2⟩
theorem FA.f {κ : CS} {j : Nat} {x : Int32} : FA κ (cf κ 2 j x) := ⟨fun s hs => va_up_ne _ _ hs, rfl⟩
theorem FA.tc {κ κ' : CS} {T : TP} (h : FA κ κ') (hT : TC κ T) : TC κ' T := ⟨by rw [h.1 0 (by decide)]; exact hT.1, hT.2.1, fun i hi => by rw [h.2]; exact hT.2.2 i hi⟩
section CLX
variable {d : Nat} {M : AM} {κ κ' : CS} {T : TP} {Q : Option Value → AM → Prop}
theorem k_kindOf (x : Int32) : Ev d md_12 0 [some (.int x)] [] M (some (.int (nI (kdc x))), M) := by
  refine Wp.toEv ?_
  have e97 : (97 : Int32).toInt = 97 := rfl
  have e122 : (122 : Int32).toInt = 122 := rfl
  have e48 : (48 : Int32).toInt = 48 := rfl
  have e57 : (57 : Int32).toInt = 57 := rfl
  refine Wp.n (pc' := 3) 2 rfl ?_
  refine Wp.ic0 (tgt := 12) (len := 3) rfl (fun h3 => ?_) (fun h3 => ?_)
  · skip
    refine Wp.n (pc' := 13) 1 rfl ?_
    refine Wp.retI (len := 1) rfl rfl ?_
    refine ⟨?_, rfl⟩
    unfold kdc
    first
      | (have q : isBl x = true := decide_eq_true (by first | exact Or.inl h3 | exact Or.inr h9)
         rw [if_pos q]; rfl)
      | skip
    first
      | done
      | (have q : ¬ isBl x = true := fun z => by rcases of_decide_eq_true z with z | z; exact h3 z; exact h9 z
         rw [if_neg q])
    first
      | done
      | (have q1 : isLt x = true := decide_eq_true (by rw [i_lt] at h17 h23; omega)
         rw [if_pos q1]; rfl)
      | (have q1 : ¬ isLt x = true := fun z => by have := of_decide_eq_true z; rw [i_lt] at h17; omega
         rw [if_neg q1])
      | (have q1 : ¬ isLt x = true := fun z => by have := of_decide_eq_true z; rw [i_lt] at h23; omega
         rw [if_neg q1])
    first
      | done
      | (have q2 : isDg x = true := decide_eq_true (by rw [i_lt] at h31 h37; omega)
         rw [if_pos q2]; rfl)
      | (have q2 : ¬ isDg x = true := fun z => by have := of_decide_eq_true z; rw [i_lt] at h31; omega
         rw [if_neg q2])
      | (have q2 : ¬ isDg x = true := fun z => by have := of_decide_eq_true z; rw [i_lt] at h37; omega
         rw [if_neg q2])
    first
      | done
      | (rw [if_pos h45]; rfl)
      | (rw [if_neg h45]; rfl)
      | rfl
  · skip
    refine Wp.n (pc' := 9) 2 rfl ?_
    refine Wp.ic1 (tgt := 14) (len := 3) rfl (fun h9 => ?_) (fun h9 => ?_)
    · skip
      refine Wp.n (pc' := 17) 2 rfl ?_
      refine Wp.ic2 (tgt := 28) (len := 3) rfl (fun h17 => ?_) (fun h17 => ?_)
      · skip
        refine Wp.n (pc' := 31) 2 rfl ?_
        refine Wp.ic2 (tgt := 42) (len := 3) rfl (fun h31 => ?_) (fun h31 => ?_)
        · skip
          refine Wp.n (pc' := 45) 2 rfl ?_
          refine Wp.ic1 (tgt := 52) (len := 3) rfl (fun h45 => ?_) (fun h45 => ?_)
          · skip
            refine Wp.n (pc' := 53) 1 rfl ?_
            refine Wp.retI (len := 1) rfl rfl ?_
            refine ⟨?_, rfl⟩
            unfold kdc
            first
              | (have q : isBl x = true := decide_eq_true (by first | exact Or.inl h3 | exact Or.inr h9)
                 rw [if_pos q]; rfl)
              | skip
            first
              | done
              | (have q : ¬ isBl x = true := fun z => by rcases of_decide_eq_true z with z | z; exact h3 z; exact h9 z
                 rw [if_neg q])
            first
              | done
              | (have q1 : isLt x = true := decide_eq_true (by rw [i_lt] at h17 h23; omega)
                 rw [if_pos q1]; rfl)
              | (have q1 : ¬ isLt x = true := fun z => by have := of_decide_eq_true z; rw [i_lt] at h17; omega
                 rw [if_neg q1])
              | (have q1 : ¬ isLt x = true := fun z => by have := of_decide_eq_true z; rw [i_lt] at h23; omega
                 rw [if_neg q1])
            first
              | done
              | (have q2 : isDg x = true := decide_eq_true (by rw [i_lt] at h31 h37; omega)
                 rw [if_pos q2]; rfl)
              | (have q2 : ¬ isDg x = true := fun z => by have := of_decide_eq_true z; rw [i_lt] at h31; omega
                 rw [if_neg q2])
              | (have q2 : ¬ isDg x = true := fun z => by have := of_decide_eq_true z; rw [i_lt] at h37; omega
                 rw [if_neg q2])
            first
              | done
              | (rw [if_pos h45]; rfl)
              | (rw [if_neg h45]; rfl)
              | rfl
          · skip
            refine Wp.n (pc' := 53) 2 rfl ?_
            refine Wp.retI (len := 1) rfl rfl ?_
            refine ⟨?_, rfl⟩
            unfold kdc
            first
              | (have q : isBl x = true := decide_eq_true (by first | exact Or.inl h3 | exact Or.inr h9)
                 rw [if_pos q]; rfl)
              | skip
            first
              | done
              | (have q : ¬ isBl x = true := fun z => by rcases of_decide_eq_true z with z | z; exact h3 z; exact h9 z
                 rw [if_neg q])
            first
              | done
              | (have q1 : isLt x = true := decide_eq_true (by rw [i_lt] at h17 h23; omega)
                 rw [if_pos q1]; rfl)
              | (have q1 : ¬ isLt x = true := fun z => by have := of_decide_eq_true z; rw [i_lt] at h17; omega
                 rw [if_neg q1])
              | (have q1 : ¬ isLt x = true := fun z => by have := of_decide_eq_true z; rw [i_lt] at h23; omega
                 rw [if_neg q1])
            first
              | done
              | (have q2 : isDg x = true := decide_eq_true (by rw [i_lt] at h31 h37; omega)
                 rw [if_pos q2]; rfl)
              | (have q2 : ¬ isDg x = true := fun z => by have := of_decide_eq_true z; rw [i_lt] at h31; omega
                 rw [if_neg q2])
              | (have q2 : ¬ isDg x = true := fun z => by have := of_decide_eq_true z; rw [i_lt] at h37; omega
                 rw [if_neg q2])
            first
              | done
              | (rw [if_pos h45]; rfl)
              | (rw [if_neg h45]; rfl)
              | rfl
        · skip
          refine Wp.n (pc' := 37) 2 rfl ?_
          refine Wp.ic4 (tgt := 42) (len := 3) rfl (fun h37 => ?_) (fun h37 => ?_)
          · skip
            refine Wp.n (pc' := 45) 2 rfl ?_
            refine Wp.ic1 (tgt := 52) (len := 3) rfl (fun h45 => ?_) (fun h45 => ?_)
            · skip
              refine Wp.n (pc' := 53) 1 rfl ?_
              refine Wp.retI (len := 1) rfl rfl ?_
              refine ⟨?_, rfl⟩
              unfold kdc
              first
                | (have q : isBl x = true := decide_eq_true (by first | exact Or.inl h3 | exact Or.inr h9)
                   rw [if_pos q]; rfl)
                | skip
              first
                | done
                | (have q : ¬ isBl x = true := fun z => by rcases of_decide_eq_true z with z | z; exact h3 z; exact h9 z
                   rw [if_neg q])
              first
                | done
                | (have q1 : isLt x = true := decide_eq_true (by rw [i_lt] at h17 h23; omega)
                   rw [if_pos q1]; rfl)
                | (have q1 : ¬ isLt x = true := fun z => by have := of_decide_eq_true z; rw [i_lt] at h17; omega
                   rw [if_neg q1])
                | (have q1 : ¬ isLt x = true := fun z => by have := of_decide_eq_true z; rw [i_lt] at h23; omega
                   rw [if_neg q1])
              first
                | done
                | (have q2 : isDg x = true := decide_eq_true (by rw [i_lt] at h31 h37; omega)
                   rw [if_pos q2]; rfl)
                | (have q2 : ¬ isDg x = true := fun z => by have := of_decide_eq_true z; rw [i_lt] at h31; omega
                   rw [if_neg q2])
                | (have q2 : ¬ isDg x = true := fun z => by have := of_decide_eq_true z; rw [i_lt] at h37; omega
                   rw [if_neg q2])
              first
                | done
                | (rw [if_pos h45]; rfl)
                | (rw [if_neg h45]; rfl)
                | rfl
            · skip
              refine Wp.n (pc' := 53) 2 rfl ?_
              refine Wp.retI (len := 1) rfl rfl ?_
              refine ⟨?_, rfl⟩
              unfold kdc
              first
                | (have q : isBl x = true := decide_eq_true (by first | exact Or.inl h3 | exact Or.inr h9)
                   rw [if_pos q]; rfl)
                | skip
              first
                | done
                | (have q : ¬ isBl x = true := fun z => by rcases of_decide_eq_true z with z | z; exact h3 z; exact h9 z
                   rw [if_neg q])
              first
                | done
                | (have q1 : isLt x = true := decide_eq_true (by rw [i_lt] at h17 h23; omega)
                   rw [if_pos q1]; rfl)
                | (have q1 : ¬ isLt x = true := fun z => by have := of_decide_eq_true z; rw [i_lt] at h17; omega
                   rw [if_neg q1])
                | (have q1 : ¬ isLt x = true := fun z => by have := of_decide_eq_true z; rw [i_lt] at h23; omega
                   rw [if_neg q1])
              first
                | done
                | (have q2 : isDg x = true := decide_eq_true (by rw [i_lt] at h31 h37; omega)
                   rw [if_pos q2]; rfl)
                | (have q2 : ¬ isDg x = true := fun z => by have := of_decide_eq_true z; rw [i_lt] at h31; omega
                   rw [if_neg q2])
                | (have q2 : ¬ isDg x = true := fun z => by have := of_decide_eq_true z; rw [i_lt] at h37; omega
                   rw [if_neg q2])
              first
                | done
                | (rw [if_pos h45]; rfl)
                | (rw [if_neg h45]; rfl)
                | rfl
          · skip
            refine Wp.n (pc' := 41) 1 rfl ?_
            refine Wp.retI (len := 1) rfl rfl ?_
            refine ⟨?_, rfl⟩
            unfold kdc
            first
              | (have q : isBl x = true := decide_eq_true (by first | exact Or.inl h3 | exact Or.inr h9)
                 rw [if_pos q]; rfl)
              | skip
            first
              | done
              | (have q : ¬ isBl x = true := fun z => by rcases of_decide_eq_true z with z | z; exact h3 z; exact h9 z
                 rw [if_neg q])
            first
              | done
              | (have q1 : isLt x = true := decide_eq_true (by rw [i_lt] at h17 h23; omega)
                 rw [if_pos q1]; rfl)
              | (have q1 : ¬ isLt x = true := fun z => by have := of_decide_eq_true z; rw [i_lt] at h17; omega
                 rw [if_neg q1])
              | (have q1 : ¬ isLt x = true := fun z => by have := of_decide_eq_true z; rw [i_lt] at h23; omega
                 rw [if_neg q1])
            first
              | done
              | (have q2 : isDg x = true := decide_eq_true (by rw [i_lt] at h31 h37; omega)
                 rw [if_pos q2]; rfl)
              | (have q2 : ¬ isDg x = true := fun z => by have := of_decide_eq_true z; rw [i_lt] at h31; omega
                 rw [if_neg q2])
              | (have q2 : ¬ isDg x = true := fun z => by have := of_decide_eq_true z; rw [i_lt] at h37; omega
                 rw [if_neg q2])
            first
              | done
              | (rw [if_pos h45]; rfl)
              | (rw [if_neg h45]; rfl)
              | rfl
      · skip
        refine Wp.n (pc' := 23) 2 rfl ?_
        refine Wp.ic4 (tgt := 28) (len := 3) rfl (fun h23 => ?_) (fun h23 => ?_)
        · skip
          refine Wp.n (pc' := 31) 2 rfl ?_
          refine Wp.ic2 (tgt := 42) (len := 3) rfl (fun h31 => ?_) (fun h31 => ?_)
          · skip
            refine Wp.n (pc' := 45) 2 rfl ?_
            refine Wp.ic1 (tgt := 52) (len := 3) rfl (fun h45 => ?_) (fun h45 => ?_)
            · skip
              refine Wp.n (pc' := 53) 1 rfl ?_
              refine Wp.retI (len := 1) rfl rfl ?_
              refine ⟨?_, rfl⟩
              unfold kdc
              first
                | (have q : isBl x = true := decide_eq_true (by first | exact Or.inl h3 | exact Or.inr h9)
                   rw [if_pos q]; rfl)
                | skip
              first
                | done
                | (have q : ¬ isBl x = true := fun z => by rcases of_decide_eq_true z with z | z; exact h3 z; exact h9 z
                   rw [if_neg q])
              first
                | done
                | (have q1 : isLt x = true := decide_eq_true (by rw [i_lt] at h17 h23; omega)
                   rw [if_pos q1]; rfl)
                | (have q1 : ¬ isLt x = true := fun z => by have := of_decide_eq_true z; rw [i_lt] at h17; omega
                   rw [if_neg q1])
                | (have q1 : ¬ isLt x = true := fun z => by have := of_decide_eq_true z; rw [i_lt] at h23; omega
                   rw [if_neg q1])
              first
                | done
                | (have q2 : isDg x = true := decide_eq_true (by rw [i_lt] at h31 h37; omega)
                   rw [if_pos q2]; rfl)
                | (have q2 : ¬ isDg x = true := fun z => by have := of_decide_eq_true z; rw [i_lt] at h31; omega
                   rw [if_neg q2])
                | (have q2 : ¬ isDg x = true := fun z => by have := of_decide_eq_true z; rw [i_lt] at h37; omega
                   rw [if_neg q2])
              first
                | done
                | (rw [if_pos h45]; rfl)
                | (rw [if_neg h45]; rfl)
                | rfl
            · skip
              refine Wp.n (pc' := 53) 2 rfl ?_
              refine Wp.retI (len := 1) rfl rfl ?_
              refine ⟨?_, rfl⟩
              unfold kdc
              first
                | (have q : isBl x = true := decide_eq_true (by first | exact Or.inl h3 | exact Or.inr h9)
                   rw [if_pos q]; rfl)
                | skip
              first
                | done
                | (have q : ¬ isBl x = true := fun z => by rcases of_decide_eq_true z with z | z; exact h3 z; exact h9 z
                   rw [if_neg q])
              first
                | done
                | (have q1 : isLt x = true := decide_eq_true (by rw [i_lt] at h17 h23; omega)
                   rw [if_pos q1]; rfl)
                | (have q1 : ¬ isLt x = true := fun z => by have := of_decide_eq_true z; rw [i_lt] at h17; omega
                   rw [if_neg q1])
                | (have q1 : ¬ isLt x = true := fun z => by have := of_decide_eq_true z; rw [i_lt] at h23; omega
                   rw [if_neg q1])
              first
                | done
                | (have q2 : isDg x = true := decide_eq_true (by rw [i_lt] at h31 h37; omega)
                   rw [if_pos q2]; rfl)
                | (have q2 : ¬ isDg x = true := fun z => by have := of_decide_eq_true z; rw [i_lt] at h31; omega
                   rw [if_neg q2])
                | (have q2 : ¬ isDg x = true := fun z => by have := of_decide_eq_true z; rw [i_lt] at h37; omega
                   rw [if_neg q2])
              first
                | done
                | (rw [if_pos h45]; rfl)
                | (rw [if_neg h45]; rfl)
                | rfl
          · skip
            refine Wp.n (pc' := 37) 2 rfl ?_
            refine Wp.ic4 (tgt := 42) (len := 3) rfl (fun h37 => ?_) (fun h37 => ?_)
            · skip
              refine Wp.n (pc' := 45) 2 rfl ?_
              refine Wp.ic1 (tgt := 52) (len := 3) rfl (fun h45 => ?_) (fun h45 => ?_)
              · skip
                refine Wp.n (pc' := 53) 1 rfl ?_
                refine Wp.retI (len := 1) rfl rfl ?_
                refine ⟨?_, rfl⟩
                unfold kdc
                first
                  | (have q : isBl x = true := decide_eq_true (by first | exact Or.inl h3 | exact Or.inr h9)
                     rw [if_pos q]; rfl)
                  | skip
                first
                  | done
                  | (have q : ¬ isBl x = true := fun z => by rcases of_decide_eq_true z with z | z; exact h3 z; exact h9 z
                     rw [if_neg q])
                first
                  | done
                  | (have q1 : isLt x = true := decide_eq_true (by rw [i_lt] at h17 h23; omega)
                     rw [if_pos q1]; rfl)
                  | (have q1 : ¬ isLt x = true := fun z => by have := of_decide_eq_true z; rw [i_lt] at h17; omega
                     rw [if_neg q1])
                  | (have q1 : ¬ isLt x = true := fun z => by have := of_decide_eq_true z; rw [i_lt] at h23; omega
                     rw [if_neg q1])
                first
                  | done
                  | (have q2 : isDg x = true := decide_eq_true (by rw [i_lt] at h31 h37; omega)
                     rw [if_pos q2]; rfl)
                  | (have q2 : ¬ isDg x = true := fun z => by have := of_decide_eq_true z; rw [i_lt] at h31; omega
                     rw [if_neg q2])
                  | (have q2 : ¬ isDg x = true := fun z => by have := of_decide_eq_true z; rw [i_lt] at h37; omega
                     rw [if_neg q2])
                first
                  | done
                  | (rw [if_pos h45]; rfl)
                  | (rw [if_neg h45]; rfl)
                  | rfl
              · skip
                refine Wp.n (pc' := 53) 2 rfl ?_
                refine Wp.retI (len := 1) rfl rfl ?_
                refine ⟨?_, rfl⟩
                unfold kdc
                first
                  | (have q : isBl x = true := decide_eq_true (by first | exact Or.inl h3 | exact Or.inr h9)
                     rw [if_pos q]; rfl)
                  | skip
                first
                  | done
                  | (have q : ¬ isBl x = true := fun z => by rcases of_decide_eq_true z with z | z; exact h3 z; exact h9 z
                     rw [if_neg q])
                first
                  | done
                  | (have q1 : isLt x = true := decide_eq_true (by rw [i_lt] at h17 h23; omega)
                     rw [if_pos q1]; rfl)
                  | (have q1 : ¬ isLt x = true := fun z => by have := of_decide_eq_true z; rw [i_lt] at h17; omega
                     rw [if_neg q1])
                  | (have q1 : ¬ isLt x = true := fun z => by have := of_decide_eq_true z; rw [i_lt] at h23; omega
                     rw [if_neg q1])
                first
                  | done
                  | (have q2 : isDg x = true := decide_eq_true (by rw [i_lt] at h31 h37; omega)
                     rw [if_pos q2]; rfl)
                  | (have q2 : ¬ isDg x = true := fun z => by have := of_decide_eq_true z; rw [i_lt] at h31; omega
                     rw [if_neg q2])
                  | (have q2 : ¬ isDg x = true := fun z => by have := of_decide_eq_true z; rw [i_lt] at h37; omega
                     rw [if_neg q2])
                first
                  | done
                  | (rw [if_pos h45]; rfl)
                  | (rw [if_neg h45]; rfl)
                  | rfl
            · skip
              refine Wp.n (pc' := 41) 1 rfl ?_
              refine Wp.retI (len := 1) rfl rfl ?_
              refine ⟨?_, rfl⟩
              unfold kdc
              first
                | (have q : isBl x = true := decide_eq_true (by first | exact Or.inl h3 | exact Or.inr h9)
                   rw [if_pos q]; rfl)
                | skip
              first
                | done
                | (have q : ¬ isBl x = true := fun z => by rcases of_decide_eq_true z with z | z; exact h3 z; exact h9 z
                   rw [if_neg q])
              first
                | done
                | (have q1 : isLt x = true := decide_eq_true (by rw [i_lt] at h17 h23; omega)
                   rw [if_pos q1]; rfl)
                | (have q1 : ¬ isLt x = true := fun z => by have := of_decide_eq_true z; rw [i_lt] at h17; omega
                   rw [if_neg q1])
                | (have q1 : ¬ isLt x = true := fun z => by have := of_decide_eq_true z; rw [i_lt] at h23; omega
                   rw [if_neg q1])
              first
                | done
                | (have q2 : isDg x = true := decide_eq_true (by rw [i_lt] at h31 h37; omega)
                   rw [if_pos q2]; rfl)
                | (have q2 : ¬ isDg x = true := fun z => by have := of_decide_eq_true z; rw [i_lt] at h31; omega
                   rw [if_neg q2])
                | (have q2 : ¬ isDg x = true := fun z => by have := of_decide_eq_true z; rw [i_lt] at h37; omega
                   rw [if_neg q2])
              first
                | done
                | (rw [if_pos h45]; rfl)
                | (rw [if_neg h45]; rfl)
                | rfl
        · skip
          refine Wp.n (pc' := 27) 1 rfl ?_
          refine Wp.retI (len := 1) rfl rfl ?_
          refine ⟨?_, rfl⟩
          unfold kdc
          first
            | (have q : isBl x = true := decide_eq_true (by first | exact Or.inl h3 | exact Or.inr h9)
               rw [if_pos q]; rfl)
            | skip
          first
            | done
            | (have q : ¬ isBl x = true := fun z => by rcases of_decide_eq_true z with z | z; exact h3 z; exact h9 z
               rw [if_neg q])
          first
            | done
            | (have q1 : isLt x = true := decide_eq_true (by rw [i_lt] at h17 h23; omega)
               rw [if_pos q1]; rfl)
            | (have q1 : ¬ isLt x = true := fun z => by have := of_decide_eq_true z; rw [i_lt] at h17; omega
               rw [if_neg q1])
            | (have q1 : ¬ isLt x = true := fun z => by have := of_decide_eq_true z; rw [i_lt] at h23; omega
               rw [if_neg q1])
          first
            | done
            | (have q2 : isDg x = true := decide_eq_true (by rw [i_lt] at h31 h37; omega)
               rw [if_pos q2]; rfl)
            | (have q2 : ¬ isDg x = true := fun z => by have := of_decide_eq_true z; rw [i_lt] at h31; omega
               rw [if_neg q2])
            | (have q2 : ¬ isDg x = true := fun z => by have := of_decide_eq_true z; rw [i_lt] at h37; omega
               rw [if_neg q2])
          first
            | done
            | (rw [if_pos h45]; rfl)
            | (rw [if_neg h45]; rfl)
            | rfl
    · skip
      refine Wp.n (pc' := 13) 1 rfl ?_
      refine Wp.retI (len := 1) rfl rfl ?_
      refine ⟨?_, rfl⟩
      unfold kdc
      first
        | (have q : isBl x = true := decide_eq_true (by first | exact Or.inl h3 | exact Or.inr h9)
           rw [if_pos q]; rfl)
        | skip
      first
        | done
        | (have q : ¬ isBl x = true := fun z => by rcases of_decide_eq_true z with z | z; exact h3 z; exact h9 z
           rw [if_neg q])
      first
        | done
        | (have q1 : isLt x = true := decide_eq_true (by rw [i_lt] at h17 h23; omega)
           rw [if_pos q1]; rfl)
        | (have q1 : ¬ isLt x = true := fun z => by have := of_decide_eq_true z; rw [i_lt] at h17; omega
           rw [if_neg q1])
        | (have q1 : ¬ isLt x = true := fun z => by have := of_decide_eq_true z; rw [i_lt] at h23; omega
           rw [if_neg q1])
      first
        | done
        | (have q2 : isDg x = true := decide_eq_true (by rw [i_lt] at h31 h37; omega)
           rw [if_pos q2]; rfl)
        | (have q2 : ¬ isDg x = true := fun z => by have := of_decide_eq_true z; rw [i_lt] at h31; omega
           rw [if_neg q2])
        | (have q2 : ¬ isDg x = true := fun z => by have := of_decide_eq_true z; rw [i_lt] at h37; omega
           rw [if_neg q2])
      first
        | done
        | (rw [if_pos h45]; rfl)
        | (rw [if_neg h45]; rfl)
        | rfl
theorem kdc_b {x : Int32} : kdc x = 4 ↔ isBl x = true := by
  unfold kdc
  constructor
  · intro h
    by_cases c : isBl x = true
    · exact c
    · rw [if_neg c] at h
      split at h
      · cases h
      · split at h
        · cases h
        · split at h <;> cases h
  · intro h
    rw [if_pos h]
theorem kdc_le {x : Int32} : kdc x ≤ 5 := by
  unfold kdc
  repeat' split
  all_goals omega
theorem kdc_tk {s : Nat} (h : s < T.1) (hb : ¬ isBl (T.2 s) = true) : kdc (T.2 s) = ck (tk T s) := by
  unfold kdc tk
  rw [if_neg hb, if_neg (show ¬ T.1 ≤ s by omega)]
  by_cases c1 : isLt (T.2 s) = true
  · rw [if_pos c1, if_pos c1]; rfl
  · rw [if_neg c1, if_neg c1]
    by_cases c2 : isDg (T.2 s) = true
    · rw [if_pos c2, if_pos c2]; rfl
    · rw [if_neg c2, if_neg c2]
      by_cases c3 : T.2 s = 59
      · rw [if_pos c3, if_pos c3]; rfl
      · rw [if_neg c3, if_neg c3]; rfl
theorem k_adv_1 : ∀ (n q : Nat) {κ : CS}, TC κ T → κ.2.2.2 0 = some 33 → q + n = T.1 → κ.1 2 5 = nI q → (∀ κ', FA κ κ' → κ'.1 2 2 = κ.1 2 2 → κ'.1 2 3 = κ.1 2 3 → κ'.1 2 5 = nI (bl T q) → Wp (d + 1) md_11 62 [some (.ref 35), none] [] (cset M κ') Q) → Wp (d + 1) md_11 16 [some (.ref 35), none] [] (cset M κ) Q
  | 0, q, κ, hT, hS, hn, h5, kk => by
    have t20 := hT.2.1
    have e : bl T q = q := tn_no (fun z => by omega)
    refine Wp.n (pc' := 17) 1 rfl ?_
    refine Wp.get (len := 3) rfl (rfl) rfl ?_
    refine Wp.top h5 ?_
    refine Wp.n (pc' := 21) 1 rfl ?_
    refine Wp.get (len := 3) rfl (rfl) rfl ?_
    refine Wp.topR hS ?_
    refine Wp.get (len := 3) rfl (rfl) rfl ?_
    refine Wp.top hT.1 ?_
    refine Wp.nc3 (x := q) (y := T.1) (tgt := 62) (len := 3) rfl (by omega) (by omega) (fun h27 => ?_) (fun h27 => ?_)
    · skip
      exact kk κ FA.r rfl rfl (by rw [e]; exact h5)
    · omega
  | n + 1, q, κ, hT, hS, hn, h5, kk => by
    have t20 := hT.2.1
    have hk := kdc_le (x := T.2 q)
    refine Wp.n (pc' := 17) 1 rfl ?_
    refine Wp.get (len := 3) rfl (rfl) rfl ?_
    refine Wp.top h5 ?_
    refine Wp.n (pc' := 21) 1 rfl ?_
    refine Wp.get (len := 3) rfl (rfl) rfl ?_
    refine Wp.topR hS ?_
    refine Wp.get (len := 3) rfl (rfl) rfl ?_
    refine Wp.top hT.1 ?_
    refine Wp.nc3 (x := q) (y := T.1) (tgt := 62) (len := 3) rfl (by omega) (by omega) (fun h27 => ?_) (fun h27 => ?_)
    · omega
    · skip
      refine Wp.n (pc' := 31) 1 rfl ?_
      refine Wp.get (len := 3) rfl (rfl) rfl ?_
      refine Wp.topR hS ?_
      refine Wp.get (len := 3) rfl (rfl) rfl ?_
      refine Wp.n (pc' := 38) 1 rfl ?_
      refine Wp.get (len := 3) rfl (rfl) rfl ?_
      refine Wp.top h5 ?_
      refine Wp.baldN (j := q) (len := 1) rfl (rfl) rfl (by omega) (by decide) ?_
      refine Wp.top (hT.2.2 q (by omega)) ?_
      refine Wp.ecallS (len := 3) rfl rfl rfl rfl (k_kindOf _) ?_
      refine Wp.n (pc' := 46) 1 rfl ?_
      refine Wp.nc1 (x := kdc (T.2 q)) (y := 4) (tgt := 62) (len := 3) rfl (by omega) (by omega) (fun h46 => ?_) (fun h46 => ?_)
      · skip
        exact kk κ FA.r rfl rfl (by rw [show bl T q = q from tn_no (fun z => h46 (kdc_b.mpr z.2))]; exact h5)
      · skip
        refine Wp.n (pc' := 51) 2 rfl ?_
        refine Wp.get (len := 3) rfl (rfl) rfl ?_
        refine Wp.top h5 ?_
        refine Wp.n (pc' := 55) 1 rfl ?_
        refine Wp.iaddN (x := q) (y := 1) (len := 1) rfl ?_
        refine Wp.cput2 (len := 3) 5 rfl rfl ?_
        refine Wp.n (pc' := 16) 1 rfl ?_
        refine k_adv_1 n (q + 1) (κ := cf κ 2 5 (nI (q + 1))) (FA.f.tc hT) hS (by omega) rfl (fun κ' f a b h => kk κ' (FA.f.t f) a b ?_)
        rw [show bl T q = bl T (q + 1) from tn_go (by omega) (kdc_b.mp (by omega))]
        exact h
theorem rn_end {p : Nat → Bool} : ∀ (m i : Nat), rn p m i < i + m → p (rn p m i) = false
  | 0, i, h => by have : i < i + 0 := h; omega
  | m + 1, i, h => by
    unfold rn at h ⊢
    by_cases c : p i = true
    · rw [if_pos c] at h ⊢
      exact rn_end m (i + 1) (by omega)
    · rw [if_neg c]
      simpa using c
theorem bl_end {q : Nat} (hq : q ≤ T.1) (h : bl T q < T.1) : ¬ isBl (T.2 (bl T q)) = true := by
  have w := rn_end (p := fun i => isBl (T.2 i)) (T.1 - q) q (by unfold bl tn at h; omega)
  intro z
  have w' : isBl (T.2 (bl T q)) = false := w
  rw [w'] at z
  cases z
theorem rn_cg {p p' : Nat → Bool} (e : ∀ i, p i = p' i) : ∀ (m i : Nat), rn p m i = rn p' m i
  | 0, i => rfl
  | m + 1, i => by
    unfold rn
    rw [e i, rn_cg e m (i + 1)]
def kdp (T : TP) (k i : Nat) : Bool := decide (kdc (T.2 i) = k)
theorem kdc_1 {x : Int32} : decide (kdc x = 1) = isLt x := by
  by_cases c : isLt x = true
  · rw [c]
    refine decide_eq_true ?_
    unfold kdc
    have hb : ¬ isBl x = true := fun z => by
      have h1 := of_decide_eq_true c
      rcases of_decide_eq_true z with z | z
      · rw [z] at h1; revert h1; decide
      · rw [z] at h1; revert h1; decide
    rw [if_neg hb, if_pos c]
  · rw [show isLt x = false by simpa using c]
    refine decide_eq_false ?_
    unfold kdc
    rw [if_neg c]
    split
    · decide
    · split
      · decide
      · split <;> decide
theorem kdc_2 {x : Int32} : decide (kdc x = 2) = isDg x := by
  by_cases c : isDg x = true
  · rw [c]
    refine decide_eq_true ?_
    have h1 := of_decide_eq_true c
    unfold kdc
    have hb : ¬ isBl x = true := fun z => by
      rcases of_decide_eq_true z with z | z
      · rw [z] at h1; revert h1; decide
      · rw [z] at h1; revert h1; decide
    have hl : ¬ isLt x = true := fun z => by
      have h2 := of_decide_eq_true z
      omega
    rw [if_neg hb, if_neg hl, if_pos c]
  · rw [show isDg x = false by simpa using c]
    refine decide_eq_false ?_
    unfold kdc
    rw [if_neg c]
    split
    · decide
    · split
      · decide
      · split <;> decide
def vlk (T : TP) (k s m : Nat) : Nat := if k = 2 then min 1000000 (vdN T s m) else 0
theorem k_adv_2 {L s k : Nat} (hL : L ≤ T.1) (hk5 : k ≤ 5) (kk : ∀ κ', FA κ κ' → κ'.1 2 2 = κ.1 2 2 → κ'.1 2 3 = κ.1 2 3 → κ'.1 2 4 = nI k → κ'.1 2 5 = κ.1 2 5 → κ'.1 2 6 = nI (rn (kdp T k) (L - s) s) → κ'.1 2 7 = nI (vlk T k s (rn (kdp T k) (L - s) s - s)) → Wp (d + 9) md_11 242 [some (.ref 35), some (.int (nI L))] [] (cset M κ') Q) : ∀ (n m : Nat) {κ1 : CS}, TC κ1 T → κ1.2.2.2 0 = some 33 → s + m + n = L → FA κ κ1 → κ1.1 2 2 = κ.1 2 2 → κ1.1 2 3 = κ.1 2 3 → κ1.1 2 4 = nI k → κ1.1 2 5 = κ.1 2 5 → κ1.1 2 6 = nI (s + m) → κ1.1 2 7 = nI (vlk T k s m) → rn (kdp T k) (L - s) s = rn (kdp T k) n (s + m) → Wp (d + 9) md_11 155 [some (.ref 35), some (.int (nI L))] [] (cset M κ1) Q
  | 0, m, κ1, hT, hS, hn, f, e2, e3, e4, e5, e6, e7, er => by
    have t20 := hT.2.1
    have er' : rn (kdp T k) (L - s) s = s + m := er
    refine Wp.n (pc' := 156) 1 rfl ?_
    refine Wp.get (len := 3) rfl (rfl) rfl ?_
    refine Wp.top e6 ?_
    refine Wp.n (pc' := 160) 1 rfl ?_
    refine Wp.nc3 (x := s + m) (y := L) (tgt := 242) (len := 3) rfl (by omega) (by omega) (fun h160 => ?_) (fun h160 => ?_)
    · skip
      exact kk κ1 f e2 e3 e4 e5 (by rw [er']; exact e6) (by rw [er', show s + m - s = m by omega]; exact e7)
    · omega
  | n + 1, m, κ1, hT, hS, hn, f, e2, e3, e4, e5, e6, e7, er => by
    have t20 := hT.2.1
    have hk := kdc_le (x := T.2 (s + m))
    have hv : vlk T k s m ≤ 1000000 := by unfold vlk; split <;> omega
    have es : rn (kdp T k) (n + 1) (s + m) = if kdp T k (s + m) = true then rn (kdp T k) n (s + m + 1) else s + m := rfl
    refine Wp.n (pc' := 156) 1 rfl ?_
    refine Wp.get (len := 3) rfl (rfl) rfl ?_
    refine Wp.top e6 ?_
    refine Wp.n (pc' := 160) 1 rfl ?_
    refine Wp.nc3 (x := s + m) (y := L) (tgt := 242) (len := 3) rfl (by omega) (by omega) (fun h160 => ?_) (fun h160 => ?_)
    · omega
    · skip
      refine Wp.n (pc' := 164) 1 rfl ?_
      refine Wp.get (len := 3) rfl (rfl) rfl ?_
      refine Wp.topR hS ?_
      refine Wp.get (len := 3) rfl (rfl) rfl ?_
      refine Wp.n (pc' := 171) 1 rfl ?_
      refine Wp.get (len := 3) rfl (rfl) rfl ?_
      refine Wp.top e6 ?_
      refine Wp.baldN (j := s + m) (len := 1) rfl (rfl) rfl (by omega) (by decide) ?_
      refine Wp.top (hT.2.2 (s + m) (by omega)) ?_
      refine Wp.ecallS (len := 3) rfl rfl rfl rfl (k_kindOf _) ?_
      refine Wp.n (pc' := 179) 1 rfl ?_
      refine Wp.get (len := 3) rfl (rfl) rfl ?_
      refine Wp.top e4 ?_
      refine Wp.nc1 (x := kdc (T.2 (s + m))) (y := k) (tgt := 242) (len := 3) rfl (by omega) (by omega) (fun h182 => ?_) (fun h182 => ?_)
      · skip
        have kp : ¬ kdp T k (s + m) = true := fun z => h182 (of_decide_eq_true z)
        rw [es, if_neg kp] at er
        exact kk κ1 f e2 e3 e4 e5 (by rw [er]; exact e6) (by rw [er, show s + m - s = m by omega]; exact e7)
      · skip
        have kp : kdp T k (s + m) = true := decide_eq_true h182
        rw [es, if_pos kp] at er
        refine Wp.n (pc' := 187) 2 rfl ?_
        refine Wp.get (len := 3) rfl (rfl) rfl ?_
        refine Wp.top e4 ?_
        refine Wp.n (pc' := 191) 1 rfl ?_
        refine Wp.nc1 (x := k) (y := 2) (tgt := 225) (len := 3) rfl (by omega) (by omega) (fun h191 => ?_) (fun h191 => ?_)
        · skip
          refine Wp.n (pc' := 226) 1 rfl ?_
          refine Wp.cput2 (len := 3) 7 rfl rfl ?_
          refine Wp.n (pc' := 231) 2 rfl ?_
          refine Wp.get (len := 3) rfl (rfl) rfl ?_
          refine Wp.top e6 ?_
          refine Wp.n (pc' := 235) 1 rfl ?_
          refine Wp.iaddN (x := s + m) (y := 1) (len := 1) rfl ?_
          refine Wp.cput2 (len := 3) 6 rfl rfl ?_
          refine Wp.n (pc' := 155) 1 rfl ?_
          first
            | (have q : k = 2 := h191
               have ev : vlk T k s (m + 1) = min 1000000 (vlk T k s m * 10 + c - 48) := by
                 unfold vlk
                 rw [if_pos q, if_pos q]
                 show min 1000000 (10 * vdN T s m + ((T.2 (s + m)).toNatClampNeg - 48)) = _
                 rw [hc, nI_clamp (by omega)]
                 omega
               exact k_adv_2 hL hk5 kk n (m + 1) (κ1 := cf (cf κ1 2 7 _) 2 6 _) ((FA.f.t FA.f).tc hT) hS (by omega) (f.t (FA.f.t FA.f)) e2 e3 e4 e5 rfl (by rw [ev]; rfl) er)
            | (have q : ¬ k = 2 := h191
               exact k_adv_2 hL hk5 kk n (m + 1) (κ1 := cf (cf κ1 2 7 _) 2 6 _) ((FA.f.t FA.f).tc hT) hS (by omega) (f.t (FA.f.t FA.f)) e2 e3 e4 e5 rfl (by unfold vlk; rw [if_neg q]; rfl) er)
        · skip
          have hg : isDg (T.2 (s + m)) = true := by rw [← kdc_2]; exact decide_eq_true (by omega)
          obtain ⟨c, hc, c1, c2⟩ := dg_of hg
          refine Wp.n (pc' := 197) 2 rfl ?_
          refine Wp.get (len := 3) rfl (rfl) rfl ?_
          refine Wp.top e7 ?_
          refine Wp.n (pc' := 202) 1 rfl ?_
          refine Wp.imulN (x := vlk T k s m) (y := 10) (len := 1) rfl ?_
          refine Wp.n (pc' := 204) 1 rfl ?_
          refine Wp.get (len := 3) rfl (rfl) rfl ?_
          refine Wp.topR hS ?_
          refine Wp.get (len := 3) rfl (rfl) rfl ?_
          refine Wp.n (pc' := 211) 1 rfl ?_
          refine Wp.get (len := 3) rfl (rfl) rfl ?_
          refine Wp.top e6 ?_
          refine Wp.baldN (j := s + m) (len := 1) rfl (rfl) rfl (by omega) (by decide) ?_
          refine Wp.top ((hT.2.2 (s + m) (by omega)).trans hc) ?_
          refine Wp.iaddN (x := (vlk T k s m) * 10) (y := c) (len := 1) rfl ?_
          refine Wp.n (pc' := 218) 1 rfl ?_
          refine Wp.isubN (x := ((vlk T k s m) * 10) + c) (y := 48) (len := 1) rfl (by omega) ?_
          refine Wp.bi (len := 3) rfl (by decide) rfl (by omega) ?_
          refine Wp.top (n_min (x := 1000000) (y := vlk T k s m * 10 + c - 48) (by decide) (by omega)) ?_
          refine Wp.n (pc' := 226) 1 rfl ?_
          refine Wp.cput2 (len := 3) 7 rfl rfl ?_
          refine Wp.n (pc' := 231) 2 rfl ?_
          refine Wp.get (len := 3) rfl (rfl) rfl ?_
          refine Wp.top e6 ?_
          refine Wp.n (pc' := 235) 1 rfl ?_
          refine Wp.iaddN (x := s + m) (y := 1) (len := 1) rfl ?_
          refine Wp.cput2 (len := 3) 6 rfl rfl ?_
          refine Wp.n (pc' := 155) 1 rfl ?_
          first
            | (have q : k = 2 := h191
               have ev : vlk T k s (m + 1) = min 1000000 (vlk T k s m * 10 + c - 48) := by
                 unfold vlk
                 rw [if_pos q, if_pos q]
                 show min 1000000 (10 * vdN T s m + ((T.2 (s + m)).toNatClampNeg - 48)) = _
                 rw [hc, nI_clamp (by omega)]
                 omega
               exact k_adv_2 hL hk5 kk n (m + 1) (κ1 := cf (cf κ1 2 7 _) 2 6 _) ((FA.f.t FA.f).tc hT) hS (by omega) (f.t (FA.f.t FA.f)) e2 e3 e4 e5 rfl (by rw [ev]; rfl) er)
            | (have q : ¬ k = 2 := h191
               exact k_adv_2 hL hk5 kk n (m + 1) (κ1 := cf (cf κ1 2 7 _) 2 6 _) ((FA.f.t FA.f).tc hT) hS (by omega) (f.t (FA.f.t FA.f)) e2 e3 e4 e5 rfl (by unfold vlk; rw [if_neg q]; rfl) er)
end CLX
end
section
/-! READING, the class: on to the next token; words, numbers, faults. -/
def LC (κ : CS) (T : TP) : St → Prop
  | .inl x => κ.1 2 2 = nI x.1 ∧ 1 ≤ x.1 ∧ x.1 ≤ 3 ∧ κ.1 2 3 = nI x.2 ∧ ∃ a e k, κ.1 2 5 = nI a ∧ κ.1 2 6 = nI e ∧ a ≤ e ∧ e ≤ T.1 ∧ κ.1 2 4 = nI k ∧ k ≤ 5
  | .inr s => κ.1 2 2 = nI 0 ∧ κ.1 2 3 = -1 ∧ κ.1 2 4 = nI (ck (tk T s)) ∧ κ.1 2 5 = nI s ∧ κ.1 2 6 = nI (en T s) ∧ κ.1 2 7 = nI (min 1000000 (vl T s)) ∧ s ≤ T.1
def hlS (T : TP) : St → Bool
  | .inl _ => false
  | .inr s => decide (tk T s ≠ 0)
def RdC (M : AM) (κ : CS) (T : TP) (st : St) : AM → Prop := fun M' => ∃ κ', M' = cset M κ' ∧ FA κ κ' ∧ LC κ' T st
theorem tk_2 {T : TP} {s : Nat} (h : tk T s = 2) : en T s = tn T isDg s ∧ s < T.1 := by
  unfold tk at h
  by_cases c : T.1 ≤ s
  · rw [if_pos c] at h; cases h
  · rw [if_neg c] at h
    by_cases c2 : isLt (T.2 s) = true
    · rw [if_pos c2] at h; cases h
    · rw [if_neg c2] at h
      by_cases c3 : isDg (T.2 s) = true
      · unfold en
        rw [if_neg c, if_neg c2, if_pos c3]
        exact ⟨rfl, by omega⟩
      · rw [if_neg c3] at h
        split at h <;> cases h
theorem tk_3 {T : TP} {s : Nat} (h : 3 ≤ tk T s) : en T s = s + 1 ∧ s < T.1 := by
  unfold tk at h
  by_cases c : T.1 ≤ s
  · rw [if_pos c] at h; omega
  · rw [if_neg c] at h
    by_cases c2 : isLt (T.2 s) = true
    · rw [if_pos c2] at h; omega
    · rw [if_neg c2] at h
      by_cases c3 : isDg (T.2 s) = true
      · rw [if_pos c3] at h; omega
      · unfold en
        rw [if_neg c, if_neg c2, if_neg c3]
        exact ⟨rfl, by omega⟩
theorem adv_fin {T : TP} {s k L : Nat} (hs : s ≤ T.1) (hb : s < T.1 → ¬ isBl (T.2 s) = true) (hk : k = ck (tk T s)) (hL : L = if tk T s = 1 ∨ tk T s = 2 then T.1 else min (s + 1) T.1) : rn (kdp T k) (L - s) s = en T s ∧ vlk T k s (en T s - s) = min 1000000 (vl T s) := by
  have t4 := tk_le (T := T) (s := s)
  by_cases c1 : tk T s = 1
  · rw [if_pos (Or.inl c1)] at hL
    rw [c1] at hk
    have k1 : k = 1 := hk
    subst k1 hL
    refine ⟨?_, ?_⟩
    · rw [(tk_1 c1).1]
      exact rn_cg (fun i => kdc_1) _ _
    · unfold vlk vl
      rw [if_neg (by decide), if_neg (by omega)]
      rfl
  · by_cases c2 : tk T s = 2
    · rw [if_pos (Or.inr c2)] at hL
      rw [c2] at hk
      have k1 : k = 2 := hk
      subst k1 hL
      refine ⟨?_, ?_⟩
      · rw [(tk_2 c2).1]
        exact rn_cg (fun i => kdc_2) _ _
      · unfold vlk vl
        rw [if_pos rfl, if_pos c2]
    · rw [if_neg (by omega)] at hL
      have hv : vlk T k s (en T s - s) = min 1000000 (vl T s) := by
        unfold vlk vl ck at *
        rw [if_neg (by split at hk <;> omega), if_neg c2]
        rfl
      refine ⟨?_, hv⟩
      by_cases c0 : tk T s = 0
      · have h0 := tk_0.mp c0
        rw [show L - s = 0 by omega]
        show s = en T s
        unfold en
        rw [if_pos h0]
      · have h3 := tk_3 (T := T) (s := s) (by omega)
        rw [show L - s = 1 by omega, h3.1]
        show (if kdp T k s = true then s + 1 else s) = s + 1
        have kp : kdp T k s = true := decide_eq_true (by rw [hk]; exact kdc_tk h3.2 (hb h3.2))
        rw [if_pos kp]
section CRD
variable {d : Nat} {M : AM} {κ κ' : CS} {T : TP} {st : St} {Q : Option Value → AM → Prop}
theorem k_adv (hT : TC κ T) (hS : κ.2.2.2 0 = some 33) {p : Nat} (hF : κ.1 2 2 = nI 0) (h3 : κ.1 2 3 = -1) (h6 : κ.1 2 6 = nI p) (hp : p ≤ T.1) : Wp (d + 9) md_11 0 [some (.ref 35), none] [] (cset M κ) (fun v M' => v = none ∧ RdC M κ T (.inr (bl T p)) M') := by
  have t20 := hT.2.1
  refine Wp.n (pc' := 1) 1 rfl ?_
  refine Wp.get (len := 3) rfl (rfl) rfl ?_
  refine Wp.top hF ?_
  refine Wp.nz0 (x := 0) (tgt := 8) (len := 3) rfl (by omega) (fun h4 => ?_) (fun h4 => ?_)
  · skip
    refine Wp.n (pc' := 10) 2 rfl ?_
    refine Wp.get (len := 3) rfl (rfl) rfl ?_
    refine Wp.top h6 ?_
    refine Wp.cput2 (len := 3) 5 rfl rfl ?_
    have hs := tn_le (T := T) (p := isBl) hp
    change p ≤ bl T p ∧ bl T p ≤ T.1 at hs
    have hbe := bl_end (T := T) hp
    refine k_adv_1 (T.1 - p) p (FA.f.tc hT) hS (by omega) rfl (fun κ1 f1 a2 a3 a5 => ?_)
    have hT1 := f1.tc (FA.f.tc hT)
    have hS1 : κ1.2.2.2 0 = some 33 := by rw [f1.2]; exact hS
    have b2 : κ1.1 2 2 = nI 0 := a2.trans hF
    have b3 : κ1.1 2 3 = -1 := a3.trans h3
    have fin : ∀ k L κ2, FA κ1 κ2 → κ2.1 2 2 = nI 0 → κ2.1 2 3 = -1 → κ2.1 2 4 = nI k → κ2.1 2 5 = nI (bl T p) → κ2.1 2 6 = nI (bl T p) → κ2.1 2 7 = nI 0 → k = ck (tk T (bl T p)) → L = (if tk T (bl T p) = 1 ∨ tk T (bl T p) = 2 then T.1 else min (bl T p + 1) T.1) → Wp (d + 9) md_11 155 [some (.ref 35), some (.int (nI L))] [] (cset M κ2) (fun v M' => v = none ∧ RdC M κ T (.inr (bl T p)) M') := by
      intro k L κ2 f2 g2 g3 g4 g5 g6 g7 hk hL
      have hF := adv_fin hs.2 hbe hk hL
      have hL1 : L ≤ T.1 ∧ bl T p ≤ L := by
        rw [hL]
        split <;> omega
      have hk5 : k ≤ 5 := by
        rw [hk]
        have := tk_le (T := T) (s := bl T p)
        unfold ck
        split <;> omega
      refine k_adv_2 (κ := κ2) (s := bl T p) hL1.1 hk5 (fun κ3 f3 c2 c3 c4 c5 c6 c7 => ?_) (L - bl T p) 0 (f2.tc hT1) (by rw [f2.2]; exact hS1) (by omega) FA.r rfl rfl g4 rfl g6 (by rw [g7]; unfold vlk; split <;> rfl) rfl
      refine Wp.retV (len := 1) rfl rfl ?_
      refine ⟨rfl, κ3, rfl, ((FA.f.t f1).t f2).t f3, c2.trans g2, c3.trans g3, by rw [c4, hk], c5.trans g5, by rw [c6, hF.1], ?_, hs.2⟩
      rw [c7, hF.1, hF.2]
    refine Wp.n (pc' := 64) 2 rfl ?_
    refine Wp.get (len := 3) rfl (rfl) rfl ?_
    refine Wp.top a5 ?_
    refine Wp.n (pc' := 68) 1 rfl ?_
    refine Wp.get (len := 3) rfl (rfl) rfl ?_
    refine Wp.topR hS1 ?_
    refine Wp.get (len := 3) rfl (rfl) rfl ?_
    refine Wp.top hT1.1 ?_
    refine Wp.nc3 (x := bl T p) (y := T.1) (tgt := 95) (len := 3) rfl (by omega) (by omega) (fun h74 => ?_) (fun h74 => ?_)
    · have ek : tk T (bl T p) = 0 := tk_0.mpr h74
      refine Wp.n (pc' := 96) 1 rfl ?_
      refine Wp.cput2 (len := 3) 4 rfl rfl ?_
      refine Wp.n (pc' := 101) 2 rfl ?_
      refine Wp.cput2 (len := 3) 7 rfl rfl ?_
      refine Wp.n (pc' := 105) 1 rfl ?_
      refine Wp.get (len := 3) rfl (rfl) rfl ?_
      refine Wp.top rfl ?_
      refine Wp.n (pc' := 109) 1 rfl ?_
      refine Wp.nc0 (x := 0) (y := 1) (tgt := 120) (len := 3) rfl (by omega) (by omega) (fun h109 => ?_) (fun h109 => ?_)
      · omega
      · skip
        refine Wp.n (pc' := 113) 1 rfl ?_
        refine Wp.get (len := 3) rfl (rfl) rfl ?_
        refine Wp.top rfl ?_
        refine Wp.n (pc' := 117) 1 rfl ?_
        refine Wp.nc1 (x := 0) (y := 2) (tgt := 130) (len := 3) rfl (by omega) (by omega) (fun h117 => ?_) (fun h117 => ?_)
        · skip
          refine Wp.n (pc' := 131) 1 rfl ?_
          refine Wp.get (len := 3) rfl (rfl) rfl ?_
          refine Wp.top a5 ?_
          refine Wp.n (pc' := 135) 1 rfl ?_
          refine Wp.iaddN (x := bl T p) (y := 1) (len := 1) rfl ?_
          refine Wp.n (pc' := 137) 1 rfl ?_
          refine Wp.get (len := 3) rfl (rfl) rfl ?_
          refine Wp.topR hS1 ?_
          refine Wp.get (len := 3) rfl (rfl) rfl ?_
          refine Wp.top hT1.1 ?_
          refine Wp.bi (len := 3) rfl (by decide) rfl (by omega) ?_
          refine Wp.top (n_min (x := bl T p + 1) (y := T.1) (by omega) (by omega)) ?_
          refine Wp.n (pc' := 149) 3 rfl ?_
          refine Wp.get (len := 3) rfl (rfl) rfl ?_
          refine Wp.top a5 ?_
          refine Wp.cput2 (len := 3) 6 rfl rfl ?_
          exact fin 0 _ _ (FA.f.t (FA.f.t FA.f)) b2 b3 rfl a5 rfl rfl (by rw [ek]; rfl) (by rw [ek]; rfl)
        · omega
    · have ek := kdc_tk h74 (hbe h74)
      have t4 := tk_le (T := T) (s := bl T p)
      have kl5 := kdc_le (x := T.2 (bl T p))
      refine Wp.n (pc' := 78) 1 rfl ?_
      refine Wp.get (len := 3) rfl (rfl) rfl ?_
      refine Wp.topR hS1 ?_
      refine Wp.get (len := 3) rfl (rfl) rfl ?_
      refine Wp.n (pc' := 85) 1 rfl ?_
      refine Wp.get (len := 3) rfl (rfl) rfl ?_
      refine Wp.top a5 ?_
      refine Wp.baldN (j := bl T p) (len := 1) rfl (rfl) rfl (by omega) (by decide) ?_
      refine Wp.top (hT1.2.2 (bl T p) (by omega)) ?_
      refine Wp.ecallS (len := 3) rfl rfl rfl rfl (k_kindOf _) ?_
      refine Wp.n (pc' := 96) 1 rfl ?_
      refine Wp.cput2 (len := 3) 4 rfl rfl ?_
      refine Wp.n (pc' := 101) 2 rfl ?_
      refine Wp.cput2 (len := 3) 7 rfl rfl ?_
      refine Wp.n (pc' := 105) 1 rfl ?_
      refine Wp.get (len := 3) rfl (rfl) rfl ?_
      refine Wp.top rfl ?_
      refine Wp.n (pc' := 109) 1 rfl ?_
      refine Wp.nc0 (x := kdc (T.2 (bl T p))) (y := 1) (tgt := 120) (len := 3) rfl (by omega) (by omega) (fun h109 => ?_) (fun h109 => ?_)
      · skip
        refine Wp.n (pc' := 121) 1 rfl ?_
        refine Wp.get (len := 3) rfl (rfl) rfl ?_
        refine Wp.topR hS1 ?_
        refine Wp.get (len := 3) rfl (rfl) rfl ?_
        refine Wp.top hT1.1 ?_
        refine Wp.n (pc' := 149) 4 rfl ?_
        refine Wp.get (len := 3) rfl (rfl) rfl ?_
        refine Wp.top a5 ?_
        refine Wp.cput2 (len := 3) 6 rfl rfl ?_
        have cke : ck (tk T (bl T p)) = kdc (T.2 (bl T p)) := ek.symm
        unfold ck at cke
        first
          | (have q12 : tk T (bl T p) = 1 ∨ tk T (bl T p) = 2 := by split at cke <;> omega
             exact fin _ _ _ (FA.f.t (FA.f.t FA.f)) b2 b3 rfl a5 rfl rfl ek (if_pos q12).symm)
          | (have q12 : ¬ (tk T (bl T p) = 1 ∨ tk T (bl T p) = 2) := by split at cke <;> omega
             exact fin _ _ _ (FA.f.t (FA.f.t FA.f)) b2 b3 rfl a5 rfl rfl ek (if_neg q12).symm)
      · skip
        refine Wp.n (pc' := 113) 1 rfl ?_
        refine Wp.get (len := 3) rfl (rfl) rfl ?_
        refine Wp.top rfl ?_
        refine Wp.n (pc' := 117) 1 rfl ?_
        refine Wp.nc1 (x := kdc (T.2 (bl T p))) (y := 2) (tgt := 130) (len := 3) rfl (by omega) (by omega) (fun h117 => ?_) (fun h117 => ?_)
        · skip
          refine Wp.n (pc' := 131) 1 rfl ?_
          refine Wp.get (len := 3) rfl (rfl) rfl ?_
          refine Wp.top a5 ?_
          refine Wp.n (pc' := 135) 1 rfl ?_
          refine Wp.iaddN (x := bl T p) (y := 1) (len := 1) rfl ?_
          refine Wp.n (pc' := 137) 1 rfl ?_
          refine Wp.get (len := 3) rfl (rfl) rfl ?_
          refine Wp.topR hS1 ?_
          refine Wp.get (len := 3) rfl (rfl) rfl ?_
          refine Wp.top hT1.1 ?_
          refine Wp.bi (len := 3) rfl (by decide) rfl (by omega) ?_
          refine Wp.top (n_min (x := bl T p + 1) (y := T.1) (by omega) (by omega)) ?_
          refine Wp.n (pc' := 149) 3 rfl ?_
          refine Wp.get (len := 3) rfl (rfl) rfl ?_
          refine Wp.top a5 ?_
          refine Wp.cput2 (len := 3) 6 rfl rfl ?_
          have cke : ck (tk T (bl T p)) = kdc (T.2 (bl T p)) := ek.symm
          unfold ck at cke
          first
            | (have q12 : tk T (bl T p) = 1 ∨ tk T (bl T p) = 2 := by split at cke <;> omega
               exact fin _ _ _ (FA.f.t (FA.f.t FA.f)) b2 b3 rfl a5 rfl rfl ek (if_pos q12).symm)
            | (have q12 : ¬ (tk T (bl T p) = 1 ∨ tk T (bl T p) = 2) := by split at cke <;> omega
               exact fin _ _ _ (FA.f.t (FA.f.t FA.f)) b2 b3 rfl a5 rfl rfl ek (if_neg q12).symm)
        · skip
          refine Wp.n (pc' := 121) 1 rfl ?_
          refine Wp.get (len := 3) rfl (rfl) rfl ?_
          refine Wp.topR hS1 ?_
          refine Wp.get (len := 3) rfl (rfl) rfl ?_
          refine Wp.top hT1.1 ?_
          refine Wp.n (pc' := 149) 4 rfl ?_
          refine Wp.get (len := 3) rfl (rfl) rfl ?_
          refine Wp.top a5 ?_
          refine Wp.cput2 (len := 3) 6 rfl rfl ?_
          have cke : ck (tk T (bl T p)) = kdc (T.2 (bl T p)) := ek.symm
          unfold ck at cke
          first
            | (have q12 : tk T (bl T p) = 1 ∨ tk T (bl T p) = 2 := by split at cke <;> omega
               exact fin _ _ _ (FA.f.t (FA.f.t FA.f)) b2 b3 rfl a5 rfl rfl ek (if_pos q12).symm)
            | (have q12 : ¬ (tk T (bl T p) = 1 ∨ tk T (bl T p) = 2) := by split at cke <;> omega
               exact fin _ _ _ (FA.f.t (FA.f.t FA.f)) b2 b3 rfl a5 rfl rfl ek (if_neg q12).symm)
  · omega
theorem k_advance (hT : TC κ T) (hS : κ.2.2.2 0 = some 33) (hL : LC κ T st) : Wp (d + 9) md_11 0 [some (.ref 35), none] [] (cset M κ) (fun v M' => v = none ∧ RdC M κ T (adS T st) M') := by
  rcases st with x | s
  · have x1 := hL.2.1
    have x3 := hL.2.2.1
    refine Wp.n (pc' := 1) 1 rfl ?_
    refine Wp.get (len := 3) rfl (rfl) rfl ?_
    refine Wp.top hL.1 ?_
    refine Wp.nz0 (x := x.1) (tgt := 8) (len := 3) rfl (by omega) (fun h4 => ?_) (fun h4 => ?_)
    · omega
    · skip
      refine Wp.retV (len := 1) rfl rfl ?_
      exact ⟨rfl, κ, rfl, FA.r, hL⟩
  · exact k_adv hT hS hL.1 hL.2.1 hL.2.2.2.2.1 (en_le hL.2.2.2.2.2.2).2
theorem k_fail (hT : TC κ T) (hL : LC κ T st) {k p : Nat} (hk : 1 ≤ k ∧ k ≤ 3) (y : Int32) (hy : gd st = true → y = nI p) : Wp d md_18 0 [some (.ref 35), some (.int (nI k)), some (.int y)] [] (cset M κ) (fun v M' => v = none ∧ RdC M κ T (if gd st = true then .inl (k, p) else st) M') := by
  rcases st with x | s
  · have x1 := hL.2.1
    have x3 := hL.2.2.1
    refine Wp.n (pc' := 1) 1 rfl ?_
    refine Wp.get (len := 3) rfl (rfl) rfl ?_
    refine Wp.top hL.1 ?_
    refine Wp.nz1 (x := x.1) (tgt := 17) (len := 3) rfl (by omega) (fun h4 => ?_) (fun h4 => ?_)
    · skip
      refine Wp.retV (len := 1) rfl rfl ?_
      exact ⟨rfl, κ, rfl, FA.r, hL⟩
    · omega
  · obtain rfl := hy rfl
    have t4 := tk_le (T := T) (s := s)
    have e := en_le hL.2.2.2.2.2.2
    refine Wp.n (pc' := 1) 1 rfl ?_
    refine Wp.get (len := 3) rfl (rfl) rfl ?_
    refine Wp.top hL.1 ?_
    refine Wp.nz1 (x := 0) (tgt := 17) (len := 3) rfl (by omega) (fun h4 => ?_) (fun h4 => ?_)
    · omega
    · skip
      refine Wp.n (pc' := 9) 2 rfl ?_
      refine Wp.cput2 (len := 3) 2 rfl rfl ?_
      refine Wp.n (pc' := 14) 2 rfl ?_
      refine Wp.cput2 (len := 3) 3 rfl rfl ?_
      refine Wp.retV (len := 1) rfl rfl ?_
      exact ⟨rfl, _, rfl, FA.f.t FA.f, rfl, hk.1, hk.2, rfl, s, en T s, ck (tk T s), hL.2.2.2.1, hL.2.2.2.2.1, e.1, e.2, hL.2.2.1, by unfold ck; split <;> omega⟩
theorem k_hasLine (hL : LC κ T st) : Ev d md_13 0 [some (.ref 35)] [] (cset M κ) (some (.int (bI (hlS T st))), cset M κ) := by
  refine Wp.toEv ?_
  rcases st with x | s
  · have x1 := hL.2.1
    have x3 := hL.2.2.1
    refine Wp.n (pc' := 1) 1 rfl ?_
    refine Wp.get (len := 3) rfl (rfl) rfl ?_
    refine Wp.top hL.1 ?_
    refine Wp.nz1 (x := x.1) (tgt := 18) (len := 3) rfl (by omega) (fun h4 => ?_) (fun h4 => ?_)
    · skip
      refine Wp.n (pc' := 19) 1 rfl ?_
      refine Wp.retZ (len := 1) (c := false) rfl rfl rfl ?_
      exact ⟨rfl, rfl⟩
    · omega
  · have t4 := tk_le (T := T) (s := s)
    have c0 : ck (tk T s) = 0 ↔ tk T s = 0 := by unfold ck; split <;> omega
    have c5 : ck (tk T s) ≤ 5 := by unfold ck; split <;> omega
    refine Wp.n (pc' := 1) 1 rfl ?_
    refine Wp.get (len := 3) rfl (rfl) rfl ?_
    refine Wp.top hL.1 ?_
    refine Wp.nz1 (x := 0) (tgt := 18) (len := 3) rfl (by omega) (fun h4 => ?_) (fun h4 => ?_)
    · omega
    · skip
      refine Wp.n (pc' := 8) 1 rfl ?_
      refine Wp.get (len := 3) rfl (rfl) rfl ?_
      refine Wp.top hL.2.2.1 ?_
      refine Wp.nz0 (x := ck (tk T s)) (tgt := 18) (len := 3) rfl (by omega) (fun h11 => ?_) (fun h11 => ?_)
      · skip
        refine Wp.n (pc' := 19) 1 rfl ?_
        refine Wp.retZ (len := 1) (c := false) rfl rfl rfl ?_
        first
          | exact ⟨by rw [show hlS T (.inr s) = true from decide_eq_true (fun q => h11 (c0.mpr q))], rfl⟩
          | exact ⟨by rw [show hlS T (.inr s) = false from decide_eq_false (fun q => q (c0.mp h11))], rfl⟩
      · skip
        refine Wp.n (pc' := 19) 2 rfl ?_
        refine Wp.retZ (len := 1) (c := true) rfl rfl rfl ?_
        first
          | exact ⟨by rw [show hlS T (.inr s) = true from decide_eq_true (fun q => h11 (c0.mpr q))], rfl⟩
          | exact ⟨by rw [show hlS T (.inr s) = false from decide_eq_false (fun q => q (c0.mp h11))], rfl⟩
end CRD
end
section
/-! WORDS and NUMBERS, the class. -/
/-- the letters of word i, and its number -/
def wch (i j : Nat) : Int32 := (sbyt.getD i []).getD j 0
def wln (i : Nat) : Nat := slen.getD i 0
def whN (f : Nat → Int32) : Nat → Nat
  | 0 => 0
  | m + 1 => 27 * whN f m + ((f m).toNatClampNeg - 96)
def wno (i : Nat) : Nat := whN (wch i) (wln i)
theorem wch_ok : ∀ i, i < 21 → wln i ≤ 12 ∧ ∀ j, j < wln i → isLt (wch i j) = true := by decide +kernel
theorem whN_inj {f g : Nat → Int32} : ∀ (m n : Nat), (∀ j, j < m → isLt (f j) = true) → (∀ j, j < n → isLt (g j) = true) → whN f m = whN g n → m = n ∧ ∀ j, j < m → f j = g j
  | 0, 0, _, _, _ => ⟨rfl, fun j hj => absurd hj (Nat.not_lt_zero _)⟩
  | 0, n + 1, _, hg, h => by
    obtain ⟨c, hc, c1, c2⟩ := lt_of (hg n (by omega))
    have h' : 0 = 27 * whN g n + ((g n).toNatClampNeg - 96) := h
    rw [hc, nI_clamp (by omega)] at h'
    omega
  | m + 1, 0, hf, _, h => by
    obtain ⟨c, hc, c1, c2⟩ := lt_of (hf m (by omega))
    have h' : 27 * whN f m + ((f m).toNatClampNeg - 96) = 0 := h
    rw [hc, nI_clamp (by omega)] at h'
    omega
  | m + 1, n + 1, hf, hg, h => by
    obtain ⟨c, hc, c1, c2⟩ := lt_of (hf m (by omega))
    obtain ⟨e, he, e1, e2⟩ := lt_of (hg n (by omega))
    have h' : 27 * whN f m + ((f m).toNatClampNeg - 96) = 27 * whN g n + ((g n).toNatClampNeg - 96) := h
    rw [hc, nI_clamp (by omega), he, nI_clamp (by omega)] at h'
    obtain ⟨q1, q2⟩ := whN_inj m n (fun j hj => hf j (by omega)) (fun j hj => hg j (by omega)) (by omega)
    subst q1
    refine ⟨rfl, fun j hj => ?_⟩
    by_cases q : j = m
    · rw [q, hc, he, show c = e by omega]
    · exact q2 j (by omega)
theorem whN_eq {f g : Nat → Int32} : ∀ (m : Nat), (∀ j, j < m → f j = g j) → whN f m = whN g m
  | 0, _ => rfl
  | m + 1, h => by
    show 27 * whN f m + ((f m).toNatClampNeg - 96) = 27 * whN g m + ((g m).toNatClampNeg - 96)
    rw [whN_eq m (fun j hj => h j (by omega)), h m (by omega)]
theorem hsN_wh {T : TP} {s : Nat} : ∀ m, hsN T s m = whN (fun j => T.2 (s + j)) m
  | 0 => rfl
  | m + 1 => by
    show 27 * hsN T s m + _ = 27 * whN (fun j => T.2 (s + j)) m + _
    rw [hsN_wh m]
/-- word i stands from a on to e -/
def wdAt (T : TP) (a e i : Nat) : Bool := decide (e - a = wln i ∧ ∀ j, j < wln i → T.2 (a + j) = wch i j)
theorem wdAt_is {T : TP} {s i : Nat} (hi : i < 21) : isW T s (wno i) = (decide (tk T s = 1) && wdAt T s (en T s) i) := by
  obtain ⟨w1, w2⟩ := wch_ok i hi
  rw [Bool.eq_iff_iff, Bool.and_eq_true]
  unfold isW wdAt
  rw [decide_eq_true_iff, decide_eq_true_iff, decide_eq_true_iff]
  constructor
  · rintro ⟨h1, h2, h3⟩
    refine ⟨h1, ?_⟩
    have e := (tk_1 h1).1
    have le := en_le (Nat.le_of_lt (tk_1 h1).2)
    rw [hsN_wh] at h3
    have hl : ∀ j, j < en T s - s → isLt ((fun j => T.2 (s + j)) j) = true := fun j hj => tn_all (p := isLt) (T := T) (s := s) (q := s + j) (by omega) (by rw [← e]; omega)
    obtain ⟨q1, q2⟩ := whN_inj _ _ hl w2 h3
    exact ⟨q1, fun j hj => q2 j (by omega)⟩
  · rintro ⟨h1, h2, h3⟩
    refine ⟨h1, by omega, ?_⟩
    rw [hsN_wh, h2]
    exact whN_eq _ h3
theorem bs7 {M : AM} {q n : Nat} {x : _} {r : List Value} (hM : M q = .inl (8, n, x)) (hr : Nat.ble r.length 4 = true) : bstep 7 (.ref q :: r) M = some (.int (nI n) :: r, M) := by
  show (match M q with | .inl (t, n, _) => bif Nat.beq t 8 && Nat.ble r.length 4 then some (Value.int (Int32.ofNat n) :: r, M) else none | .inr _ => none) = _
  rw [hM]
  show (bif Nat.beq 8 8 && Nat.ble r.length 4 then _ else none) = _
  rw [hr]
  rfl
theorem bs8 {M : AM} {q n j : Nat} {w : Nat → Int32} {r : List Value} (hM : M q = .inl (8, n, .inl w)) (hj : j < n) (hn : n < 2 ^ 31) (hr : Nat.ble r.length 4 = true) : bstep 8 (.int (nI j) :: .ref q :: r) M = some (.int (w j) :: r, M) := by
  show (match M q with | .inl (t, n, .inl f) => bif Nat.beq t 8 && ain (nI j) n && Nat.ble r.length 4 then some (Value.int (f (nI j).toNatClampNeg) :: r, M) else none | _ => none) = _
  rw [hM]
  show (bif Nat.beq 8 8 && ain (nI j) n && Nat.ble r.length 4 then _ else none) = _
  rw [hr, ain_of (vp_in_nI hj hn), nI_clamp (by omega)]
  rfl
/-- the words of the class's text -/
def HW (M : AM) : Prop := ∀ i, i < 21 → M (3 + i) = .inl (8, wln i, .inl (wch i))
section CWD
variable {d : Nat} {M : AM} {κ κ' : CS} {T : TP} {st : St} {Q : Option Value → AM → Prop}
theorem k_isW_l (hT : TC κ T) (hS : κ.2.2.2 0 = some 33) {i a e : Nat} (hi : i < 21) (hM : cset M κ (3 + i) = .inl (8, wln i, .inl (wch i))) (h5 : κ.1 2 5 = nI a) (h6 : κ.1 2 6 = nI e) (he : e ≤ T.1) (hl : e - a = wln i) (hae : a ≤ e) : ∀ (n m : Nat), a + m + n = e → (∀ j, j < m → T.2 (a + j) = wch i j) → Wp (d + 9) md_17 31 [some (.ref 35), some (.ref (3 + i)), some (.int (nI (a + m)))] [] (cset M κ) (IsR (some (.int (bI (wdAt T a e i)))) (cset M κ))
  | 0, m, hn, hp => by
    have t20 := hT.2.1
    have w : wdAt T a e i = true := decide_eq_true ⟨hl, fun j hj => hp j (by omega)⟩
    rw [w]
    refine Wp.n (pc' := 33) 2 rfl ?_
    refine Wp.get (len := 3) rfl (rfl) rfl ?_
    refine Wp.top h6 ?_
    refine Wp.nc3 (x := a + m) (y := e) (tgt := 69) (len := 3) rfl (by omega) (by omega) (fun h36 => ?_) (fun h36 => ?_)
    · skip
      refine Wp.n (pc' := 70) 1 rfl ?_
      refine Wp.retZ (len := 1) (c := true) rfl rfl rfl ?_
      exact ⟨rfl, rfl⟩
    · omega
  | n + 1, m, hn, hp => by
    have t20 := hT.2.1
    have w12 := (wch_ok i hi).1
    refine Wp.n (pc' := 33) 2 rfl ?_
    refine Wp.get (len := 3) rfl (rfl) rfl ?_
    refine Wp.top h6 ?_
    refine Wp.nc3 (x := a + m) (y := e) (tgt := 69) (len := 3) rfl (by omega) (by omega) (fun h36 => ?_) (fun h36 => ?_)
    · omega
    · skip
      refine Wp.n (pc' := 40) 1 rfl ?_
      refine Wp.get (len := 3) rfl (rfl) rfl ?_
      refine Wp.topR hS ?_
      refine Wp.get (len := 3) rfl (rfl) rfl ?_
      refine Wp.n (pc' := 47) 1 rfl ?_
      refine Wp.baldN (j := a + m) (len := 1) rfl (rfl) rfl (by omega) (by decide) ?_
      refine Wp.top (hT.2.2 (a + m) (by omega)) ?_
      refine Wp.n (pc' := 51) 3 rfl ?_
      refine Wp.get (len := 3) rfl (rfl) rfl ?_
      refine Wp.top h5 ?_
      refine Wp.isubN (x := a + m) (y := a) (len := 1) rfl (by omega) ?_
      refine Wp.bi (len := 3) rfl (by decide) (bs8 (n := wln i) (j := a + m - a) hM (by omega) (by omega) rfl) (by omega) ?_
      refine Wp.ic0 (tgt := 63) (len := 3) rfl (fun h58 => ?_) (fun h58 => ?_)
      · skip
        refine Wp.incN (x := a + m) (len := 3) rfl rfl ?_
        refine Wp.n (pc' := 31) 1 rfl ?_
        have w := k_isW_l hT hS hi hM h5 h6 he hl hae n (m + 1) (by omega) (fun j hj => by
          by_cases q : j = m
          · rw [q, h58, show a + m - a = m by omega]
          · exact hp j (by omega))
        exact w
      · skip
        refine Wp.n (pc' := 62) 1 rfl ?_
        refine Wp.retZ (len := 1) (c := false) rfl rfl rfl ?_
        have w : wdAt T a e i = false := decide_eq_false (fun z => h58 (by have := z.2 m (by omega); rw [this, show a + m - a = m by omega]))
        rw [w]
        exact ⟨rfl, rfl⟩
theorem k_isW0 (hT : TC κ T) (hS : κ.2.2.2 0 = some 33) (hW : HW M) {i a e k : Nat} (hi : i < 21) (x4 : κ.1 2 4 = nI k) (hk : k ≤ 5) (x5 : κ.1 2 5 = nI a) (x6 : κ.1 2 6 = nI e) (he : e ≤ T.1) (hae : a ≤ e) : Ev (d + 9) md_17 0 [some (.ref 35), some (.ref (3 + i)), none] [] (cset M κ) (some (.int (bI (decide (k = 1) && wdAt T a e i))), cset M κ) := by
  refine Wp.toEv ?_
  have t20 := hT.2.1
  have w12 := (wch_ok i hi).1
  have hM : cset M κ (3 + i) = .inl (8, wln i, .inl (wch i)) := (cset_o (by omega)).trans (hW i hi)
  refine Wp.n (pc' := 1) 1 rfl ?_
  refine Wp.get (len := 3) rfl (rfl) rfl ?_
  refine Wp.top x4 ?_
  refine Wp.n (pc' := 5) 1 rfl ?_
  refine Wp.nc1 (x := k) (y := 1) (tgt := 24) (len := 3) rfl (by omega) (by omega) (fun h5 => ?_) (fun h5 => ?_)
  · skip
    refine Wp.n (pc' := 25) 1 rfl ?_
    refine Wp.retZ (len := 1) (c := false) rfl rfl rfl ?_
    first
      | (rw [show decide (k = 1) = false from decide_eq_false (by omega)]; exact ⟨rfl, rfl⟩)
      | (rw [show wdAt T a e i = false from decide_eq_false (fun z => by omega), Bool.and_false]; exact ⟨rfl, rfl⟩)
  · skip
    refine Wp.n (pc' := 9) 1 rfl ?_
    refine Wp.get (len := 3) rfl (rfl) rfl ?_
    refine Wp.top x6 ?_
    refine Wp.n (pc' := 13) 1 rfl ?_
    refine Wp.get (len := 3) rfl (rfl) rfl ?_
    refine Wp.top x5 ?_
    refine Wp.isubN (x := e) (y := a) (len := 1) rfl (by omega) ?_
    refine Wp.n (pc' := 18) 1 rfl ?_
    refine Wp.bi (len := 3) rfl (by decide) (bs7 (n := wln i) hM rfl) (by omega) ?_
    refine Wp.nc0 (x := e - a) (y := wln i) (tgt := 26) (len := 3) rfl (by omega) (by omega) (fun h21 => ?_) (fun h21 => ?_)
    · skip
      refine Wp.n (pc' := 27) 1 rfl ?_
      refine Wp.get (len := 3) rfl (rfl) rfl ?_
      refine Wp.top x5 ?_
      refine Wp.n (pc' := 31) 1 rfl ?_
      rw [show decide (k = 1) = true from decide_eq_true (by omega), Bool.true_and]
      exact k_isW_l hT hS hi hM x5 x6 he (by omega) hae (e - a) 0 (by omega) (fun j hj => absurd hj (Nat.not_lt_zero _))
    · skip
      refine Wp.n (pc' := 25) 1 rfl ?_
      refine Wp.retZ (len := 1) (c := false) rfl rfl rfl ?_
      first
        | (rw [show decide (k = 1) = false from decide_eq_false (by omega)]; exact ⟨rfl, rfl⟩)
        | (rw [show wdAt T a e i = false from decide_eq_false (fun z => by omega), Bool.and_false]; exact ⟨rfl, rfl⟩)
theorem k_isWord (hT : TC κ T) (hS : κ.2.2.2 0 = some 33) (hW : HW M) (hL : LC κ T st) {i : Nat} (hi : i < 21) : ∃ c, Ev (d + 9) md_17 0 [some (.ref 35), some (.ref (3 + i)), none] [] (cset M κ) (some (.int (bI c)), cset M κ) ∧ ∀ s, st = .inr s → c = isW T s (wno i) := by
  rcases st with x | s
  · obtain ⟨_, _, _, _, a, e, k, h5, h6, hae, he, h4, hk⟩ := hL
    exact ⟨_, k_isW0 hT hS hW hi h4 hk h5 h6 he hae, fun s q => by cases q⟩
  · obtain ⟨h2, h3, h4, h5, h6, h7, hs⟩ := hL
    have t4 := tk_le (T := T) (s := s)
    have e := en_le hs
    refine ⟨_, k_isW0 hT hS hW hi h4 (by unfold ck; split <;> omega) h5 h6 e.2 e.1, fun s' q => ?_⟩
    cases q
    rw [wdAt_is hi]
    have c1 : decide (ck (tk T s) = 1) = decide (tk T s = 1) := by
      unfold ck
      by_cases c : tk T s = 4
      · rw [if_pos c, c]; rfl
      · rw [if_neg c]
    rw [c1]
theorem k_takeWord (hT : TC κ T) (hS : κ.2.2.2 0 = some 33) (hW : HW M) (hL : LC κ T st) {i : Nat} (hi : i < 21) : Wp (d + 10) md_16 0 [some (.ref 35), some (.ref (3 + i))] [] (cset M κ) (fun v M' => v = none ∧ RdC M κ T (wdS T (wno i) st) M') := by
  obtain ⟨c, hc, hs⟩ := k_isWord (d := d) hT hS hW hL hi
  refine Wp.n (pc' := 2) 2 rfl ?_
  refine Wp.ecallV (len := 3) rfl rfl rfl (rfl) rfl (by decide) rfl (hc) ?_
  refine Wp.ifb1 (tgt := 17) (len := 3) rfl (fun h5 => ?_) (fun h5 => ?_)
  · have e0 : adS T st = wdS T (wno i) st := by
      rcases st with x | s
      · rfl
      · exact (if_pos ((hs s rfl).symm.trans h5)).symm
    refine Wp.n (pc' := 18) 1 rfl ?_
    refine Wp.callV (len := 3) rfl rfl rfl (rfl) rfl (by decide) rfl (k_advance hT hS hL) ?_
    rintro _ _ ⟨rfl, κ2, rfl, f2, l2⟩
    refine Wp.retV (len := 1) rfl rfl ?_
    exact ⟨rfl, κ2, rfl, f2, e0 ▸ l2⟩
  · obtain ⟨p, hp, hy⟩ : ∃ p, p ≤ 2000 ∧ (gd st = true → κ.1 2 5 = nI p) := by
      rcases st with x | s
      · exact ⟨0, by decide, fun q => by cases q⟩
      · exact ⟨s, by have := hL.2.2.2.2.2.2; have := hT.2.1; omega, fun _ => hL.2.2.2.1⟩
    refine Wp.n (pc' := 11) 3 rfl ?_
    refine Wp.get (len := 3) rfl (rfl) rfl ?_
    refine Wp.callV (len := 3) rfl rfl rfl (rfl) rfl (by decide) rfl (k_fail (k := 1) hT hL (by decide) _ hy) ?_
    rintro _ _ ⟨rfl, κ1, rfl, f1, l1⟩
    refine Wp.n (pc' := 18) 1 rfl ?_
    have e1 : adS T (if gd st = true then .inl (1, p) else st) = wdS T (wno i) st := by
      rcases st with x | s
      · rfl
      · have ep : p = s := (nI_eq (by have := hp; omega) (by have := hL.2.2.2.2.2.2; have := hT.2.1; omega)).mp ((hy rfl).symm.trans hL.2.2.2.1)
        have nw : ¬ isW T s (wno i) = true := fun q => by rw [← hs s rfl, h5] at q; cases q
        rw [ep]
        exact (if_neg nw).symm
    refine Wp.callV (len := 3) rfl rfl rfl (rfl) rfl (by decide) rfl (k_advance (f1.tc hT) (by rw [f1.2]; exact hS) l1) ?_
    rintro _ _ ⟨rfl, κ2, rfl, f2, l2⟩
    refine Wp.retV (len := 1) rfl rfl ?_
    exact ⟨rfl, κ2, rfl, f1.t f2, e1 ▸ l2⟩
end CWD
end
section
/-! NUMBERS, the class. -/
section CNM
variable {d : Nat} {M : AM} {κ κ' : CS} {T : TP} {st : St} {Q : Option Value → AM → Prop}
theorem k_tn_b {x : Nat × Nat} {l32 h32 : Int32} (hL : LC κ T (.inl x)) (kk : ∀ y, Q (some (.int y)) (cset M κ)) : Wp (d + 10) md_20 45 [some (.ref 35), some (.int l32), some (.int h32), none] [] (cset M κ) Q := by
  have x1 := hL.2.1
  have x3 := hL.2.2.1
  refine Wp.n (pc' := 46) 1 rfl ?_
  refine Wp.get (len := 3) rfl (rfl) rfl ?_
  refine Wp.top hL.1 ?_
  refine Wp.nz0 (x := x.1) (tgt := 54) (len := 3) rfl (by omega) (fun h49 => ?_) (fun h49 => ?_)
  · omega
  · skip
    refine Wp.n (pc' := 53) 1 rfl ?_
    refine Wp.retI (len := 1) rfl rfl ?_
    exact kk _
theorem k_tn_g {s lo hi : Nat} (hT : TC κ T) (hS : κ.2.2.2 0 = some 33) (hL : LC κ T (.inr s)) (hv : vl T s ≤ 1000) : Wp (d + 10) md_20 45 [some (.ref 35), some (.int (nI lo)), some (.int (nI hi)), none] [] (cset M κ) (fun v M' => ∃ x, v = some (.int x) ∧ (gd (.inr (nx T s)) = true → x = nI (vl T s)) ∧ RdC M κ T (.inr (nx T s)) M') := by
  obtain ⟨z2, z3, z4, z5, z6, z7, zs⟩ := id hL
  refine Wp.n (pc' := 46) 1 rfl ?_
  refine Wp.get (len := 3) rfl (rfl) rfl ?_
  refine Wp.top z2 ?_
  refine Wp.nz0 (x := 0) (tgt := 54) (len := 3) rfl (by omega) (fun h49 => ?_) (fun h49 => ?_)
  · skip
    refine Wp.n (pc' := 55) 1 rfl ?_
    refine Wp.get (len := 3) rfl (rfl) rfl ?_
    refine Wp.top z7 ?_
    refine Wp.n (pc' := 60) 2 rfl ?_
    refine Wp.callV (len := 3) rfl rfl rfl (rfl) rfl (by decide) rfl (k_advance hT hS hL) ?_
    rintro _ _ ⟨rfl, κ2, rfl, f2, l2⟩
    refine Wp.n (pc' := 64) 1 rfl ?_
    refine Wp.retI (len := 1) rfl rfl ?_
    exact ⟨_, rfl, fun _ => congrArg nI (by omega), κ2, rfl, f2, l2⟩
  · omega
theorem k_takeNumber (hT : TC κ T) (hS : κ.2.2.2 0 = some 33) (hL : LC κ T st) {l32 h32 : Int32} {lo hi : Nat} (hg : gd st = true → l32 = nI lo ∧ h32 = nI hi ∧ hi ≤ 1000 ∧ lo ≤ 1000) : Wp (d + 10) md_20 0 [some (.ref 35), some (.int l32), some (.int h32), none] [] (cset M κ) (fun v M' => ∃ x, v = some (.int x) ∧ (gd (nmS T lo hi st) = true → x = nI (nmV T st)) ∧ RdC M κ T (nmS T lo hi st) M') := by
  rcases st with x | s
  · obtain ⟨z1, z2, z3, z4, a, e, k, z5, z6, z7, z8, z9, z10⟩ := id hL
    refine Wp.n (pc' := 1) 1 rfl ?_
    refine Wp.get (len := 3) rfl (rfl) rfl ?_
    refine Wp.top z9 ?_
    refine Wp.n (pc' := 5) 1 rfl ?_
    refine Wp.nc0 (x := k) (y := 2) (tgt := 20) (len := 3) rfl (by omega) (by omega) (fun h5 => ?_) (fun h5 => ?_)
    · skip
      refine Wp.n (pc' := 21) 1 rfl ?_
      refine Wp.get (len := 3) rfl (rfl) rfl ?_
      refine Wp.n (pc' := 25) 1 rfl ?_
      refine Wp.ic2 (tgt := 36) (len := 3) rfl (fun h25 => ?_) (fun h25 => ?_)
      · skip
        refine Wp.n (pc' := 39) 3 rfl ?_
        refine Wp.get (len := 3) rfl (rfl) rfl ?_
        refine Wp.callV (len := 3) rfl rfl rfl (rfl) rfl (by decide) rfl (k_fail (p := 0) (k := 2) hT hL (by decide) _ (fun q => by cases q)) ?_
        rintro _ _ ⟨rfl, κ1, rfl, f1, l1⟩
        change LC κ1 T (.inl x) at l1
        first
          | exact k_tn_b l1 (fun y => ⟨y, rfl, fun q => (by cases q), κ1, rfl, f1, l1⟩)
          | exact k_tn_b hL (fun y => ⟨y, rfl, fun q => (by cases q), κ, rfl, FA.r, hL⟩)
      · skip
        refine Wp.n (pc' := 29) 1 rfl ?_
        refine Wp.get (len := 3) rfl (rfl) rfl ?_
        refine Wp.n (pc' := 33) 1 rfl ?_
        refine Wp.ic5 (tgt := 45) (len := 3) rfl (fun h33 => ?_) (fun h33 => ?_)
        · skip
          first
            | exact k_tn_b l1 (fun y => ⟨y, rfl, fun q => (by cases q), κ1, rfl, f1, l1⟩)
            | exact k_tn_b hL (fun y => ⟨y, rfl, fun q => (by cases q), κ, rfl, FA.r, hL⟩)
        · skip
          refine Wp.n (pc' := 39) 3 rfl ?_
          refine Wp.get (len := 3) rfl (rfl) rfl ?_
          refine Wp.callV (len := 3) rfl rfl rfl (rfl) rfl (by decide) rfl (k_fail (p := 0) (k := 2) hT hL (by decide) _ (fun q => by cases q)) ?_
          rintro _ _ ⟨rfl, κ1, rfl, f1, l1⟩
          change LC κ1 T (.inl x) at l1
          first
            | exact k_tn_b l1 (fun y => ⟨y, rfl, fun q => (by cases q), κ1, rfl, f1, l1⟩)
            | exact k_tn_b hL (fun y => ⟨y, rfl, fun q => (by cases q), κ, rfl, FA.r, hL⟩)
    · skip
      refine Wp.n (pc' := 11) 3 rfl ?_
      refine Wp.get (len := 3) rfl (rfl) rfl ?_
      refine Wp.callV (len := 3) rfl rfl rfl (rfl) rfl (by decide) rfl (k_fail (p := 0) (k := 1) hT hL (by decide) _ (fun q => by cases q)) ?_
      rintro _ _ ⟨rfl, κ1, rfl, f1, l1⟩
      change LC κ1 T (.inl x) at l1
      refine Wp.n (pc' := 45) 1 rfl ?_
      first
        | exact k_tn_b l1 (fun y => ⟨y, rfl, fun q => (by cases q), κ1, rfl, f1, l1⟩)
        | exact k_tn_b hL (fun y => ⟨y, rfl, fun q => (by cases q), κ, rfl, FA.r, hL⟩)
  · obtain ⟨rfl, rfl, hi1, lo1⟩ := hg rfl
    obtain ⟨z2, z3, z4, z5, z6, z7, zs⟩ := id hL
    have t4 := tk_le (T := T) (s := s)
    have c2 : ck (tk T s) = 2 ↔ tk T s = 2 := by unfold ck; split <;> omega
    have c5 : ck (tk T s) ≤ 5 := by unfold ck; split <;> omega
    have mv : min 1000000 (vl T s) ≤ 1000000 := by omega
    refine Wp.n (pc' := 1) 1 rfl ?_
    refine Wp.get (len := 3) rfl (rfl) rfl ?_
    refine Wp.top z4 ?_
    refine Wp.n (pc' := 5) 1 rfl ?_
    refine Wp.nc0 (x := ck (tk T s)) (y := 2) (tgt := 20) (len := 3) rfl (by omega) (by omega) (fun h5 => ?_) (fun h5 => ?_)
    · skip
      refine Wp.n (pc' := 21) 1 rfl ?_
      refine Wp.get (len := 3) rfl (rfl) rfl ?_
      refine Wp.top z7 ?_
      refine Wp.n (pc' := 25) 1 rfl ?_
      refine Wp.nc2 (x := min 1000000 (vl T s)) (y := lo) (tgt := 36) (len := 3) rfl (by omega) (by omega) (fun h25 => ?_) (fun h25 => ?_)
      · skip
        refine Wp.n (pc' := 39) 3 rfl ?_
        refine Wp.get (len := 3) rfl (rfl) rfl ?_
        refine Wp.callV (len := 3) rfl rfl rfl (rfl) rfl (by decide) rfl (k_fail (p := s) (k := 2) hT hL (by decide) _ (fun _ => z5)) ?_
        rintro _ _ ⟨rfl, κ1, rfl, f1, l1⟩
        change LC κ1 T (.inl (2, s)) at l1
        first
          | (have e : nmS T lo hi (.inr s) = .inl (1, s) := if_neg (fun q => h5 (c2.mpr q))
             rw [e]
             exact k_tn_b (x := (1, s)) l1 (fun y => ⟨y, rfl, fun q => (by cases q), κ1, rfl, f1, l1⟩))
          | (have e : nmS T lo hi (.inr s) = .inl (2, s) := (if_pos (c2.mp h5)).trans (if_neg (by omega))
             rw [e]
             exact k_tn_b (x := (2, s)) l1 (fun y => ⟨y, rfl, fun q => (by cases q), κ1, rfl, f1, l1⟩))
          | (have e : nmS T lo hi (.inr s) = .inr (nx T s) := (if_pos (c2.mp h5)).trans (if_pos (by omega))
             rw [e]
             exact k_tn_g hT hS hL (by omega))
      · skip
        refine Wp.n (pc' := 29) 1 rfl ?_
        refine Wp.get (len := 3) rfl (rfl) rfl ?_
        refine Wp.top z7 ?_
        refine Wp.n (pc' := 33) 1 rfl ?_
        refine Wp.nc5 (x := min 1000000 (vl T s)) (y := hi) (tgt := 45) (len := 3) rfl (by omega) (by omega) (fun h33 => ?_) (fun h33 => ?_)
        · skip
          first
            | (have e : nmS T lo hi (.inr s) = .inl (1, s) := if_neg (fun q => h5 (c2.mpr q))
               rw [e]
               exact k_tn_b (x := (1, s)) l1 (fun y => ⟨y, rfl, fun q => (by cases q), κ1, rfl, f1, l1⟩))
            | (have e : nmS T lo hi (.inr s) = .inl (2, s) := (if_pos (c2.mp h5)).trans (if_neg (by omega))
               rw [e]
               exact k_tn_b (x := (2, s)) l1 (fun y => ⟨y, rfl, fun q => (by cases q), κ1, rfl, f1, l1⟩))
            | (have e : nmS T lo hi (.inr s) = .inr (nx T s) := (if_pos (c2.mp h5)).trans (if_pos (by omega))
               rw [e]
               exact k_tn_g hT hS hL (by omega))
        · skip
          refine Wp.n (pc' := 39) 3 rfl ?_
          refine Wp.get (len := 3) rfl (rfl) rfl ?_
          refine Wp.callV (len := 3) rfl rfl rfl (rfl) rfl (by decide) rfl (k_fail (p := s) (k := 2) hT hL (by decide) _ (fun _ => z5)) ?_
          rintro _ _ ⟨rfl, κ1, rfl, f1, l1⟩
          change LC κ1 T (.inl (2, s)) at l1
          first
            | (have e : nmS T lo hi (.inr s) = .inl (1, s) := if_neg (fun q => h5 (c2.mpr q))
               rw [e]
               exact k_tn_b (x := (1, s)) l1 (fun y => ⟨y, rfl, fun q => (by cases q), κ1, rfl, f1, l1⟩))
            | (have e : nmS T lo hi (.inr s) = .inl (2, s) := (if_pos (c2.mp h5)).trans (if_neg (by omega))
               rw [e]
               exact k_tn_b (x := (2, s)) l1 (fun y => ⟨y, rfl, fun q => (by cases q), κ1, rfl, f1, l1⟩))
            | (have e : nmS T lo hi (.inr s) = .inr (nx T s) := (if_pos (c2.mp h5)).trans (if_pos (by omega))
               rw [e]
               exact k_tn_g hT hS hL (by omega))
    · skip
      refine Wp.n (pc' := 11) 3 rfl ?_
      refine Wp.get (len := 3) rfl (rfl) rfl ?_
      refine Wp.callV (len := 3) rfl rfl rfl (rfl) rfl (by decide) rfl (k_fail (p := s) (k := 1) hT hL (by decide) _ (fun _ => z5)) ?_
      rintro _ _ ⟨rfl, κ1, rfl, f1, l1⟩
      change LC κ1 T (.inl (1, s)) at l1
      refine Wp.n (pc' := 45) 1 rfl ?_
      first
        | (have e : nmS T lo hi (.inr s) = .inl (1, s) := if_neg (fun q => h5 (c2.mpr q))
           rw [e]
           exact k_tn_b (x := (1, s)) l1 (fun y => ⟨y, rfl, fun q => (by cases q), κ1, rfl, f1, l1⟩))
        | (have e : nmS T lo hi (.inr s) = .inl (2, s) := (if_pos (c2.mp h5)).trans (if_neg (by omega))
           rw [e]
           exact k_tn_b (x := (2, s)) l1 (fun y => ⟨y, rfl, fun q => (by cases q), κ1, rfl, f1, l1⟩))
        | (have e : nmS T lo hi (.inr s) = .inr (nx T s) := (if_pos (c2.mp h5)).trans (if_pos (by omega))
           rw [e]
           exact k_tn_g hT hS hL (by omega))
theorem k_takeNamed (hT : TC κ T) (hS : κ.2.2.2 0 = some 33) (hW : HW M) (hL : LC κ T st) {i : Nat} (hi : i < 21) {l32 h32 : Int32} {lo hh : Nat} (hg : gd (wdS T (wno i) st) = true → l32 = nI lo ∧ h32 = nI hh ∧ hh ≤ 1000 ∧ lo ≤ 1000) : Wp (d + 11) md_19 0 [some (.ref 35), some (.ref (3 + i)), some (.int l32), some (.int h32)] [] (cset M κ) (fun v M' => ∃ x, v = some (.int x) ∧ (gd (nmS T lo hh (wdS T (wno i) st)) = true → x = nI (nmV T (wdS T (wno i) st))) ∧ RdC M κ T (nmS T lo hh (wdS T (wno i) st)) M') := by
  refine Wp.n (pc' := 2) 2 rfl ?_
  refine Wp.callV (len := 3) rfl rfl rfl (rfl) rfl (by decide) rfl (k_takeWord hT hS hW hL hi) ?_
  rintro _ _ ⟨rfl, κ1, rfl, f1, l1⟩
  refine Wp.n (pc' := 8) 3 rfl ?_
  refine Wp.callV (len := 3) rfl rfl rfl (rfl) rfl (by decide) rfl (k_takeNumber (f1.tc hT) (by rw [f1.2]; exact hS) l1 hg) ?_
  rintro _ _ ⟨x, rfl, hx, κ2, rfl, f2, l2⟩
  refine Wp.retI (len := 1) rfl rfl ?_
  exact ⟨_, rfl, hx, κ2, rfl, f1.t f2, l2⟩
end CNM
end
section
/-! THE CLASS'S DRAFT: rules, its beginning, the first line. -/
def BdC (ρ : RC) (K : KD) : Prop := RepC ρ K ∧ (∀ j, j < 5 → rlw ρ j = nI (kh K (6 + j))) ∧ kh K 11 = 0
/-- a line read by the class -/
def RCn (M : AM) (κ : CS) (T : TP) (st : St) (K : KD) : Option Value → AM → Prop := fun v M' => v = none ∧ ∃ ρ' κ', M' = cset (rset M 83 ρ') κ' ∧ FA κ κ' ∧ LC κ' T st ∧ (gd st = true → BdC ρ' K)
section DRF
variable {d : Nat} {X : MD} {pc len : Nat} {l : AL} {sk : List Value} {M : AM} {κ κ' : CS} {T : TP} {st : St} {K : KD} {ρ ρ' : RC} {b r : Nat} {v : Value} {Q : Option Value → AM → Prop}
theorem dobj : cset (rset M 83 ρ) κ 83 = .inr (3, rfs 83 ρ) := (cset_o (by omega)).trans rs_obj
theorem dlaw : cset (rset M 83 ρ) κ 84 = .inr (0, lfs (rlw ρ)) := (cset_o (by omega)).trans (rs_law (r := 83))
theorem droads : cset (rset M 83 ρ) κ 85 = .inl (4, 12, .inr (.inr (.inr (.inr (fun i => if i < 12 then some (83 + 3 + i) else none))))) := (cset_o (by omega)).trans (rs_roads (r := 83))
theorem droad {i : Nat} (h : i < 12) : cset (rset M 83 ρ) κ (83 + 3 + i) = .inr (1, kfs i (rlk ρ i)) := (cset_o (by omega)).trans (rs_road h)
theorem dlanes : cset (rset M 83 ρ) κ 98 = .inl (4, 9, .inr (.inr (.inr (.inr (fun i => if i < 9 then some (83 + 16 + i) else none))))) := (cset_o (by omega)).trans (rs_lanes (r := 83))
theorem dlane {i : Nat} (h : i < 9) : cset (rset M 83 ρ) κ (83 + 16 + i) = .inr (1, kfs i (rlk ρ (12 + i))) := (cset_o (by omega)).trans (rs_lane h)
theorem Wp.dput {x : Int32} (j : Nat) (hj : (Nat.ble j 3 || Nat.beq j 6 || Nat.beq j 8 || Nat.beq j 10) = true) (hc : cdx X pc = some (.inr (.inr (1, 3, j, v)), len)) (h : Wp d X (pc + len) l sk (cset (rset M 83 (hset ρ j x)) κ) Q) : Wp d X pc l (.int x :: .ref 83 :: sk) (cset (rset M 83 ρ) κ) Q := by
  rw [← rset_c (by decide) (by decide)] at h ⊢
  exact Wp.rput j hj hc h
theorem Wp.dlput {x : Int32} (j : Nat) (hj : Nat.ble j 4 = true) (hc : cdx X pc = some (.inr (.inr (1, 0, j, v)), len)) (h : Wp d X (pc + len) l sk (cset (rset M 83 (wset ρ j x)) κ) Q) : Wp d X pc l (.int x :: .ref 84 :: sk) (cset (rset M 83 ρ) κ) Q := by
  rw [← rset_c (by decide) (by decide)] at h ⊢
  exact Wp.wput (r := 83) j hj hc h
theorem Wp.dkR {x : Int32} {i : Nat} (j : Nat) (hj : (Nat.ble 1 j && Nat.ble j 6) = true) (hi : i < 12) (hc : cdx X pc = some (.inr (.inr (1, 1, j, v)), len)) (h : Wp d X (pc + len) l sk (cset (rset M 83 (kset ρ i j x)) κ) Q) : Wp d X pc l (.int x :: .ref (83 + 3 + i) :: sk) (cset (rset M 83 ρ) κ) Q := by
  rw [← rset_c (by decide) (by decide)] at h ⊢
  exact Wp.kputR j hj hi hc h
theorem Wp.dkL {x : Int32} {i : Nat} (j : Nat) (hj : (Nat.ble 1 j && Nat.ble j 6) = true) (hi : i < 9) (hc : cdx X pc = some (.inr (.inr (1, 1, j, v)), len)) (h : Wp d X (pc + len) l sk (cset (rset M 83 (kset ρ (12 + i) j x)) κ) Q) : Wp d X pc l (.int x :: .ref (83 + 16 + i) :: sk) (cset (rset M 83 ρ) κ) Q := by
  rw [← rset_c (by decide) (by decide)] at h ⊢
  exact Wp.kputL j hj hi hc h
theorem Wp.dgp {x : Int32} {i : Nat} (j : Nat) (hj : Nat.ble j 3 = true) (hi : i < 10) (hc : cdx X pc = some (.inr (.inr (1, 7, j, v)), len)) (h : Wp d X (pc + len) l sk (cset (rset M 83 (gset ρ i j x)) κ) Q) : Wp d X pc l (.int x :: .ref (83 + 26 + 2 * i) :: sk) (cset (rset M 83 ρ) κ) Q := by
  rw [← rset_c (by decide) (by decide)] at h ⊢
  exact Wp.gput j hj hi hc h
theorem k_lawBegin : Ev d md_1 0 [some (.ref 84)] [] (cset (rset M 83 ρ) κ) (none, cset (rset M 83 (wset (wset (wset (wset (wset ρ 0 0) 1 0) 2 0) 3 1) 4 0)) κ) := by
  refine Wp.toEv ?_
  refine Wp.n (pc' := 2) 2 rfl ?_
  refine Wp.dlput (len := 3) 0 rfl rfl ?_
  refine Wp.n (pc' := 7) 2 rfl ?_
  refine Wp.dlput (len := 3) 1 rfl rfl ?_
  refine Wp.n (pc' := 12) 2 rfl ?_
  refine Wp.dlput (len := 3) 2 rfl rfl ?_
  refine Wp.n (pc' := 17) 2 rfl ?_
  refine Wp.dlput (len := 3) 3 rfl rfl ?_
  refine Wp.n (pc' := 22) 2 rfl ?_
  refine Wp.dlput (len := 3) 4 rfl rfl ?_
  refine Wp.retV (len := 1) rfl rfl ?_
  exact ⟨rfl, rfl⟩
theorem k_realmBegin : Wp (d + 1) md_27 0 [some (.ref 83)] [] (cset (rset M 83 ρ) κ) (fun v M' => v = none ∧ ∃ ρ', M' = cset (rset M 83 ρ') κ ∧ BdC ρ' K0) := by
  refine Wp.n (pc' := 2) 2 rfl ?_
  refine Wp.dput (len := 3) 0 rfl rfl ?_
  refine Wp.n (pc' := 7) 2 rfl ?_
  refine Wp.dput (len := 3) 1 rfl rfl ?_
  refine Wp.n (pc' := 12) 2 rfl ?_
  refine Wp.dput (len := 3) 2 rfl rfl ?_
  refine Wp.n (pc' := 17) 2 rfl ?_
  refine Wp.dput (len := 3) 3 rfl rfl ?_
  refine Wp.n (pc' := 21) 1 rfl ?_
  refine Wp.get (len := 3) rfl (dobj) rfl ?_
  refine Wp.ecallV (len := 3) rfl rfl rfl (dlaw) rfl (by decide) rfl (k_lawBegin) ?_
  refine Wp.n (pc' := 29) 2 rfl ?_
  refine Wp.dput (len := 3) 6 rfl rfl ?_
  refine Wp.n (pc' := 34) 2 rfl ?_
  refine Wp.dput (len := 3) 8 rfl rfl ?_
  refine Wp.n (pc' := 39) 2 rfl ?_
  refine Wp.dput (len := 3) 10 rfl rfl ?_
  refine Wp.retV (len := 1) rfl rfl ?_
  have hl : ∀ (ρ2 : RC), (∀ j, j < 5 → rlw ρ2 j = if j = 3 then 1 else 0) → ∀ j, j < 5 → rlw ρ2 j = nI (kh K0 (6 + j)) := fun ρ2 h j hj => by
    rw [h j hj]
    show _ = nI (if 6 + j = 9 then 1 else 0)
    by_cases c : j = 3
    · rw [if_pos c, if_pos (by omega)]; rfl
    · rw [if_neg c, if_neg (by omega)]; rfl
  refine ⟨rfl, _, rfl, ⟨rfl, rfl, rfl, rfl, rfl, rfl, rfl, fun h => absurd h (by decide), fun i hi => absurd hi (Nat.not_lt_zero _), fun i hi => ?_, fun i hi => absurd hi (Nat.not_lt_zero _)⟩, hl _ (fun j hj => ?_), rfl⟩
  · rcases hi with hi | hi
    · exact absurd hi (Nat.not_lt_zero _)
    · exact absurd hi.2 (by show ¬ (0 : Nat) = 1; decide)
  · have jj : j = 0 ∨ j = 1 ∨ j = 2 ∨ j = 3 ∨ j = 4 := by omega
    rcases jj with rfl | rfl | rfl | rfl | rfl <;> rfl
theorem HW_r (hW : HW M) : HW (rset M 83 ρ) := fun i hi => (rset_ne (by omega)).trans (hW i hi)
theorem k_readerBegin (hT : TC κ T) : Wp (d + 10) md_10 0 [some (.ref 35), some (.ref 33), some (.ref 83)] [] (cset (rset M 83 ρ) κ) (fun v M' => v = none ∧ ∃ ρ' κ', M' = cset (rset M 83 ρ') κ' ∧ FA (cr (cr κ 0 (some 33)) 1 (some 83)) κ' ∧ LC κ' T (.inr (bl T 0)) ∧ BdC ρ' K0) := by
  refine Wp.n (pc' := 2) 2 rfl ?_
  refine Wp.cputS (len := 3) rfl ?_
  refine Wp.n (pc' := 7) 2 rfl ?_
  refine Wp.cputT (len := 3) rfl ?_
  refine Wp.n (pc' := 11) 1 rfl ?_
  refine Wp.get (len := 3) rfl (rfl) rfl ?_
  refine Wp.topR (k := 83) rfl ?_
  refine Wp.callV (len := 3) rfl rfl rfl (dobj) rfl (by decide) rfl (k_realmBegin) ?_
  rintro _ _ ⟨rfl, ρ1, rfl, hB⟩
  refine Wp.n (pc' := 19) 2 rfl ?_
  refine Wp.cput2 (len := 3) 2 rfl rfl ?_
  refine Wp.n (pc' := 24) 2 rfl ?_
  refine Wp.cput2 (len := 3) 3 rfl rfl ?_
  refine Wp.n (pc' := 29) 2 rfl ?_
  refine Wp.cput2 (len := 3) 6 rfl rfl ?_
  refine Wp.n (pc' := 33) 1 rfl ?_
  refine Wp.callV (len := 3) rfl rfl rfl (rfl) rfl (by decide) rfl (k_adv (T := T) (p := 0) ((FA.f.t (FA.f.t FA.f)).tc (κ := cr (cr κ 0 (some 33)) 1 (some 83)) hT) rfl rfl rfl rfl (Nat.zero_le _)) ?_
  rintro _ _ ⟨rfl, κ2, rfl, f2, l2⟩
  refine Wp.retV (len := 1) rfl rfl ?_
  exact ⟨rfl, ρ1, κ2, rfl, (FA.f.t (FA.f.t FA.f)).t f2, l2, hB⟩
end DRF
end
section
/-! LINES, the class: the first, floods, laws. -/
theorem wno_0 : wno 0 = 4398346831 := by decide +kernel
theorem wno_1 : wno 1 = 235981828 := by decide +kernel
theorem wno_2 : wno 2 = 80155 := by decide +kernel
theorem wno_3 : wno 3 = 355568 := by decide +kernel
theorem wno_4 : wno 4 = 131360 := by decide +kernel
theorem wno_5 : wno 5 = 400577 := by decide +kernel
theorem wno_6 : wno 6 = 365260 := by decide +kernel
theorem wno_7 : wno 7 = 555 := by decide +kernel
theorem wno_8 : wno 8 = 131638 := by decide +kernel
theorem wno_9 : wno 9 = 8935713994 := by decide +kernel
theorem wno_10 : wno 10 = 237308 := by decide +kernel
theorem wno_11 : wno 11 = 129523 := by decide +kernel
theorem wno_12 : wno 12 = 50348 := by decide +kernel
theorem wno_13 : wno 13 = 3436186 := by decide +kernel
theorem wno_14 : wno 14 = 419 := by decide +kernel
theorem wno_15 : wno 15 = 453773 := by decide +kernel
theorem wno_16 : wno 16 = 247162 := by decide +kernel
theorem wno_17 : wno 17 = 79 := by decide +kernel
theorem wno_18 : wno 18 = 8798 := by decide +kernel
theorem wno_19 : wno 19 = 284068024 := by decide +kernel
theorem wno_20 : wno 20 = 6559778 := by decide +kernel
section CLN
variable {d : Nat} {M : AM} {κ κ' : CS} {T : TP} {st : St} {K : KD} {ρ ρ' : RC} {Q : Option Value → AM → Prop}
theorem k_tW (i : Nat) {h : Nat} (hh : wno i = h) (hi : i < 21) (hT : TC κ T) (hS : κ.2.2.2 0 = some 33) (hW : HW M) (hL : LC κ T st) : Wp (d + 10) md_16 0 [some (.ref 35), some (.ref (3 + i))] [] (cset M κ) (fun v M' => v = none ∧ RdC M κ T (wdS T h st) M') := hh ▸ k_takeWord hT hS hW hL hi
theorem k_tN (i : Nat) {h : Nat} (hh : wno i = h) (hi : i < 21) (hT : TC κ T) (hS : κ.2.2.2 0 = some 33) (hW : HW M) (hL : LC κ T st) {l32 h32 : Int32} {lo hb : Nat} (hg : gd (wdS T h st) = true → l32 = nI lo ∧ h32 = nI hb ∧ hb ≤ 1000 ∧ lo ≤ 1000) : Wp (d + 11) md_19 0 [some (.ref 35), some (.ref (3 + i)), some (.int l32), some (.int h32)] [] (cset M κ) (fun v M' => ∃ x, v = some (.int x) ∧ (gd (nmS T lo hb (wdS T h st)) = true → x = nI (nmV T (wdS T h st))) ∧ RdC M κ T (nmS T lo hb (wdS T h st)) M') := by
  subst hh
  exact k_takeNamed hT hS hW hL hi hg
theorem k_iW (i : Nat) {h : Nat} (hh : wno i = h) (hi : i < 21) (hT : TC κ T) (hS : κ.2.2.2 0 = some 33) (hW : HW M) (hL : LC κ T st) : ∃ c, Ev (d + 9) md_17 0 [some (.ref 35), some (.ref (3 + i)), none] [] (cset M κ) (some (.int (bI c)), cset M κ) ∧ ∀ s, st = .inr s → c = isW T s h := by
  subst hh
  exact k_isWord hT hS hW hL hi
theorem k_readKingdom (hT : TC κ T) (hS : κ.2.2.2 0 = some 33) (hG : κ.2.2.2 1 = some 83) (hW : HW M) (hL : LC κ T st) (hB : BdC ρ K0) : Wp (d + 12) md_15 0 [some (.ref 35)] [] (cset (rset M 83 ρ) κ) (RCn M κ T (pf6 T st) (firK T st)) := by
  refine Wp.n (pc' := 3) 2 rfl ?_
  refine Wp.callV (len := 3) rfl rfl rfl (rfl) rfl (by decide) rfl (k_tW 0 wno_0 (by decide) hT hS (HW_r hW) hL) ?_
  rintro _ _ ⟨rfl, κ1, rfl, f1, l1⟩
  have F1 := f1
  have hG1 : κ1.2.2.2 1 = some 83 := by rw [F1.2]; exact hG
  have hS1 : κ1.2.2.2 0 = some 33 := by rw [F1.2]; exact hS
  have hT1 := F1.tc hT
  refine Wp.n (pc' := 7) 1 rfl ?_
  refine Wp.get (len := 3) rfl (rfl) rfl ?_
  refine Wp.topR hG1 ?_
  refine Wp.n (pc' := 16) 4 rfl ?_
  refine Wp.callV (len := 3) rfl rfl rfl (rfl) rfl (by decide) rfl (k_tN 1 wno_1 (by decide) hT1 hS1 (HW_r hW) l1 (lo := 2) (hb := 7) (fun q => ⟨rfl, rfl, by decide, by decide⟩)) ?_
  rintro _ _ ⟨a, rfl, ha, κ2, rfl, f2, l2⟩
  have F2 := F1.t f2
  have hG2 : κ2.2.2.2 1 = some 83 := by rw [F2.2]; exact hG
  have hS2 : κ2.2.2.2 0 = some 33 := by rw [F2.2]; exact hS
  have hT2 := F2.tc hT
  refine Wp.dput (len := 3) 0 rfl rfl ?_
  refine Wp.n (pc' := 23) 1 rfl ?_
  refine Wp.get (len := 3) rfl (rfl) rfl ?_
  refine Wp.topR hG2 ?_
  refine Wp.n (pc' := 32) 4 rfl ?_
  refine Wp.callV (len := 3) rfl rfl rfl (rfl) rfl (by decide) rfl (k_tN 2 wno_2 (by decide) hT2 hS2 (HW_r hW) l2 (lo := 1) (hb := 30) (fun q => ⟨rfl, rfl, by decide, by decide⟩)) ?_
  rintro _ _ ⟨b, rfl, hb, κ3, rfl, f3, l3⟩
  have F3 := F2.t f3
  have hG3 : κ3.2.2.2 1 = some 83 := by rw [F3.2]; exact hG
  have hS3 : κ3.2.2.2 0 = some 33 := by rw [F3.2]; exact hS
  have hT3 := F3.tc hT
  refine Wp.dput (len := 3) 1 rfl rfl ?_
  refine Wp.n (pc' := 39) 1 rfl ?_
  refine Wp.get (len := 3) rfl (rfl) rfl ?_
  refine Wp.topR hG3 ?_
  refine Wp.get (len := 3) rfl (dobj) rfl ?_
  refine Wp.n (pc' := 51) 4 rfl ?_
  refine Wp.callV (len := 3) rfl rfl rfl (rfl) rfl (by decide) rfl (k_tN 3 wno_3 (by decide) hT3 hS3 (HW_r hW) l3 (lo := 0) (hb := 99) (fun q => ⟨rfl, rfl, by decide, by decide⟩)) ?_
  rintro _ _ ⟨c, rfl, hc, κ4, rfl, f4, l4⟩
  have F4 := F3.t f4
  have hG4 : κ4.2.2.2 1 = some 83 := by rw [F4.2]; exact hG
  have hS4 : κ4.2.2.2 0 = some 33 := by rw [F4.2]; exact hS
  have hT4 := F4.tc hT
  refine Wp.dlput (len := 3) 0 rfl rfl ?_
  refine Wp.n (pc' := 58) 1 rfl ?_
  refine Wp.get (len := 3) rfl (rfl) rfl ?_
  refine Wp.topR hG4 ?_
  refine Wp.get (len := 3) rfl (dobj) rfl ?_
  refine Wp.n (pc' := 70) 4 rfl ?_
  refine Wp.callV (len := 3) rfl rfl rfl (rfl) rfl (by decide) rfl (k_tN 4 wno_4 (by decide) hT4 hS4 (HW_r hW) l4 (lo := 0) (hb := 99) (fun q => ⟨rfl, rfl, by decide, by decide⟩)) ?_
  rintro _ _ ⟨x, rfl, hx, κ5, rfl, f5, l5⟩
  have F5 := F4.t f5
  have hG5 : κ5.2.2.2 1 = some 83 := by rw [F5.2]; exact hG
  have hS5 : κ5.2.2.2 0 = some 33 := by rw [F5.2]; exact hS
  have hT5 := F5.tc hT
  refine Wp.dlput (len := 3) 1 rfl rfl ?_
  refine Wp.n (pc' := 77) 1 rfl ?_
  refine Wp.get (len := 3) rfl (rfl) rfl ?_
  refine Wp.topR hG5 ?_
  refine Wp.get (len := 3) rfl (dobj) rfl ?_
  refine Wp.n (pc' := 89) 4 rfl ?_
  refine Wp.callV (len := 3) rfl rfl rfl (rfl) rfl (by decide) rfl (k_tN 5 wno_5 (by decide) hT5 hS5 (HW_r hW) l5 (lo := 0) (hb := 99) (fun q => ⟨rfl, rfl, by decide, by decide⟩)) ?_
  rintro _ _ ⟨y, rfl, hy, κ6, rfl, f6, l6⟩
  have F6 := F5.t f6
  have hG6 : κ6.2.2.2 1 = some 83 := by rw [F6.2]; exact hG
  have hS6 : κ6.2.2.2 0 = some 33 := by rw [F6.2]; exact hS
  have hT6 := F6.tc hT
  refine Wp.dlput (len := 3) 2 rfl rfl ?_
  refine Wp.retV (len := 1) rfl rfl ?_
  refine ⟨rfl, _, κ6, rfl, F6, l6, fun g6 => ?_⟩
  have g5 : gd (pf5 T st) = true := gd_wd (gd_nm g6)
  have g4 : gd (pf4 T st) = true := gd_wd (gd_nm g5)
  have g3 : gd (pf3 T st) = true := gd_wd (gd_nm g4)
  have g2 : gd (pf2 T st) = true := gd_wd (gd_nm g3)
  obtain rfl := ha g2
  obtain rfl := hb g3
  obtain rfl := hc g4
  obtain rfl := hx g5
  obtain rfl := hy g6
  obtain ⟨⟨r0, r1, r2, r3, r6, r8, r10, rl, rr, rn_, rw_⟩, hl, h11⟩ := hB
  have hl' : ∀ j, j < 5 → rlw (wset (wset (wset (hset (hset ρ 0 (nI (nmV T (wdS T 235981828 (wdS T 4398346831 st))))) 1 (nI (nmV T (wdS T 80155 (nmS T 2 7 (wdS T 235981828 (wdS T 4398346831 st))))))) 0 (nI (nmV T (wdS T 355568 (nmS T 1 30 (wdS T 80155 (nmS T 2 7 (wdS T 235981828 (wdS T 4398346831 st))))))))) 1 (nI (nmV T (wdS T 131360 (pf4 T st))))) 2 (nI (nmV T (wdS T 400577 (pf5 T st))))) j = nI (kh (firK T st) (6 + j)) := fun j hj => by
    have jj : j = 0 ∨ j = 1 ∨ j = 2 ∨ j = 3 ∨ j = 4 := by omega
    rcases jj with rfl | rfl | rfl | rfl | rfl
    · rfl
    · rfl
    · rfl
    · exact hl 3 (by decide)
    · exact hl 4 (by decide)
  refine ⟨⟨rfl, rfl, r2, r3, r6, r8, r10, fun _ => hl', fun i hi => absurd hi (Nat.not_lt_zero _), fun i hi => ?_, fun i hi => absurd hi (Nat.not_lt_zero _)⟩, hl', rfl⟩
  rcases hi with hi | hi
  · exact absurd hi (Nat.not_lt_zero _)
  · exact absurd hi.2 (by show ¬ (0 : Nat) = 1; decide)
end CLN
end
section
/-! LINES, the class: floods. -/
section CLF
variable {d : Nat} {M : AM} {κ κ' : CS} {T : TP} {st : St} {K : KD} {ρ ρ' : RC} {Q : Option Value → AM → Prop}
theorem k_readFlood {s : Nat} (hT : TC κ T) (hS : κ.2.2.2 0 = some 33) (hG : κ.2.2.2 1 = some 83) (hW : HW M) (hL : LC κ T (.inr s)) (hB : BdC ρ K) (ok : KOK K) (hD : 1 ≤ kh K 1) : Wp (d + 12) md_23 0 [some (.ref 35)] [] (cset (rset M 83 ρ) κ) (RCn M κ T (fd2 T K (.inr (nx T s))) (fdK T K (.inr (nx T s)))) := by
  have b1 := (ok_h ok).2.1
  have F0 : FA κ κ := FA.r
  refine Wp.n (pc' := 1) 1 rfl ?_
  refine Wp.callV (len := 3) rfl rfl rfl (rfl) rfl (by decide) rfl (k_advance hT hS hL) ?_
  rintro _ _ ⟨rfl, κ1, rfl, f1, l1⟩
  have F1 := F0.t f1
  have hG1 : κ1.2.2.2 1 = some 83 := by rw [F1.2]; exact hG
  have hS1 : κ1.2.2.2 0 = some 33 := by rw [F1.2]; exact hS
  have hT1 := F1.tc hT
  refine Wp.n (pc' := 7) 2 rfl ?_
  refine Wp.callV (len := 3) rfl rfl rfl (rfl) rfl (by decide) rfl (k_tW 14 wno_14 (by decide) hT1 hS1 (HW_r hW) l1) ?_
  rintro _ _ ⟨rfl, κ2, rfl, f2, l2⟩
  have F2 := F1.t f2
  have hG2 : κ2.2.2.2 1 = some 83 := by rw [F2.2]; exact hG
  have hS2 : κ2.2.2.2 0 = some 33 := by rw [F2.2]; exact hS
  have hT2 := F2.tc hT
  refine Wp.n (pc' := 11) 1 rfl ?_
  refine Wp.get (len := 3) rfl (rfl) rfl ?_
  refine Wp.topR hG2 ?_
  refine Wp.n (pc' := 15) 1 rfl ?_
  refine Wp.get (len := 3) rfl (dobj) rfl ?_
  refine Wp.top hB.1.2.2.2.1 ?_
  refine Wp.n (pc' := 22) 4 rfl ?_
  refine Wp.get (len := 3) rfl (rfl) rfl ?_
  refine Wp.topR hG2 ?_
  refine Wp.get (len := 3) rfl (dobj) rfl ?_
  refine Wp.top hB.1.2.1 ?_
  refine Wp.n (pc' := 29) 1 rfl ?_
  refine Wp.isubN (x := kh K 1) (y := 1) (len := 1) rfl (by omega) ?_
  refine Wp.callV (len := 3) rfl rfl rfl (rfl) rfl (by decide) rfl (k_takeNumber (lo := 0) (hi := kh K 1 - 1) hT2 hS2 l2 (fun q => ⟨rfl, rfl, by omega, by omega⟩)) ?_
  rintro _ _ ⟨x, rfl, hx, κ3, rfl, f3, l3⟩
  have F3 := F2.t f3
  have hG3 : κ3.2.2.2 1 = some 83 := by rw [F3.2]; exact hG
  have hS3 : κ3.2.2.2 0 = some 33 := by rw [F3.2]; exact hS
  have hT3 := F3.tc hT
  refine Wp.n (pc' := 35) 2 rfl ?_
  refine Wp.dput (len := 3) 3 rfl rfl ?_
  refine Wp.retV (len := 1) rfl rfl ?_
  refine ⟨rfl, _, κ3, rfl, F3, l3, fun g => ?_⟩
  obtain rfl := hx g
  have n3 : 0 ≤ nmV T (fd1 T (.inr (nx T s))) ∧ nmV T (fd1 T (.inr (nx T s))) ≤ kh K 1 - 1 := nm_le g
  have hb : nmV T (fd1 T (.inr (nx T s))) < 31 := by omega
  obtain ⟨⟨r0, r1, r2, r3, r6, r8, r10, rl, rr, rn_, rw_⟩, hl, h11⟩ := hB
  have hl' : ∀ j, j < 5 → rlw ρ j = nI (kh (fdK T K (.inr (nx T s))) (6 + j)) := fun j hj => (hl j hj).trans (congrArg nI (if_neg (by omega)).symm)
  refine ⟨⟨r0, r1, r2, ?_, r6, r8, r10, fun _ => hl', rr, rn_, rw_⟩, hl', h11⟩
  show nI (kh K 12) ||| ((1 : Int32) <<< (nI (nmV T (fd1 T (.inr (nx T s)))) &&& 31)) = nI (kh K 12 ||| 2 ^ nmV T (fd1 T (.inr (nx T s))))
  rw [n_sh1 _ hb, n_or]
theorem k_law_e {K' : KD} {κ1 : CS} (hT : TC κ T) (hS : κ.2.2.2 0 = some 33) (F : FA κ κ1) (l1 : LC κ1 T st) (hb : gd (adS T st) = true → BdC ρ K') : Wp (d + 12) md_25 107 [some (.ref 35)] [] (cset (rset M 83 ρ) κ1) (RCn M κ T (adS T st) K') := by
  refine Wp.n (pc' := 108) 1 rfl ?_
  refine Wp.callV (len := 3) rfl rfl rfl (rfl) rfl (by decide) rfl (k_advance (F.tc hT) (by rw [F.2]; exact hS) l1) ?_
  rintro _ _ ⟨rfl, κ2, rfl, f2, l2⟩
  refine Wp.retV (len := 1) rfl rfl ?_
  exact ⟨rfl, ρ, κ2, rfl, F.t f2, l2, hb⟩
theorem BdC_lw (hB : BdC ρ K) {k : Nat} : BdC (wset ρ (lwm k) (nI (lwv k))) (lawH K k) := by
  obtain ⟨⟨r0, r1, r2, r3, r6, r8, r10, rl, rr, rn_, rw_⟩, hl, h11⟩ := hB
  have hm : lwm k = 3 ∨ lwm k = 4 := by unfold lwm; split <;> simp
  have ek : ∀ j, j ≠ 6 + lwm k → kh (lawH K k) j = kh K j := fun j hj => if_neg hj
  have en : kh (lawH K k) (6 + lwm k) = lwv k := if_pos rfl
  have hl' : ∀ j, j < 5 → rlw (wset ρ (lwm k) (nI (lwv k))) j = nI (kh (lawH K k) (6 + j)) := fun j hj => by
    show upd (rlw ρ) (lwm k) _ j = _
    by_cases q : j = lwm k
    · rw [q, pk_us, en]
    · rw [pk_un q, ek (6 + j) (by omega)]; exact hl j hj
  refine ⟨⟨?_, ?_, ?_, ?_, ?_, ?_, ?_, fun _ => hl', ?_, ?_, ?_⟩, hl', (ek 11 (by omega)).trans h11⟩
  · rw [ek 0 (by omega)]; exact r0
  · rw [ek 1 (by omega)]; exact r1
  · rw [ek 5 (by omega)]; exact r2
  · rw [ek 12 (by omega)]; exact r3
  · rw [ek 2 (by omega)]; exact r6
  · rw [ek 3 (by omega), ek 11 (by omega)]; exact r8
  · rw [ek 4 (by omega)]; exact r10
  · rw [ek 2 (by omega)]; exact rr
  · have ep : ∀ l, phL (lawH K k) l = phL K l := fun l => by unfold phL; rw [ek 3 (by omega)]
    rw [ek 3 (by omega), ek 11 (by omega)]
    intro l hl2
    rw [ep]
    exact rn_ l hl2
  · rw [ek 4 (by omega)]; exact rw_
theorem k_readLaw {s : Nat} (hT : TC κ T) (hS : κ.2.2.2 0 = some 33) (hG : κ.2.2.2 1 = some 83) (hW : HW M) (hL : LC κ T (.inr s)) (hB : BdC ρ K) : Wp (d + 12) md_25 0 [some (.ref 35)] [] (cset (rset M 83 ρ) κ) (RCn M κ T (lawS T (lw1 T (.inr s))) (lawH K (lwq T (lw1 T (.inr s))))) := by
  refine Wp.n (pc' := 3) 2 rfl ?_
  refine Wp.callV (len := 3) rfl rfl rfl (rfl) rfl (by decide) rfl (k_tW (d := d + 1) 18 wno_18 (by decide) hT hS (HW_r hW) hL) ?_
  rintro _ _ ⟨rfl, κ1, rfl, f1, l1⟩
  have hG1 : κ1.2.2.2 1 = some 83 := by rw [f1.2]; exact hG
  have hS1 : κ1.2.2.2 0 = some 33 := by rw [f1.2]; exact hS
  have hT1 := f1.tc hT
  change LC κ1 T (lw1 T (.inr s)) at l1
  obtain ⟨c1, e1, i1⟩ := k_iW (d := d + 2) 19 wno_19 (by decide) hT1 hS1 (HW_r (ρ := ρ) hW) l1
  obtain ⟨c2, e2, i2⟩ := k_iW (d := d + 2) 4 wno_4 (by decide) hT1 hS1 (HW_r (ρ := ρ) hW) l1
  obtain ⟨c3, e3, i3⟩ := k_iW (d := d + 2) 16 wno_16 (by decide) hT1 hS1 (HW_r (ρ := ρ) hW) l1
  obtain ⟨c4, e4, i4⟩ := k_iW (d := d + 2) 20 wno_20 (by decide) hT1 hS1 (HW_r (ρ := ρ) hW) l1
  rcases hq : lw1 T (.inr s) with x | s1
  · rw [hq] at l1
    refine Wp.n (pc' := 9) 2 rfl ?_
    refine Wp.ecallV (len := 3) rfl rfl rfl (rfl) rfl (by decide) rfl (e1) ?_
    refine Wp.ifb0 (tgt := 29) (len := 3) rfl (fun h12 => ?_) (fun h12 => ?_)
    · skip
      refine Wp.n (pc' := 32) 2 rfl ?_
      refine Wp.ecallV (len := 3) rfl rfl rfl (rfl) rfl (by decide) rfl (e2) ?_
      refine Wp.ifb0 (tgt := 52) (len := 3) rfl (fun h35 => ?_) (fun h35 => ?_)
      · skip
        refine Wp.n (pc' := 55) 2 rfl ?_
        refine Wp.ecallV (len := 3) rfl rfl rfl (rfl) rfl (by decide) rfl (e3) ?_
        refine Wp.ifb0 (tgt := 75) (len := 3) rfl (fun h58 => ?_) (fun h58 => ?_)
        · skip
          refine Wp.n (pc' := 78) 2 rfl ?_
          refine Wp.ecallV (len := 3) rfl rfl rfl (rfl) rfl (by decide) rfl (e4) ?_
          refine Wp.ifb0 (tgt := 98) (len := 3) rfl (fun h81 => ?_) (fun h81 => ?_)
          · skip
            refine Wp.n (pc' := 101) 3 rfl ?_
            refine Wp.get (len := 3) rfl (rfl) rfl ?_
            refine Wp.callV (len := 3) rfl rfl rfl (rfl) rfl (by decide) rfl (k_fail (p := 0) (k := 1) hT1 l1 (by decide) _ (fun q => by cases q)) ?_
            rintro _ _ ⟨rfl, κ2, rfl, f2, l2⟩
            change LC κ2 T (.inl x) at l2
            first
              | exact k_law_e (st := .inl x) hT hS (f1.t f2) l2 (fun q => by cases q)
              | exact k_law_e (st := .inl x) hT hS f1 l1 (fun q => by cases q)
          · skip
            refine Wp.n (pc' := 85) 1 rfl ?_
            refine Wp.get (len := 3) rfl (rfl) rfl ?_
            refine Wp.topR hG1 ?_
            refine Wp.get (len := 3) rfl (dobj) rfl ?_
            refine Wp.n (pc' := 92) 1 rfl ?_
            refine Wp.dlput (len := 3) 4 rfl rfl ?_
            refine Wp.n (pc' := 107) 1 rfl ?_
            first
              | exact k_law_e (st := .inl x) hT hS (f1.t f2) l2 (fun q => by cases q)
              | exact k_law_e (st := .inl x) hT hS f1 l1 (fun q => by cases q)
        · skip
          refine Wp.n (pc' := 62) 1 rfl ?_
          refine Wp.get (len := 3) rfl (rfl) rfl ?_
          refine Wp.topR hG1 ?_
          refine Wp.get (len := 3) rfl (dobj) rfl ?_
          refine Wp.n (pc' := 69) 1 rfl ?_
          refine Wp.dlput (len := 3) 4 rfl rfl ?_
          refine Wp.n (pc' := 107) 1 rfl ?_
          first
            | exact k_law_e (st := .inl x) hT hS (f1.t f2) l2 (fun q => by cases q)
            | exact k_law_e (st := .inl x) hT hS f1 l1 (fun q => by cases q)
      · skip
        refine Wp.n (pc' := 39) 1 rfl ?_
        refine Wp.get (len := 3) rfl (rfl) rfl ?_
        refine Wp.topR hG1 ?_
        refine Wp.get (len := 3) rfl (dobj) rfl ?_
        refine Wp.n (pc' := 46) 1 rfl ?_
        refine Wp.dlput (len := 3) 3 rfl rfl ?_
        refine Wp.n (pc' := 107) 1 rfl ?_
        first
          | exact k_law_e (st := .inl x) hT hS (f1.t f2) l2 (fun q => by cases q)
          | exact k_law_e (st := .inl x) hT hS f1 l1 (fun q => by cases q)
    · skip
      refine Wp.n (pc' := 16) 1 rfl ?_
      refine Wp.get (len := 3) rfl (rfl) rfl ?_
      refine Wp.topR hG1 ?_
      refine Wp.get (len := 3) rfl (dobj) rfl ?_
      refine Wp.n (pc' := 23) 1 rfl ?_
      refine Wp.dlput (len := 3) 3 rfl rfl ?_
      refine Wp.n (pc' := 107) 1 rfl ?_
      first
        | exact k_law_e (st := .inl x) hT hS (f1.t f2) l2 (fun q => by cases q)
        | exact k_law_e (st := .inl x) hT hS f1 l1 (fun q => by cases q)
  · rw [hq] at l1
    have w1 : c1 = isW T s1 284068024 := i1 s1 hq
    have w2 : c2 = isW T s1 131360 := i2 s1 hq
    have w3 : c3 = isW T s1 247162 := i3 s1 hq
    have w4 : c4 = isW T s1 6559778 := i4 s1 hq
    have go : ∀ k, lwk T s1 = k → k < 4 → Wp (d + 12) md_25 107 [some (.ref 35)] [] (cset (rset M 83 (wset ρ (lwm k) (nI (lwv k)))) κ1) (RCn M κ T (lawS T (.inr s1)) (lawH K (lwq T (.inr s1)))) := by
      intro k ek hk
      have es : lawS T (.inr s1) = adS T (.inr s1) := if_pos (by omega)
      rw [es, show lwq T (.inr s1) = k from ek]
      exact k_law_e hT hS f1 l1 (fun _ => BdC_lw hB)
    refine Wp.n (pc' := 9) 2 rfl ?_
    refine Wp.ecallV (len := 3) rfl rfl rfl (rfl) rfl (by decide) rfl (e1) ?_
    refine Wp.ifb0 (tgt := 29) (len := 3) rfl (fun h12 => ?_) (fun h12 => ?_)
    · have n12 : ¬ isW T s1 284068024 = true := by rw [← w1, h12]; decide
      refine Wp.n (pc' := 32) 2 rfl ?_
      refine Wp.ecallV (len := 3) rfl rfl rfl (rfl) rfl (by decide) rfl (e2) ?_
      refine Wp.ifb0 (tgt := 52) (len := 3) rfl (fun h35 => ?_) (fun h35 => ?_)
      · have n35 : ¬ isW T s1 131360 = true := by rw [← w2, h35]; decide
        refine Wp.n (pc' := 55) 2 rfl ?_
        refine Wp.ecallV (len := 3) rfl rfl rfl (rfl) rfl (by decide) rfl (e3) ?_
        refine Wp.ifb0 (tgt := 75) (len := 3) rfl (fun h58 => ?_) (fun h58 => ?_)
        · have n58 : ¬ isW T s1 247162 = true := by rw [← w3, h58]; decide
          refine Wp.n (pc' := 78) 2 rfl ?_
          refine Wp.ecallV (len := 3) rfl rfl rfl (rfl) rfl (by decide) rfl (e4) ?_
          refine Wp.ifb0 (tgt := 98) (len := 3) rfl (fun h81 => ?_) (fun h81 => ?_)
          · have n81 : ¬ isW T s1 6559778 = true := by rw [← w4, h81]; decide
            refine Wp.n (pc' := 101) 3 rfl ?_
            refine Wp.get (len := 3) rfl (rfl) rfl ?_
            refine Wp.callV (len := 3) rfl rfl rfl (rfl) rfl (by decide) rfl (k_fail (p := s1) (k := 1) hT1 l1 (by decide) _ (fun _ => l1.2.2.2.1)) ?_
            rintro _ _ ⟨rfl, κ2, rfl, f2, l2⟩
            change LC κ2 T (.inl (1, s1)) at l2
            first
              | (have ek : lwk T s1 = 4 := by unfold lwk; rw [if_neg n12, if_neg n35, if_neg n58, if_neg n81]
                 have es : lawS T (.inr s1) = .inl (1, s1) := if_neg (by omega)
                 rw [es]
                 exact k_law_e (st := .inl (1, s1)) hT hS (f1.t f2) l2 (fun q => by cases q))
              | (have ek : lwk T s1 = 3 := by unfold lwk; rw [if_neg n12, if_neg n35, if_neg n58, if_pos p81]
                 exact go 3 ek (by decide))
              | (have ek : lwk T s1 = 2 := by unfold lwk; rw [if_neg n12, if_neg n35, if_pos p58]
                 exact go 2 ek (by decide))
              | (have ek : lwk T s1 = 1 := by unfold lwk; rw [if_neg n12, if_pos p35]
                 exact go 1 ek (by decide))
              | (have ek : lwk T s1 = 0 := by unfold lwk; rw [if_pos p12]
                 exact go 0 ek (by decide))
          · have p81 : isW T s1 6559778 = true := by rw [← w4, h81]
            refine Wp.n (pc' := 85) 1 rfl ?_
            refine Wp.get (len := 3) rfl (rfl) rfl ?_
            refine Wp.topR hG1 ?_
            refine Wp.get (len := 3) rfl (dobj) rfl ?_
            refine Wp.n (pc' := 92) 1 rfl ?_
            refine Wp.dlput (len := 3) 4 rfl rfl ?_
            refine Wp.n (pc' := 107) 1 rfl ?_
            first
              | (have ek : lwk T s1 = 4 := by unfold lwk; rw [if_neg n12, if_neg n35, if_neg n58, if_neg n81]
                 have es : lawS T (.inr s1) = .inl (1, s1) := if_neg (by omega)
                 rw [es]
                 exact k_law_e (st := .inl (1, s1)) hT hS (f1.t f2) l2 (fun q => by cases q))
              | (have ek : lwk T s1 = 3 := by unfold lwk; rw [if_neg n12, if_neg n35, if_neg n58, if_pos p81]
                 exact go 3 ek (by decide))
              | (have ek : lwk T s1 = 2 := by unfold lwk; rw [if_neg n12, if_neg n35, if_pos p58]
                 exact go 2 ek (by decide))
              | (have ek : lwk T s1 = 1 := by unfold lwk; rw [if_neg n12, if_pos p35]
                 exact go 1 ek (by decide))
              | (have ek : lwk T s1 = 0 := by unfold lwk; rw [if_pos p12]
                 exact go 0 ek (by decide))
        · have p58 : isW T s1 247162 = true := by rw [← w3, h58]
          refine Wp.n (pc' := 62) 1 rfl ?_
          refine Wp.get (len := 3) rfl (rfl) rfl ?_
          refine Wp.topR hG1 ?_
          refine Wp.get (len := 3) rfl (dobj) rfl ?_
          refine Wp.n (pc' := 69) 1 rfl ?_
          refine Wp.dlput (len := 3) 4 rfl rfl ?_
          refine Wp.n (pc' := 107) 1 rfl ?_
          first
            | (have ek : lwk T s1 = 4 := by unfold lwk; rw [if_neg n12, if_neg n35, if_neg n58, if_neg n81]
               have es : lawS T (.inr s1) = .inl (1, s1) := if_neg (by omega)
               rw [es]
               exact k_law_e (st := .inl (1, s1)) hT hS (f1.t f2) l2 (fun q => by cases q))
            | (have ek : lwk T s1 = 3 := by unfold lwk; rw [if_neg n12, if_neg n35, if_neg n58, if_pos p81]
               exact go 3 ek (by decide))
            | (have ek : lwk T s1 = 2 := by unfold lwk; rw [if_neg n12, if_neg n35, if_pos p58]
               exact go 2 ek (by decide))
            | (have ek : lwk T s1 = 1 := by unfold lwk; rw [if_neg n12, if_pos p35]
               exact go 1 ek (by decide))
            | (have ek : lwk T s1 = 0 := by unfold lwk; rw [if_pos p12]
               exact go 0 ek (by decide))
      · have p35 : isW T s1 131360 = true := by rw [← w2, h35]
        refine Wp.n (pc' := 39) 1 rfl ?_
        refine Wp.get (len := 3) rfl (rfl) rfl ?_
        refine Wp.topR hG1 ?_
        refine Wp.get (len := 3) rfl (dobj) rfl ?_
        refine Wp.n (pc' := 46) 1 rfl ?_
        refine Wp.dlput (len := 3) 3 rfl rfl ?_
        refine Wp.n (pc' := 107) 1 rfl ?_
        first
          | (have ek : lwk T s1 = 4 := by unfold lwk; rw [if_neg n12, if_neg n35, if_neg n58, if_neg n81]
             have es : lawS T (.inr s1) = .inl (1, s1) := if_neg (by omega)
             rw [es]
             exact k_law_e (st := .inl (1, s1)) hT hS (f1.t f2) l2 (fun q => by cases q))
          | (have ek : lwk T s1 = 3 := by unfold lwk; rw [if_neg n12, if_neg n35, if_neg n58, if_pos p81]
             exact go 3 ek (by decide))
          | (have ek : lwk T s1 = 2 := by unfold lwk; rw [if_neg n12, if_neg n35, if_pos p58]
             exact go 2 ek (by decide))
          | (have ek : lwk T s1 = 1 := by unfold lwk; rw [if_neg n12, if_pos p35]
             exact go 1 ek (by decide))
          | (have ek : lwk T s1 = 0 := by unfold lwk; rw [if_pos p12]
             exact go 0 ek (by decide))
    · have p12 : isW T s1 284068024 = true := by rw [← w1, h12]
      refine Wp.n (pc' := 16) 1 rfl ?_
      refine Wp.get (len := 3) rfl (rfl) rfl ?_
      refine Wp.topR hG1 ?_
      refine Wp.get (len := 3) rfl (dobj) rfl ?_
      refine Wp.n (pc' := 23) 1 rfl ?_
      refine Wp.dlput (len := 3) 3 rfl rfl ?_
      refine Wp.n (pc' := 107) 1 rfl ?_
      first
        | (have ek : lwk T s1 = 4 := by unfold lwk; rw [if_neg n12, if_neg n35, if_neg n58, if_neg n81]
           have es : lawS T (.inr s1) = .inl (1, s1) := if_neg (by omega)
           rw [es]
           exact k_law_e (st := .inl (1, s1)) hT hS (f1.t f2) l2 (fun q => by cases q))
        | (have ek : lwk T s1 = 3 := by unfold lwk; rw [if_neg n12, if_neg n35, if_neg n58, if_pos p81]
           exact go 3 ek (by decide))
        | (have ek : lwk T s1 = 2 := by unfold lwk; rw [if_neg n12, if_neg n35, if_pos p58]
           exact go 2 ek (by decide))
        | (have ek : lwk T s1 = 1 := by unfold lwk; rw [if_neg n12, if_pos p35]
           exact go 1 ek (by decide))
        | (have ek : lwk T s1 = 0 := by unfold lwk; rw [if_pos p12]
           exact go 0 ek (by decide))
end CLF
end
