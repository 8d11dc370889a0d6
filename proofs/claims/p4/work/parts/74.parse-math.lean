/-! THE TEXT: what it makes; it goes on; the kingdom stays one. -/
def bodS (T : TP) (K : KD) (s : Nat) : St := if kh K 5 = 0 then pf6 T (.inr s) else linS T K s
def bodK (T : TP) (K : KD) (s : Nat) : KD := if kh K 5 = 0 then firK T (.inr s) else linK T K s
def incL (K : KD) : KD := (fun i => if i = 5 then kh K 5 + 1 else kh K i, K.2)
def prsT (T : TP) : Nat → St → KD → St × KD
  | 0, st, K => (st, K)
  | _ + 1, .inl x, K => (.inl x, K)
  | n + 1, .inr s, K => if tk T s = 0 then (.inr s, K) else prsT T n (endS T (bodS T K s)) (incL (bodK T K s))
def Ge (T : TP) (s : Nat) (st : St) : Prop := ∀ s', st = .inr s' → s ≤ s' ∧ s' ≤ T.1
section GE
variable {T : TP} {s : Nat} {st : St} {K : KD}
theorem Ge_i {x : Nat × Nat} : Ge T s (.inl x) := fun s' h => by cases h
theorem Ge_s (h : s ≤ T.1) : Ge T s (.inr s) := fun s' e => by cases e; exact ⟨Nat.le_refl _, h⟩
theorem nx_ge (h : s ≤ T.1) : s ≤ nx T s ∧ nx T s ≤ T.1 := by
  have h1 := en_le h
  have h2 := nx_le h
  omega
theorem Ge_n {q : Nat} (h : Ge T s (.inr q)) : Ge T s (.inr (nx T q)) := fun s' e => by
  cases e
  have h1 := h q rfl
  have h2 := nx_ge h1.2
  omega
theorem Ge_nm {lo hi : Nat} (h : Ge T s st) : Ge T s (nmS T lo hi st) := by
  rcases st with x | q
  · exact Ge_i
  · show Ge T s (if _ then (if _ then _ else _) else _)
    split
    · split
      · exact Ge_n h
      · exact Ge_i
    · exact Ge_i
theorem Ge_wd {w : Nat} (h : Ge T s st) : Ge T s (wdS T w st) := by
  rcases st with x | q
  · exact Ge_i
  · show Ge T s (if _ then _ else _)
    split
    · exact Ge_n h
    · exact Ge_i
theorem Ge_ot {P : Nat} {ok : Nat → Bool} (h : Ge T s st) : Ge T s (otS T P ok st) := by
  rcases st with x | q
  · exact Ge_i
  · show Ge T s (if _ then (if _ then _ else _) else _)
    split
    · split
      · exact Ge_n h
      · exact Ge_i
    · exact Ge_i
theorem Ge_ad (h : Ge T s st) : Ge T s (adS T st) := by
  rcases st with x | q
  · exact Ge_i
  · exact Ge_n h
theorem Ge_lw (h : Ge T s st) : Ge T s (lawS T st) := by
  rcases st with x | q
  · exact Ge_i
  · show Ge T s (if _ then _ else _)
    split
    · exact Ge_n h
    · exact Ge_i
theorem Ge_wk {P : Nat} : ∀ (n : Nat) {pl : Nat → Nat} {i : Nat} {st : St}, Ge T s st → Ge T s (wlk T P n pl i st).1
  | 0, pl, i, st, h => by
    show Ge T s (fl3 st (otS T P (wlo pl i) st))
    rcases st with x | q
    · exact Ge_i
    · rcases otS T P (wlo pl i) (.inr q) with x | q2
      · exact Ge_i
      · exact Ge_i
  | n + 1, pl, i, st, h => by
    have h1 : Ge T s (otS T P (wlo pl i) st) := Ge_ot h
    rcases hq : otS T P (wlo pl i) st with x | q2
    · have e : wlk T P (n + 1) pl i st = (.inl x, pl, i) := by
        show (match otS T P (wlo pl i) st with | .inl x => _ | .inr s' => _) = _
        rw [hq]
      rw [e]; exact Ge_i
    · have e : wlk T P (n + 1) pl i st = if tk T q2 = 2 then wlk T P n (nup pl i (nmV T st)) (i + 1) (.inr q2) else (.inr q2, nup pl i (nmV T st), i + 1) := by
        show (match otS T P (wlo pl i) st with | .inl x => _ | .inr s' => _) = _
        rw [hq]
      rw [hq] at h1
      rw [e]
      split
      · exact Ge_wk n h1
      · exact h1
theorem Ge_bod (h : s ≤ T.1) : Ge T s (bodS T K s) := by
  have h0 := Ge_s h
  have h1 := Ge_n h0
  unfold bodS
  split
  · exact Ge_nm (Ge_wd (Ge_nm (Ge_wd (Ge_nm (Ge_wd (Ge_nm (Ge_wd (Ge_nm (Ge_wd (Ge_wd h0))))))))))
  · unfold linS
    split
    · split
      · exact Ge_i
      · exact Ge_nm (Ge_ot (Ge_wd (Ge_nm h1)))
    · split
      · split
        · exact Ge_i
        · have h4 : Ge T s (ln4 T K (.inr (nx T s))) := Ge_nm (Ge_ot (Ge_wd (Ge_nm h1)))
          have h6 : ∀ so, Ge T s (ln6 T K so (.inr (nx T s))) := fun so => by
            unfold ln6
            split
            · exact Ge_nm (Ge_wd (Ge_nm (Ge_wd h4)))
            · exact h4
          unfold ln7
          split
          · exact Ge_nm (Ge_ad (h6 _))
          · exact h6 _
      · split
        · exact Ge_nm (Ge_wd h1)
        · split
          · split
            · exact Ge_i
            · exact Ge_wk 6 (Ge_wd (Ge_nm (Ge_wd (Ge_nm (Ge_wd (Ge_nm (Ge_wd (Ge_nm h1))))))))
          · exact Ge_lw (Ge_wd h0)
/-- each line goes on -/
theorem step_lt {s' : Nat} (h : s ≤ T.1) (e : endS T (bodS T K s) = .inr s') : s < s' ∧ s' ≤ T.1 := by
  have h1 := Ge_bod (K := K) h
  rcases hq : bodS T K s with x | q
  · rw [hq] at e; cases e
  · rw [hq] at e h1
    have h2 := h1 q rfl
    by_cases c : tk T q = 3
    · rw [show endS T (.inr q) = .inr (nx T q) from if_pos c] at e
      cases e
      have h3 : q < T.1 := by
        by_cases cq : q < T.1
        · exact cq
        · rw [tk_0.mpr (by omega)] at c; cases c
      have h4 := en_lt h3
      have h5 := nx_le h2.2
      omega
    · rw [show endS T (.inr q) = .inl (1, q) from if_neg c] at e
      cases e
theorem gd_end (h : gd (endS T st) = true) : gd st = true := by
  rcases st with x | q
  · cases h
  · rfl
end GE
/-- a kingdom that is being read -/
def PK (K : KD) : Prop := KOK K ∧ kh K 11 = 0 ∧ R30 K ∧ (0 < kh K 5 → 2 ≤ kh K 0 ∧ 1 ≤ kh K 1) ∧ (kh K 5 = 0 → K = K0)
theorem KOK_K0 : KOK K0 := by
  refine ⟨?_, ?_, ?_, ?_, ?_, ?_, ?_, ?_, ?_, ?_, ?_, ?_, ?_, ?_, ?_, ?_, ?_, ?_⟩
  all_goals first
    | decide
    | (intro i hi; exact absurd hi (Nat.not_lt_zero _))
    | (intro i j hi; exact absurd hi (Nat.not_lt_zero _))
    | (intro i hi
       rcases hi with hi | hi
       · exact absurd hi (Nat.not_lt_zero _)
       · exact absurd hi.2 (by show ¬ (0 : Nat) = 1; decide))
theorem PK_K0 : PK K0 := ⟨KOK_K0, rfl, fun i hi => absurd hi (Nat.not_lt_zero _), fun h => absurd h (by decide), fun _ => rfl⟩
section PKS
variable {T : TP} {s : Nat} {st : St} {K : KD}
theorem btw_s (a b x y : Nat) : btw a b x y = btw x y a b := by
  unfold btw
  rw [Bool.eq_iff_iff]
  simp only [Bool.or_eq_true, Bool.and_eq_true, decide_eq_true_eq]
  omega
theorem PK_road (h : PK K) (h5 : 0 < kh K 5) (hl : kh K 5 < 2000) (hr : kh K 2 < 12) (g : gd (rd4 T K st) = true) : PK (incL (rdK T K st)) := by
  obtain ⟨ok, h11, h30, hpd, _⟩ := h
  obtain ⟨p1, p2⟩ := hpd h5
  have g3 : gd (rd3 T K st) = true := gd_nm g
  have g1 : gd (rd1 T K st) = true := gd_wd (gd_ot g3)
  have na : 0 ≤ nmV T st ∧ nmV T st ≤ kh K 0 - 1 := nm_le g1
  have nb : nmV T (rd2 T K st) < kh K 0 ∧ rdo T K st (nmV T (rd2 T K st)) = true := ot_ok g3
  have nc : 1 ≤ nmV T (rd3 T K st) ∧ nmV T (rd3 T K st) ≤ 30 := nm_le g
  unfold rdK
  generalize nmV T (rd3 T K st) = c at nc
  obtain ⟨nb1, nb2⟩ := nb
  unfold rdo at nb2
  generalize nmV T (rd2 T K st) = b at nb1 nb2
  generalize nmV T st = a at na nb2
  rw [Bool.and_eq_true] at nb2
  have nb3 : b ≠ a := of_decide_eq_true nb2.1
  have nb4 : roadK K a b = none := by
    cases e : roadK K a b with
    | none => rfl
    | some z => rw [e] at nb2; cases nb2.2
  have nb5 := fnd_none nb4
  obtain ⟨k0, k1, k2, k3, k4, k5, k6, k7, k8, k9, k10, k11, k12, kz, kR, kL, kW, kU⟩ := ok
  have er : ∀ i, kr (incL (addR K a b c)) i = if i = kh K 2 then (fun j => if j = 0 then a else if j = 1 then b else c) else kr K i := fun i => rfl
  have rn : kr (incL (addR K a b c)) (kh K 2) = (fun j => if j = 0 then a else if j = 1 then b else c) := if_pos rfl
  have ro : ∀ i, i ≠ kh K 2 → kr (incL (addR K a b c)) i = kr K i := fun i hi => if_neg hi
  refine ⟨⟨k0, k1, ?_, k3, k4, ?_, k6, k7, k8, k9, k10, k11, k12, ?_, fun i hi => ?_, kL, kW, fun i j hi hj hb => ?_⟩, h11, fun i hi => ?_, fun _ => ⟨p1, p2⟩, fun q => by cases q⟩
  · show kh K 2 + 1 ≤ 12; omega
  · show kh K 5 + 1 ≤ 2000; omega
  · show 0 < kh K 5 + 1 ↔ 0 < kh K 0; omega
  · have hi' : i < kh K 2 + 1 := hi
    by_cases q : i = kh K 2
    · subst q
      rw [rn]
      show a < kh K 0 ∧ b < kh K 0 ∧ a ≠ b ∧ 1 ≤ c ∧ c ≤ 129
      omega
    · rw [ro i q]; exact kR i (by omega)
  · have hi' : i < kh K 2 + 1 := hi
    have hj' : j < kh K 2 + 1 := hj
    by_cases qi : i = kh K 2
    · by_cases qj : j = kh K 2
      · omega
      · subst qi
        rw [rn, ro j qj] at hb
        have hb' : btw a b (kr K j 0) (kr K j 1) = true := hb
        rw [btw_s, nb5 j (by omega) (by omega)] at hb'
        cases hb'
    · by_cases qj : j = kh K 2
      · subst qj
        rw [rn, ro i qi] at hb
        have hb' : btw (kr K i 0) (kr K i 1) a b = true := hb
        rw [nb5 i (by omega) (by omega)] at hb'
        cases hb'
      · rw [ro i qi, ro j qj] at hb
        exact kU i j (by omega) (by omega) hb
  · have hi' : i < kh K 2 + 1 := hi
    by_cases q : i = kh K 2
    · subst q
      rw [rn]
      exact nc.2
    · rw [ro i q]; exact h30 i (by omega)
theorem PK_lane (h : PK K) (h5 : 0 < kh K 5) (hl : kh K 5 < 2000) (hr : kh K 3 < 8) {so : Nat} (hso : so ≤ 2) (g : gd (ln7 T K so st) = true) : PK (incL (lnK T K so st)) := by
  obtain ⟨ok, h11, h30, hpd, _⟩ := h
  obtain ⟨p1, p2⟩ := hpd h5
  have g6 : gd (ln6 T K so st) = true := by
    unfold ln7 at g
    split at g
    · exact gd_ad (gd_nm g)
    · exact g
  have hw : lnR T K so st 6 ≤ 100 := by
    show (if lnw T K so st = true then _ else _) ≤ 100
    unfold ln7 at g
    by_cases c : lnw T K so st = true
    · rw [if_pos c]; rw [if_pos c] at g; exact (nm_le g).2
    · rw [if_neg c]; omega
  have k1 := ok.2.1
  have g4 : gd (ln4 T K st) = true ∧ lnR T K so st 3 ≤ 30 ∧ lnR T K so st 4 ≤ 30 := by
    show _ ∧ (if so = 0 then _ else _) ≤ 30 ∧ (if so = 0 then _ else _) ≤ 30
    unfold ln6 at g6
    by_cases c : so = 0
    · rw [if_pos c] at g6
      rw [if_pos c, if_pos c]
      have g5 : gd (ln5 T K st) = true := gd_wd (gd_nm g6)
      have n1 := (nm_le g6).2
      have n2 : 0 ≤ nmV T (lnf T K st) ∧ nmV T (lnf T K st) ≤ kh K 1 - 1 := nm_le g5
      exact ⟨gd_wd (gd_nm g5), by omega, by omega⟩
    · rw [if_neg c] at g6
      rw [if_neg c, if_neg c]
      exact ⟨g6, by omega, by omega⟩
  have g3 : gd (ln3 T K st) = true := gd_nm g4.1
  have na : 0 ≤ nmV T st ∧ nmV T st ≤ kh K 0 - 1 := nm_le (gd_wd (gd_ot g3))
  have nb : nmV T (rd2 T K st) < kh K 0 ∧ lno T st (nmV T (rd2 T K st)) = true := ot_ok g3
  have nb3 : nmV T (rd2 T K st) ≠ nmV T st := of_decide_eq_true nb.2
  have nc : 1 ≤ nmV T (ln3 T K st) ∧ nmV T (ln3 T K st) ≤ 30 := nm_le g4.1
  have v0 : lnR T K so st 0 = nmV T st := rfl
  have v1 : lnR T K so st 1 = nmV T (rd2 T K st) := rfl
  have v2 : lnR T K so st 2 = nmV T (ln3 T K st) := rfl
  have v5 : lnR T K so st 5 = so := rfl
  unfold lnK
  obtain ⟨k0, k1, k2, k3, k4, k5, k6, k7, k8, k9, k10, k11, k12, kz, kR, kL, kW, kU⟩ := ok
  refine ⟨⟨k0, k1, k2, ?_, k4, ?_, k6, k7, k8, k9, k10, k11, k12, ?_, kR, fun i hi => ?_, kW, kU⟩, h11, h30, fun _ => ⟨p1, p2⟩, fun q => by cases q⟩
  · show kh K 3 + 1 ≤ 8; omega
  · show kh K 5 + 1 ≤ 2000; omega
  · show 0 < kh K 5 + 1 ↔ 0 < kh K 0; omega
  · have hi' : i < kh K 3 + 1 ∨ (i = 8 ∧ kh K 11 = 1) := hi
    have el : kl (incL (addL K (lnR T K so st))) i = if i = kh K 3 then lnR T K so st else kl K i := rfl
    rw [el]
    by_cases q : i = kh K 3
    · rw [if_pos q]
      show _ < kh K 0 ∧ _ < kh K 0 ∧ _
      omega
    · rw [if_neg q]; exact kL i (Or.inl (by omega))
theorem wlk_ok {P : Nat} : ∀ (n : Nat) {pl : Nat → Nat} {i : Nat} {st : St}, n + i = 7 → 1 ≤ i → (∀ j, j < i → pl j < P) → (∀ j, j + 1 < i → pl j ≠ pl (j + 1)) → gd (wlk T P n pl i st).1 = true → 2 ≤ (wlk T P n pl i st).2.2 ∧ (wlk T P n pl i st).2.2 ≤ 7 ∧ (∀ j, j < (wlk T P n pl i st).2.2 → (wlk T P n pl i st).2.1 j < P) ∧ ∀ j, j + 1 < (wlk T P n pl i st).2.2 → (wlk T P n pl i st).2.1 j ≠ (wlk T P n pl i st).2.1 (j + 1)
  | 0, pl, i, st, hn, hi, h1, h2, g => by
    have g' : gd (fl3 st (otS T P (wlo pl i) st)) = true := g
    rcases st with x | q
    · cases g'
    · rcases hq : otS T P (wlo pl i) (.inr q) with x | q2
      · rw [hq] at g'; cases g'
      · rw [hq] at g'; cases g'
  | n + 1, pl, i, st, hn, hi, h1, h2, g => by
    rcases hq : otS T P (wlo pl i) st with x | q2
    · have e : wlk T P (n + 1) pl i st = (.inl x, pl, i) := by
        show (match otS T P (wlo pl i) st with | .inl x => _ | .inr s' => _) = _
        rw [hq]
      rw [e] at g; cases g
    · have e : wlk T P (n + 1) pl i st = if tk T q2 = 2 then wlk T P n (nup pl i (nmV T st)) (i + 1) (.inr q2) else (.inr q2, nup pl i (nmV T st), i + 1) := by
        show (match otS T P (wlo pl i) st with | .inl x => _ | .inr s' => _) = _
        rw [hq]
      have o := ot_ok (st := st) (by rw [hq]; rfl)
      have o2 : nmV T st ≠ pl (i - 1) := of_decide_eq_true o.2
      have u1 : ∀ j, j < i + 1 → nup pl i (nmV T st) j < P := fun j hj => by
        unfold nup
        by_cases c : j = i
        · rw [if_pos c]; exact o.1
        · rw [if_neg c]; exact h1 j (by omega)
      have u2 : ∀ j, j + 1 < i + 1 → nup pl i (nmV T st) j ≠ nup pl i (nmV T st) (j + 1) := fun j hj => by
        unfold nup
        rw [if_neg (by omega)]
        by_cases c : j + 1 = i
        · rw [if_pos c]
          rw [show i - 1 = j by omega] at o2
          exact fun z => o2 z.symm
        · rw [if_neg c]; exact h2 j (by omega)
      rw [e] at g ⊢
      by_cases c : tk T q2 = 2
      · rw [if_pos c] at g ⊢
        exact wlk_ok n (by omega) (by omega) u1 u2 g
      · rw [if_neg c]
        exact ⟨by show 2 ≤ i + 1; omega, by show i + 1 ≤ 7; omega, u1, u2⟩
theorem gd_wk {P : Nat} : ∀ (n : Nat) {pl : Nat → Nat} {i : Nat} {st : St}, gd (wlk T P n pl i st).1 = true → gd st = true
  | 0, pl, i, st, g => by
    rcases st with x | q
    · cases (show gd (fl3 (.inl x) (otS T P (wlo pl i) (.inl x))) = true from g)
    · rfl
  | n + 1, pl, i, st, g => by
    rcases st with x | q
    · cases (show gd (.inl x) = true from g)
    · rfl
theorem PK_walk (h : PK K) (h5 : 0 < kh K 5) (hl : kh K 5 < 2000) (hr : kh K 4 < 10) (g : gd (wkr T K st).1 = true) : PK (incL (wkK T K st)) := by
  obtain ⟨ok, h11, h30, hpd, _⟩ := h
  obtain ⟨p1, p2⟩ := hpd h5
  have g5 : gd (wk5 T K st) = true := gd_wk 6 g
  have g4 : gd (wk4 T K st) = true := gd_wd g5
  have g3 : gd (wk3 T K st) = true := gd_wd (gd_nm g4)
  have g2 : gd (wk2 T st) = true := gd_wd (gd_nm g3)
  have g1 : gd (wk1 T st) = true := gd_wd (gd_nm g2)
  have n1 := (nm_le g1).2
  have n2 : 1 ≤ nmV T (wka T st) ∧ nmV T (wka T st) ≤ 9 := nm_le g2
  have n3 : 0 ≤ nmV T (wkb T st) ∧ nmV T (wkb T st) ≤ kh K 1 - 1 := nm_le g3
  have n4 : 0 ≤ nmV T (wkc T K st) ∧ nmV T (wkc T K st) ≤ kh K 0 - 1 := nm_le g4
  have w := wlk_ok (T := T) (P := kh K 0) 6 (pl := fun _ => nmV T (wkc T K st)) (i := 1) (st := wk5 T K st) (by decide) (by decide) (fun j hj => by omega) (fun j hj => by omega) g
  change 2 ≤ (wkr T K st).2.2 ∧ (wkr T K st).2.2 ≤ 7 ∧ (∀ j, j < (wkr T K st).2.2 → (wkr T K st).2.1 j < kh K 0) ∧ ∀ j, j + 1 < (wkr T K st).2.2 → (wkr T K st).2.1 j ≠ (wkr T K st).2.1 (j + 1) at w
  unfold wkK
  generalize wkr T K st = r at w
  obtain ⟨k0, k1, k2, k3, k4, k5, k6, k7, k8, k9, k10, k11, k12, kz, kR, kL, kW, kU⟩ := ok
  refine ⟨⟨k0, k1, k2, k3, ?_, ?_, k6, k7, k8, k9, k10, k11, k12, ?_, kR, kL, fun i hi => ?_, kU⟩, h11, h30, fun _ => ⟨p1, p2⟩, fun q => by cases q⟩
  · show kh K 4 + 1 ≤ 10; omega
  · show kh K 5 + 1 ≤ 2000; omega
  · show 0 < kh K 5 + 1 ↔ 0 < kh K 0; omega
  · have hi' : i < kh K 4 + 1 := hi
    have el : kw (incL (addW K (wkG (nmV T st) (nmV T (wka T st)) (nmV T (wkb T st)) r))) i = if i = kh K 4 then wkG (nmV T st) (nmV T (wka T st)) (nmV T (wkb T st)) r else kw K i := rfl
    rw [el]
    by_cases q : i = kh K 4
    · rw [if_pos q]
      refine ⟨n1, n2.1, n2.2, ?_, w.1, w.2.1, fun j hj => ?_, fun j hj => ?_⟩
      · show nmV T (wkb T st) < kh K 1; omega
      · rw [wkG_4]; exact w.2.2.1 j hj
      · rw [wkG_4, show 4 + j + 1 = 4 + (j + 1) by omega, wkG_4]; exact w.2.2.2 j hj
    · rw [if_neg q]; exact kW i (by omega)
theorem PK_flood (h : PK K) (h5 : 0 < kh K 5) (hl : kh K 5 < 2000) (g : gd (fd2 T K st) = true) : PK (incL (fdK T K st)) := by
  obtain ⟨ok, h11, h30, hpd, _⟩ := h
  obtain ⟨p1, p2⟩ := hpd h5
  have n3 : 0 ≤ nmV T (fd1 T st) ∧ nmV T (fd1 T st) ≤ kh K 1 - 1 := nm_le g
  obtain ⟨k0, k1, k2, k3, k4, k5, k6, k7, k8, k9, k10, k11, k12, kz, kR, kL, kW, kU⟩ := ok
  refine ⟨⟨k0, k1, k2, k3, k4, ?_, k6, k7, k8, k9, k10, k11, ?_, ?_, kR, kL, kW, kU⟩, h11, h30, fun _ => ⟨p1, p2⟩, fun q => by cases q⟩
  · show kh K 5 + 1 ≤ 2000; omega
  · show kh K 12 ||| 2 ^ nmV T (fd1 T st) < 2 ^ 30
    exact Nat.or_lt_two_pow k12 (Nat.pow_lt_pow_right (by decide) (by omega))
  · show 0 < kh K 5 + 1 ↔ 0 < kh K 0; omega
theorem PK_law (h : PK K) (h5 : 0 < kh K 5) (hl : kh K 5 < 2000) {k : Nat} : PK (incL (lawH K k)) := by
  obtain ⟨ok, h11, h30, hpd, _⟩ := h
  obtain ⟨p1, p2⟩ := hpd h5
  have hm : lwm k = 3 ∨ lwm k = 4 := by unfold lwm; split <;> simp
  have hv : lwv k ≤ 1 := by unfold lwv; split <;> omega
  have ek : ∀ j, j ≠ 5 → j ≠ 9 → j ≠ 10 → kh (incL (lawH K k)) j = kh K j := fun j h5 h9 h10 => by
    show (if j = 5 then _ else if j = 6 + lwm k then lwv k else kh K j) = _
    rw [if_neg h5, if_neg (by omega)]
  have e9 : ∀ j, j = 9 ∨ j = 10 → kh K j ≤ 1 → kh (incL (lawH K k)) j ≤ 1 := fun j hj hk => by
    show (if j = 5 then _ else if j = 6 + lwm k then lwv k else kh K j) ≤ 1
    rw [if_neg (by omega)]
    split
    · exact hv
    · exact hk
  have e5 : kh (incL (lawH K k)) 5 = kh K 5 + 1 := by
    show (if (5 : Nat) = 6 + lwm k then lwv k else kh K 5) + 1 = _
    rw [if_neg (by omega)]
  have eR : kr (incL (lawH K k)) = kr K := rfl
  have eL : kl (incL (lawH K k)) = kl K := rfl
  have eW : kw (incL (lawH K k)) = kw K := rfl
  obtain ⟨k0, k1, k2, k3, k4, k5, k6, k7, k8, k9, k10, k11, k12, kz, kR, kL, kW, kU⟩ := ok
  unfold PK KOK R30
  rw [eR, eL, eW, e5, ek 0 (by decide) (by decide) (by decide), ek 1 (by decide) (by decide) (by decide), ek 2 (by decide) (by decide) (by decide), ek 3 (by decide) (by decide) (by decide), ek 4 (by decide) (by decide) (by decide), ek 6 (by decide) (by decide) (by decide), ek 7 (by decide) (by decide) (by decide), ek 8 (by decide) (by decide) (by decide), ek 11 (by decide) (by decide) (by decide), ek 12 (by decide) (by decide) (by decide)]
  exact ⟨⟨k0, k1, k2, k3, k4, by omega, k6, k7, k8, e9 9 (by decide) k9, e9 10 (by decide) k10, k11, k12, by omega, kR, kL, kW, kU⟩, h11, h30, fun _ => ⟨p1, p2⟩, fun q => absurd q (by omega)⟩
theorem PK_first (g : gd (pf6 T st) = true) : PK (incL (firK T st)) := by
  have g5 : gd (pf5 T st) = true := gd_wd (gd_nm g)
  have g4 : gd (pf4 T st) = true := gd_wd (gd_nm g5)
  have g3 : gd (pf3 T st) = true := gd_wd (gd_nm g4)
  have g2 : gd (pf2 T st) = true := gd_wd (gd_nm g3)
  have n6 := (nm_le g).2
  have n5 := (nm_le g5).2
  have n4 := (nm_le g4).2
  have n3 := nm_le g3
  have n2 := nm_le g2
  refine ⟨⟨n2.2, n3.2, (show (0 : Nat) ≤ 12 by decide), (show (0 : Nat) ≤ 8 by decide), (show (0 : Nat) ≤ 10 by decide), (show (1 : Nat) ≤ 2000 by decide), n4, n5, n6, (show (1 : Nat) ≤ 1 by decide), (show (0 : Nat) ≤ 1 by decide), (show (0 : Nat) ≤ 1 by decide), (show (0 : Nat) < 2 ^ 30 by decide), ?_, fun i hi => absurd hi (Nat.not_lt_zero _), fun i hi => ?_, fun i hi => absurd hi (Nat.not_lt_zero _), fun i j hi => absurd hi (Nat.not_lt_zero _)⟩, rfl, fun i hi => absurd hi (Nat.not_lt_zero _), fun _ => ⟨n2.1, n3.1⟩, fun q => by cases q⟩
  · exact ⟨fun _ => Nat.lt_of_lt_of_le (by decide) n2.1, fun _ => show (0 : Nat) < 1 by decide⟩
  · rcases hi with hi | hi
    · exact absurd hi (Nat.not_lt_zero _)
    · exact absurd hi.2 (by show ¬ (0 : Nat) = 1; decide)
theorem srt_le : srt T s ≤ 6 := by
  unfold srt
  repeat' split
  all_goals omega
theorem PK_step (h : PK K) (hl : kh K 5 < 2000) (g : gd (endS T (bodS T K s)) = true) : PK (incL (bodK T K s)) := by
  have gb := gd_end g
  have hs := srt_le (T := T) (s := s)
  have k2 := h.1.2.2.1
  have k3 := h.1.2.2.2.1
  have k4 := h.1.2.2.2.2.1
  unfold bodS at gb
  unfold bodK
  by_cases c : kh K 5 = 0
  · rw [if_pos c] at gb ⊢
    exact PK_first gb
  · rw [if_neg c] at gb ⊢
    have h5 : 0 < kh K 5 := by omega
    by_cases c0 : srt T s = 0
    · rw [show linS T K s = _ from if_pos c0] at gb
      rw [show linK T K s = _ from if_pos c0]
      by_cases cc : kh K 2 = 12
      · rw [if_pos cc] at gb; cases gb
      · rw [if_neg cc] at gb
        exact PK_road h h5 hl (by omega) gb
    · by_cases c1 : srt T s < 4
      · obtain ⟨k, hk⟩ : ∃ k, srt T s = k + 1 := ⟨srt T s - 1, by omega⟩
        rw [(lin_1 hk (by omega)).1] at gb
        rw [(lin_1 hk (by omega)).2]
        by_cases cc : kh K 3 = 8
        · rw [if_pos cc] at gb; cases gb
        · rw [if_neg cc] at gb
          exact PK_lane h h5 hl (by omega) (by omega) gb
      · by_cases c4 : srt T s = 4
        · rw [(lin_4 c4).1] at gb
          rw [(lin_4 c4).2]
          exact PK_flood h h5 hl gb
        · by_cases c5 : srt T s = 5
          · rw [(lin_5 c5).1] at gb
            rw [(lin_5 c5).2]
            by_cases cc : kh K 4 = 10
            · rw [if_pos cc] at gb; cases gb
            · rw [if_neg cc] at gb
              exact PK_walk h h5 hl (by omega) gb
          · rw [(lin_6 (by omega)).2]
            exact PK_law h h5 hl
end PKS
