/-! LINES: walks; the reference. -/
def wlo (pl : Nat → Nat) (i v : Nat) : Bool := decide (v ≠ pl (i - 1))
def nup (pl : Nat → Nat) (i v : Nat) : Nat → Nat := fun j => if j = i then v else pl j
def fl3 (s : St) : St → St
  | .inl x => .inl x
  | .inr _ => flS 3 s
def wlk (T : TP) (P : Nat) : Nat → (Nat → Nat) → Nat → St → St × (Nat → Nat) × Nat
  | 0, pl, i, st => (fl3 st (otS T P (wlo pl i) st), pl, i)
  | n + 1, pl, i, st => match otS T P (wlo pl i) st with
    | .inl x => (.inl x, pl, i)
    | .inr s' => if tk T s' = 2 then wlk T P n (nup pl i (nmV T st)) (i + 1) (.inr s') else (.inr s', nup pl i (nmV T st), i + 1)
def wk1 (T : TP) (st : St) : St := nmS T 0 4 st
def wka (T : TP) (st : St) : St := wdS T 247162 (wk1 T st)
def wk2 (T : TP) (st : St) : St := nmS T 1 9 (wka T st)
def wkb (T : TP) (st : St) : St := wdS T 419 (wk2 T st)
def wk3 (T : TP) (K : KD) (st : St) : St := nmS T 0 (kh K 1 - 1) (wkb T st)
def wkc (T : TP) (K : KD) (st : St) : St := wdS T 131638 (wk3 T K st)
def wk4 (T : TP) (K : KD) (st : St) : St := nmS T 0 (kh K 0 - 1) (wkc T K st)
def wk5 (T : TP) (K : KD) (st : St) : St := wdS T 79 (wk4 T K st)
def wkr (T : TP) (K : KD) (st : St) : St × (Nat → Nat) × Nat := wlk T (kh K 0) 6 (fun _ => nmV T (wkc T K st)) 1 (wk5 T K st)
def addW (K : KD) (g : Nat → Nat) : KD := (fun i => if i = 4 then kh K 4 + 1 else kh K i, kr K, kl K, fun i => if i = kh K 4 then g else kw K i)
def wkG (w0 w1 w2 : Nat) (r : St × (Nat → Nat) × Nat) (j : Nat) : Nat := if j = 0 then w0 else if j = 1 then w1 else if j = 2 then w2 else if j = 3 then r.2.2 else r.2.1 (j - 4)
def wkK (T : TP) (K : KD) (st : St) : KD := addW K (wkG (nmV T st) (nmV T (wka T st)) (nmV T (wkb T st)) (wkr T K st))
theorem wkG_4 {w0 w1 w2 j : Nat} {r : St × (Nat → Nat) × Nat} : wkG w0 w1 w2 r (4 + j) = r.2.1 j := by
  unfold wkG
  rw [if_neg (by omega), if_neg (by omega), if_neg (by omega), if_neg (by omega), show 4 + j - 4 = j by omega]
section WKL
variable {d : Nat} {M : AM} {σ σ' τ τ' : MS} {T : TP} {st : St} {K : KD} {Q : Option Value → AM → Prop} {g : Nat → Int32}
theorem BM_walk (hB : BM σ K) (ok : KOK K) (hr : kh K 4 < 10) {G : Nat → Nat} (hA : ArF 11 (11 * (40 + kh K 4)) g σ τ) (hv : ∀ j, j < 4 → g j = nI (G j)) (hw : ∀ j, j < G 3 → g (4 + j) = nI (G (4 + j))) : BM (aset τ 6 (upd (τ.2.2.1 6) 24 (nI (kh K 4 + 1)))) (addW K G) := by
  obtain ⟨⟨h1, h2, h3, h4, h5, h6, h7⟩, hl, h11⟩ := hB
  have ek : ∀ j, j ≠ 4 → kh (addW K G) j = kh K j := fun j hj => if_neg hj
  have e2 : kh (addW K G) 4 = kh K 4 + 1 := rfl
  have ea : ∀ i, i ≠ 6 → i ≠ 11 → (aset τ 6 (upd (τ.2.2.1 6) 24 (nI (kh K 4 + 1)))).2.2.1 i = σ.2.2.1 i := fun i i6 i10 => (va_up_ne _ _ i6).trans (hA.2.1 i i10)
  have e10 : (aset τ 6 (upd (τ.2.2.1 6) 24 (nI (kh K 4 + 1)))).2.2.1 11 = τ.2.2.1 11 := rfl
  have e11 : kh (addW K G) 11 = 0 := (ek 11 (by decide)).trans h11
  have c8 : ∀ i, i < kh K 4 → kw K i 3 ≤ 7 := fun i hi => (ok.2.2.2.2.2.2.2.2.2.2.2.2.2.2.2.2.1 i hi).2.2.2.2.2.1
  refine ⟨⟨fun j hj => ?_, fun h0 j hj => ?_, ?_, ?_, ?_, ?_, fun i hi => ?_⟩, fun j hj => ?_, e11⟩
  · rw [aset_get]
    by_cases q : j = 4
    · subst q; exact pk_us
    · rw [pk_un (by omega), ek j q, hA.2.1 6 (by decide)]; exact h1 j hj
  · rw [ea 7 (by decide) (by decide), ek (6 + j) (by omega)]; exact hl j hj
  · rw [ea 5 (by decide) (by decide), ek 5 (by decide)]; exact h3
  · show τ.2.2.2 8 4 = _
    rw [hA.2.2.1, ek 12 (by decide)]; exact h4
  · rw [ea 9 (by decide) (by decide), ek 2 (by decide)]; exact h5
  · rw [ea 10 (by decide) (by decide), ek 3 (by decide), ek 11 (by decide)]; exact h6
  · rw [e2] at hi
    rw [e10]
    have ew : kw (addW K G) i = if i = kh K 4 then G else kw K i := rfl
    rw [ew]
    by_cases q : i = kh K 4
    · subst q
      rw [if_pos rfl]
      refine ⟨fun j hj => ?_, fun j hj => ?_⟩
      · rw [show 110 * 4 + 11 * kh K 4 + j = 11 * (40 + kh K 4) + j by omega, hA.2.2.2.2 j]
        exact hv j hj
      · rw [show 110 * 4 + 11 * kh K 4 + 4 + j = 11 * (40 + kh K 4) + (4 + j) by omega, hA.2.2.2.2 _]
        exact hw j hj
    · rw [if_neg q]
      have := c8 i (by omega)
      refine ⟨fun j hj => ?_, fun j hj => ?_⟩
      · rw [hA.2.2.2.1 _ (by omega)]; exact (h7 i (by omega)).1 j hj
      · rw [hA.2.2.2.1 _ (by omega)]; exact (h7 i (by omega)).2 j hj
  · rw [ea 7 (by decide) (by decide), ek (6 + j) (by omega)]; exact hl j hj
/-- the end of a walk -/
theorem m_walk_e (hT : TM σ T) (hB : BM σ K) (ok : KOK K) (hr : kh K 4 < 10) {n : Nat} (hn : n ≤ 7) (A0 : ArF 11 (11 * (40 + kh K 4)) g σ τ) (l0 : LM τ T st) {G : Nat → Nat} (hv : gd st = true → (∀ j, j < 3 → g j = nI (G j)) ∧ G 3 = n ∧ ∀ j, j < n → g (4 + j) = nI (G (4 + j))) {m x4 x5 : Option Value} : Wp (d + 5) md_179 218 [some (.ref 287), some (.int (nI (11 * (40 + kh K 4)))), some (.int (nI n)), m, x4, x5] [] (mset M τ) (RLn M σ T st (addW K G)) := by
  refine Wp.n (pc' := 224) 4 rfl ?_
  refine Wp.iaddN (x := 11 * (40 + kh K 4)) (y := 3) (len := 1) rfl ?_
  refine Wp.n (pc' := 226) 1 rfl ?_
  refine Wp.rst (A := 11) (i := 11 * (40 + kh K 4) + 3) (j := 3) (len := 1) rfl A0 (by omega) rfl rfl (by omega) (by unfold dcl; omega) (fun τ1 A1 e1 j1 => ?_)
  have l1 := LM_e e1 j1 l0
  refine Wp.n (pc' := 234) 4 rfl ?_
  refine Wp.mialdN (j := 24) (len := 1) rfl rfl rfl (by omega) ?_
  refine Wp.top (A1.h (j := 4) (by decide) hB (by decide)) ?_
  refine Wp.n (pc' := 236) 1 rfl ?_
  refine Wp.iaddN (x := kh K 4) (y := 1) (len := 1) rfl ?_
  refine Wp.miastN (j := 24) (len := 1) rfl rfl rfl (by omega) ?_
  refine Wp.retV (len := 1) rfl rfl ?_
  refine ⟨rfl, _, rfl, A1.1.t (FrK.a (by unfold dcl; omega)), LM_a l1, fun gg => ?_⟩
  obtain ⟨v1, v2, v3⟩ := hv gg
  refine BM_walk hB ok hr A1 (fun j hj => ?_) (fun j hj => ?_)
  · by_cases c : j = 3
    · subst c; rw [pk_us, v2]
    · rw [pk_un c]; exact v1 j (by omega)
  · rw [pk_un (by omega)]; exact v3 j (by omega)
theorem m_walk_o (hT : TM σ T) (hB : BM σ K) (ok : KOK K) (hP : 2 ≤ kh K 0) {n s : Nat} {f : Nat → Bool} (A0 : ArF 11 (11 * (40 + kh K 4)) g σ τ) (l0 : LM τ T (.inr s)) {is : Bool} (hi : ∀ r, τ.1 10 = nI r → r < kh K 0 → is = f r) {m x5 : Option Value} (hb : ∀ z τ', otS T (kh K 0) f (.inr s) = .inl z → FrK σ τ' → LM τ' T (.inl z) → Q none (mset M τ')) (hg : ∀ s' τ', otS T (kh K 0) f (.inr s) = .inr s' → ArF 11 (11 * (40 + kh K 4)) g σ τ' → LM τ' T (.inr s') → Wp (d + 5) md_179 186 [some (.ref 287), some (.int (nI (11 * (40 + kh K 4)))), some (.int (nI n)), m, some (.int (bI is)), some (.int (nI (vl T s)))] [] (mset M τ') Q) : Wp (d + 5) md_179 170 [some (.ref 287), some (.int (nI (11 * (40 + kh K 4)))), some (.int (nI n)), m, some (.int (bI is)), x5] [] (mset M τ) Q := by
  have b0 := (ok_h ok).1
  have h20 : τ.2.2.1 6 20 = nI (kh K 0) := A0.h (j := 0) (by decide) hB (by decide)
  refine Wp.n (pc' := 173) 2 rfl ?_
  refine Wp.callV (len := 3) rfl rfl rfl (rfl) rfl (by decide) rfl (m_other (P := kh K 0) (ok := f) (A0.tm hT) l0 (fun q => ⟨h20, by omega, by omega, hi⟩)) ?_
  rintro _ _ ⟨x, rfl, hx, τ1, rfl, f1, l1⟩
  have A1 := A0.b f1
  refine Wp.n (pc' := 178) 1 rfl ?_
  rcases hq : otS T (kh K 0) f (.inr s) with z | s'
  · rw [hq] at l1
    have z1 := l1.2.1
    have z3 := l1.2.2.1
    refine Wp.n (pc' := 182) 2 rfl ?_
    refine Wp.top l1.1 ?_
    refine Wp.nz0 (x := z.1) (tgt := 186) (len := 3) rfl (by omega) (fun h182 => ?_) (fun h182 => ?_)
    · omega
    · skip
      refine Wp.retV (len := 1) rfl rfl ?_
      exact hb z τ1 hq A1.1 l1
  · rw [hq] at l1 hx
    obtain rfl := hx rfl
    refine Wp.n (pc' := 182) 2 rfl ?_
    refine Wp.top l1.1 ?_
    refine Wp.nz0 (x := 0) (tgt := 186) (len := 3) rfl (by omega) (fun h182 => ?_) (fun h182 => ?_)
    · skip
      exact hg s' τ1 hq A1 l1
    · omega
theorem m_walk_f (hT : TM σ T) {z : Nat × Nat} {n : Nat} {w : Bool} (A0 : ArF 11 (11 * (40 + kh K 4)) g σ τ) (l0 : LM τ T (.inl z)) {m x5 : Option Value} (kk : ∀ τ', FrK σ τ' → LM τ' T (.inl z) → Q none (mset M τ')) : Wp (d + 5) md_179 170 [some (.ref 287), some (.int (nI (11 * (40 + kh K 4)))), some (.int (nI n)), m, some (.int (bI w)), x5] [] (mset M τ) Q := by
  refine Wp.n (pc' := 173) 2 rfl ?_
  refine Wp.callV (len := 3) rfl rfl rfl (rfl) rfl (by decide) rfl (m_other (st := .inl z) (P := kh K 0) (ok := fun _ => true) (A0.tm hT) l0 (fun q => by cases q)) ?_
  rintro _ _ ⟨x, rfl, hx, τ1, rfl, f1, l1⟩
  have A1 := A0.b f1
  change LM τ1 T (.inl z) at l1
  have z1 := l1.2.1
  have z3 := l1.2.2.1
  refine Wp.n (pc' := 182) 3 rfl ?_
  refine Wp.top l1.1 ?_
  refine Wp.nz0 (x := z.1) (tgt := 186) (len := 3) rfl (by omega) (fun h182 => ?_) (fun h182 => ?_)
  · omega
  · skip
    refine Wp.retV (len := 1) rfl rfl ?_
    exact kk τ1 A1.1 l1
theorem m_walk_c {P s s' i j : Nat} {pl : Nat → Nat} (e : otS T P (wlo pl i) (.inr s) = .inr s') (hi : i = j + 1) : tk T s = 2 ∧ vl T s < P ∧ vl T s ≠ pl j := by
  subst hi
  have := ot_ok (T := T) (P := P) (ok := wlo pl (j + 1)) (st := .inr s) (by rw [e]; rfl)
  refine ⟨?_, this.1, of_decide_eq_true this.2⟩
  by_cases c : tk T s = 2
  · exact c
  · rw [show otS T P (wlo pl (j + 1)) (.inr s) = .inl (1, s) from if_neg c] at e; cases e
theorem m_walk_l (hT : TM σ T) (hB : BM σ K) (ok : KOK K) (hP : 2 ≤ kh K 0) (hr : kh K 4 < 10) {w0 w1 w2 : Nat} : ∀ (N n : Nat) {pl : Nat → Nat} {g : Nat → Int32} {τ : MS} {s : Nat} {x4 x5 : Option Value}, N + n = 7 → 1 ≤ n → ArF 11 (11 * (40 + kh K 4)) g σ τ → LM τ T (.inr s) → g 0 = nI w0 ∧ g 1 = nI w1 ∧ g 2 = nI w2 → (∀ j, j < n → g (4 + j) = nI (pl j)) → (∀ j, j < n → pl j < 7) → Wp (d + 5) md_179 99 [some (.ref 287), some (.int (nI (11 * (40 + kh K 4)))), some (.int (nI n)), some (.int (bI true)), x4, x5] [] (mset M τ) (RLn M σ T (wlk T (kh K 0) N pl n (.inr s)).1 (addW K (wkG w0 w1 w2 (wlk T (kh K 0) N pl n (.inr s)))))
  | 0, n, pl, g, τ, s, x4, x5, hN, h1, A0, l0, hw, hp, hq7 => by
    obtain rfl : n = 7 := by omega
    have b0 := (ok_h ok).1
    obtain ⟨h12, hL⟩ := id l0
    obtain ⟨r, h10, r1, r2⟩ := hL.2.2.2.1
    have t4 := tk_le (T := T) (s := s)
    have hp6 : τ.2.2.1 11 (11 * (40 + kh K 4) + 3 + 7) = nI (pl 6) := by rw [Nat.add_assoc, A0.2.2.2.2 (3 + 7)]; exact hp 6 (by decide)
    have hq6 := hq7 6 (by decide)
    have eb : ∀ z, otS T (kh K 0) (wlo pl 7) (.inr s) = .inl z → (wlk T (kh K 0) 0 pl 7 (.inr s)).1 = .inl z := fun z h => by
      show fl3 (.inr s) (otS T (kh K 0) (wlo pl 7) (.inr s)) = _
      rw [h]; rfl
    refine Wp.n (pc' := 100) 1 rfl ?_
    refine Wp.ecallV (len := 3) rfl rfl rfl (rfl) rfl (by decide) rfl (m_isGood l0) ?_
    refine Wp.ifb0 (tgt := 218) (len := 3) rfl (fun h103 => ?_) (fun h103 => ?_)
    · cases h103
    · skip
      refine Wp.n (pc' := 107) 1 rfl ?_
      refine Wp.ifb0 (tgt := 218) (len := 3) rfl (fun h107 => ?_) (fun h107 => ?_)
      · cases h107
      · skip
        refine Wp.n (pc' := 114) 2 rfl ?_
        refine Wp.top h10 ?_
        refine Wp.n (pc' := 120) 4 rfl ?_
        refine Wp.iaddN (x := 11 * (40 + kh K 4)) (y := 3) (len := 1) rfl ?_
        refine Wp.n (pc' := 122) 1 rfl ?_
        refine Wp.iaddN (x := (11 * (40 + kh K 4)) + 3) (y := 7) (len := 1) rfl ?_
        refine Wp.mialdN (j := ((11 * (40 + kh K 4)) + 3) + 7) (len := 1) rfl rfl rfl (by omega) ?_
        refine Wp.top hp6 ?_
        refine Wp.nc0 (x := r) (y := pl 6) (tgt := 131) (len := 3) rfl (by omega) (by omega) (fun h124 => ?_) (fun h124 => ?_)
        · skip
          refine Wp.n (pc' := 137) 4 rfl ?_
          refine Wp.nc1 (x := 7) (y := 7) (tgt := 170) (len := 3) rfl (by omega) (by omega) (fun h137 => ?_) (fun h137 => ?_)
          · omega
          · skip
            refine Wp.n (pc' := 144) 2 rfl ?_
            refine Wp.top hL.2.1 ?_
            refine Wp.n (pc' := 145) 1 rfl ?_
            refine Wp.nc1 (x := tk T s) (y := 2) (tgt := 170) (len := 3) rfl (by omega) (by omega) (fun h145 => ?_) (fun h145 => ?_)
            · skip
              first
                | (have l1' := l1
                   exact m_walk_f (w := true) hT A1 l1 (fun τ2 f2 l2 => by
                    have eo : otS T (kh K 0) (wlo pl 7) (.inr s) = .inr (nx T s) := (if_pos (by omega)).trans (if_pos ⟨by omega, decide_eq_true (fun e => by have : vl T s = pl 6 := e; omega)⟩)
                    have ew : (wlk T (kh K 0) 0 pl 7 (.inr s)).1 = .inl (3, s) := by
                      show fl3 (.inr s) (otS T (kh K 0) (wlo pl 7) (.inr s)) = _
                      rw [eo]; rfl
                    exact ⟨rfl, τ2, rfl, f2, by rw [ew]; exact l2, fun q => by rw [ew] at q; cases q⟩))
                | (have q0 : r ≠ pl 6 := h124
                   exact m_walk_o (is := true) (f := wlo pl 7) hT hB ok hP A0 l0 (fun r' e1 e2 => by
                    have : r' = r := (nI_eq (by omega) (by omega)).mp (e1.symm.trans h10)
                    subst this
                    exact (decide_eq_true h124).symm) (fun z τ' e f l => ⟨rfl, τ', rfl, f, by rw [eb z e]; exact l, fun q => by rw [eb z e] at q; cases q⟩) (fun s' τ' e _ _ => absurd (m_walk_c (j := 6) e rfl) (by omega)))
                | (have q0 : r = pl 6 := h124
                   exact m_walk_o (is := false) (f := wlo pl 7) hT hB ok hP A0 l0 (fun r' e1 e2 => by
                    have : r' = r := (nI_eq (by omega) (by omega)).mp (e1.symm.trans h10)
                    subst this
                    exact (decide_eq_false (fun e => e h124)).symm) (fun z τ' e f l => ⟨rfl, τ', rfl, f, by rw [eb z e]; exact l, fun q => by rw [eb z e] at q; cases q⟩) (fun s' τ' e _ _ => absurd (m_walk_c (j := 6) e rfl) (by omega)))
            · skip
              refine Wp.n (pc' := 152) 2 rfl ?_
              refine Wp.top h10 ?_
              refine Wp.n (pc' := 154) 2 rfl ?_
              refine Wp.ecallV (len := 3) rfl rfl rfl (rfl) rfl (by decide) rfl (m_hasRead (k := 0) (by decide)) ?_
              refine Wp.top (A0.h (j := 0) (by decide) hB (by decide)) ?_
              refine Wp.nc3 (x := r) (y := kh K 0) (tgt := 170) (len := 3) rfl (by omega) (by omega) (fun h157 => ?_) (fun h157 => ?_)
              · skip
                first
                  | (have l1' := l1
                     exact m_walk_f (w := true) hT A1 l1 (fun τ2 f2 l2 => by
                      have eo : otS T (kh K 0) (wlo pl 7) (.inr s) = .inr (nx T s) := (if_pos (by omega)).trans (if_pos ⟨by omega, decide_eq_true (fun e => by have : vl T s = pl 6 := e; omega)⟩)
                      have ew : (wlk T (kh K 0) 0 pl 7 (.inr s)).1 = .inl (3, s) := by
                        show fl3 (.inr s) (otS T (kh K 0) (wlo pl 7) (.inr s)) = _
                        rw [eo]; rfl
                      exact ⟨rfl, τ2, rfl, f2, by rw [ew]; exact l2, fun q => by rw [ew] at q; cases q⟩))
                  | (have q0 : r ≠ pl 6 := h124
                     exact m_walk_o (is := true) (f := wlo pl 7) hT hB ok hP A0 l0 (fun r' e1 e2 => by
                      have : r' = r := (nI_eq (by omega) (by omega)).mp (e1.symm.trans h10)
                      subst this
                      exact (decide_eq_true h124).symm) (fun z τ' e f l => ⟨rfl, τ', rfl, f, by rw [eb z e]; exact l, fun q => by rw [eb z e] at q; cases q⟩) (fun s' τ' e _ _ => absurd (m_walk_c (j := 6) e rfl) (by omega)))
                  | (have q0 : r = pl 6 := h124
                     exact m_walk_o (is := false) (f := wlo pl 7) hT hB ok hP A0 l0 (fun r' e1 e2 => by
                      have : r' = r := (nI_eq (by omega) (by omega)).mp (e1.symm.trans h10)
                      subst this
                      exact (decide_eq_false (fun e => e h124)).symm) (fun z τ' e f l => ⟨rfl, τ', rfl, f, by rw [eb z e]; exact l, fun q => by rw [eb z e] at q; cases q⟩) (fun s' τ' e _ _ => absurd (m_walk_c (j := 6) e rfl) (by omega)))
              · skip
                refine Wp.n (pc' := 162) 1 rfl ?_
                refine Wp.nz0 (x := 0) (tgt := 170) (len := 3) rfl (by omega) (fun h162 => ?_) (fun h162 => ?_)
                · skip
                  first
                    | (have l1' := l1
                       exact m_walk_f (w := true) hT A1 l1 (fun τ2 f2 l2 => by
                        have eo : otS T (kh K 0) (wlo pl 7) (.inr s) = .inr (nx T s) := (if_pos (by omega)).trans (if_pos ⟨by omega, decide_eq_true (fun e => by have : vl T s = pl 6 := e; omega)⟩)
                        have ew : (wlk T (kh K 0) 0 pl 7 (.inr s)).1 = .inl (3, s) := by
                          show fl3 (.inr s) (otS T (kh K 0) (wlo pl 7) (.inr s)) = _
                          rw [eo]; rfl
                        exact ⟨rfl, τ2, rfl, f2, by rw [ew]; exact l2, fun q => by rw [ew] at q; cases q⟩))
                    | (have q0 : r ≠ pl 6 := h124
                       exact m_walk_o (is := true) (f := wlo pl 7) hT hB ok hP A0 l0 (fun r' e1 e2 => by
                        have : r' = r := (nI_eq (by omega) (by omega)).mp (e1.symm.trans h10)
                        subst this
                        exact (decide_eq_true h124).symm) (fun z τ' e f l => ⟨rfl, τ', rfl, f, by rw [eb z e]; exact l, fun q => by rw [eb z e] at q; cases q⟩) (fun s' τ' e _ _ => absurd (m_walk_c (j := 6) e rfl) (by omega)))
                    | (have q0 : r = pl 6 := h124
                       exact m_walk_o (is := false) (f := wlo pl 7) hT hB ok hP A0 l0 (fun r' e1 e2 => by
                        have : r' = r := (nI_eq (by omega) (by omega)).mp (e1.symm.trans h10)
                        subst this
                        exact (decide_eq_false (fun e => e h124)).symm) (fun z τ' e f l => ⟨rfl, τ', rfl, f, by rw [eb z e]; exact l, fun q => by rw [eb z e] at q; cases q⟩) (fun s' τ' e _ _ => absurd (m_walk_c (j := 6) e rfl) (by omega)))
                · omega
        · skip
          refine Wp.n (pc' := 137) 5 rfl ?_
          refine Wp.nc1 (x := 7) (y := 7) (tgt := 170) (len := 3) rfl (by omega) (by omega) (fun h137 => ?_) (fun h137 => ?_)
          · omega
          · skip
            refine Wp.n (pc' := 144) 2 rfl ?_
            refine Wp.top hL.2.1 ?_
            refine Wp.n (pc' := 145) 1 rfl ?_
            refine Wp.nc1 (x := tk T s) (y := 2) (tgt := 170) (len := 3) rfl (by omega) (by omega) (fun h145 => ?_) (fun h145 => ?_)
            · skip
              first
                | (have l1' := l1
                   exact m_walk_f (w := true) hT A1 l1 (fun τ2 f2 l2 => by
                    have eo : otS T (kh K 0) (wlo pl 7) (.inr s) = .inr (nx T s) := (if_pos (by omega)).trans (if_pos ⟨by omega, decide_eq_true (fun e => by have : vl T s = pl 6 := e; omega)⟩)
                    have ew : (wlk T (kh K 0) 0 pl 7 (.inr s)).1 = .inl (3, s) := by
                      show fl3 (.inr s) (otS T (kh K 0) (wlo pl 7) (.inr s)) = _
                      rw [eo]; rfl
                    exact ⟨rfl, τ2, rfl, f2, by rw [ew]; exact l2, fun q => by rw [ew] at q; cases q⟩))
                | (have q0 : r ≠ pl 6 := h124
                   exact m_walk_o (is := true) (f := wlo pl 7) hT hB ok hP A0 l0 (fun r' e1 e2 => by
                    have : r' = r := (nI_eq (by omega) (by omega)).mp (e1.symm.trans h10)
                    subst this
                    exact (decide_eq_true h124).symm) (fun z τ' e f l => ⟨rfl, τ', rfl, f, by rw [eb z e]; exact l, fun q => by rw [eb z e] at q; cases q⟩) (fun s' τ' e _ _ => absurd (m_walk_c (j := 6) e rfl) (by omega)))
                | (have q0 : r = pl 6 := h124
                   exact m_walk_o (is := false) (f := wlo pl 7) hT hB ok hP A0 l0 (fun r' e1 e2 => by
                    have : r' = r := (nI_eq (by omega) (by omega)).mp (e1.symm.trans h10)
                    subst this
                    exact (decide_eq_false (fun e => e h124)).symm) (fun z τ' e f l => ⟨rfl, τ', rfl, f, by rw [eb z e]; exact l, fun q => by rw [eb z e] at q; cases q⟩) (fun s' τ' e _ _ => absurd (m_walk_c (j := 6) e rfl) (by omega)))
            · skip
              refine Wp.n (pc' := 152) 2 rfl ?_
              refine Wp.top h10 ?_
              refine Wp.n (pc' := 154) 2 rfl ?_
              refine Wp.ecallV (len := 3) rfl rfl rfl (rfl) rfl (by decide) rfl (m_hasRead (k := 0) (by decide)) ?_
              refine Wp.top (A0.h (j := 0) (by decide) hB (by decide)) ?_
              refine Wp.nc3 (x := r) (y := kh K 0) (tgt := 170) (len := 3) rfl (by omega) (by omega) (fun h157 => ?_) (fun h157 => ?_)
              · skip
                first
                  | (have l1' := l1
                     exact m_walk_f (w := true) hT A1 l1 (fun τ2 f2 l2 => by
                      have eo : otS T (kh K 0) (wlo pl 7) (.inr s) = .inr (nx T s) := (if_pos (by omega)).trans (if_pos ⟨by omega, decide_eq_true (fun e => by have : vl T s = pl 6 := e; omega)⟩)
                      have ew : (wlk T (kh K 0) 0 pl 7 (.inr s)).1 = .inl (3, s) := by
                        show fl3 (.inr s) (otS T (kh K 0) (wlo pl 7) (.inr s)) = _
                        rw [eo]; rfl
                      exact ⟨rfl, τ2, rfl, f2, by rw [ew]; exact l2, fun q => by rw [ew] at q; cases q⟩))
                  | (have q0 : r ≠ pl 6 := h124
                     exact m_walk_o (is := true) (f := wlo pl 7) hT hB ok hP A0 l0 (fun r' e1 e2 => by
                      have : r' = r := (nI_eq (by omega) (by omega)).mp (e1.symm.trans h10)
                      subst this
                      exact (decide_eq_true h124).symm) (fun z τ' e f l => ⟨rfl, τ', rfl, f, by rw [eb z e]; exact l, fun q => by rw [eb z e] at q; cases q⟩) (fun s' τ' e _ _ => absurd (m_walk_c (j := 6) e rfl) (by omega)))
                  | (have q0 : r = pl 6 := h124
                     exact m_walk_o (is := false) (f := wlo pl 7) hT hB ok hP A0 l0 (fun r' e1 e2 => by
                      have : r' = r := (nI_eq (by omega) (by omega)).mp (e1.symm.trans h10)
                      subst this
                      exact (decide_eq_false (fun e => e h124)).symm) (fun z τ' e f l => ⟨rfl, τ', rfl, f, by rw [eb z e]; exact l, fun q => by rw [eb z e] at q; cases q⟩) (fun s' τ' e _ _ => absurd (m_walk_c (j := 6) e rfl) (by omega)))
              · skip
                refine Wp.n (pc' := 162) 1 rfl ?_
                refine Wp.nz0 (x := 1) (tgt := 170) (len := 3) rfl (by omega) (fun h162 => ?_) (fun h162 => ?_)
                · omega
                · skip
                  refine Wp.n (pc' := 167) 2 rfl ?_
                  refine Wp.callV (len := 3) rfl rfl rfl (rfl) rfl (by decide) rfl (m_fails (A0.tm hT) l0 (k := 3) (by decide)) ?_
                  rintro _ _ ⟨rfl, τ1, rfl, f1, l1⟩
                  have A1 := A0.b f1
                  first
                    | (have l1' := l1
                       exact m_walk_f (w := true) hT A1 l1 (fun τ2 f2 l2 => by
                        have eo : otS T (kh K 0) (wlo pl 7) (.inr s) = .inr (nx T s) := (if_pos (by omega)).trans (if_pos ⟨by omega, decide_eq_true (fun e => by have : vl T s = pl 6 := e; omega)⟩)
                        have ew : (wlk T (kh K 0) 0 pl 7 (.inr s)).1 = .inl (3, s) := by
                          show fl3 (.inr s) (otS T (kh K 0) (wlo pl 7) (.inr s)) = _
                          rw [eo]; rfl
                        exact ⟨rfl, τ2, rfl, f2, by rw [ew]; exact l2, fun q => by rw [ew] at q; cases q⟩))
                    | (have q0 : r ≠ pl 6 := h124
                       exact m_walk_o (is := true) (f := wlo pl 7) hT hB ok hP A0 l0 (fun r' e1 e2 => by
                        have : r' = r := (nI_eq (by omega) (by omega)).mp (e1.symm.trans h10)
                        subst this
                        exact (decide_eq_true h124).symm) (fun z τ' e f l => ⟨rfl, τ', rfl, f, by rw [eb z e]; exact l, fun q => by rw [eb z e] at q; cases q⟩) (fun s' τ' e _ _ => absurd (m_walk_c (j := 6) e rfl) (by omega)))
                    | (have q0 : r = pl 6 := h124
                       exact m_walk_o (is := false) (f := wlo pl 7) hT hB ok hP A0 l0 (fun r' e1 e2 => by
                        have : r' = r := (nI_eq (by omega) (by omega)).mp (e1.symm.trans h10)
                        subst this
                        exact (decide_eq_false (fun e => e h124)).symm) (fun z τ' e f l => ⟨rfl, τ', rfl, f, by rw [eb z e]; exact l, fun q => by rw [eb z e] at q; cases q⟩) (fun s' τ' e _ _ => absurd (m_walk_c (j := 6) e rfl) (by omega)))
  | N + 1, n, pl, g, τ, s, x4, x5, hN, h1, A0, l0, hw, hp, hq7 => by
    have b0 := (ok_h ok).1
    obtain ⟨h12, hL⟩ := id l0
    obtain ⟨r, h10, r1, r2⟩ := hL.2.2.2.1
    have t4 := tk_le (T := T) (s := s)
    have hp6 : τ.2.2.1 11 (11 * (40 + kh K 4) + 3 + n) = nI (pl (n - 1)) := by rw [Nat.add_assoc, A0.2.2.2.2 (3 + n), show 3 + n = 4 + (n - 1) by omega]; exact hp (n - 1) (by omega)
    have hq6 := hq7 (n - 1) (by omega)
    have eb : ∀ z, otS T (kh K 0) (wlo pl n) (.inr s) = .inl z → wlk T (kh K 0) (N + 1) pl n (.inr s) = (.inl z, pl, n) := fun z h => by
      show (match otS T (kh K 0) (wlo pl n) (.inr s) with | .inl x => _ | .inr s' => _) = _
      rw [h]
    have eg : ∀ s', otS T (kh K 0) (wlo pl n) (.inr s) = .inr s' → wlk T (kh K 0) (N + 1) pl n (.inr s) = if tk T s' = 2 then wlk T (kh K 0) N (nup pl n (vl T s)) (n + 1) (.inr s') else (.inr s', nup pl n (vl T s), n + 1) := fun z h => by
      show (match otS T (kh K 0) (wlo pl n) (.inr s) with | .inl x => _ | .inr s' => _) = _
      rw [h]
      rfl
    have kk : ∀ s' τ' (x4 : Option Value), otS T (kh K 0) (wlo pl n) (.inr s) = .inr s' → ArF 11 (11 * (40 + kh K 4)) g σ τ' → LM τ' T (.inr s') → Wp (d + 5) md_179 186 [some (.ref 287), some (.int (nI (11 * (40 + kh K 4)))), some (.int (nI n)), some (.int (bI true)), x4, some (.int (nI (vl T s)))] [] (mset M τ') (RLn M σ T (wlk T (kh K 0) (N + 1) pl n (.inr s)).1 (addW K (wkG w0 w1 w2 (wlk T (kh K 0) (N + 1) pl n (.inr s))))) := by
      intro s' τ' x4 e A1 l1
      have o1 := ot_ok (st := .inr s) (by rw [e]; rfl)
      have o2 : vl T s < kh K 0 := o1.1
      have t4' := tk_le (T := T) (s := s')
      have hpn : ∀ j, j < n + 1 → upd g (3 + (n + 1)) (nI (vl T s)) (4 + j) = nI (nup pl n (vl T s) j) := fun j hj => by
        unfold nup
        by_cases c : j = n
        · rw [if_pos c, c, show 4 + n = 3 + (n + 1) by omega, pk_us]
        · rw [if_neg c, pk_un (by omega)]; exact hp j (by omega)
      have hq8 : ∀ j, j < n + 1 → nup pl n (vl T s) j < 7 := fun j hj => by
        unfold nup
        by_cases c : j = n
        · rw [if_pos c]; omega
        · rw [if_neg c]; exact hq7 j (by omega)
      have hw' : ∀ i, i < 3 → upd g (3 + (n + 1)) (nI (vl T s)) i = g i := fun i hi => pk_un (by omega)
      rw [eg s' e]
      refine Wp.incN (x := n) (len := 3) rfl rfl ?_
      refine Wp.n (pc' := 195) 4 rfl ?_
      refine Wp.iaddN (x := 11 * (40 + kh K 4)) (y := 3) (len := 1) rfl ?_
      refine Wp.n (pc' := 197) 1 rfl ?_
      refine Wp.iaddN (x := (11 * (40 + kh K 4)) + 3) (y := n + 1) (len := 1) rfl ?_
      refine Wp.n (pc' := 200) 1 rfl ?_
      refine Wp.rst (A := 11) (i := 11 * (40 + kh K 4) + 3 + (n + 1)) (j := 3 + (n + 1)) (len := 1) rfl A1 (by omega) rfl rfl (by omega) (by unfold dcl; omega) (fun τ2 A2 e2 j2 => ?_)
      have l2 := LM_e e2 j2 l1
      refine Wp.n (pc' := 205) 2 rfl ?_
      refine Wp.top l2.2.2.1 ?_
      refine Wp.n (pc' := 206) 1 rfl ?_
      refine Wp.nc1 (x := tk T s') (y := 2) (tgt := 213) (len := 3) rfl (by omega) (by omega) (fun h206 => ?_) (fun h206 => ?_)
      · skip
        refine Wp.n (pc' := 99) 3 rfl ?_
        first
          | (rw [if_pos h206]
             exact m_walk_l hT hB ok hP hr N (n + 1) (by omega) (by omega) A2 l2 ⟨(hw' 0 (by decide)).trans hw.1, (hw' 1 (by decide)).trans hw.2.1, (hw' 2 (by decide)).trans hw.2.2⟩ hpn hq8)
          | (rw [if_neg h206]
             refine Wp.n (pc' := 100) 1 rfl ?_
             refine Wp.ecallV (len := 3) rfl rfl rfl (rfl) rfl (by decide) rfl (m_isGood l2) ?_
             refine Wp.ifb0 (c := true) (tgt := 218) (len := 3) rfl (fun h => by cases h) (fun _ => ?_)
             refine Wp.n (pc' := 107) 1 rfl ?_
             refine Wp.ifb0 (c := false) (tgt := 218) (len := 3) rfl (fun _ => ?_) (fun h => by cases h)
             refine m_walk_e hT hB ok hr (n := n + 1) (by omega) A2 l2 (fun _ => ⟨fun j hj => ?_, rfl, fun j hj => by rw [wkG_4]; exact hpn j hj⟩)
             have jj : j = 0 ∨ j = 1 ∨ j = 2 := by omega
             rcases jj with rfl | rfl | rfl
             · exact (hw' 0 (by decide)).trans hw.1
             · exact (hw' 1 (by decide)).trans hw.2.1
             · exact (hw' 2 (by decide)).trans hw.2.2)
      · skip
        refine Wp.n (pc' := 99) 4 rfl ?_
        first
          | (rw [if_pos h206]
             exact m_walk_l hT hB ok hP hr N (n + 1) (by omega) (by omega) A2 l2 ⟨(hw' 0 (by decide)).trans hw.1, (hw' 1 (by decide)).trans hw.2.1, (hw' 2 (by decide)).trans hw.2.2⟩ hpn hq8)
          | (rw [if_neg h206]
             refine Wp.n (pc' := 100) 1 rfl ?_
             refine Wp.ecallV (len := 3) rfl rfl rfl (rfl) rfl (by decide) rfl (m_isGood l2) ?_
             refine Wp.ifb0 (c := true) (tgt := 218) (len := 3) rfl (fun h => by cases h) (fun _ => ?_)
             refine Wp.n (pc' := 107) 1 rfl ?_
             refine Wp.ifb0 (c := false) (tgt := 218) (len := 3) rfl (fun _ => ?_) (fun h => by cases h)
             refine m_walk_e hT hB ok hr (n := n + 1) (by omega) A2 l2 (fun _ => ⟨fun j hj => ?_, rfl, fun j hj => by rw [wkG_4]; exact hpn j hj⟩)
             have jj : j = 0 ∨ j = 1 ∨ j = 2 := by omega
             rcases jj with rfl | rfl | rfl
             · exact (hw' 0 (by decide)).trans hw.1
             · exact (hw' 1 (by decide)).trans hw.2.1
             · exact (hw' 2 (by decide)).trans hw.2.2)
    refine Wp.n (pc' := 100) 1 rfl ?_
    refine Wp.ecallV (len := 3) rfl rfl rfl (rfl) rfl (by decide) rfl (m_isGood l0) ?_
    refine Wp.ifb0 (tgt := 218) (len := 3) rfl (fun h103 => ?_) (fun h103 => ?_)
    · cases h103
    · skip
      refine Wp.n (pc' := 107) 1 rfl ?_
      refine Wp.ifb0 (tgt := 218) (len := 3) rfl (fun h107 => ?_) (fun h107 => ?_)
      · cases h107
      · skip
        refine Wp.n (pc' := 114) 2 rfl ?_
        refine Wp.top h10 ?_
        refine Wp.n (pc' := 120) 4 rfl ?_
        refine Wp.iaddN (x := 11 * (40 + kh K 4)) (y := 3) (len := 1) rfl ?_
        refine Wp.n (pc' := 122) 1 rfl ?_
        refine Wp.iaddN (x := (11 * (40 + kh K 4)) + 3) (y := n) (len := 1) rfl ?_
        refine Wp.mialdN (j := ((11 * (40 + kh K 4)) + 3) + n) (len := 1) rfl rfl rfl (by omega) ?_
        refine Wp.top hp6 ?_
        refine Wp.nc0 (x := r) (y := pl (n - 1)) (tgt := 131) (len := 3) rfl (by omega) (by omega) (fun h124 => ?_) (fun h124 => ?_)
        · skip
          refine Wp.n (pc' := 137) 4 rfl ?_
          refine Wp.nc1 (x := n) (y := 7) (tgt := 170) (len := 3) rfl (by omega) (by omega) (fun h137 => ?_) (fun h137 => ?_)
          · skip
            first
              | (have q0 : r ≠ pl (n - 1) := h124
                 exact m_walk_o (is := true) (f := wlo pl n) hT hB ok hP A0 l0 (fun r' e1 e2 => by
                  have : r' = r := (nI_eq (by omega) (by omega)).mp (e1.symm.trans h10)
                  subst this
                  exact (decide_eq_true h124).symm) (fun z τ' e f l => ⟨rfl, τ', rfl, f, by rw [eb z e]; exact l, fun q => by rw [eb z e] at q; cases q⟩) (fun s' τ' e A1 l1 => kk s' τ' _ e A1 l1))
              | (have q0 : r = pl (n - 1) := h124
                 exact m_walk_o (is := false) (f := wlo pl n) hT hB ok hP A0 l0 (fun r' e1 e2 => by
                  have : r' = r := (nI_eq (by omega) (by omega)).mp (e1.symm.trans h10)
                  subst this
                  exact (decide_eq_false (fun e => e h124)).symm) (fun z τ' e f l => ⟨rfl, τ', rfl, f, by rw [eb z e]; exact l, fun q => by rw [eb z e] at q; cases q⟩) (fun s' τ' e A1 l1 => kk s' τ' _ e A1 l1))
          · omega
        · skip
          refine Wp.n (pc' := 137) 5 rfl ?_
          refine Wp.nc1 (x := n) (y := 7) (tgt := 170) (len := 3) rfl (by omega) (by omega) (fun h137 => ?_) (fun h137 => ?_)
          · skip
            first
              | (have q0 : r ≠ pl (n - 1) := h124
                 exact m_walk_o (is := true) (f := wlo pl n) hT hB ok hP A0 l0 (fun r' e1 e2 => by
                  have : r' = r := (nI_eq (by omega) (by omega)).mp (e1.symm.trans h10)
                  subst this
                  exact (decide_eq_true h124).symm) (fun z τ' e f l => ⟨rfl, τ', rfl, f, by rw [eb z e]; exact l, fun q => by rw [eb z e] at q; cases q⟩) (fun s' τ' e A1 l1 => kk s' τ' _ e A1 l1))
              | (have q0 : r = pl (n - 1) := h124
                 exact m_walk_o (is := false) (f := wlo pl n) hT hB ok hP A0 l0 (fun r' e1 e2 => by
                  have : r' = r := (nI_eq (by omega) (by omega)).mp (e1.symm.trans h10)
                  subst this
                  exact (decide_eq_false (fun e => e h124)).symm) (fun z τ' e f l => ⟨rfl, τ', rfl, f, by rw [eb z e]; exact l, fun q => by rw [eb z e] at q; cases q⟩) (fun s' τ' e A1 l1 => kk s' τ' _ e A1 l1))
          · omega
end WKL
