/-! LINES: lanes, fords, boats; the first line; the reference. -/
def lno (T : TP) (st : St) (v : Nat) : Bool := decide (v ≠ nmV T st)
def ln3 (T : TP) (K : KD) (st : St) : St := otS T (kh K 0) (lno T st) (rd2 T K st)
def ln4 (T : TP) (K : KD) (st : St) : St := nmS T 1 30 (ln3 T K st)
def lnf (T : TP) (K : KD) (st : St) : St := wdS T 131638 (ln4 T K st)
def ln5 (T : TP) (K : KD) (st : St) : St := nmS T 0 (kh K 1 - 1) (lnf T K st)
def lnl (T : TP) (K : KD) (st : St) : St := wdS T 555 (ln5 T K st)
def ln6 (T : TP) (K : KD) (so : Nat) (st : St) : St := if so = 0 then nmS T (nmV T (lnf T K st)) (kh K 1 - 1) (lnl T K st) else ln4 T K st
def lnw (T : TP) (K : KD) (so : Nat) (st : St) : Bool := decide (so < 2) && isS T 8935713994 (ln6 T K so st)
def ln7 (T : TP) (K : KD) (so : Nat) (st : St) : St := if lnw T K so st = true then nmS T 0 100 (adS T (ln6 T K so st)) else ln6 T K so st
def addL (K : KD) (g : Nat → Nat) : KD := (fun i => if i = 3 then kh K 3 + 1 else kh K i, kr K, fun i => if i = kh K 3 then g else kl K i, kw K)
def lnR (T : TP) (K : KD) (so : Nat) (st : St) (j : Nat) : Nat := if j = 0 then nmV T st else if j = 1 then nmV T (rd2 T K st) else if j = 2 then nmV T (ln3 T K st) else if j = 3 then (if so = 0 then nmV T (lnf T K st) else 0) else if j = 4 then (if so = 0 then nmV T (lnl T K st) else 0) else if j = 5 then so else (if lnw T K so st = true then nmV T (adS T (ln6 T K so st)) else 0)
def lnK (T : TP) (K : KD) (so : Nat) (st : St) : KD := addL K (lnR T K so st)
/-- a row of the draft is being written -/
def ArF (A k : Nat) (g : Nat → Int32) (σ τ : MS) : Prop := FrK σ τ ∧ (∀ i, i ≠ A → τ.2.2.1 i = σ.2.2.1 i) ∧ τ.2.2.2 = σ.2.2.2 ∧ (∀ q, q < k → τ.2.2.1 A q = σ.2.2.1 A q) ∧ ∀ j, τ.2.2.1 A (k + j) = g j
section ARF
variable {d : Nat} {M : AM} {σ σ' τ τ' : MS} {T : TP} {st : St} {K : KD} {Q : Option Value → AM → Prop} {A k : Nat} {g : Nat → Int32}
theorem ArF.r : ArF A k (fun j => σ.2.2.1 A (k + j)) σ σ := ⟨FrK.r, fun _ _ => rfl, rfl, fun _ _ => rfl, fun _ => rfl⟩
theorem ArF.b (h : ArF A k g σ τ) (f : FrB τ τ') : ArF A k g σ τ' := ⟨h.1.t f.k, fun i hi => by rw [f.2]; exact h.2.1 i hi, by rw [f.2]; exact h.2.2.1, fun q hq => by rw [f.2]; exact h.2.2.2.1 q hq, fun j => by rw [f.2]; exact h.2.2.2.2 j⟩
theorem ArF.tm (h : ArF A k g σ τ) (hT : TM σ T) : TM τ T := h.1.T hT
theorem LM_e (e : τ'.1 = τ.1) (e' : τ'.2.1 = τ.2.1) (h : LM τ T st) : LM τ' T st := by
  rcases st with x | s
  · unfold LM at *
    rw [e]; exact h
  · unfold LM LN at *
    rw [e, e']; exact h
theorem Wp.rst {X : MD} {pc len i j n : Nat} {l : AL} {sk : List Value} {x : Int32} (hc : cdx X pc = some (.inr (.inl .iastore), len)) (hA : ArF A k g σ τ) (hi : i = k + j) (hk : mtl_ A = (0, n)) (hn : (Nat.blt 0 n && Nat.blt n 100000) = true) (hj : i < n) (hd : dcl A i) (kk : ∀ τ', ArF A k (upd g j x) σ τ' → τ'.1 = τ.1 → τ'.2.1 = τ.2.1 → Wp d X (pc + len) l sk (mset M τ') Q) : Wp d X pc l (.int x :: .int (nI i) :: .ref (A + 288) :: sk) (mset M τ) Q := by
  refine Wp.miastN (k := A) (j := i) hc hk hn hj ?_
  refine kk _ ⟨hA.1.t (FrK.a hd), fun q hq => ?_, hA.2.2.1, fun q hq => ?_, fun q => ?_⟩ rfl rfl
  · show va_up τ.2.2.1 A _ q = _
    rw [va_up_ne _ _ hq]; exact hA.2.1 q hq
  · rw [aset_get, pk_un (by omega)]; exact hA.2.2.2.1 q hq
  · rw [aset_get]
    by_cases c : q = j
    · rw [c, hi, pk_us, pk_us]
    · rw [pk_un (by omega), pk_un c]; exact hA.2.2.2.2 q
theorem ArF.h (h : ArF A k g σ τ) (hA : A ≠ 6) (hB : BM σ K) {j : Nat} (hj : j < 5) : τ.2.2.1 6 (20 + j) = nI (kh K j) := by rw [h.2.1 6 (fun e => hA e.symm)]; exact BM_h hB hj
theorem BM_lane (hB : BM σ K) (ok : KOK K) (hr : kh K 3 < 8) {G : Nat → Nat} (hA : ArF 10 (7 * (36 + kh K 3)) g σ τ) (hv : ∀ j, j < 7 → g j = nI (G j)) : BM (aset τ 6 (upd (τ.2.2.1 6) 23 (nI (kh K 3 + 1)))) (addL K G) := by
  obtain ⟨⟨h1, h2, h3, h4, h5, h6, h7⟩, hl, h11⟩ := hB
  have ek : ∀ j, j ≠ 3 → kh (addL K G) j = kh K j := fun j hj => if_neg hj
  have e2 : kh (addL K G) 3 = kh K 3 + 1 := rfl
  have ea : ∀ i, i ≠ 6 → i ≠ 10 → (aset τ 6 (upd (τ.2.2.1 6) 23 (nI (kh K 3 + 1)))).2.2.1 i = σ.2.2.1 i := fun i i6 i10 => (va_up_ne _ _ i6).trans (hA.2.1 i i10)
  have e10 : (aset τ 6 (upd (τ.2.2.1 6) 23 (nI (kh K 3 + 1)))).2.2.1 10 = τ.2.2.1 10 := rfl
  have e11 : kh (addL K G) 11 = 0 := (ek 11 (by decide)).trans h11
  refine ⟨⟨fun j hj => ?_, fun h0 j hj => ?_, ?_, ?_, ?_, fun i hi j hj => ?_, ?_⟩, fun j hj => ?_, e11⟩
  · rw [aset_get]
    by_cases q : j = 3
    · subst q; exact pk_us
    · rw [pk_un (by omega), ek j q, hA.2.1 6 (by decide)]; exact h1 j hj
  · rw [ea 7 (by decide) (by decide), ek (6 + j) (by omega)]; exact hl j hj
  · rw [ea 5 (by decide) (by decide), ek 5 (by decide)]; exact h3
  · show τ.2.2.2 8 4 = _
    rw [hA.2.2.1, ek 12 (by decide)]; exact h4
  · rw [ea 9 (by decide) (by decide), ek 2 (by decide)]; exact h5
  · rw [e2, e11] at hi
    rw [e10]
    show _ = nI ((if i = kh K 3 then G else kl K i) j)
    by_cases q : i = kh K 3
    · subst q
      rw [if_pos rfl, show 63 * 4 + 7 * kh K 3 + j = 7 * (36 + kh K 3) + j by omega, hA.2.2.2.2 j]
      exact hv j hj
    · rw [if_neg q, hA.2.2.2.1 _ (by omega)]
      exact h6 i (Or.inl (by omega)) j hj
  · rw [ea 11 (by decide) (by decide), ek 4 (by decide)]; exact h7
  · rw [ea 7 (by decide) (by decide), ek (6 + j) (by omega)]; exact hl j hj
theorem gd_ad (h : gd (adS T st) = true) : gd st = true := by
  rcases st with x | s
  · cases h
  · rfl
theorem m_laneLine_3 (hT : TM σ T) (hB : BM σ K) (ok : KOK K) (hr : kh K 3 < 8) {so : Nat} (hso : so ≤ 2) {τ0 : MS} (A0 : ArF 10 (7 * (36 + kh K 3)) g σ τ0) (l0 : LM τ0 T (ln6 T K so st)) (hv : gd (ln6 T K so st) = true → ∀ j, j < 5 → g j = nI (lnR T K so st j)) : Wp (d + 5) md_180 157 [some (.ref 287), some (.int (nI so)), some (.int (nI (7 * (36 + kh K 3))))] [] (mset M τ0) (RLn M σ T (ln7 T K so st) (lnK T K so st)) := by
  refine Wp.n (pc' := 163) 4 rfl ?_
  refine Wp.iaddN (x := 7 * (36 + kh K 3)) (y := 5) (len := 1) rfl ?_
  refine Wp.n (pc' := 165) 1 rfl ?_
  refine Wp.rst (A := 10) (i := 7 * (36 + kh K 3) + 5) (j := 5) (len := 1) rfl A0 (by omega) rfl rfl (by omega) (by unfold dcl; omega) (fun τ1 A1 e1 j1 => ?_)
  have l1 := LM_e e1 j1 l0
  refine Wp.n (pc' := 173) 4 rfl ?_
  refine Wp.iaddN (x := 7 * (36 + kh K 3)) (y := 6) (len := 1) rfl ?_
  refine Wp.n (pc' := 176) 2 rfl ?_
  refine Wp.nc3 (x := so) (y := 2) (tgt := 199) (len := 3) rfl (by omega) (by omega) (fun h176 => ?_) (fun h176 => ?_)
  · have hw_ : lnw T K so st = false := by unfold lnw; rw [decide_eq_false (by omega)]; rfl
    have e7 : ln7 T K so st = ln6 T K so st := if_neg (by rw [hw_]; decide)
    refine Wp.n (pc' := 200) 1 rfl ?_
    first
      | refine Wp.rst (A := 10) (i := 7 * (36 + kh K 3) + 6) (j := 6) (len := 1) rfl A3 (by omega) rfl rfl (by omega) (by unfold dcl; omega) (fun τ4 A4 e4 j4 => ?_)
      | refine Wp.rst (A := 10) (i := 7 * (36 + kh K 3) + 6) (j := 6) (len := 1) rfl A2 (by omega) rfl rfl (by omega) (by unfold dcl; omega) (fun τ4 A4 e4 j4 => ?_)
      | refine Wp.rst (A := 10) (i := 7 * (36 + kh K 3) + 6) (j := 6) (len := 1) rfl A1 (by omega) rfl rfl (by omega) (by unfold dcl; omega) (fun τ4 A4 e4 j4 => ?_)
    refine Wp.n (pc' := 208) 4 rfl ?_
    refine Wp.mialdN (j := 23) (len := 1) rfl rfl rfl (by omega) ?_
    refine Wp.top (A4.h (j := 3) (by decide) hB (by decide)) ?_
    refine Wp.n (pc' := 210) 1 rfl ?_
    refine Wp.iaddN (x := kh K 3) (y := 1) (len := 1) rfl ?_
    refine Wp.miastN (j := 23) (len := 1) rfl rfl rfl (by omega) ?_
    refine Wp.retV (len := 1) rfl rfl ?_
    rw [e7]
    refine ⟨rfl, _, rfl, A4.1.t (FrK.a (by unfold dcl; omega)), LM_a (LM_e e4 j4 (by first | exact l3 | exact l2 | exact l1)), fun gg => BM_lane hB ok hr A4 (fun j hj => ?_)⟩
    have g6 : gd (ln6 T K so st) = true := by first | exact gg | exact gd_ad (gd_nm gg)
    by_cases c : j < 5
    · rw [pk_un (by omega), pk_un (by omega)]
      exact hv g6 j c
    · by_cases c5 : j = 5
      · subst c5; rfl
      · obtain rfl : j = 6 := by omega
        show upd (upd g 5 (nI so)) 6 _ 6 = nI (if lnw T K so st = true then _ else _)
        rw [pk_us]
        first
          | (rw [if_pos hw_]; exact hw gg)
          | (rw [if_neg (by rw [hw_]; decide)]; rfl)
  · skip
    refine Wp.n (pc' := 183) 2 rfl ?_
    refine Wp.callV (len := 3) rfl rfl rfl (rfl) rfl (by decide) rfl (m_takes (h := 8935713994) (A1.tm hT) l1 (by decide)) ?_
    rintro _ _ ⟨rfl, τ2, rfl, f2, l2⟩
    have A2 := A1.b f2
    refine Wp.ifb0 (tgt := 199) (len := 3) rfl (fun h186 => ?_) (fun h186 => ?_)
    · rw [if_neg (by rw [h186]; decide)] at l2
      have hw_ : lnw T K so st = false := by unfold lnw; rw [h186]; exact Bool.and_false _
      have e7 : ln7 T K so st = ln6 T K so st := if_neg (by rw [hw_]; decide)
      refine Wp.n (pc' := 200) 1 rfl ?_
      first
        | refine Wp.rst (A := 10) (i := 7 * (36 + kh K 3) + 6) (j := 6) (len := 1) rfl A3 (by omega) rfl rfl (by omega) (by unfold dcl; omega) (fun τ4 A4 e4 j4 => ?_)
        | refine Wp.rst (A := 10) (i := 7 * (36 + kh K 3) + 6) (j := 6) (len := 1) rfl A2 (by omega) rfl rfl (by omega) (by unfold dcl; omega) (fun τ4 A4 e4 j4 => ?_)
        | refine Wp.rst (A := 10) (i := 7 * (36 + kh K 3) + 6) (j := 6) (len := 1) rfl A1 (by omega) rfl rfl (by omega) (by unfold dcl; omega) (fun τ4 A4 e4 j4 => ?_)
      refine Wp.n (pc' := 208) 4 rfl ?_
      refine Wp.mialdN (j := 23) (len := 1) rfl rfl rfl (by omega) ?_
      refine Wp.top (A4.h (j := 3) (by decide) hB (by decide)) ?_
      refine Wp.n (pc' := 210) 1 rfl ?_
      refine Wp.iaddN (x := kh K 3) (y := 1) (len := 1) rfl ?_
      refine Wp.miastN (j := 23) (len := 1) rfl rfl rfl (by omega) ?_
      refine Wp.retV (len := 1) rfl rfl ?_
      rw [e7]
      refine ⟨rfl, _, rfl, A4.1.t (FrK.a (by unfold dcl; omega)), LM_a (LM_e e4 j4 (by first | exact l3 | exact l2 | exact l1)), fun gg => BM_lane hB ok hr A4 (fun j hj => ?_)⟩
      have g6 : gd (ln6 T K so st) = true := by first | exact gg | exact gd_ad (gd_nm gg)
      by_cases c : j < 5
      · rw [pk_un (by omega), pk_un (by omega)]
        exact hv g6 j c
      · by_cases c5 : j = 5
        · subst c5; rfl
        · obtain rfl : j = 6 := by omega
          show upd (upd g 5 (nI so)) 6 _ 6 = nI (if lnw T K so st = true then _ else _)
          rw [pk_us]
          first
            | (rw [if_pos hw_]; exact hw gg)
            | (rw [if_neg (by rw [hw_]; decide)]; rfl)
    · rw [if_pos h186] at l2
      have hw_ : lnw T K so st = true := by unfold lnw; rw [h186, decide_eq_true (by omega)]; rfl
      have e7 : ln7 T K so st = nmS T 0 100 (adS T (ln6 T K so st)) := if_pos hw_
      refine Wp.n (pc' := 193) 3 rfl ?_
      refine Wp.callV (len := 3) rfl rfl rfl (rfl) rfl (by decide) rfl (m_number (lo := 0) (hi := 100) (A2.tm hT) l2 (fun q => ⟨rfl, rfl, by omega, by omega⟩)) ?_
      rintro _ _ ⟨w, rfl, hw, τ3, rfl, f3, l3⟩
      have A3 := A2.b f3
      refine Wp.n (pc' := 200) 1 rfl ?_
      first
        | refine Wp.rst (A := 10) (i := 7 * (36 + kh K 3) + 6) (j := 6) (len := 1) rfl A3 (by omega) rfl rfl (by omega) (by unfold dcl; omega) (fun τ4 A4 e4 j4 => ?_)
        | refine Wp.rst (A := 10) (i := 7 * (36 + kh K 3) + 6) (j := 6) (len := 1) rfl A2 (by omega) rfl rfl (by omega) (by unfold dcl; omega) (fun τ4 A4 e4 j4 => ?_)
        | refine Wp.rst (A := 10) (i := 7 * (36 + kh K 3) + 6) (j := 6) (len := 1) rfl A1 (by omega) rfl rfl (by omega) (by unfold dcl; omega) (fun τ4 A4 e4 j4 => ?_)
      refine Wp.n (pc' := 208) 4 rfl ?_
      refine Wp.mialdN (j := 23) (len := 1) rfl rfl rfl (by omega) ?_
      refine Wp.top (A4.h (j := 3) (by decide) hB (by decide)) ?_
      refine Wp.n (pc' := 210) 1 rfl ?_
      refine Wp.iaddN (x := kh K 3) (y := 1) (len := 1) rfl ?_
      refine Wp.miastN (j := 23) (len := 1) rfl rfl rfl (by omega) ?_
      refine Wp.retV (len := 1) rfl rfl ?_
      rw [e7]
      refine ⟨rfl, _, rfl, A4.1.t (FrK.a (by unfold dcl; omega)), LM_a (LM_e e4 j4 (by first | exact l3 | exact l2 | exact l1)), fun gg => BM_lane hB ok hr A4 (fun j hj => ?_)⟩
      have g6 : gd (ln6 T K so st) = true := by first | exact gg | exact gd_ad (gd_nm gg)
      by_cases c : j < 5
      · rw [pk_un (by omega), pk_un (by omega)]
        exact hv g6 j c
      · by_cases c5 : j = 5
        · subst c5; rfl
        · obtain rfl : j = 6 := by omega
          show upd (upd g 5 (nI so)) 6 _ 6 = nI (if lnw T K so st = true then _ else _)
          rw [pk_us]
          first
            | (rw [if_pos hw_]; exact hw gg)
            | (rw [if_neg (by rw [hw_]; decide)]; rfl)
theorem m_laneLine_2 (hT : TM σ T) (hB : BM σ K) (ok : KOK K) (hP : 2 ≤ kh K 0) (hD : 1 ≤ kh K 1) (hr : kh K 3 < 8) {so : Nat} (hso : so ≤ 2) {τ0 : MS} {a : Int32} {is : Bool} (A0 : ArF 10 (7 * (36 + kh K 3)) (upd g 0 a) σ τ0) (l0 : LM τ0 T (rd2 T K st)) (ha : gd (rd1 T K st) = true → a = nI (nmV T st)) (hi : gd (rd2 T K st) = true → ∀ r, τ0.1 10 = nI r → r < kh K 0 → is = lno T st r) : Wp (d + 5) md_180 63 [some (.ref 287), some (.int (nI so)), some (.int (nI (7 * (36 + kh K 3))))] [.int (bI is), .ref 287, .int (nI (7 * (36 + kh K 3) + 1)), .ref 298] (mset M τ0) (RLn M σ T (ln7 T K so st) (lnK T K so st)) := by
  have b0 := (ok_h ok).1
  have b1 := (ok_h ok).2.1
  have h20 : τ0.2.2.1 6 20 = nI (kh K 0) := A0.h (j := 0) (by decide) hB (by decide)
  refine Wp.callV (len := 3) rfl rfl rfl (rfl) rfl (by decide) rfl (m_other (P := kh K 0) (ok := lno T st) (A0.tm hT) l0 (fun q => ⟨h20, by omega, by omega, hi q⟩)) ?_
  rintro _ _ ⟨b, rfl, hb, τ1, rfl, f1, l1⟩
  have A1 := A0.b f1
  refine Wp.rst (A := 10) (i := 7 * (36 + kh K 3) + 1) (j := 1) (len := 1) rfl A1 (by omega) rfl rfl (by omega) (by unfold dcl; omega) (fun τ2 A2 e2 j2 => ?_)
  have l2 := LM_e e2 j2 l1
  refine Wp.n (pc' := 73) 4 rfl ?_
  refine Wp.iaddN (x := 7 * (36 + kh K 3)) (y := 2) (len := 1) rfl ?_
  refine Wp.n (pc' := 78) 3 rfl ?_
  refine Wp.callV (len := 3) rfl rfl rfl (rfl) rfl (by decide) rfl (m_number (lo := 1) (hi := 30) (A2.tm hT) l2 (fun q => ⟨rfl, rfl, by omega, by omega⟩)) ?_
  rintro _ _ ⟨c, rfl, hc, τ3, rfl, f3, l3⟩
  have A3 := A2.b f3
  refine Wp.rst (A := 10) (i := 7 * (36 + kh K 3) + 2) (j := 2) (len := 1) rfl A3 (by omega) rfl rfl (by omega) (by unfold dcl; omega) (fun τ4 A4 e4 j4 => ?_)
  have l4 := LM_e e4 j4 l3
  refine Wp.n (pc' := 88) 4 rfl ?_
  refine Wp.iaddN (x := 7 * (36 + kh K 3)) (y := 3) (len := 1) rfl ?_
  refine Wp.n (pc' := 90) 1 rfl ?_
  refine Wp.rst (A := 10) (i := 7 * (36 + kh K 3) + 3) (j := 3) (len := 1) rfl A4 (by omega) rfl rfl (by omega) (by unfold dcl; omega) (fun τ5 A5 e5 j5 => ?_)
  have l5 := LM_e e5 j5 l4
  refine Wp.n (pc' := 97) 4 rfl ?_
  refine Wp.iaddN (x := 7 * (36 + kh K 3)) (y := 4) (len := 1) rfl ?_
  refine Wp.n (pc' := 99) 1 rfl ?_
  refine Wp.rst (A := 10) (i := 7 * (36 + kh K 3) + 4) (j := 4) (len := 1) rfl A5 (by omega) rfl rfl (by omega) (by unfold dcl; omega) (fun τ6 A6 e6 j6 => ?_)
  have l6 := LM_e e6 j6 l5
  refine Wp.n (pc' := 101) 1 rfl ?_
  refine Wp.nz1 (x := so) (tgt := 157) (len := 3) rfl (by omega) (fun h101 => ?_) (fun h101 => ?_)
  · skip
    have g3 : gd (ln4 T K st) = true → gd (ln3 T K st) = true ∧ gd (rd1 T K st) = true := fun q => ⟨gd_nm q, gd_wd (gd_ot (gd_nm q))⟩
    first
      | (have s6 : ln6 T K so st = nmS T (nmV T (lnf T K st)) (kh K 1 - 1) (lnl T K st) := if_pos h101
         refine m_laneLine_3 hT hB ok hr hso A10 (by rw [s6]; exact l10) (fun gg j hj => ?_)
         rw [s6] at gg
         have g5 : gd (ln5 T K st) = true := gd_wd (gd_nm gg)
         have g4 := gd_wd (gd_nm g5)
         have jj : j = 0 ∨ j = 1 ∨ j = 2 ∨ j = 3 ∨ j = 4 := by omega
         rcases jj with rfl | rfl | rfl | rfl | rfl
         · exact ha (g3 g4).2
         · exact hb (g3 g4).1
         · exact hc g4
         · show x = nI (if so = 0 then _ else _)
           rw [if_pos h101]; exact hx g5
         · show y = nI (if so = 0 then _ else _)
           rw [if_pos h101]; exact hy gg)
      | (have s6 : ln6 T K so st = ln4 T K st := if_neg h101
         refine m_laneLine_3 hT hB ok hr hso A6 (by rw [s6]; exact l6) (fun g4 j hj => ?_)
         rw [s6] at g4
         have jj : j = 0 ∨ j = 1 ∨ j = 2 ∨ j = 3 ∨ j = 4 := by omega
         rcases jj with rfl | rfl | rfl | rfl | rfl
         · exact ha (g3 g4).2
         · exact hb (g3 g4).1
         · exact hc g4
         · show _ = nI (if so = 0 then _ else _)
           rw [if_neg h101]; rfl
         · show _ = nI (if so = 0 then _ else _)
           rw [if_neg h101]; rfl)
  · skip
    refine Wp.n (pc' := 110) 4 rfl ?_
    refine Wp.iaddN (x := 7 * (36 + kh K 3)) (y := 3) (len := 1) rfl ?_
    refine Wp.n (pc' := 118) 5 rfl ?_
    refine Wp.ecallV (len := 3) rfl rfl rfl (rfl) rfl (by decide) rfl (m_hasRead (k := 1) (by decide)) ?_
    refine Wp.top (A6.h (j := 1) (by decide) hB (by decide)) ?_
    refine Wp.n (pc' := 122) 1 rfl ?_
    refine Wp.isubN (x := kh K 1) (y := 1) (len := 1) rfl (by omega) ?_
    refine Wp.callV (len := 3) rfl rfl rfl (rfl) rfl (by decide) rfl (m_numberW (h := 131638) (lo := 0) (hi := kh K 1 - 1) (A6.tm hT) l6 (by decide) (fun q => ⟨rfl, rfl, by omega, by omega⟩)) ?_
    rintro _ _ ⟨x, rfl, hx, τ7, rfl, f7, l7⟩
    have A7 := A6.b f7
    refine Wp.rst (A := 10) (i := 7 * (36 + kh K 3) + 3) (j := 3) (len := 1) rfl A7 (by omega) rfl rfl (by omega) (by unfold dcl; omega) (fun τ8 A8 e8 j8 => ?_)
    have l8 := LM_e e8 j8 l7
    refine Wp.n (pc' := 133) 4 rfl ?_
    refine Wp.iaddN (x := 7 * (36 + kh K 3)) (y := 4) (len := 1) rfl ?_
    refine Wp.n (pc' := 144) 6 rfl ?_
    refine Wp.iaddN (x := 7 * (36 + kh K 3)) (y := 3) (len := 1) rfl ?_
    refine Wp.mialdN (j := (7 * (36 + kh K 3)) + 3) (len := 1) rfl rfl rfl (by omega) ?_
    refine Wp.top (A8.2.2.2.2 3) ?_
    refine Wp.n (pc' := 148) 2 rfl ?_
    refine Wp.ecallV (len := 3) rfl rfl rfl (rfl) rfl (by decide) rfl (m_hasRead (k := 1) (by decide)) ?_
    refine Wp.top (A8.h (j := 1) (by decide) hB (by decide)) ?_
    refine Wp.n (pc' := 152) 1 rfl ?_
    refine Wp.isubN (x := kh K 1) (y := 1) (len := 1) rfl (by omega) ?_
    refine Wp.callV (len := 3) rfl rfl rfl (rfl) rfl (by decide) rfl (m_numberW (h := 555) (lo := nmV T (lnf T K st)) (hi := kh K 1 - 1) (A8.tm hT) l8 (by decide) (fun q => ⟨hx (gd_wd q), rfl, by omega, by have : 0 ≤ nmV T (lnf T K st) ∧ nmV T (lnf T K st) ≤ kh K 1 - 1 := nm_le (gd_wd (T := T) q); omega⟩)) ?_
    rintro _ _ ⟨y, rfl, hy, τ9, rfl, f9, l9⟩
    have A9 := A8.b f9
    refine Wp.rst (A := 10) (i := 7 * (36 + kh K 3) + 4) (j := 4) (len := 1) rfl A9 (by omega) rfl rfl (by omega) (by unfold dcl; omega) (fun τ10 A10 e10 j10 => ?_)
    have l10 := LM_e e10 j10 l9
    have g3 : gd (ln4 T K st) = true → gd (ln3 T K st) = true ∧ gd (rd1 T K st) = true := fun q => ⟨gd_nm q, gd_wd (gd_ot (gd_nm q))⟩
    first
      | (have s6 : ln6 T K so st = nmS T (nmV T (lnf T K st)) (kh K 1 - 1) (lnl T K st) := if_pos h101
         refine m_laneLine_3 hT hB ok hr hso A10 (by rw [s6]; exact l10) (fun gg j hj => ?_)
         rw [s6] at gg
         have g5 : gd (ln5 T K st) = true := gd_wd (gd_nm gg)
         have g4 := gd_wd (gd_nm g5)
         have jj : j = 0 ∨ j = 1 ∨ j = 2 ∨ j = 3 ∨ j = 4 := by omega
         rcases jj with rfl | rfl | rfl | rfl | rfl
         · exact ha (g3 g4).2
         · exact hb (g3 g4).1
         · exact hc g4
         · show x = nI (if so = 0 then _ else _)
           rw [if_pos h101]; exact hx g5
         · show y = nI (if so = 0 then _ else _)
           rw [if_pos h101]; exact hy gg)
      | (have s6 : ln6 T K so st = ln4 T K st := if_neg h101
         refine m_laneLine_3 hT hB ok hr hso A6 (by rw [s6]; exact l6) (fun g4 j hj => ?_)
         rw [s6] at g4
         have jj : j = 0 ∨ j = 1 ∨ j = 2 ∨ j = 3 ∨ j = 4 := by omega
         rcases jj with rfl | rfl | rfl | rfl | rfl
         · exact ha (g3 g4).2
         · exact hb (g3 g4).1
         · exact hc g4
         · show _ = nI (if so = 0 then _ else _)
           rw [if_neg h101]; rfl
         · show _ = nI (if so = 0 then _ else _)
           rw [if_neg h101]; rfl)
theorem m_laneLine (hT : TM σ T) (hL : LM σ T st) (hB : BM σ K) (ok : KOK K) (hP : 2 ≤ kh K 0) (hD : 1 ≤ kh K 1) (hr : kh K 3 < 8) {so : Nat} (hso : so ≤ 2) : Wp (d + 5) md_180 0 [some (.ref 287), some (.int (nI so)), none] [] (mset M σ) (RLn M σ T (ln7 T K so st) (lnK T K so st)) := by
  have b0 := (ok_h ok).1
  have A0 : ArF 10 (7 * (36 + kh K 3)) _ σ σ := ArF.r
  refine Wp.n (pc' := 6) 4 rfl ?_
  refine Wp.ecallV (len := 3) rfl rfl rfl (rfl) rfl (by decide) rfl (m_hasRead (k := 3) (by decide)) ?_
  refine Wp.top (BM_h hB (by decide)) ?_
  refine Wp.iaddN (x := 36) (y := kh K 3) (len := 1) rfl ?_
  refine Wp.imulN (x := 7) (y := 36 + (kh K 3)) (len := 1) rfl ?_
  refine Wp.n (pc' := 21) 8 rfl ?_
  refine Wp.ecallV (len := 3) rfl rfl rfl (rfl) rfl (by decide) rfl (m_hasRead (k := 0) (by decide)) ?_
  refine Wp.top (BM_h hB (by decide)) ?_
  refine Wp.n (pc' := 25) 1 rfl ?_
  refine Wp.isubN (x := kh K 0) (y := 1) (len := 1) rfl (by omega) ?_
  refine Wp.callV (len := 3) rfl rfl rfl (rfl) rfl (by decide) rfl (m_number (lo := 0) (hi := kh K 0 - 1) hT hL (fun q => ⟨rfl, rfl, by omega, by omega⟩)) ?_
  rintro _ _ ⟨a, rfl, ha, τ1, rfl, f1, l1⟩
  have A1 := A0.b f1
  refine Wp.rst (A := 10) (i := 7 * (36 + kh K 3)) (j := 0) (len := 1) rfl A1 (by omega) rfl rfl (by omega) (by unfold dcl; omega) (fun τ2 A2 e2 j2 => ?_)
  have l2 := LM_e e2 j2 l1
  refine Wp.n (pc' := 34) 2 rfl ?_
  refine Wp.callV (len := 3) rfl rfl rfl (rfl) rfl (by decide) rfl (m_asks (h := 555) (A2.tm hT) l2 (by decide)) ?_
  rintro _ _ ⟨rfl, τ3, rfl, f3, l3⟩
  have A3 := A2.b f3
  have hv : gd (rd2 T K st) = true → a = nI (nmV T st) ∧ nmV T st < 7 := fun g => ⟨ha (gd_wd g), by have := nm_le (gd_wd (T := T) g); omega⟩
  refine Wp.n (pc' := 43) 4 rfl ?_
  refine Wp.iaddN (x := 7 * (36 + (kh K 3))) (y := 1) (len := 1) rfl ?_
  refine Wp.n (pc' := 54) 6 rfl ?_
  refine Wp.mialdN (j := 7 * (36 + (kh K 3))) (len := 1) rfl rfl rfl (by omega) ?_
  refine Wp.top (A3.2.2.2.2 0) ?_
  refine Wp.ic0 (tgt := 62) (len := 3) rfl (fun h55 => ?_) (fun h55 => ?_)
  · skip
    refine Wp.n (pc' := 63) 1 rfl ?_
    first
      | exact m_laneLine_2 (is := true) hT hB ok hP hD hr hso A3 l3 ha (fun g r q1 q2 => by
          obtain ⟨v1, v2⟩ := hv g
          have q3 : r ≠ nmV T st := fun q => h55 (by rw [pk_us, q1, v1, q])
          exact (decide_eq_true q3).symm)
      | exact m_laneLine_2 (is := false) hT hB ok hP hD hr hso A3 l3 ha (fun g r q1 q2 => by
          obtain ⟨v1, v2⟩ := hv g
          rw [pk_us, q1, v1, nI_eq (by omega) (by omega)] at h55
          exact (decide_eq_false (fun q => q h55)).symm)
  · skip
    refine Wp.n (pc' := 63) 2 rfl ?_
    first
      | exact m_laneLine_2 (is := true) hT hB ok hP hD hr hso A3 l3 ha (fun g r q1 q2 => by
          obtain ⟨v1, v2⟩ := hv g
          have q3 : r ≠ nmV T st := fun q => h55 (by rw [pk_us, q1, v1, q])
          exact (decide_eq_true q3).symm)
      | exact m_laneLine_2 (is := false) hT hB ok hP hD hr hso A3 l3 ha (fun g r q1 q2 => by
          obtain ⟨v1, v2⟩ := hv g
          rw [pk_us, q1, v1, nI_eq (by omega) (by omega)] at h55
          exact (decide_eq_false (fun q => q h55)).symm)
end ARF
