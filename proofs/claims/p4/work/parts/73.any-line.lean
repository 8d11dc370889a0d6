/-! LINES: the first, any; the reference. -/
def endS (T : TP) : St → St
  | .inl x => .inl x
  | .inr s => if tk T s = 3 then .inr (nx T s) else .inl (1, s)
def srt (T : TP) (s : Nat) : Nat := if isW T s 365260 = true then 0 else if isW T s 237308 = true then 1 else if isW T s 129523 = true then 2 else if isW T s 50348 = true then 3 else if isW T s 3436186 = true then 4 else if isW T s 453773 = true then 5 else 6
def fd1 (T : TP) (st : St) : St := wdS T 419 st
def fd2 (T : TP) (K : KD) (st : St) : St := nmS T 0 (kh K 1 - 1) (fd1 T st)
def fdK (T : TP) (K : KD) (st : St) : KD := (fun i => if i = 12 then kh K 12 ||| 2 ^ nmV T (fd1 T st) else kh K i, K.2)
def lw1 (T : TP) (st : St) : St := wdS T 8798 st
def linS (T : TP) (K : KD) (s : Nat) : St := if srt T s = 0 then (if kh K 2 = 12 then .inl (3, s) else rd4 T K (.inr (nx T s))) else if srt T s < 4 then (if kh K 3 = 8 then .inl (3, s) else ln7 T K (srt T s - 1) (.inr (nx T s))) else if srt T s = 4 then fd2 T K (.inr (nx T s)) else if srt T s = 5 then (if kh K 4 = 10 then .inl (3, s) else (wkr T K (.inr (nx T s))).1) else lawS T (lw1 T (.inr s))
def linK (T : TP) (K : KD) (s : Nat) : KD := if srt T s = 0 then rdK T K (.inr (nx T s)) else if srt T s < 4 then lnK T K (srt T s - 1) (.inr (nx T s)) else if srt T s = 4 then fdK T K (.inr (nx T s)) else if srt T s = 5 then wkK T K (.inr (nx T s)) else lawH K (lwq T (lw1 T (.inr s)))
theorem lin_1 {T : TP} {K : KD} {s k : Nat} (h : srt T s = k + 1) (hk : k < 3) : linS T K s = (if kh K 3 = 8 then .inl (3, s) else ln7 T K k (.inr (nx T s))) ∧ linK T K s = lnK T K k (.inr (nx T s)) := by
  have e : srt T s - 1 = k := by omega
  refine ⟨?_, ?_⟩
  · unfold linS
    rw [if_neg (show ¬ srt T s = 0 by omega), if_pos (show srt T s < 4 by omega), e]
  · unfold linK
    rw [if_neg (show ¬ srt T s = 0 by omega), if_pos (show srt T s < 4 by omega), e]
theorem lin_4 {T : TP} {K : KD} {s : Nat} (h : srt T s = 4) : linS T K s = fd2 T K (.inr (nx T s)) ∧ linK T K s = fdK T K (.inr (nx T s)) := by
  refine ⟨?_, ?_⟩
  · unfold linS
    rw [if_neg (show ¬ srt T s = 0 by omega), if_neg (show ¬ srt T s < 4 by omega), if_pos h]
  · unfold linK
    rw [if_neg (show ¬ srt T s = 0 by omega), if_neg (show ¬ srt T s < 4 by omega), if_pos h]
theorem lin_5 {T : TP} {K : KD} {s : Nat} (h : srt T s = 5) : linS T K s = (if kh K 4 = 10 then .inl (3, s) else (wkr T K (.inr (nx T s))).1) ∧ linK T K s = wkK T K (.inr (nx T s)) := by
  refine ⟨?_, ?_⟩
  · unfold linS
    rw [if_neg (show ¬ srt T s = 0 by omega), if_neg (show ¬ srt T s < 4 by omega), if_neg (show ¬ srt T s = 4 by omega), if_pos h]
  · unfold linK
    rw [if_neg (show ¬ srt T s = 0 by omega), if_neg (show ¬ srt T s < 4 by omega), if_neg (show ¬ srt T s = 4 by omega), if_pos h]
theorem lin_6 {T : TP} {K : KD} {s : Nat} (h : srt T s = 6) : linS T K s = lawS T (lw1 T (.inr s)) ∧ linK T K s = lawH K (lwq T (lw1 T (.inr s))) := by
  refine ⟨?_, ?_⟩
  · unfold linS
    rw [if_neg (show ¬ srt T s = 0 by omega), if_neg (show ¬ srt T s < 4 by omega), if_neg (show ¬ srt T s = 4 by omega), if_neg (show ¬ srt T s = 5 by omega)]
  · unfold linK
    rw [if_neg (show ¬ srt T s = 0 by omega), if_neg (show ¬ srt T s < 4 by omega), if_neg (show ¬ srt T s = 4 by omega), if_neg (show ¬ srt T s = 5 by omega)]
/-- the first line is being read -/
def ArH (G6 G7 : Nat → Int32) (σ τ : MS) : Prop := FrK σ τ ∧ (∀ i, i ≠ 6 → i ≠ 7 → τ.2.2.1 i = σ.2.2.1 i) ∧ τ.2.2.2 = σ.2.2.2 ∧ τ.2.2.1 6 = G6 ∧ τ.2.2.1 7 = G7
section LNA
variable {d : Nat} {M : AM} {σ σ' τ τ' : MS} {T : TP} {st : St} {K : KD} {Q : Option Value → AM → Prop} {G6 G7 : Nat → Int32}
theorem ArH.r : ArH (σ.2.2.1 6) (σ.2.2.1 7) σ σ := ⟨FrK.r, fun _ _ _ => rfl, rfl, rfl, rfl⟩
theorem ArH.b (h : ArH G6 G7 σ τ) (f : FrB τ τ') : ArH G6 G7 σ τ' := ⟨h.1.t f.k, fun i h6 h7 => by rw [f.2]; exact h.2.1 i h6 h7, by rw [f.2]; exact h.2.2.1, by rw [f.2]; exact h.2.2.2.1, by rw [f.2]; exact h.2.2.2.2⟩
theorem Wp.h6 {X : MD} {pc len i : Nat} {l : AL} {sk : List Value} {x : Int32} (hc : cdx X pc = some (.inr (.inl .iastore), len)) (hA : ArH G6 G7 σ τ) (hi : 20 ≤ i ∧ i < 25) (kk : ∀ τ', ArH (upd G6 i x) G7 σ τ' → τ'.1 = τ.1 → τ'.2.1 = τ.2.1 → Wp d X (pc + len) l sk (mset M τ') Q) : Wp d X pc l (.int x :: .int (nI i) :: .ref 294 :: sk) (mset M τ) Q := by
  refine Wp.miastN (k := 6) (j := i) hc rfl rfl hi.2 ?_
  refine kk _ ⟨hA.1.t (FrK.a (by unfold dcl; omega)), fun q h6 h7 => ?_, hA.2.2.1, ?_, hA.2.2.2.2⟩ rfl rfl
  · show va_up τ.2.2.1 6 _ q = _
    rw [va_up_ne _ _ h6]; exact hA.2.1 q h6 h7
  · rw [aset_get, hA.2.2.2.1]
theorem Wp.h7 {X : MD} {pc len i : Nat} {l : AL} {sk : List Value} {x : Int32} (hc : cdx X pc = some (.inr (.inl .iastore), len)) (hA : ArH G6 G7 σ τ) (hi : 20 ≤ i ∧ i < 25) (kk : ∀ τ', ArH G6 (upd G7 i x) σ τ' → τ'.1 = τ.1 → τ'.2.1 = τ.2.1 → Wp d X (pc + len) l sk (mset M τ') Q) : Wp d X pc l (.int x :: .int (nI i) :: .ref 295 :: sk) (mset M τ) Q := by
  refine Wp.miastN (k := 7) (j := i) hc rfl rfl hi.2 ?_
  refine kk _ ⟨hA.1.t (FrK.a (by unfold dcl; omega)), fun q h6 h7 => ?_, hA.2.2.1, hA.2.2.2.1, ?_⟩ rfl rfl
  · show va_up τ.2.2.1 7 _ q = _
    rw [va_up_ne _ _ h7]; exact hA.2.1 q h6 h7
  · rw [aset_get, hA.2.2.2.2]
theorem m_first (hT : TM σ T) (hL : LM σ T st) (hB : BM σ K0) : Wp (d + 5) md_166 0 [some (.ref 287)] [] (mset M σ) (RLn M σ T (pf6 T st) (firK T st)) := by
  have A0 : ArH _ _ σ σ := ArH.r
  refine Wp.n (pc' := 4) 2 rfl ?_
  refine Wp.callV (len := 3) rfl rfl rfl (rfl) rfl (by decide) rfl (m_asks (h := 4398346831) hT hL (by decide)) ?_
  rintro _ _ ⟨rfl, τ1, rfl, f1, l1⟩
  have A1 := A0.b f1
  refine Wp.n (pc' := 20) 7 rfl ?_
  refine Wp.callV (len := 3) rfl rfl rfl (rfl) rfl (by decide) rfl (m_numberW (h := 235981828) (lo := 2) (hi := 7) (A1.1.T hT) l1 (by decide) (fun q => ⟨rfl, rfl, by omega, by omega⟩)) ?_
  rintro _ _ ⟨a, rfl, ha, τ2, rfl, f2, l2⟩
  have A2 := A1.b f2
  refine Wp.h6 (i := 20) (len := 1) rfl A2 (by decide) (fun τ3 A3 e3 j3 => ?_)
  have l3 := LM_e e3 j3 l2
  refine Wp.n (pc' := 37) 7 rfl ?_
  refine Wp.callV (len := 3) rfl rfl rfl (rfl) rfl (by decide) rfl (m_numberW (h := 80155) (lo := 1) (hi := 30) (A3.1.T hT) l3 (by decide) (fun q => ⟨rfl, rfl, by omega, by omega⟩)) ?_
  rintro _ _ ⟨b, rfl, hb, τ4, rfl, f4, l4⟩
  have A4 := A3.b f4
  refine Wp.h6 (i := 21) (len := 1) rfl A4 (by decide) (fun τ5 A5 e5 j5 => ?_)
  have l5 := LM_e e5 j5 l4
  refine Wp.n (pc' := 54) 7 rfl ?_
  refine Wp.callV (len := 3) rfl rfl rfl (rfl) rfl (by decide) rfl (m_numberW (h := 355568) (lo := 0) (hi := 99) (A5.1.T hT) l5 (by decide) (fun q => ⟨rfl, rfl, by omega, by omega⟩)) ?_
  rintro _ _ ⟨c, rfl, hc, τ6, rfl, f6, l6⟩
  have A6 := A5.b f6
  refine Wp.h7 (i := 20) (len := 1) rfl A6 (by decide) (fun τ7 A7 e7 j7 => ?_)
  have l7 := LM_e e7 j7 l6
  refine Wp.n (pc' := 71) 7 rfl ?_
  refine Wp.callV (len := 3) rfl rfl rfl (rfl) rfl (by decide) rfl (m_numberW (h := 131360) (lo := 0) (hi := 99) (A7.1.T hT) l7 (by decide) (fun q => ⟨rfl, rfl, by omega, by omega⟩)) ?_
  rintro _ _ ⟨x, rfl, hx, τ8, rfl, f8, l8⟩
  have A8 := A7.b f8
  refine Wp.h7 (i := 21) (len := 1) rfl A8 (by decide) (fun τ9 A9 e9 j9 => ?_)
  have l9 := LM_e e9 j9 l8
  refine Wp.n (pc' := 88) 7 rfl ?_
  refine Wp.callV (len := 3) rfl rfl rfl (rfl) rfl (by decide) rfl (m_numberW (h := 400577) (lo := 0) (hi := 99) (A9.1.T hT) l9 (by decide) (fun q => ⟨rfl, rfl, by omega, by omega⟩)) ?_
  rintro _ _ ⟨y, rfl, hy, τ10, rfl, f10, l10⟩
  have A10 := A9.b f10
  refine Wp.h7 (i := 22) (len := 1) rfl A10 (by decide) (fun τ11 A11 e11 j11 => ?_)
  have l11 := LM_e e11 j11 l10
  refine Wp.retV (len := 1) rfl rfl ?_
  refine ⟨rfl, τ11, rfl, A11.1, l11, fun g6 => ?_⟩
  have g5 : gd (pf5 T st) = true := gd_wd (gd_nm g6)
  have g4 : gd (pf4 T st) = true := gd_wd (gd_nm g5)
  have g3 : gd (pf3 T st) = true := gd_wd (gd_nm g4)
  have g2 : gd (pf2 T st) = true := gd_wd (gd_nm g3)
  obtain rfl := ha g2
  obtain rfl := hb g3
  obtain rfl := hc g4
  obtain rfl := hx g5
  obtain rfl := hy g6
  obtain ⟨⟨h1, h2, h3, h4, h5, h6, h7⟩, hl, h11⟩ := hB
  have hl' : ∀ j, j < 5 → τ11.2.2.1 7 (20 + j) = nI (kh (firK T st) (6 + j)) := fun j hj => by
    rw [A11.2.2.2.2]
    have jj : j = 0 ∨ j = 1 ∨ j = 2 ∨ j = 3 ∨ j = 4 := by omega
    rcases jj with rfl | rfl | rfl | rfl | rfl
    · rfl
    · rfl
    · rfl
    · exact hl 3 (by decide)
    · exact hl 4 (by decide)
  refine ⟨⟨fun j hj => ?_, fun _ => hl', ?_, ?_, fun i hi => ?_, fun i hi => ?_, fun i hi => ?_⟩, hl', rfl⟩
  · rw [A11.2.2.2.1]
    have jj : j = 0 ∨ j = 1 ∨ j = 2 ∨ j = 3 ∨ j = 4 := by omega
    rcases jj with rfl | rfl | rfl | rfl | rfl
    · rfl
    · rfl
    · exact h1 2 (by decide)
    · exact h1 3 (by decide)
    · exact h1 4 (by decide)
  · rw [A11.2.1 5 (by decide) (by decide)]; exact h3
  · rw [A11.2.2.1]; exact h4
  · exact absurd hi (Nat.not_lt_zero _)
  · rcases hi with hi | hi
    · exact absurd hi (Nat.not_lt_zero _)
    · exact absurd hi.2 (by show ¬ (0 : Nat) = 1; decide)
  · exact absurd hi (Nat.not_lt_zero _)
theorem m_ends (hT : TM σ T) {s : Nat} (hL : LM σ T (.inr s)) : Wp (d + 2) md_182 0 [some (.ref 287)] [] (mset M σ) (fun v M' => v = none ∧ RdB M σ T (endS T (.inr s)) M') := by
  obtain ⟨h12, hN⟩ := id hL
  have t4 := tk_le (T := T) (s := s)
  by_cases cc : tk T s = 3
  · have e : endS T (.inr s) = .inr (nx T s) := if_pos cc
    refine Wp.n (pc' := 4) 2 rfl ?_
    refine Wp.top hN.2.1 ?_
    refine Wp.n (pc' := 5) 1 rfl ?_
    refine Wp.nc0 (x := tk T s) (y := 3) (tgt := 13) (len := 3) rfl (by omega) (by omega) (fun h5 => ?_) (fun h5 => ?_)
    · skip
      refine Wp.n (pc' := 17) 2 rfl ?_
      refine Wp.top h12 ?_
      refine Wp.nz1 (x := 0) (tgt := 24) (len := 3) rfl (by omega) (fun h17 => ?_) (fun h17 => ?_)
      · omega
      · skip
        refine Wp.n (pc' := 21) 1 rfl ?_
        refine Wp.callV (len := 3) rfl rfl rfl (rfl) rfl (by decide) rfl (LN_n hT h12 hN) ?_
        rintro _ _ ⟨rfl, τ, rfl, f, hτ⟩
        refine Wp.retV (len := 1) rfl rfl ?_
        rw [e]
        exact ⟨rfl, τ, rfl, f, hτ⟩
    · omega
  · skip
    refine Wp.n (pc' := 4) 2 rfl ?_
    refine Wp.top hN.2.1 ?_
    refine Wp.n (pc' := 5) 1 rfl ?_
    refine Wp.nc0 (x := tk T s) (y := 3) (tgt := 13) (len := 3) rfl (by omega) (by omega) (fun h5 => ?_) (fun h5 => ?_)
    · omega
    · skip
      refine Wp.n (pc' := 10) 2 rfl ?_
      refine Wp.callV (len := 3) rfl rfl rfl (rfl) rfl (by decide) rfl (m_fails hT hL (k := 1) (by decide)) ?_
      rintro _ _ ⟨rfl, τ, rfl, f, hτ⟩
      have e : endS T (.inr s) = .inl (1, s) := if_neg h5
      change LM τ T (.inl (1, s)) at hτ
      refine Wp.n (pc' := 17) 2 rfl ?_
      refine Wp.top hτ.1 ?_
      refine Wp.nz1 (x := 1) (tgt := 24) (len := 3) rfl (by omega) (fun h17 => ?_) (fun h17 => ?_)
      · skip
        refine Wp.retV (len := 1) rfl rfl ?_
        rw [e]
        exact ⟨rfl, τ, rfl, f, hτ⟩
      · omega
theorem BM_fd (hB : BM σ K) {x : Nat} (e : τ.2.2.1 = σ.2.2.1) (e8 : τ.2.2.2 8 4 = lN (kh K 12 ||| x)) : BM τ (fun i => if i = 12 then kh K 12 ||| x else kh K i, K.2) := by
  obtain ⟨⟨h1, h2, h3, h4, h5, h6, h7⟩, hl, h11⟩ := hB
  have hl' : ∀ j, j < 5 → τ.2.2.1 7 (20 + j) = nI (if 6 + j = 12 then kh K 12 ||| x else kh K (6 + j)) := fun j hj => by
    rw [e, if_neg (by omega)]; exact hl j hj
  refine ⟨⟨fun j hj => ?_, fun _ => hl', ?_, e8, ?_, ?_, ?_⟩, hl', h11⟩
  · show _ = nI (if j = 12 then _ else kh K j)
    rw [if_neg (by omega), e]; exact h1 j hj
  · rw [e]; exact h3
  · rw [e]; exact h5
  · rw [e]; exact h6
  · rw [e]; exact h7
theorem FrK.l {x : Int64} : FrK σ (lset σ 8 (vp_updL (σ.2.2.2 8) 4 x)) := ⟨fun _ _ => rfl, fun _ _ => rfl, fun k hk => va_up_ne _ _ hk, fun q hq => ⟨by show va_up σ.2.2.2 8 _ 8 q = _; rw [va_up_self]; exact lu_n (by omega), rfl⟩, fun _ _ => ⟨rfl, rfl⟩, fun _ _ => rfl, fun _ _ => rfl, fun _ _ => rfl⟩
theorem LM_l {k : Nat} {g : Nat → Int64} (h : LM σ T st) : LM (lset σ k g) T st := by
  rcases st with x | s
  · exact h
  · exact h
theorem BM_b (hB : BM σ K) (f : FrB σ τ) : BM τ K := by
  unfold BM RepM at *
  rw [f.2]
  exact hB
theorem RLn_b {v : Option Value} {M' : AM} (f : FrB σ τ) (h : RLn M τ T st K v M') : RLn M σ T st K v M' := by
  obtain ⟨rfl, τ', rfl, h1, h2⟩ := h
  exact ⟨rfl, τ', rfl, f.k.t h1, h2⟩
theorem m_line (hT : TM σ T) {s : Nat} (hL : LM σ T (.inr s)) (hB : BM σ K) (ok : KOK K) (hP : 2 ≤ kh K 0) (hD : 1 ≤ kh K 1) : Wp (d + 6) md_173 0 [some (.ref 287), none, none, none, none] [] (mset M σ) (RLn M σ T (linS T K s) (linK T K s)) := by
  obtain ⟨h12, hN⟩ := id hL
  obtain ⟨b0, b1, b2, b3, b4, b5, b6, b7, b8, b9, b10, b11, b12⟩ := ok_h ok
  by_cases c0 : isW T s 365260 = true
  · have w365260 := c0
    have w237308 := isW_x (b := 237308) c0 (by decide)
    have w129523 := isW_x (b := 129523) c0 (by decide)
    have w50348 := isW_x (b := 50348) c0 (by decide)
    have w453773 := isW_x (b := 453773) c0 (by decide)
    have sr : srt T s = 0 := if_pos c0
    unfold linS linK
    rw [if_pos sr, if_pos sr]
    by_cases cc : kh K 2 = 12
    · rw [if_pos cc]
      refine Wp.n (pc' := 4) 2 rfl ?_
      refine Wp.ecallV (len := 3) rfl rfl rfl (rfl) rfl (by decide) rfl ((by have w := m_is (d := d + 5) (M := M) (h := 237308) hL (by decide); rw [show isS T 237308 (.inr s) = false from w237308] at w; exact w)) ?_
      refine Wp.ifb0 (tgt := 14) (len := 3) rfl (fun h7 => ?_) (fun h7 => ?_)
      · skip
        refine Wp.n (pc' := 18) 2 rfl ?_
        refine Wp.ecallV (len := 3) rfl rfl rfl (rfl) rfl (by decide) rfl ((by have w := m_is (d := d + 5) (M := M) (h := 129523) hL (by decide); rw [show isS T 129523 (.inr s) = false from w129523] at w; exact w)) ?_
        refine Wp.ifb0 (tgt := 28) (len := 3) rfl (fun h21 => ?_) (fun h21 => ?_)
        · skip
          refine Wp.n (pc' := 32) 2 rfl ?_
          refine Wp.ecallV (len := 3) rfl rfl rfl (rfl) rfl (by decide) rfl ((by have w := m_is (d := d + 5) (M := M) (h := 50348) hL (by decide); rw [show isS T 50348 (.inr s) = false from w50348] at w; exact w)) ?_
          refine Wp.ifb0 (tgt := 42) (len := 3) rfl (fun h35 => ?_) (fun h35 => ?_)
          · skip
            refine Wp.n (pc' := 48) 4 rfl ?_
            refine Wp.ecallV (len := 3) rfl rfl rfl (rfl) rfl (by decide) rfl ((by have w := m_is (d := d + 5) (M := M) (h := 365260) hL (by decide); rw [show isS T 365260 (.inr s) = true from w365260] at w; exact w)) ?_
            refine Wp.n (pc' := 56) 3 rfl ?_
            refine Wp.ecallV (len := 3) rfl rfl rfl (rfl) rfl (by decide) rfl ((by have w := m_is (d := d + 5) (M := M) (h := 453773) hL (by decide); rw [show isS T 453773 (.inr s) = false from w453773] at w; exact w)) ?_
            refine Wp.n (pc' := 61) 2 rfl ?_
            refine Wp.ifb0 (tgt := 74) (len := 3) rfl (fun h61 => ?_) (fun h61 => ?_)
            · cases h61
            · skip
              refine Wp.n (pc' := 66) 2 rfl ?_
              refine Wp.ecallV (len := 3) rfl rfl rfl (rfl) rfl (by decide) rfl (m_hasRead (k := 2) (by decide)) ?_
              refine Wp.top (BM_h hB (by decide)) ?_
              refine Wp.n (pc' := 71) 1 rfl ?_
              refine Wp.nc0 (x := kh K 2) (y := 12) (tgt := 103) (len := 3) rfl (by omega) (by omega) (fun h71 => ?_) (fun h71 => ?_)
              · skip
                refine Wp.n (pc' := 105) 2 rfl ?_
                refine Wp.callV (len := 3) rfl rfl rfl (rfl) rfl (by decide) rfl (m_fails hT hL (k := 3) (by decide)) ?_
                rintro _ _ ⟨rfl, τ, rfl, f, hτ⟩
                change LM τ T (.inl (3, s)) at hτ
                refine Wp.n (pc' := 112) 2 rfl ?_
                refine Wp.top hτ.1 ?_
                refine Wp.nz0 (x := 3) (tgt := 116) (len := 3) rfl (by omega) (fun h112 => ?_) (fun h112 => ?_)
                · omega
                · skip
                  refine Wp.retV (len := 1) rfl rfl ?_
                  exact ⟨rfl, τ, rfl, f.k, hτ, fun q => by cases q⟩
              · omega
          · cases h35
        · cases h21
      · cases h7
    · rw [if_neg cc]
      refine Wp.n (pc' := 4) 2 rfl ?_
      refine Wp.ecallV (len := 3) rfl rfl rfl (rfl) rfl (by decide) rfl ((by have w := m_is (d := d + 5) (M := M) (h := 237308) hL (by decide); rw [show isS T 237308 (.inr s) = false from w237308] at w; exact w)) ?_
      refine Wp.ifb0 (tgt := 14) (len := 3) rfl (fun h7 => ?_) (fun h7 => ?_)
      · skip
        refine Wp.n (pc' := 18) 2 rfl ?_
        refine Wp.ecallV (len := 3) rfl rfl rfl (rfl) rfl (by decide) rfl ((by have w := m_is (d := d + 5) (M := M) (h := 129523) hL (by decide); rw [show isS T 129523 (.inr s) = false from w129523] at w; exact w)) ?_
        refine Wp.ifb0 (tgt := 28) (len := 3) rfl (fun h21 => ?_) (fun h21 => ?_)
        · skip
          refine Wp.n (pc' := 32) 2 rfl ?_
          refine Wp.ecallV (len := 3) rfl rfl rfl (rfl) rfl (by decide) rfl ((by have w := m_is (d := d + 5) (M := M) (h := 50348) hL (by decide); rw [show isS T 50348 (.inr s) = false from w50348] at w; exact w)) ?_
          refine Wp.ifb0 (tgt := 42) (len := 3) rfl (fun h35 => ?_) (fun h35 => ?_)
          · skip
            refine Wp.n (pc' := 48) 4 rfl ?_
            refine Wp.ecallV (len := 3) rfl rfl rfl (rfl) rfl (by decide) rfl ((by have w := m_is (d := d + 5) (M := M) (h := 365260) hL (by decide); rw [show isS T 365260 (.inr s) = true from w365260] at w; exact w)) ?_
            refine Wp.n (pc' := 56) 3 rfl ?_
            refine Wp.ecallV (len := 3) rfl rfl rfl (rfl) rfl (by decide) rfl ((by have w := m_is (d := d + 5) (M := M) (h := 453773) hL (by decide); rw [show isS T 453773 (.inr s) = false from w453773] at w; exact w)) ?_
            refine Wp.n (pc' := 61) 2 rfl ?_
            refine Wp.ifb0 (tgt := 74) (len := 3) rfl (fun h61 => ?_) (fun h61 => ?_)
            · cases h61
            · skip
              refine Wp.n (pc' := 66) 2 rfl ?_
              refine Wp.ecallV (len := 3) rfl rfl rfl (rfl) rfl (by decide) rfl (m_hasRead (k := 2) (by decide)) ?_
              refine Wp.top (BM_h hB (by decide)) ?_
              refine Wp.n (pc' := 71) 1 rfl ?_
              refine Wp.nc0 (x := kh K 2) (y := 12) (tgt := 103) (len := 3) rfl (by omega) (by omega) (fun h71 => ?_) (fun h71 => ?_)
              · omega
              · skip
                refine Wp.n (pc' := 76) 2 rfl ?_
                refine Wp.ic0 (tgt := 89) (len := 3) rfl (fun h76 => ?_) (fun h76 => ?_)
                · skip
                  refine Wp.n (pc' := 90) 1 rfl ?_
                  refine Wp.ifb0 (tgt := 108) (len := 3) rfl (fun h90 => ?_) (fun h90 => ?_)
                  · skip
                    refine Wp.n (pc' := 112) 2 rfl ?_
                    refine Wp.top h12 ?_
                    refine Wp.nz0 (x := 0) (tgt := 116) (len := 3) rfl (by omega) (fun h112 => ?_) (fun h112 => ?_)
                    · skip
                      refine Wp.n (pc' := 117) 1 rfl ?_
                      refine Wp.ifb1 (tgt := 129) (len := 3) rfl (fun h117 => ?_) (fun h117 => ?_)
                      · skip
                        refine Wp.n (pc' := 130) 1 rfl ?_
                        refine Wp.callV (len := 3) rfl rfl rfl (rfl) rfl (by decide) rfl (LN_n hT h12 hN) ?_
                        rintro _ _ ⟨rfl, τ, rfl, f, hτ⟩
                        have hT1 := f.T hT
                        have hB1 := BM_b hB f
                        refine Wp.n (pc' := 134) 1 rfl ?_
                        refine Wp.ifb0 (tgt := 144) (len := 3) rfl (fun h134 => ?_) (fun h134 => ?_)
                        · cases h134
                        · skip
                          refine Wp.n (pc' := 138) 1 rfl ?_
                          refine Wp.callV (len := 3) rfl rfl rfl (rfl) rfl (by decide) rfl (m_roadLine (d := d) hT1 hτ hB1 ok hP (by omega)) ?_
                          rintro _ _ h0
                          obtain ⟨rfl, τ2, rfl, h⟩ := RLn_b f h0
                          refine Wp.n (pc' := 231) 1 rfl ?_
                          refine Wp.retV (len := 1) rfl rfl ?_
                          exact ⟨rfl, τ2, rfl, h⟩
                      · cases h117
                    · omega
                  · cases h90
                · exact absurd rfl h76
          · cases h35
        · cases h21
      · cases h7
  · have w365260 : isW T s 365260 = false := by simpa using c0
    by_cases c1 : isW T s 237308 = true
    · have w237308 := c1
      have w129523 := isW_x (b := 129523) c1 (by decide)
      have w50348 := isW_x (b := 50348) c1 (by decide)
      have w453773 := isW_x (b := 453773) c1 (by decide)
      have sr : srt T s = 1 := by unfold srt; rw [if_neg c0, if_pos c1]
      rw [(lin_1 (K := K) sr (by decide)).1, (lin_1 (K := K) sr (by decide)).2]
      by_cases cc : kh K 3 = 8
      · rw [if_pos cc]
        refine Wp.n (pc' := 4) 2 rfl ?_
        refine Wp.ecallV (len := 3) rfl rfl rfl (rfl) rfl (by decide) rfl ((by have w := m_is (d := d + 5) (M := M) (h := 237308) hL (by decide); rw [show isS T 237308 (.inr s) = true from w237308] at w; exact w)) ?_
        refine Wp.ifb0 (tgt := 14) (len := 3) rfl (fun h7 => ?_) (fun h7 => ?_)
        · cases h7
        · skip
          refine Wp.n (pc' := 48) 5 rfl ?_
          refine Wp.ecallV (len := 3) rfl rfl rfl (rfl) rfl (by decide) rfl ((by have w := m_is (d := d + 5) (M := M) (h := 365260) hL (by decide); rw [show isS T 365260 (.inr s) = false from w365260] at w; exact w)) ?_
          refine Wp.n (pc' := 56) 3 rfl ?_
          refine Wp.ecallV (len := 3) rfl rfl rfl (rfl) rfl (by decide) rfl ((by have w := m_is (d := d + 5) (M := M) (h := 453773) hL (by decide); rw [show isS T 453773 (.inr s) = false from w453773] at w; exact w)) ?_
          refine Wp.n (pc' := 61) 2 rfl ?_
          refine Wp.ifb0 (tgt := 74) (len := 3) rfl (fun h61 => ?_) (fun h61 => ?_)
          · skip
            refine Wp.n (pc' := 76) 2 rfl ?_
            refine Wp.ic0 (tgt := 89) (len := 3) rfl (fun h76 => ?_) (fun h76 => ?_)
            · exact absurd h76 (by decide)
            · skip
              refine Wp.n (pc' := 81) 2 rfl ?_
              refine Wp.ecallV (len := 3) rfl rfl rfl (rfl) rfl (by decide) rfl (m_hasRead (k := 3) (by decide)) ?_
              refine Wp.top (BM_h hB (by decide)) ?_
              refine Wp.n (pc' := 86) 1 rfl ?_
              refine Wp.nc0 (x := kh K 3) (y := 8) (tgt := 103) (len := 3) rfl (by omega) (by omega) (fun h86 => ?_) (fun h86 => ?_)
              · skip
                refine Wp.n (pc' := 105) 2 rfl ?_
                refine Wp.callV (len := 3) rfl rfl rfl (rfl) rfl (by decide) rfl (m_fails hT hL (k := 3) (by decide)) ?_
                rintro _ _ ⟨rfl, τ, rfl, f, hτ⟩
                change LM τ T (.inl (3, s)) at hτ
                refine Wp.n (pc' := 112) 2 rfl ?_
                refine Wp.top hτ.1 ?_
                refine Wp.nz0 (x := 3) (tgt := 116) (len := 3) rfl (by omega) (fun h112 => ?_) (fun h112 => ?_)
                · omega
                · skip
                  refine Wp.retV (len := 1) rfl rfl ?_
                  exact ⟨rfl, τ, rfl, f.k, hτ, fun q => by cases q⟩
              · omega
          · cases h61
      · rw [if_neg cc]
        refine Wp.n (pc' := 4) 2 rfl ?_
        refine Wp.ecallV (len := 3) rfl rfl rfl (rfl) rfl (by decide) rfl ((by have w := m_is (d := d + 5) (M := M) (h := 237308) hL (by decide); rw [show isS T 237308 (.inr s) = true from w237308] at w; exact w)) ?_
        refine Wp.ifb0 (tgt := 14) (len := 3) rfl (fun h7 => ?_) (fun h7 => ?_)
        · cases h7
        · skip
          refine Wp.n (pc' := 48) 5 rfl ?_
          refine Wp.ecallV (len := 3) rfl rfl rfl (rfl) rfl (by decide) rfl ((by have w := m_is (d := d + 5) (M := M) (h := 365260) hL (by decide); rw [show isS T 365260 (.inr s) = false from w365260] at w; exact w)) ?_
          refine Wp.n (pc' := 56) 3 rfl ?_
          refine Wp.ecallV (len := 3) rfl rfl rfl (rfl) rfl (by decide) rfl ((by have w := m_is (d := d + 5) (M := M) (h := 453773) hL (by decide); rw [show isS T 453773 (.inr s) = false from w453773] at w; exact w)) ?_
          refine Wp.n (pc' := 61) 2 rfl ?_
          refine Wp.ifb0 (tgt := 74) (len := 3) rfl (fun h61 => ?_) (fun h61 => ?_)
          · skip
            refine Wp.n (pc' := 76) 2 rfl ?_
            refine Wp.ic0 (tgt := 89) (len := 3) rfl (fun h76 => ?_) (fun h76 => ?_)
            · exact absurd h76 (by decide)
            · skip
              refine Wp.n (pc' := 81) 2 rfl ?_
              refine Wp.ecallV (len := 3) rfl rfl rfl (rfl) rfl (by decide) rfl (m_hasRead (k := 3) (by decide)) ?_
              refine Wp.top (BM_h hB (by decide)) ?_
              refine Wp.n (pc' := 86) 1 rfl ?_
              refine Wp.nc0 (x := kh K 3) (y := 8) (tgt := 103) (len := 3) rfl (by omega) (by omega) (fun h86 => ?_) (fun h86 => ?_)
              · omega
              · skip
                refine Wp.n (pc' := 90) 1 rfl ?_
                refine Wp.ifb0 (tgt := 108) (len := 3) rfl (fun h90 => ?_) (fun h90 => ?_)
                · skip
                  refine Wp.n (pc' := 112) 2 rfl ?_
                  refine Wp.top h12 ?_
                  refine Wp.nz0 (x := 0) (tgt := 116) (len := 3) rfl (by omega) (fun h112 => ?_) (fun h112 => ?_)
                  · skip
                    refine Wp.n (pc' := 117) 1 rfl ?_
                    refine Wp.ifb1 (tgt := 129) (len := 3) rfl (fun h117 => ?_) (fun h117 => ?_)
                    · cases h117
                    · skip
                      refine Wp.n (pc' := 122) 2 rfl ?_
                      refine Wp.ic1 (tgt := 129) (len := 3) rfl (fun h122 => ?_) (fun h122 => ?_)
                      · skip
                        refine Wp.n (pc' := 130) 1 rfl ?_
                        refine Wp.callV (len := 3) rfl rfl rfl (rfl) rfl (by decide) rfl (LN_n hT h12 hN) ?_
                        rintro _ _ ⟨rfl, τ, rfl, f, hτ⟩
                        have hT1 := f.T hT
                        have hB1 := BM_b hB f
                        refine Wp.n (pc' := 134) 1 rfl ?_
                        refine Wp.ifb0 (tgt := 144) (len := 3) rfl (fun h134 => ?_) (fun h134 => ?_)
                        · skip
                          refine Wp.n (pc' := 145) 1 rfl ?_
                          refine Wp.ifb0 (tgt := 155) (len := 3) rfl (fun h145 => ?_) (fun h145 => ?_)
                          · skip
                            refine Wp.n (pc' := 157) 2 rfl ?_
                            refine Wp.callV (len := 3) rfl rfl rfl (rfl) rfl (by decide) rfl (m_laneLine (d := d) (so := 0) hT1 hτ hB1 ok hP hD (by omega) (by decide)) ?_
                            rintro _ _ h0
                            obtain ⟨rfl, τ2, rfl, h⟩ := RLn_b f h0
                            refine Wp.n (pc' := 231) 1 rfl ?_
                            refine Wp.retV (len := 1) rfl rfl ?_
                            exact ⟨rfl, τ2, rfl, h⟩
                          · cases h145
                        · cases h134
                      · exact absurd h122 (by decide)
                  · omega
                · cases h90
          · cases h61
    have w237308 : isW T s 237308 = false := by simpa using c1
    by_cases c2 : isW T s 129523 = true
    · have w129523 := c2
      have w237308 := isW_x (b := 237308) c2 (by decide)
      have w50348 := isW_x (b := 50348) c2 (by decide)
      have w453773 := isW_x (b := 453773) c2 (by decide)
      have sr : srt T s = 2 := by unfold srt; rw [if_neg c0, if_neg c1, if_pos c2]
      rw [(lin_1 (K := K) sr (by decide)).1, (lin_1 (K := K) sr (by decide)).2]
      by_cases cc : kh K 3 = 8
      · rw [if_pos cc]
        refine Wp.n (pc' := 4) 2 rfl ?_
        refine Wp.ecallV (len := 3) rfl rfl rfl (rfl) rfl (by decide) rfl ((by have w := m_is (d := d + 5) (M := M) (h := 237308) hL (by decide); rw [show isS T 237308 (.inr s) = false from w237308] at w; exact w)) ?_
        refine Wp.ifb0 (tgt := 14) (len := 3) rfl (fun h7 => ?_) (fun h7 => ?_)
        · skip
          refine Wp.n (pc' := 18) 2 rfl ?_
          refine Wp.ecallV (len := 3) rfl rfl rfl (rfl) rfl (by decide) rfl ((by have w := m_is (d := d + 5) (M := M) (h := 129523) hL (by decide); rw [show isS T 129523 (.inr s) = true from w129523] at w; exact w)) ?_
          refine Wp.ifb0 (tgt := 28) (len := 3) rfl (fun h21 => ?_) (fun h21 => ?_)
          · cases h21
          · skip
            refine Wp.n (pc' := 48) 5 rfl ?_
            refine Wp.ecallV (len := 3) rfl rfl rfl (rfl) rfl (by decide) rfl ((by have w := m_is (d := d + 5) (M := M) (h := 365260) hL (by decide); rw [show isS T 365260 (.inr s) = false from w365260] at w; exact w)) ?_
            refine Wp.n (pc' := 56) 3 rfl ?_
            refine Wp.ecallV (len := 3) rfl rfl rfl (rfl) rfl (by decide) rfl ((by have w := m_is (d := d + 5) (M := M) (h := 453773) hL (by decide); rw [show isS T 453773 (.inr s) = false from w453773] at w; exact w)) ?_
            refine Wp.n (pc' := 61) 2 rfl ?_
            refine Wp.ifb0 (tgt := 74) (len := 3) rfl (fun h61 => ?_) (fun h61 => ?_)
            · skip
              refine Wp.n (pc' := 76) 2 rfl ?_
              refine Wp.ic0 (tgt := 89) (len := 3) rfl (fun h76 => ?_) (fun h76 => ?_)
              · exact absurd h76 (by decide)
              · skip
                refine Wp.n (pc' := 81) 2 rfl ?_
                refine Wp.ecallV (len := 3) rfl rfl rfl (rfl) rfl (by decide) rfl (m_hasRead (k := 3) (by decide)) ?_
                refine Wp.top (BM_h hB (by decide)) ?_
                refine Wp.n (pc' := 86) 1 rfl ?_
                refine Wp.nc0 (x := kh K 3) (y := 8) (tgt := 103) (len := 3) rfl (by omega) (by omega) (fun h86 => ?_) (fun h86 => ?_)
                · skip
                  refine Wp.n (pc' := 105) 2 rfl ?_
                  refine Wp.callV (len := 3) rfl rfl rfl (rfl) rfl (by decide) rfl (m_fails hT hL (k := 3) (by decide)) ?_
                  rintro _ _ ⟨rfl, τ, rfl, f, hτ⟩
                  change LM τ T (.inl (3, s)) at hτ
                  refine Wp.n (pc' := 112) 2 rfl ?_
                  refine Wp.top hτ.1 ?_
                  refine Wp.nz0 (x := 3) (tgt := 116) (len := 3) rfl (by omega) (fun h112 => ?_) (fun h112 => ?_)
                  · omega
                  · skip
                    refine Wp.retV (len := 1) rfl rfl ?_
                    exact ⟨rfl, τ, rfl, f.k, hτ, fun q => by cases q⟩
                · omega
            · cases h61
        · cases h7
      · rw [if_neg cc]
        refine Wp.n (pc' := 4) 2 rfl ?_
        refine Wp.ecallV (len := 3) rfl rfl rfl (rfl) rfl (by decide) rfl ((by have w := m_is (d := d + 5) (M := M) (h := 237308) hL (by decide); rw [show isS T 237308 (.inr s) = false from w237308] at w; exact w)) ?_
        refine Wp.ifb0 (tgt := 14) (len := 3) rfl (fun h7 => ?_) (fun h7 => ?_)
        · skip
          refine Wp.n (pc' := 18) 2 rfl ?_
          refine Wp.ecallV (len := 3) rfl rfl rfl (rfl) rfl (by decide) rfl ((by have w := m_is (d := d + 5) (M := M) (h := 129523) hL (by decide); rw [show isS T 129523 (.inr s) = true from w129523] at w; exact w)) ?_
          refine Wp.ifb0 (tgt := 28) (len := 3) rfl (fun h21 => ?_) (fun h21 => ?_)
          · cases h21
          · skip
            refine Wp.n (pc' := 48) 5 rfl ?_
            refine Wp.ecallV (len := 3) rfl rfl rfl (rfl) rfl (by decide) rfl ((by have w := m_is (d := d + 5) (M := M) (h := 365260) hL (by decide); rw [show isS T 365260 (.inr s) = false from w365260] at w; exact w)) ?_
            refine Wp.n (pc' := 56) 3 rfl ?_
            refine Wp.ecallV (len := 3) rfl rfl rfl (rfl) rfl (by decide) rfl ((by have w := m_is (d := d + 5) (M := M) (h := 453773) hL (by decide); rw [show isS T 453773 (.inr s) = false from w453773] at w; exact w)) ?_
            refine Wp.n (pc' := 61) 2 rfl ?_
            refine Wp.ifb0 (tgt := 74) (len := 3) rfl (fun h61 => ?_) (fun h61 => ?_)
            · skip
              refine Wp.n (pc' := 76) 2 rfl ?_
              refine Wp.ic0 (tgt := 89) (len := 3) rfl (fun h76 => ?_) (fun h76 => ?_)
              · exact absurd h76 (by decide)
              · skip
                refine Wp.n (pc' := 81) 2 rfl ?_
                refine Wp.ecallV (len := 3) rfl rfl rfl (rfl) rfl (by decide) rfl (m_hasRead (k := 3) (by decide)) ?_
                refine Wp.top (BM_h hB (by decide)) ?_
                refine Wp.n (pc' := 86) 1 rfl ?_
                refine Wp.nc0 (x := kh K 3) (y := 8) (tgt := 103) (len := 3) rfl (by omega) (by omega) (fun h86 => ?_) (fun h86 => ?_)
                · omega
                · skip
                  refine Wp.n (pc' := 90) 1 rfl ?_
                  refine Wp.ifb0 (tgt := 108) (len := 3) rfl (fun h90 => ?_) (fun h90 => ?_)
                  · skip
                    refine Wp.n (pc' := 112) 2 rfl ?_
                    refine Wp.top h12 ?_
                    refine Wp.nz0 (x := 0) (tgt := 116) (len := 3) rfl (by omega) (fun h112 => ?_) (fun h112 => ?_)
                    · skip
                      refine Wp.n (pc' := 117) 1 rfl ?_
                      refine Wp.ifb1 (tgt := 129) (len := 3) rfl (fun h117 => ?_) (fun h117 => ?_)
                      · cases h117
                      · skip
                        refine Wp.n (pc' := 122) 2 rfl ?_
                        refine Wp.ic1 (tgt := 129) (len := 3) rfl (fun h122 => ?_) (fun h122 => ?_)
                        · skip
                          refine Wp.n (pc' := 130) 1 rfl ?_
                          refine Wp.callV (len := 3) rfl rfl rfl (rfl) rfl (by decide) rfl (LN_n hT h12 hN) ?_
                          rintro _ _ ⟨rfl, τ, rfl, f, hτ⟩
                          have hT1 := f.T hT
                          have hB1 := BM_b hB f
                          refine Wp.n (pc' := 134) 1 rfl ?_
                          refine Wp.ifb0 (tgt := 144) (len := 3) rfl (fun h134 => ?_) (fun h134 => ?_)
                          · skip
                            refine Wp.n (pc' := 145) 1 rfl ?_
                            refine Wp.ifb0 (tgt := 155) (len := 3) rfl (fun h145 => ?_) (fun h145 => ?_)
                            · skip
                              refine Wp.n (pc' := 157) 2 rfl ?_
                              refine Wp.callV (len := 3) rfl rfl rfl (rfl) rfl (by decide) rfl (m_laneLine (d := d) (so := 1) hT1 hτ hB1 ok hP hD (by omega) (by decide)) ?_
                              rintro _ _ h0
                              obtain ⟨rfl, τ2, rfl, h⟩ := RLn_b f h0
                              refine Wp.n (pc' := 231) 1 rfl ?_
                              refine Wp.retV (len := 1) rfl rfl ?_
                              exact ⟨rfl, τ2, rfl, h⟩
                            · cases h145
                          · cases h134
                        · exact absurd h122 (by decide)
                    · omega
                  · cases h90
            · cases h61
        · cases h7
    have w129523 : isW T s 129523 = false := by simpa using c2
    by_cases c3 : isW T s 50348 = true
    · have w50348 := c3
      have w237308 := isW_x (b := 237308) c3 (by decide)
      have w129523 := isW_x (b := 129523) c3 (by decide)
      have w453773 := isW_x (b := 453773) c3 (by decide)
      have sr : srt T s = 3 := by unfold srt; rw [if_neg c0, if_neg c1, if_neg c2, if_pos c3]
      rw [(lin_1 (K := K) sr (by decide)).1, (lin_1 (K := K) sr (by decide)).2]
      by_cases cc : kh K 3 = 8
      · rw [if_pos cc]
        refine Wp.n (pc' := 4) 2 rfl ?_
        refine Wp.ecallV (len := 3) rfl rfl rfl (rfl) rfl (by decide) rfl ((by have w := m_is (d := d + 5) (M := M) (h := 237308) hL (by decide); rw [show isS T 237308 (.inr s) = false from w237308] at w; exact w)) ?_
        refine Wp.ifb0 (tgt := 14) (len := 3) rfl (fun h7 => ?_) (fun h7 => ?_)
        · skip
          refine Wp.n (pc' := 18) 2 rfl ?_
          refine Wp.ecallV (len := 3) rfl rfl rfl (rfl) rfl (by decide) rfl ((by have w := m_is (d := d + 5) (M := M) (h := 129523) hL (by decide); rw [show isS T 129523 (.inr s) = false from w129523] at w; exact w)) ?_
          refine Wp.ifb0 (tgt := 28) (len := 3) rfl (fun h21 => ?_) (fun h21 => ?_)
          · skip
            refine Wp.n (pc' := 32) 2 rfl ?_
            refine Wp.ecallV (len := 3) rfl rfl rfl (rfl) rfl (by decide) rfl ((by have w := m_is (d := d + 5) (M := M) (h := 50348) hL (by decide); rw [show isS T 50348 (.inr s) = true from w50348] at w; exact w)) ?_
            refine Wp.ifb0 (tgt := 42) (len := 3) rfl (fun h35 => ?_) (fun h35 => ?_)
            · cases h35
            · skip
              refine Wp.n (pc' := 48) 5 rfl ?_
              refine Wp.ecallV (len := 3) rfl rfl rfl (rfl) rfl (by decide) rfl ((by have w := m_is (d := d + 5) (M := M) (h := 365260) hL (by decide); rw [show isS T 365260 (.inr s) = false from w365260] at w; exact w)) ?_
              refine Wp.n (pc' := 56) 3 rfl ?_
              refine Wp.ecallV (len := 3) rfl rfl rfl (rfl) rfl (by decide) rfl ((by have w := m_is (d := d + 5) (M := M) (h := 453773) hL (by decide); rw [show isS T 453773 (.inr s) = false from w453773] at w; exact w)) ?_
              refine Wp.n (pc' := 61) 2 rfl ?_
              refine Wp.ifb0 (tgt := 74) (len := 3) rfl (fun h61 => ?_) (fun h61 => ?_)
              · skip
                refine Wp.n (pc' := 76) 2 rfl ?_
                refine Wp.ic0 (tgt := 89) (len := 3) rfl (fun h76 => ?_) (fun h76 => ?_)
                · exact absurd h76 (by decide)
                · skip
                  refine Wp.n (pc' := 81) 2 rfl ?_
                  refine Wp.ecallV (len := 3) rfl rfl rfl (rfl) rfl (by decide) rfl (m_hasRead (k := 3) (by decide)) ?_
                  refine Wp.top (BM_h hB (by decide)) ?_
                  refine Wp.n (pc' := 86) 1 rfl ?_
                  refine Wp.nc0 (x := kh K 3) (y := 8) (tgt := 103) (len := 3) rfl (by omega) (by omega) (fun h86 => ?_) (fun h86 => ?_)
                  · skip
                    refine Wp.n (pc' := 105) 2 rfl ?_
                    refine Wp.callV (len := 3) rfl rfl rfl (rfl) rfl (by decide) rfl (m_fails hT hL (k := 3) (by decide)) ?_
                    rintro _ _ ⟨rfl, τ, rfl, f, hτ⟩
                    change LM τ T (.inl (3, s)) at hτ
                    refine Wp.n (pc' := 112) 2 rfl ?_
                    refine Wp.top hτ.1 ?_
                    refine Wp.nz0 (x := 3) (tgt := 116) (len := 3) rfl (by omega) (fun h112 => ?_) (fun h112 => ?_)
                    · omega
                    · skip
                      refine Wp.retV (len := 1) rfl rfl ?_
                      exact ⟨rfl, τ, rfl, f.k, hτ, fun q => by cases q⟩
                  · omega
              · cases h61
          · cases h21
        · cases h7
      · rw [if_neg cc]
        refine Wp.n (pc' := 4) 2 rfl ?_
        refine Wp.ecallV (len := 3) rfl rfl rfl (rfl) rfl (by decide) rfl ((by have w := m_is (d := d + 5) (M := M) (h := 237308) hL (by decide); rw [show isS T 237308 (.inr s) = false from w237308] at w; exact w)) ?_
        refine Wp.ifb0 (tgt := 14) (len := 3) rfl (fun h7 => ?_) (fun h7 => ?_)
        · skip
          refine Wp.n (pc' := 18) 2 rfl ?_
          refine Wp.ecallV (len := 3) rfl rfl rfl (rfl) rfl (by decide) rfl ((by have w := m_is (d := d + 5) (M := M) (h := 129523) hL (by decide); rw [show isS T 129523 (.inr s) = false from w129523] at w; exact w)) ?_
          refine Wp.ifb0 (tgt := 28) (len := 3) rfl (fun h21 => ?_) (fun h21 => ?_)
          · skip
            refine Wp.n (pc' := 32) 2 rfl ?_
            refine Wp.ecallV (len := 3) rfl rfl rfl (rfl) rfl (by decide) rfl ((by have w := m_is (d := d + 5) (M := M) (h := 50348) hL (by decide); rw [show isS T 50348 (.inr s) = true from w50348] at w; exact w)) ?_
            refine Wp.ifb0 (tgt := 42) (len := 3) rfl (fun h35 => ?_) (fun h35 => ?_)
            · cases h35
            · skip
              refine Wp.n (pc' := 48) 5 rfl ?_
              refine Wp.ecallV (len := 3) rfl rfl rfl (rfl) rfl (by decide) rfl ((by have w := m_is (d := d + 5) (M := M) (h := 365260) hL (by decide); rw [show isS T 365260 (.inr s) = false from w365260] at w; exact w)) ?_
              refine Wp.n (pc' := 56) 3 rfl ?_
              refine Wp.ecallV (len := 3) rfl rfl rfl (rfl) rfl (by decide) rfl ((by have w := m_is (d := d + 5) (M := M) (h := 453773) hL (by decide); rw [show isS T 453773 (.inr s) = false from w453773] at w; exact w)) ?_
              refine Wp.n (pc' := 61) 2 rfl ?_
              refine Wp.ifb0 (tgt := 74) (len := 3) rfl (fun h61 => ?_) (fun h61 => ?_)
              · skip
                refine Wp.n (pc' := 76) 2 rfl ?_
                refine Wp.ic0 (tgt := 89) (len := 3) rfl (fun h76 => ?_) (fun h76 => ?_)
                · exact absurd h76 (by decide)
                · skip
                  refine Wp.n (pc' := 81) 2 rfl ?_
                  refine Wp.ecallV (len := 3) rfl rfl rfl (rfl) rfl (by decide) rfl (m_hasRead (k := 3) (by decide)) ?_
                  refine Wp.top (BM_h hB (by decide)) ?_
                  refine Wp.n (pc' := 86) 1 rfl ?_
                  refine Wp.nc0 (x := kh K 3) (y := 8) (tgt := 103) (len := 3) rfl (by omega) (by omega) (fun h86 => ?_) (fun h86 => ?_)
                  · omega
                  · skip
                    refine Wp.n (pc' := 90) 1 rfl ?_
                    refine Wp.ifb0 (tgt := 108) (len := 3) rfl (fun h90 => ?_) (fun h90 => ?_)
                    · skip
                      refine Wp.n (pc' := 112) 2 rfl ?_
                      refine Wp.top h12 ?_
                      refine Wp.nz0 (x := 0) (tgt := 116) (len := 3) rfl (by omega) (fun h112 => ?_) (fun h112 => ?_)
                      · skip
                        refine Wp.n (pc' := 117) 1 rfl ?_
                        refine Wp.ifb1 (tgt := 129) (len := 3) rfl (fun h117 => ?_) (fun h117 => ?_)
                        · cases h117
                        · skip
                          refine Wp.n (pc' := 122) 2 rfl ?_
                          refine Wp.ic1 (tgt := 129) (len := 3) rfl (fun h122 => ?_) (fun h122 => ?_)
                          · skip
                            refine Wp.n (pc' := 130) 1 rfl ?_
                            refine Wp.callV (len := 3) rfl rfl rfl (rfl) rfl (by decide) rfl (LN_n hT h12 hN) ?_
                            rintro _ _ ⟨rfl, τ, rfl, f, hτ⟩
                            have hT1 := f.T hT
                            have hB1 := BM_b hB f
                            refine Wp.n (pc' := 134) 1 rfl ?_
                            refine Wp.ifb0 (tgt := 144) (len := 3) rfl (fun h134 => ?_) (fun h134 => ?_)
                            · skip
                              refine Wp.n (pc' := 145) 1 rfl ?_
                              refine Wp.ifb0 (tgt := 155) (len := 3) rfl (fun h145 => ?_) (fun h145 => ?_)
                              · skip
                                refine Wp.n (pc' := 157) 2 rfl ?_
                                refine Wp.callV (len := 3) rfl rfl rfl (rfl) rfl (by decide) rfl (m_laneLine (d := d) (so := 2) hT1 hτ hB1 ok hP hD (by omega) (by decide)) ?_
                                rintro _ _ h0
                                obtain ⟨rfl, τ2, rfl, h⟩ := RLn_b f h0
                                refine Wp.n (pc' := 231) 1 rfl ?_
                                refine Wp.retV (len := 1) rfl rfl ?_
                                exact ⟨rfl, τ2, rfl, h⟩
                              · cases h145
                            · cases h134
                          · exact absurd h122 (by decide)
                      · omega
                    · cases h90
              · cases h61
          · cases h21
        · cases h7
    have w50348 : isW T s 50348 = false := by simpa using c3
    by_cases c5 : isW T s 453773 = true
    · have w453773 := c5
      have w3436186 := isW_x (b := 3436186) c5 (by decide)
      have c4 : ¬ isW T s 3436186 = true := by rw [w3436186]; decide
      have sr : srt T s = 5 := by unfold srt; rw [if_neg c0, if_neg c1, if_neg c2, if_neg c3, if_neg c4, if_pos c5]
      rw [(lin_5 (K := K) sr).1, (lin_5 (K := K) sr).2]
      by_cases cc : kh K 4 = 10
      · rw [if_pos cc]
        refine Wp.n (pc' := 4) 2 rfl ?_
        refine Wp.ecallV (len := 3) rfl rfl rfl (rfl) rfl (by decide) rfl ((by have w := m_is (d := d + 5) (M := M) (h := 237308) hL (by decide); rw [show isS T 237308 (.inr s) = false from w237308] at w; exact w)) ?_
        refine Wp.ifb0 (tgt := 14) (len := 3) rfl (fun h7 => ?_) (fun h7 => ?_)
        · skip
          refine Wp.n (pc' := 18) 2 rfl ?_
          refine Wp.ecallV (len := 3) rfl rfl rfl (rfl) rfl (by decide) rfl ((by have w := m_is (d := d + 5) (M := M) (h := 129523) hL (by decide); rw [show isS T 129523 (.inr s) = false from w129523] at w; exact w)) ?_
          refine Wp.ifb0 (tgt := 28) (len := 3) rfl (fun h21 => ?_) (fun h21 => ?_)
          · skip
            refine Wp.n (pc' := 32) 2 rfl ?_
            refine Wp.ecallV (len := 3) rfl rfl rfl (rfl) rfl (by decide) rfl ((by have w := m_is (d := d + 5) (M := M) (h := 50348) hL (by decide); rw [show isS T 50348 (.inr s) = false from w50348] at w; exact w)) ?_
            refine Wp.ifb0 (tgt := 42) (len := 3) rfl (fun h35 => ?_) (fun h35 => ?_)
            · skip
              refine Wp.n (pc' := 48) 4 rfl ?_
              refine Wp.ecallV (len := 3) rfl rfl rfl (rfl) rfl (by decide) rfl ((by have w := m_is (d := d + 5) (M := M) (h := 365260) hL (by decide); rw [show isS T 365260 (.inr s) = false from w365260] at w; exact w)) ?_
              refine Wp.n (pc' := 56) 3 rfl ?_
              refine Wp.ecallV (len := 3) rfl rfl rfl (rfl) rfl (by decide) rfl ((by have w := m_is (d := d + 5) (M := M) (h := 453773) hL (by decide); rw [show isS T 453773 (.inr s) = true from w453773] at w; exact w)) ?_
              refine Wp.n (pc' := 61) 2 rfl ?_
              refine Wp.ifb0 (tgt := 74) (len := 3) rfl (fun h61 => ?_) (fun h61 => ?_)
              · skip
                refine Wp.n (pc' := 76) 2 rfl ?_
                refine Wp.ic0 (tgt := 89) (len := 3) rfl (fun h76 => ?_) (fun h76 => ?_)
                · skip
                  refine Wp.n (pc' := 90) 1 rfl ?_
                  refine Wp.ifb0 (tgt := 108) (len := 3) rfl (fun h90 => ?_) (fun h90 => ?_)
                  · cases h90
                  · skip
                    refine Wp.n (pc' := 95) 2 rfl ?_
                    refine Wp.ecallV (len := 3) rfl rfl rfl (rfl) rfl (by decide) rfl (m_hasRead (k := 4) (by decide)) ?_
                    refine Wp.top (BM_h hB (by decide)) ?_
                    refine Wp.n (pc' := 100) 1 rfl ?_
                    refine Wp.nc1 (x := kh K 4) (y := 10) (tgt := 108) (len := 3) rfl (by omega) (by omega) (fun h100 => ?_) (fun h100 => ?_)
                    · omega
                    · skip
                      refine Wp.n (pc' := 105) 2 rfl ?_
                      refine Wp.callV (len := 3) rfl rfl rfl (rfl) rfl (by decide) rfl (m_fails hT hL (k := 3) (by decide)) ?_
                      rintro _ _ ⟨rfl, τ, rfl, f, hτ⟩
                      change LM τ T (.inl (3, s)) at hτ
                      refine Wp.n (pc' := 112) 2 rfl ?_
                      refine Wp.top hτ.1 ?_
                      refine Wp.nz0 (x := 3) (tgt := 116) (len := 3) rfl (by omega) (fun h112 => ?_) (fun h112 => ?_)
                      · omega
                      · skip
                        refine Wp.retV (len := 1) rfl rfl ?_
                        exact ⟨rfl, τ, rfl, f.k, hτ, fun q => by cases q⟩
                · exact absurd rfl h76
              · cases h61
            · cases h35
          · cases h21
        · cases h7
      · rw [if_neg cc]
        refine Wp.n (pc' := 4) 2 rfl ?_
        refine Wp.ecallV (len := 3) rfl rfl rfl (rfl) rfl (by decide) rfl ((by have w := m_is (d := d + 5) (M := M) (h := 237308) hL (by decide); rw [show isS T 237308 (.inr s) = false from w237308] at w; exact w)) ?_
        refine Wp.ifb0 (tgt := 14) (len := 3) rfl (fun h7 => ?_) (fun h7 => ?_)
        · skip
          refine Wp.n (pc' := 18) 2 rfl ?_
          refine Wp.ecallV (len := 3) rfl rfl rfl (rfl) rfl (by decide) rfl ((by have w := m_is (d := d + 5) (M := M) (h := 129523) hL (by decide); rw [show isS T 129523 (.inr s) = false from w129523] at w; exact w)) ?_
          refine Wp.ifb0 (tgt := 28) (len := 3) rfl (fun h21 => ?_) (fun h21 => ?_)
          · skip
            refine Wp.n (pc' := 32) 2 rfl ?_
            refine Wp.ecallV (len := 3) rfl rfl rfl (rfl) rfl (by decide) rfl ((by have w := m_is (d := d + 5) (M := M) (h := 50348) hL (by decide); rw [show isS T 50348 (.inr s) = false from w50348] at w; exact w)) ?_
            refine Wp.ifb0 (tgt := 42) (len := 3) rfl (fun h35 => ?_) (fun h35 => ?_)
            · skip
              refine Wp.n (pc' := 48) 4 rfl ?_
              refine Wp.ecallV (len := 3) rfl rfl rfl (rfl) rfl (by decide) rfl ((by have w := m_is (d := d + 5) (M := M) (h := 365260) hL (by decide); rw [show isS T 365260 (.inr s) = false from w365260] at w; exact w)) ?_
              refine Wp.n (pc' := 56) 3 rfl ?_
              refine Wp.ecallV (len := 3) rfl rfl rfl (rfl) rfl (by decide) rfl ((by have w := m_is (d := d + 5) (M := M) (h := 453773) hL (by decide); rw [show isS T 453773 (.inr s) = true from w453773] at w; exact w)) ?_
              refine Wp.n (pc' := 61) 2 rfl ?_
              refine Wp.ifb0 (tgt := 74) (len := 3) rfl (fun h61 => ?_) (fun h61 => ?_)
              · skip
                refine Wp.n (pc' := 76) 2 rfl ?_
                refine Wp.ic0 (tgt := 89) (len := 3) rfl (fun h76 => ?_) (fun h76 => ?_)
                · skip
                  refine Wp.n (pc' := 90) 1 rfl ?_
                  refine Wp.ifb0 (tgt := 108) (len := 3) rfl (fun h90 => ?_) (fun h90 => ?_)
                  · cases h90
                  · skip
                    refine Wp.n (pc' := 95) 2 rfl ?_
                    refine Wp.ecallV (len := 3) rfl rfl rfl (rfl) rfl (by decide) rfl (m_hasRead (k := 4) (by decide)) ?_
                    refine Wp.top (BM_h hB (by decide)) ?_
                    refine Wp.n (pc' := 100) 1 rfl ?_
                    refine Wp.nc1 (x := kh K 4) (y := 10) (tgt := 108) (len := 3) rfl (by omega) (by omega) (fun h100 => ?_) (fun h100 => ?_)
                    · skip
                      refine Wp.n (pc' := 112) 2 rfl ?_
                      refine Wp.top h12 ?_
                      refine Wp.nz0 (x := 0) (tgt := 116) (len := 3) rfl (by omega) (fun h112 => ?_) (fun h112 => ?_)
                      · skip
                        refine Wp.n (pc' := 117) 1 rfl ?_
                        refine Wp.ifb1 (tgt := 129) (len := 3) rfl (fun h117 => ?_) (fun h117 => ?_)
                        · cases h117
                        · skip
                          refine Wp.n (pc' := 122) 2 rfl ?_
                          refine Wp.ic1 (tgt := 129) (len := 3) rfl (fun h122 => ?_) (fun h122 => ?_)
                          · exact absurd rfl h122
                          · skip
                            refine Wp.n (pc' := 126) 1 rfl ?_
                            refine Wp.ifb0 (tgt := 163) (len := 3) rfl (fun h126 => ?_) (fun h126 => ?_)
                            · cases h126
                            · skip
                              refine Wp.n (pc' := 130) 1 rfl ?_
                              refine Wp.callV (len := 3) rfl rfl rfl (rfl) rfl (by decide) rfl (LN_n hT h12 hN) ?_
                              rintro _ _ ⟨rfl, τ, rfl, f, hτ⟩
                              have hT1 := f.T hT
                              have hB1 := BM_b hB f
                              refine Wp.n (pc' := 134) 1 rfl ?_
                              refine Wp.ifb0 (tgt := 144) (len := 3) rfl (fun h134 => ?_) (fun h134 => ?_)
                              · skip
                                refine Wp.n (pc' := 145) 1 rfl ?_
                                refine Wp.ifb0 (tgt := 155) (len := 3) rfl (fun h145 => ?_) (fun h145 => ?_)
                                · cases h145
                                · skip
                                  refine Wp.n (pc' := 149) 1 rfl ?_
                                  refine Wp.callV (len := 3) rfl rfl rfl (rfl) rfl (by decide) rfl (m_walkLine (d := d) hT1 hτ hB1 ok hP hD (by omega)) ?_
                                  rintro _ _ h0
                                  obtain ⟨rfl, τ2, rfl, h⟩ := RLn_b f h0
                                  refine Wp.n (pc' := 231) 1 rfl ?_
                                  refine Wp.retV (len := 1) rfl rfl ?_
                                  exact ⟨rfl, τ2, rfl, h⟩
                              · cases h134
                      · omega
                    · omega
                · exact absurd rfl h76
              · cases h61
            · cases h35
          · cases h21
        · cases h7
    have w453773 : isW T s 453773 = false := by simpa using c5
    by_cases c4 : isW T s 3436186 = true
    · have sr : srt T s = 4 := by unfold srt; rw [if_neg c0, if_neg c1, if_neg c2, if_neg c3, if_pos c4]
      rw [(lin_4 (K := K) sr).1, (lin_4 (K := K) sr).2]
      refine Wp.n (pc' := 4) 2 rfl ?_
      refine Wp.ecallV (len := 3) rfl rfl rfl (rfl) rfl (by decide) rfl ((by have w := m_is (d := d + 5) (M := M) (h := 237308) hL (by decide); rw [show isS T 237308 (.inr s) = false from w237308] at w; exact w)) ?_
      refine Wp.ifb0 (tgt := 14) (len := 3) rfl (fun h7 => ?_) (fun h7 => ?_)
      · skip
        refine Wp.n (pc' := 18) 2 rfl ?_
        refine Wp.ecallV (len := 3) rfl rfl rfl (rfl) rfl (by decide) rfl ((by have w := m_is (d := d + 5) (M := M) (h := 129523) hL (by decide); rw [show isS T 129523 (.inr s) = false from w129523] at w; exact w)) ?_
        refine Wp.ifb0 (tgt := 28) (len := 3) rfl (fun h21 => ?_) (fun h21 => ?_)
        · skip
          refine Wp.n (pc' := 32) 2 rfl ?_
          refine Wp.ecallV (len := 3) rfl rfl rfl (rfl) rfl (by decide) rfl ((by have w := m_is (d := d + 5) (M := M) (h := 50348) hL (by decide); rw [show isS T 50348 (.inr s) = false from w50348] at w; exact w)) ?_
          refine Wp.ifb0 (tgt := 42) (len := 3) rfl (fun h35 => ?_) (fun h35 => ?_)
          · skip
            refine Wp.n (pc' := 48) 4 rfl ?_
            refine Wp.ecallV (len := 3) rfl rfl rfl (rfl) rfl (by decide) rfl ((by have w := m_is (d := d + 5) (M := M) (h := 365260) hL (by decide); rw [show isS T 365260 (.inr s) = false from w365260] at w; exact w)) ?_
            refine Wp.n (pc' := 56) 3 rfl ?_
            refine Wp.ecallV (len := 3) rfl rfl rfl (rfl) rfl (by decide) rfl ((by have w := m_is (d := d + 5) (M := M) (h := 453773) hL (by decide); rw [show isS T 453773 (.inr s) = false from w453773] at w; exact w)) ?_
            refine Wp.n (pc' := 61) 2 rfl ?_
            refine Wp.ifb0 (tgt := 74) (len := 3) rfl (fun h61 => ?_) (fun h61 => ?_)
            · skip
              refine Wp.n (pc' := 76) 2 rfl ?_
              refine Wp.ic0 (tgt := 89) (len := 3) rfl (fun h76 => ?_) (fun h76 => ?_)
              · skip
                refine Wp.n (pc' := 90) 1 rfl ?_
                refine Wp.ifb0 (tgt := 108) (len := 3) rfl (fun h90 => ?_) (fun h90 => ?_)
                · skip
                  refine Wp.n (pc' := 112) 2 rfl ?_
                  refine Wp.top h12 ?_
                  refine Wp.nz0 (x := 0) (tgt := 116) (len := 3) rfl (by omega) (fun h112 => ?_) (fun h112 => ?_)
                  · skip
                    refine Wp.n (pc' := 117) 1 rfl ?_
                    refine Wp.ifb1 (tgt := 129) (len := 3) rfl (fun h117 => ?_) (fun h117 => ?_)
                    · cases h117
                    · skip
                      refine Wp.n (pc' := 122) 2 rfl ?_
                      refine Wp.ic1 (tgt := 129) (len := 3) rfl (fun h122 => ?_) (fun h122 => ?_)
                      · exact absurd rfl h122
                      · skip
                        refine Wp.n (pc' := 126) 1 rfl ?_
                        refine Wp.ifb0 (tgt := 163) (len := 3) rfl (fun h126 => ?_) (fun h126 => ?_)
                        · skip
                          refine Wp.n (pc' := 167) 2 rfl ?_
                          refine Wp.callV (len := 3) rfl rfl rfl (rfl) rfl (by decide) rfl (m_takes (d := d + 3) (h := 3436186) hT hL (by decide)) ?_
                          rintro _ _ ⟨rfl, τ, rfl, f, hτ⟩
                          rw [show isS T 3436186 (.inr s) = true from c4, if_pos rfl] at hτ
                          rw [show isS T 3436186 (.inr s) = true from c4]
                          change LM τ T (.inr (nx T s)) at hτ
                          have hT1 := f.T hT
                          have hB1 := BM_b hB f
                          refine Wp.ifb0 (tgt := 213) (len := 3) rfl (fun h170 => ?_) (fun h170 => ?_)
                          · cases h170
                          · skip
                            refine Wp.n (pc' := 180) 5 rfl ?_
                            refine Wp.ecallV (len := 3) rfl rfl rfl (rfl) rfl (by decide) rfl (m_hasRead (k := 1) (by decide)) ?_
                            refine Wp.top (BM_h hB1 (by decide)) ?_
                            refine Wp.n (pc' := 184) 1 rfl ?_
                            refine Wp.isubN (x := kh K 1) (y := 1) (len := 1) rfl (by omega) ?_
                            refine Wp.callV (len := 3) rfl rfl rfl (rfl) rfl (by decide) rfl (m_numberW (d := d + 1) (h := 419) (lo := 0) (hi := kh K 1 - 1) hT1 hτ (by decide) (fun q => ⟨rfl, rfl, by omega, by omega⟩)) ?_
                            rintro _ _ ⟨x, rfl, hx, τ2, rfl, f2, l2⟩
                            have hB2 := BM_b hB1 f2
                            change LM τ2 T (fd2 T K (.inr (nx T s))) at l2
                            refine Wp.n (pc' := 191) 2 rfl ?_
                            refine Wp.ecallV (len := 3) rfl rfl rfl (rfl) rfl (by decide) rfl (m_isGood l2) ?_
                            refine Wp.ifb0 (tgt := 210) (len := 3) rfl (fun h194 => ?_) (fun h194 => ?_)
                            · skip
                              refine Wp.n (pc' := 231) 1 rfl ?_
                              refine Wp.retV (len := 1) rfl rfl ?_
                              first
                                | (have q0 : gd (fd2 T K (.inr (nx T s))) = false := h194
                                   exact ⟨rfl, τ2, rfl, (f.t f2).k, l2, fun q => by rw [q0] at q; cases q⟩)
                                | skip
                              first
                                | done
                                | (refine ⟨rfl, _, rfl, (f.t f2).k.t FrK.l, LM_l l2, fun _ => BM_fd (x := 2 ^ nmV T (fd1 T (.inr (nx T s)))) hB2 rfl ?_⟩
                                   show vp_updL (τ2.2.2.2 8) 4 (τ2.2.2.2 8 4 ||| _) 4 = _
                                   have hb : nmV T (fd1 T (.inr (nx T s))) < 31 := by omega
                                   change nmV T (wdS T 419 (.inr (nx T s))) < 31 at hb
                                   rw [lu_s, show τ2.2.2.2 8 4 = lN (kh K 12) from hB2.1.2.2.2.1, l_sh1 _ hb, l_or]
                                   rfl)
                            · skip
                              obtain rfl := hx h194
                              have hx7 : 0 ≤ nmV T (fd1 T (.inr (nx T s))) ∧ nmV T (fd1 T (.inr (nx T s))) ≤ kh K 1 - 1 := nm_le h194
                              refine Wp.n (pc' := 203) 4 rfl ?_
                              refine Wp.mlaldN (j := 4) (len := 1) rfl rfl rfl (by omega) ?_
                              refine Wp.n (pc' := 209) 4 rfl ?_
                              refine Wp.mlastN (j := 4) (len := 1) rfl rfl rfl (by omega) ?_
                              refine Wp.n (pc' := 231) 1 rfl ?_
                              refine Wp.retV (len := 1) rfl rfl ?_
                              first
                                | (have q0 : gd (fd2 T K (.inr (nx T s))) = false := h194
                                   exact ⟨rfl, τ2, rfl, (f.t f2).k, l2, fun q => by rw [q0] at q; cases q⟩)
                                | skip
                              first
                                | done
                                | (refine ⟨rfl, _, rfl, (f.t f2).k.t FrK.l, LM_l l2, fun _ => BM_fd (x := 2 ^ nmV T (fd1 T (.inr (nx T s)))) hB2 rfl ?_⟩
                                   show vp_updL (τ2.2.2.2 8) 4 (τ2.2.2.2 8 4 ||| _) 4 = _
                                   have hb : nmV T (fd1 T (.inr (nx T s))) < 31 := by omega
                                   change nmV T (wdS T 419 (.inr (nx T s))) < 31 at hb
                                   rw [lu_s, show τ2.2.2.2 8 4 = lN (kh K 12) from hB2.1.2.2.2.1, l_sh1 _ hb, l_or]
                                   rfl)
                        · cases h126
                  · omega
                · cases h90
              · exact absurd rfl h76
            · cases h61
          · cases h35
        · cases h21
      · cases h7
    have w3436186 : isW T s 3436186 = false := by simpa using c4
    have sr : srt T s = 6 := by unfold srt; rw [if_neg c0, if_neg c1, if_neg c2, if_neg c3, if_neg c4, if_neg c5]
    rw [(lin_6 (K := K) sr).1, (lin_6 (K := K) sr).2]
    refine Wp.n (pc' := 4) 2 rfl ?_
    refine Wp.ecallV (len := 3) rfl rfl rfl (rfl) rfl (by decide) rfl ((by have w := m_is (d := d + 5) (M := M) (h := 237308) hL (by decide); rw [show isS T 237308 (.inr s) = false from w237308] at w; exact w)) ?_
    refine Wp.ifb0 (tgt := 14) (len := 3) rfl (fun h7 => ?_) (fun h7 => ?_)
    · skip
      refine Wp.n (pc' := 18) 2 rfl ?_
      refine Wp.ecallV (len := 3) rfl rfl rfl (rfl) rfl (by decide) rfl ((by have w := m_is (d := d + 5) (M := M) (h := 129523) hL (by decide); rw [show isS T 129523 (.inr s) = false from w129523] at w; exact w)) ?_
      refine Wp.ifb0 (tgt := 28) (len := 3) rfl (fun h21 => ?_) (fun h21 => ?_)
      · skip
        refine Wp.n (pc' := 32) 2 rfl ?_
        refine Wp.ecallV (len := 3) rfl rfl rfl (rfl) rfl (by decide) rfl ((by have w := m_is (d := d + 5) (M := M) (h := 50348) hL (by decide); rw [show isS T 50348 (.inr s) = false from w50348] at w; exact w)) ?_
        refine Wp.ifb0 (tgt := 42) (len := 3) rfl (fun h35 => ?_) (fun h35 => ?_)
        · skip
          refine Wp.n (pc' := 48) 4 rfl ?_
          refine Wp.ecallV (len := 3) rfl rfl rfl (rfl) rfl (by decide) rfl ((by have w := m_is (d := d + 5) (M := M) (h := 365260) hL (by decide); rw [show isS T 365260 (.inr s) = false from w365260] at w; exact w)) ?_
          refine Wp.n (pc' := 56) 3 rfl ?_
          refine Wp.ecallV (len := 3) rfl rfl rfl (rfl) rfl (by decide) rfl ((by have w := m_is (d := d + 5) (M := M) (h := 453773) hL (by decide); rw [show isS T 453773 (.inr s) = false from w453773] at w; exact w)) ?_
          refine Wp.n (pc' := 61) 2 rfl ?_
          refine Wp.ifb0 (tgt := 74) (len := 3) rfl (fun h61 => ?_) (fun h61 => ?_)
          · skip
            refine Wp.n (pc' := 76) 2 rfl ?_
            refine Wp.ic0 (tgt := 89) (len := 3) rfl (fun h76 => ?_) (fun h76 => ?_)
            · skip
              refine Wp.n (pc' := 90) 1 rfl ?_
              refine Wp.ifb0 (tgt := 108) (len := 3) rfl (fun h90 => ?_) (fun h90 => ?_)
              · skip
                refine Wp.n (pc' := 112) 2 rfl ?_
                refine Wp.top h12 ?_
                refine Wp.nz0 (x := 0) (tgt := 116) (len := 3) rfl (by omega) (fun h112 => ?_) (fun h112 => ?_)
                · skip
                  refine Wp.n (pc' := 117) 1 rfl ?_
                  refine Wp.ifb1 (tgt := 129) (len := 3) rfl (fun h117 => ?_) (fun h117 => ?_)
                  · cases h117
                  · skip
                    refine Wp.n (pc' := 122) 2 rfl ?_
                    refine Wp.ic1 (tgt := 129) (len := 3) rfl (fun h122 => ?_) (fun h122 => ?_)
                    · exact absurd rfl h122
                    · skip
                      refine Wp.n (pc' := 126) 1 rfl ?_
                      refine Wp.ifb0 (tgt := 163) (len := 3) rfl (fun h126 => ?_) (fun h126 => ?_)
                      · skip
                        refine Wp.n (pc' := 167) 2 rfl ?_
                        refine Wp.callV (len := 3) rfl rfl rfl (rfl) rfl (by decide) rfl (m_takes (d := d + 3) (h := 3436186) hT hL (by decide)) ?_
                        rintro _ _ ⟨rfl, τ, rfl, f, hτ⟩
                        rw [show isS T 3436186 (.inr s) = false from w3436186, if_neg (by decide)] at hτ
                        rw [show isS T 3436186 (.inr s) = false from w3436186]
                        have hT1 := f.T hT
                        refine Wp.ifb0 (tgt := 213) (len := 3) rfl (fun h170 => ?_) (fun h170 => ?_)
                        · skip
                          refine Wp.n (pc' := 217) 2 rfl ?_
                          refine Wp.callV (len := 3) rfl rfl rfl (rfl) rfl (by decide) rfl (m_asks (d := d + 2) (h := 8798) hT1 hτ (by decide)) ?_
                          rintro _ _ ⟨rfl, τ2, rfl, f2, l2⟩
                          have hT2 := f2.T hT1
                          have hB2 := BM_b hB (f.t f2)
                          change LM τ2 T (lw1 T (.inr s)) at l2
                          refine Wp.n (pc' := 221) 1 rfl ?_
                          refine Wp.ecallV (len := 3) rfl rfl rfl (rfl) rfl (by decide) rfl (m_isGood l2) ?_
                          refine Wp.ifb0 (tgt := 231) (len := 3) rfl (fun h224 => ?_) (fun h224 => ?_)
                          · skip
                            refine Wp.retV (len := 1) rfl rfl ?_
                            first
                              | exact ⟨rfl, τ3, rfl, h⟩
                              | (rcases hq : lw1 T (.inr s) with z | s2
                                 · rw [hq] at l2
                                   exact ⟨rfl, τ2, rfl, (f.t f2).k, l2, fun q => by cases q⟩
                                 · rw [hq] at h224; cases h224)
                          · skip
                            rcases hq : lw1 T (.inr s) with z | s2
                            · rw [hq] at h224; cases h224
                            rw [hq] at l2
                            refine Wp.n (pc' := 228) 1 rfl ?_
                            refine Wp.callV (len := 3) rfl rfl rfl (rfl) rfl (by decide) rfl (m_lawLine (d := d) hT2 l2 hB2) ?_
                            rintro _ _ h0
                            obtain ⟨rfl, τ3, rfl, h⟩ := RLn_b (f.t f2) h0
                            refine Wp.retV (len := 1) rfl rfl ?_
                            first
                              | exact ⟨rfl, τ3, rfl, h⟩
                              | (rcases hq : lw1 T (.inr s) with z | s2
                                 · rw [hq] at l2
                                   exact ⟨rfl, τ2, rfl, (f.t f2).k, l2, fun q => by cases q⟩
                                 · rw [hq] at h224; cases h224)
                        · cases h170
                      · cases h126
                · omega
              · cases h90
            · exact absurd rfl h76
          · cases h61
        · cases h35
      · cases h21
    · cases h7
end LNA
