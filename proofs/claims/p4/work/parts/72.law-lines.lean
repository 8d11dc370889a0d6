/-! LINES: the walk's line, the first line, laws, floods; the reference. -/
section WKL2
variable {d : Nat} {M : AM} {σ σ' τ τ' : MS} {T : TP} {st : St} {K : KD} {Q : Option Value → AM → Prop} {g : Nat → Int32}
theorem m_walkLine (hT : TM σ T) (hL : LM σ T st) (hB : BM σ K) (ok : KOK K) (hP : 2 ≤ kh K 0) (hD : 1 ≤ kh K 1) (hr : kh K 4 < 10) : Wp (d + 5) md_179 0 [some (.ref 287), none, none, none, none, none] [] (mset M σ) (RLn M σ T (wkr T K st).1 (wkK T K st)) := by
  have b0 := (ok_h ok).1
  have b1 := (ok_h ok).2.1
  have A0 : ArF 11 (11 * (40 + kh K 4)) _ σ σ := ArF.r
  refine Wp.n (pc' := 6) 4 rfl ?_
  refine Wp.ecallV (len := 3) rfl rfl rfl (rfl) rfl (by decide) rfl (m_hasRead (k := 4) (by decide)) ?_
  refine Wp.top (BM_h hB (by decide)) ?_
  refine Wp.iaddN (x := 40) (y := kh K 4) (len := 1) rfl ?_
  refine Wp.imulN (x := 11) (y := 40 + (kh K 4)) (len := 1) rfl ?_
  refine Wp.n (pc' := 20) 7 rfl ?_
  refine Wp.callV (len := 3) rfl rfl rfl (rfl) rfl (by decide) rfl (m_number (lo := 0) (hi := 4) hT hL (fun q => ⟨rfl, rfl, by omega, by omega⟩)) ?_
  rintro _ _ ⟨a, rfl, ha, τ1, rfl, f1, l1⟩
  have A1 := A0.b f1
  refine Wp.rst (A := 11) (i := 11 * (40 + kh K 4)) (j := 0) (len := 1) rfl A1 (by omega) rfl rfl (by omega) (by unfold dcl; omega) (fun τ2 A2 e2 j2 => ?_)
  have l2 := LM_e e2 j2 l1
  refine Wp.n (pc' := 30) 4 rfl ?_
  refine Wp.iaddN (x := 11 * (40 + (kh K 4))) (y := 1) (len := 1) rfl ?_
  refine Wp.n (pc' := 38) 4 rfl ?_
  refine Wp.callV (len := 3) rfl rfl rfl (rfl) rfl (by decide) rfl (m_numberW (h := 247162) (lo := 1) (hi := 9) (A2.tm hT) l2 (by decide) (fun q => ⟨rfl, rfl, by omega, by omega⟩)) ?_
  rintro _ _ ⟨b, rfl, hb, τ3, rfl, f3, l3⟩
  have A3 := A2.b f3
  refine Wp.rst (A := 11) (i := 11 * (40 + kh K 4) + 1) (j := 1) (len := 1) rfl A3 (by omega) rfl rfl (by omega) (by unfold dcl; omega) (fun τ4 A4 e4 j4 => ?_)
  have l4 := LM_e e4 j4 l3
  refine Wp.n (pc' := 48) 4 rfl ?_
  refine Wp.iaddN (x := 11 * (40 + (kh K 4))) (y := 2) (len := 1) rfl ?_
  refine Wp.n (pc' := 56) 5 rfl ?_
  refine Wp.ecallV (len := 3) rfl rfl rfl (rfl) rfl (by decide) rfl (m_hasRead (k := 1) (by decide)) ?_
  refine Wp.top (A4.h (j := 1) (by decide) hB (by decide)) ?_
  refine Wp.n (pc' := 60) 1 rfl ?_
  refine Wp.isubN (x := kh K 1) (y := 1) (len := 1) rfl (by omega) ?_
  refine Wp.callV (len := 3) rfl rfl rfl (rfl) rfl (by decide) rfl (m_numberW (h := 419) (lo := 0) (hi := kh K 1 - 1) (A4.tm hT) l4 (by decide) (fun q => ⟨rfl, rfl, by omega, by omega⟩)) ?_
  rintro _ _ ⟨c, rfl, hc, τ5, rfl, f5, l5⟩
  have A5 := A4.b f5
  refine Wp.rst (A := 11) (i := 11 * (40 + kh K 4) + 2) (j := 2) (len := 1) rfl A5 (by omega) rfl rfl (by omega) (by unfold dcl; omega) (fun τ6 A6 e6 j6 => ?_)
  have l6 := LM_e e6 j6 l5
  refine Wp.n (pc' := 71) 4 rfl ?_
  refine Wp.iaddN (x := 11 * (40 + (kh K 4))) (y := 4) (len := 1) rfl ?_
  refine Wp.n (pc' := 79) 5 rfl ?_
  refine Wp.ecallV (len := 3) rfl rfl rfl (rfl) rfl (by decide) rfl (m_hasRead (k := 0) (by decide)) ?_
  refine Wp.top (A6.h (j := 0) (by decide) hB (by decide)) ?_
  refine Wp.n (pc' := 83) 1 rfl ?_
  refine Wp.isubN (x := kh K 0) (y := 1) (len := 1) rfl (by omega) ?_
  refine Wp.callV (len := 3) rfl rfl rfl (rfl) rfl (by decide) rfl (m_numberW (h := 131638) (lo := 0) (hi := kh K 0 - 1) (A6.tm hT) l6 (by decide) (fun q => ⟨rfl, rfl, by omega, by omega⟩)) ?_
  rintro _ _ ⟨x, rfl, hx, τ7, rfl, f7, l7⟩
  have A7 := A6.b f7
  refine Wp.rst (A := 11) (i := 11 * (40 + kh K 4) + 4) (j := 4) (len := 1) rfl A7 (by omega) rfl rfl (by omega) (by unfold dcl; omega) (fun τ8 A8 e8 j8 => ?_)
  have l8 := LM_e e8 j8 l7
  refine Wp.n (pc' := 92) 2 rfl ?_
  refine Wp.callV (len := 3) rfl rfl rfl (rfl) rfl (by decide) rfl (m_asks (h := 79) (A8.tm hT) l8 (by decide)) ?_
  rintro _ _ ⟨rfl, τ9, rfl, f9, l9⟩
  have A9 := A8.b f9
  change LM τ9 T (wk5 T K st) at l9
  refine Wp.n (pc' := 99) 4 rfl ?_
  rcases hq : wk5 T K st with z | s
  · have ew : wkr T K st = (.inl z, fun _ => nmV T (wkc T K st), 1) := by unfold wkr; rw [hq]; rfl
    rw [hq] at l9
    refine Wp.n (pc' := 100) 1 rfl ?_
    refine Wp.ecallV (len := 3) rfl rfl rfl (rfl) rfl (by decide) rfl (m_isGood l9) ?_
    refine Wp.ifb0 (c := false) (tgt := 218) (len := 3) rfl (fun _ => ?_) (fun h => by cases h)
    have w := m_walk_e (d := d) (M := M) (n := 1) (m := some (.int 1)) (x4 := none) (x5 := none) hT hB ok hr (by decide) A9 l9 (G := wkG (nmV T st) (nmV T (wka T st)) (nmV T (wkb T st)) (wkr T K st)) (fun q => by cases q)
    unfold wkK
    rw [show (wkr T K st).1 = .inl z by rw [ew]]
    exact w
  · rw [hq] at l9
    have g5 : gd (wk5 T K st) = true := by rw [hq]; rfl
    have g4 : gd (wk4 T K st) = true := gd_wd g5
    have g3 : gd (wk3 T K st) = true := gd_wd (gd_nm g4)
    have g2 : gd (wk2 T st) = true := gd_wd (gd_nm g3)
    have g1 : gd (wk1 T st) = true := gd_wd (gd_nm g2)
    obtain rfl := ha g1
    obtain rfl := hb g2
    obtain rfl := hc g3
    obtain rfl := hx g4
    have h7 : 0 ≤ nmV T (wkc T K st) ∧ nmV T (wkc T K st) ≤ kh K 0 - 1 := nm_le g4
    have ew : wkr T K st = wlk T (kh K 0) 6 (fun _ => nmV T (wkc T K st)) 1 (.inr s) := by unfold wkr; rw [hq]
    unfold wkK
    rw [ew]
    refine m_walk_l hT hB ok hP hr 6 1 (by decide) (by decide) A9 l9 ⟨rfl, rfl, rfl⟩ (fun j hj => ?_) (fun j hj => by omega)
    obtain rfl : j = 0 := by omega
    rfl
theorem isW_x {s a b : Nat} (h : isW T s a = true) (hab : a ≠ b) : isW T s b = false := by
  have h1 := of_decide_eq_true h
  exact decide_eq_false (fun q => hab (h1.2.2.symm.trans q.2.2))
/-- which law is told -/
def lwk (T : TP) (s : Nat) : Nat := if isW T s 284068024 = true then 0 else if isW T s 131360 = true then 1 else if isW T s 247162 = true then 2 else if isW T s 6559778 = true then 3 else 4
def lawS (T : TP) : St → St
  | .inl x => .inl x
  | .inr s => if lwk T s < 4 then .inr (nx T s) else .inl (1, s)
def lwm (k : Nat) : Nat := if k < 2 then 3 else 4
def lwv (k : Nat) : Nat := if k = 0 ∨ k = 2 then 1 else 0
def lawH (K : KD) (k : Nat) : KD := (fun i => if i = 6 + lwm k then lwv k else kh K i, K.2)
def lwq (T : TP) : St → Nat
  | .inl _ => 0
  | .inr s => lwk T s
theorem BM_lw (hB : BM σ K) {k : Nat} (e : ∀ i, i ≠ 7 → τ.2.2.1 i = σ.2.2.1 i) (el : τ.2.2.2 = σ.2.2.2) (e7 : τ.2.2.1 7 = upd (σ.2.2.1 7) (20 + lwm k) (nI (lwv k))) : BM τ (lawH K k) := by
  obtain ⟨⟨h1, h2, h3, h4, h5, h6, h7⟩, hl, h11⟩ := hB
  have hm : lwm k = 3 ∨ lwm k = 4 := by unfold lwm; split <;> simp
  have ek : ∀ j, j ≠ 6 + lwm k → kh (lawH K k) j = kh K j := fun j hj => if_neg hj
  have en : kh (lawH K k) (6 + lwm k) = lwv k := if_pos rfl
  have hl' : ∀ j, j < 5 → τ.2.2.1 7 (20 + j) = nI (kh (lawH K k) (6 + j)) := fun j hj => by
    rw [e7]
    by_cases q : j = lwm k
    · rw [q, pk_us, en]
    · rw [pk_un (by omega), ek (6 + j) (by omega)]; exact hl j hj
  refine ⟨⟨fun j hj => ?_, fun _ => hl', ?_, ?_, ?_, ?_, ?_⟩, hl', (ek 11 (by omega)).trans h11⟩
  · rw [e 6 (by decide), ek j (by omega)]; exact h1 j hj
  · rw [e 5 (by decide), ek 5 (by omega)]; exact h3
  · rw [el, ek 12 (by omega)]; exact h4
  · rw [e 9 (by decide), ek 2 (by omega)]; exact h5
  · rw [e 10 (by decide), ek 3 (by omega), ek 11 (by omega)]; exact h6
  · rw [e 11 (by decide), ek 4 (by omega)]; exact h7
theorem m_law_2 (hT : TM σ T) {s k : Nat} (hL : LM σ T (.inr s)) (hB : BM σ K) (hk : k < 4) (ek : lwk T s = k) : Wp (d + 5) md_181 57 [some (.ref 287), none] [.int (nI k)] (mset M σ) (RLn M σ T (lawS T (.inr s)) (lawH K (lwk T s))) := by
  obtain ⟨h12, hN⟩ := id hL
  have es : lawS T (.inr s) = .inr (nx T s) := if_pos (by omega)
  rw [es, ek]
  refine Wp.n (pc' := 60) 3 rfl ?_
  refine Wp.ic1 (tgt := 68) (len := 3) rfl (fun h60 => ?_) (fun h60 => ?_)
  · skip
    refine Wp.n (pc' := 72) 2 rfl ?_
    refine Wp.top h12 ?_
    refine Wp.nz0 (x := 0) (tgt := 76) (len := 3) rfl (by omega) (fun h72 => ?_) (fun h72 => ?_)
    · skip
      refine Wp.n (pc' := 77) 1 rfl ?_
      refine Wp.callV (len := 3) rfl rfl rfl (rfl) rfl (by decide) rfl (LN_n hT h12 hN) ?_
      rintro _ _ ⟨rfl, τ, rfl, f, hτ⟩
      refine Wp.n (pc' := 88) 5 rfl ?_
      refine Wp.nc3 (x := k) (y := 2) (tgt := 95) (len := 3) rfl (by omega) (by omega) (fun h88 => ?_) (fun h88 => ?_)
      · skip
        refine Wp.n (pc' := 96) 1 rfl ?_
        refine Wp.iaddN (x := 20) (y := 4) (len := 1) rfl ?_
        refine Wp.n (pc' := 98) 1 rfl ?_
        refine Wp.nz0 (x := k) (tgt := 106) (len := 3) rfl (by omega) (fun h98 => ?_) (fun h98 => ?_)
        · skip
          refine Wp.n (pc' := 111) 2 rfl ?_
          refine Wp.miastN (j := 20 + 4) (len := 1) rfl rfl rfl (by omega) ?_
          refine Wp.retV (len := 1) rfl rfl ?_
          first
            | (exfalso; omega)
            | (refine ⟨rfl, _, rfl, f.k.t (FrK.a (by unfold dcl; omega)), LM_a (st := .inr (nx T s)) hτ, fun _ => BM_lw hB (fun i hi => ?_) ?_ ?_⟩
               · show va_up τ.2.2.1 7 _ i = _
                 rw [va_up_ne _ _ hi, f.2]
               · show τ.2.2.2 = _
                 rw [f.2]
               · show upd (τ.2.2.1 7) _ _ = _
                 rw [f.2]
                 unfold lwm lwv
                 first
                   | rw [if_pos (show k < 2 by omega), if_pos (show k = 0 ∨ k = 2 by omega)]
                   | rw [if_pos (show k < 2 by omega), if_neg (show ¬ (k = 0 ∨ k = 2) by omega)]
                   | rw [if_neg (show ¬ k < 2 by omega), if_pos (show k = 0 ∨ k = 2 by omega)]
                   | rw [if_neg (show ¬ k < 2 by omega), if_neg (show ¬ (k = 0 ∨ k = 2) by omega)]
                   | omega
                 first | rfl | skip)
        · skip
          refine Wp.n (pc' := 103) 2 rfl ?_
          refine Wp.nc1 (x := k) (y := 2) (tgt := 110) (len := 3) rfl (by omega) (by omega) (fun h103 => ?_) (fun h103 => ?_)
          · skip
            refine Wp.n (pc' := 111) 1 rfl ?_
            refine Wp.miastN (j := 20 + 4) (len := 1) rfl rfl rfl (by omega) ?_
            refine Wp.retV (len := 1) rfl rfl ?_
            first
              | (exfalso; omega)
              | (refine ⟨rfl, _, rfl, f.k.t (FrK.a (by unfold dcl; omega)), LM_a (st := .inr (nx T s)) hτ, fun _ => BM_lw hB (fun i hi => ?_) ?_ ?_⟩
                 · show va_up τ.2.2.1 7 _ i = _
                   rw [va_up_ne _ _ hi, f.2]
                 · show τ.2.2.2 = _
                   rw [f.2]
                 · show upd (τ.2.2.1 7) _ _ = _
                   rw [f.2]
                   unfold lwm lwv
                   first
                     | rw [if_pos (show k < 2 by omega), if_pos (show k = 0 ∨ k = 2 by omega)]
                     | rw [if_pos (show k < 2 by omega), if_neg (show ¬ (k = 0 ∨ k = 2) by omega)]
                     | rw [if_neg (show ¬ k < 2 by omega), if_pos (show k = 0 ∨ k = 2 by omega)]
                     | rw [if_neg (show ¬ k < 2 by omega), if_neg (show ¬ (k = 0 ∨ k = 2) by omega)]
                     | omega
                   first | rfl | skip)
          · skip
            refine Wp.n (pc' := 111) 2 rfl ?_
            refine Wp.miastN (j := 20 + 4) (len := 1) rfl rfl rfl (by omega) ?_
            refine Wp.retV (len := 1) rfl rfl ?_
            first
              | (exfalso; omega)
              | (refine ⟨rfl, _, rfl, f.k.t (FrK.a (by unfold dcl; omega)), LM_a (st := .inr (nx T s)) hτ, fun _ => BM_lw hB (fun i hi => ?_) ?_ ?_⟩
                 · show va_up τ.2.2.1 7 _ i = _
                   rw [va_up_ne _ _ hi, f.2]
                 · show τ.2.2.2 = _
                   rw [f.2]
                 · show upd (τ.2.2.1 7) _ _ = _
                   rw [f.2]
                   unfold lwm lwv
                   first
                     | rw [if_pos (show k < 2 by omega), if_pos (show k = 0 ∨ k = 2 by omega)]
                     | rw [if_pos (show k < 2 by omega), if_neg (show ¬ (k = 0 ∨ k = 2) by omega)]
                     | rw [if_neg (show ¬ k < 2 by omega), if_pos (show k = 0 ∨ k = 2 by omega)]
                     | rw [if_neg (show ¬ k < 2 by omega), if_neg (show ¬ (k = 0 ∨ k = 2) by omega)]
                     | omega
                   first | rfl | skip)
      · skip
        refine Wp.n (pc' := 96) 2 rfl ?_
        refine Wp.iaddN (x := 20) (y := 3) (len := 1) rfl ?_
        refine Wp.n (pc' := 98) 1 rfl ?_
        refine Wp.nz0 (x := k) (tgt := 106) (len := 3) rfl (by omega) (fun h98 => ?_) (fun h98 => ?_)
        · skip
          refine Wp.n (pc' := 111) 2 rfl ?_
          refine Wp.miastN (j := 20 + 3) (len := 1) rfl rfl rfl (by omega) ?_
          refine Wp.retV (len := 1) rfl rfl ?_
          first
            | (exfalso; omega)
            | (refine ⟨rfl, _, rfl, f.k.t (FrK.a (by unfold dcl; omega)), LM_a (st := .inr (nx T s)) hτ, fun _ => BM_lw hB (fun i hi => ?_) ?_ ?_⟩
               · show va_up τ.2.2.1 7 _ i = _
                 rw [va_up_ne _ _ hi, f.2]
               · show τ.2.2.2 = _
                 rw [f.2]
               · show upd (τ.2.2.1 7) _ _ = _
                 rw [f.2]
                 unfold lwm lwv
                 first
                   | rw [if_pos (show k < 2 by omega), if_pos (show k = 0 ∨ k = 2 by omega)]
                   | rw [if_pos (show k < 2 by omega), if_neg (show ¬ (k = 0 ∨ k = 2) by omega)]
                   | rw [if_neg (show ¬ k < 2 by omega), if_pos (show k = 0 ∨ k = 2 by omega)]
                   | rw [if_neg (show ¬ k < 2 by omega), if_neg (show ¬ (k = 0 ∨ k = 2) by omega)]
                   | omega
                 first | rfl | skip)
        · skip
          refine Wp.n (pc' := 103) 2 rfl ?_
          refine Wp.nc1 (x := k) (y := 2) (tgt := 110) (len := 3) rfl (by omega) (by omega) (fun h103 => ?_) (fun h103 => ?_)
          · skip
            refine Wp.n (pc' := 111) 1 rfl ?_
            refine Wp.miastN (j := 20 + 3) (len := 1) rfl rfl rfl (by omega) ?_
            refine Wp.retV (len := 1) rfl rfl ?_
            first
              | (exfalso; omega)
              | (refine ⟨rfl, _, rfl, f.k.t (FrK.a (by unfold dcl; omega)), LM_a (st := .inr (nx T s)) hτ, fun _ => BM_lw hB (fun i hi => ?_) ?_ ?_⟩
                 · show va_up τ.2.2.1 7 _ i = _
                   rw [va_up_ne _ _ hi, f.2]
                 · show τ.2.2.2 = _
                   rw [f.2]
                 · show upd (τ.2.2.1 7) _ _ = _
                   rw [f.2]
                   unfold lwm lwv
                   first
                     | rw [if_pos (show k < 2 by omega), if_pos (show k = 0 ∨ k = 2 by omega)]
                     | rw [if_pos (show k < 2 by omega), if_neg (show ¬ (k = 0 ∨ k = 2) by omega)]
                     | rw [if_neg (show ¬ k < 2 by omega), if_pos (show k = 0 ∨ k = 2 by omega)]
                     | rw [if_neg (show ¬ k < 2 by omega), if_neg (show ¬ (k = 0 ∨ k = 2) by omega)]
                     | omega
                   first | rfl | skip)
          · skip
            refine Wp.n (pc' := 111) 2 rfl ?_
            refine Wp.miastN (j := 20 + 3) (len := 1) rfl rfl rfl (by omega) ?_
            refine Wp.retV (len := 1) rfl rfl ?_
            first
              | (exfalso; omega)
              | (refine ⟨rfl, _, rfl, f.k.t (FrK.a (by unfold dcl; omega)), LM_a (st := .inr (nx T s)) hτ, fun _ => BM_lw hB (fun i hi => ?_) ?_ ?_⟩
                 · show va_up τ.2.2.1 7 _ i = _
                   rw [va_up_ne _ _ hi, f.2]
                 · show τ.2.2.2 = _
                   rw [f.2]
                 · show upd (τ.2.2.1 7) _ _ = _
                   rw [f.2]
                   unfold lwm lwv
                   first
                     | rw [if_pos (show k < 2 by omega), if_pos (show k = 0 ∨ k = 2 by omega)]
                     | rw [if_pos (show k < 2 by omega), if_neg (show ¬ (k = 0 ∨ k = 2) by omega)]
                     | rw [if_neg (show ¬ k < 2 by omega), if_pos (show k = 0 ∨ k = 2 by omega)]
                     | rw [if_neg (show ¬ k < 2 by omega), if_neg (show ¬ (k = 0 ∨ k = 2) by omega)]
                     | omega
                   first | rfl | skip)
    · omega
  · exact absurd h60 (oI_ne (by omega))
theorem m_law_3 (hT : TM σ T) {s : Nat} (hL : LM σ T (.inr s)) (ek : lwk T s = 4) : Wp (d + 5) md_181 57 [some (.ref 287), none] [.int (-1)] (mset M σ) (RLn M σ T (lawS T (.inr s)) (lawH K (lwk T s))) := by
  have es : lawS T (.inr s) = .inl (1, s) := if_neg (by omega)
  rw [es]
  refine Wp.n (pc' := 60) 3 rfl ?_
  refine Wp.ic1 (tgt := 68) (len := 3) rfl (fun h60 => ?_) (fun h60 => ?_)
  · exact absurd rfl h60
  · skip
    refine Wp.n (pc' := 65) 2 rfl ?_
    refine Wp.callV (len := 3) rfl rfl rfl (rfl) rfl (by decide) rfl (m_fails hT hL (k := 1) (by decide)) ?_
    rintro _ _ ⟨rfl, τ, rfl, f, hτ⟩
    change LM τ T (.inl (1, s)) at hτ
    refine Wp.n (pc' := 72) 2 rfl ?_
    refine Wp.top hτ.1 ?_
    refine Wp.nz0 (x := 1) (tgt := 76) (len := 3) rfl (by omega) (fun h72 => ?_) (fun h72 => ?_)
    · omega
    · skip
      refine Wp.retV (len := 1) rfl rfl ?_
      exact ⟨rfl, τ, rfl, f.k, hτ, fun q => by cases q⟩
theorem m_lawLine (hT : TM σ T) {s : Nat} (hL : LM σ T (.inr s)) (hB : BM σ K) : Wp (d + 5) md_181 0 [some (.ref 287), none] [] (mset M σ) (RLn M σ T (lawS T (.inr s)) (lawH K (lwk T s))) := by
  refine Wp.n (pc' := 4) 2 rfl ?_
  refine Wp.ecallV (len := 3) rfl rfl rfl (rfl) rfl (by decide) rfl (m_is (h := 284068024) hL (by decide)) ?_
  refine Wp.ifb0 (tgt := 14) (len := 3) rfl (fun h7 => ?_) (fun h7 => ?_)
  · have n7 : ¬ isW T s 284068024 = true := fun q => by rw [show isW T s 284068024 = false from h7] at q; cases q
    refine Wp.n (pc' := 18) 2 rfl ?_
    refine Wp.ecallV (len := 3) rfl rfl rfl (rfl) rfl (by decide) rfl (m_is (h := 131360) hL (by decide)) ?_
    refine Wp.ifb0 (tgt := 28) (len := 3) rfl (fun h21 => ?_) (fun h21 => ?_)
    · have n21 : ¬ isW T s 131360 = true := fun q => by rw [show isW T s 131360 = false from h21] at q; cases q
      refine Wp.n (pc' := 32) 2 rfl ?_
      refine Wp.ecallV (len := 3) rfl rfl rfl (rfl) rfl (by decide) rfl (m_is (h := 247162) hL (by decide)) ?_
      refine Wp.ifb0 (tgt := 42) (len := 3) rfl (fun h35 => ?_) (fun h35 => ?_)
      · have n35 : ¬ isW T s 247162 = true := fun q => by rw [show isW T s 247162 = false from h35] at q; cases q
        refine Wp.n (pc' := 46) 2 rfl ?_
        refine Wp.ecallV (len := 3) rfl rfl rfl (rfl) rfl (by decide) rfl (m_is (h := 6559778) hL (by decide)) ?_
        refine Wp.ifb0 (tgt := 56) (len := 3) rfl (fun h49 => ?_) (fun h49 => ?_)
        · have n49 : ¬ isW T s 6559778 = true := fun q => by rw [show isW T s 6559778 = false from h49] at q; cases q
          refine Wp.n (pc' := 57) 1 rfl ?_
          first
            | exact m_law_3 hT hL (by unfold lwk; rw [if_neg n7, if_neg n21, if_neg n35, if_neg n49])
            | exact m_law_2 (k := 3) hT hL hB (by decide) (by unfold lwk; rw [if_neg n7, if_neg n21, if_neg n35, if_pos p49])
            | exact m_law_2 (k := 2) hT hL hB (by decide) (by unfold lwk; rw [if_neg n7, if_neg n21, if_pos p35])
            | exact m_law_2 (k := 1) hT hL hB (by decide) (by unfold lwk; rw [if_neg n7, if_pos p21])
            | exact m_law_2 (k := 0) hT hL hB (by decide) (by unfold lwk; rw [if_pos p7])
        · have p49 : isW T s 6559778 = true := h49
          refine Wp.n (pc' := 57) 2 rfl ?_
          first
            | exact m_law_3 hT hL (by unfold lwk; rw [if_neg n7, if_neg n21, if_neg n35, if_neg n49])
            | exact m_law_2 (k := 3) hT hL hB (by decide) (by unfold lwk; rw [if_neg n7, if_neg n21, if_neg n35, if_pos p49])
            | exact m_law_2 (k := 2) hT hL hB (by decide) (by unfold lwk; rw [if_neg n7, if_neg n21, if_pos p35])
            | exact m_law_2 (k := 1) hT hL hB (by decide) (by unfold lwk; rw [if_neg n7, if_pos p21])
            | exact m_law_2 (k := 0) hT hL hB (by decide) (by unfold lwk; rw [if_pos p7])
      · have p35 : isW T s 247162 = true := h35
        refine Wp.n (pc' := 57) 2 rfl ?_
        first
          | exact m_law_3 hT hL (by unfold lwk; rw [if_neg n7, if_neg n21, if_neg n35, if_neg n49])
          | exact m_law_2 (k := 3) hT hL hB (by decide) (by unfold lwk; rw [if_neg n7, if_neg n21, if_neg n35, if_pos p49])
          | exact m_law_2 (k := 2) hT hL hB (by decide) (by unfold lwk; rw [if_neg n7, if_neg n21, if_pos p35])
          | exact m_law_2 (k := 1) hT hL hB (by decide) (by unfold lwk; rw [if_neg n7, if_pos p21])
          | exact m_law_2 (k := 0) hT hL hB (by decide) (by unfold lwk; rw [if_pos p7])
    · have p21 : isW T s 131360 = true := h21
      refine Wp.n (pc' := 57) 2 rfl ?_
      first
        | exact m_law_3 hT hL (by unfold lwk; rw [if_neg n7, if_neg n21, if_neg n35, if_neg n49])
        | exact m_law_2 (k := 3) hT hL hB (by decide) (by unfold lwk; rw [if_neg n7, if_neg n21, if_neg n35, if_pos p49])
        | exact m_law_2 (k := 2) hT hL hB (by decide) (by unfold lwk; rw [if_neg n7, if_neg n21, if_pos p35])
        | exact m_law_2 (k := 1) hT hL hB (by decide) (by unfold lwk; rw [if_neg n7, if_pos p21])
        | exact m_law_2 (k := 0) hT hL hB (by decide) (by unfold lwk; rw [if_pos p7])
  · have p7 : isW T s 284068024 = true := h7
    refine Wp.n (pc' := 57) 2 rfl ?_
    first
      | exact m_law_3 hT hL (by unfold lwk; rw [if_neg n7, if_neg n21, if_neg n35, if_neg n49])
      | exact m_law_2 (k := 3) hT hL hB (by decide) (by unfold lwk; rw [if_neg n7, if_neg n21, if_neg n35, if_pos p49])
      | exact m_law_2 (k := 2) hT hL hB (by decide) (by unfold lwk; rw [if_neg n7, if_neg n21, if_pos p35])
      | exact m_law_2 (k := 1) hT hL hB (by decide) (by unfold lwk; rw [if_neg n7, if_pos p21])
      | exact m_law_2 (k := 0) hT hL hB (by decide) (by unfold lwk; rw [if_pos p7])
end WKL2
