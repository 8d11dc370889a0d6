/-! THE TEXT READ: the reference. -/
def flt : St → Nat × Option Nat
  | .inl x => (x.1, some x.2)
  | .inr _ => (0, none)
def kinR (T : TP) : St × KD := prsT T 2001 (.inr (bl T 0)) K0
def kinA (T : TP) : Int32 := if gd (kinR T).1 = true then nI (kh (kinR T).2 5) else -4
def kinN (T : TP) (K : KD) : KD := if gd (kinR T).1 = true then (kinR T).2 else K
def FrKin (σ σ' : MS) : Prop := (∀ j, List.elem j [6, 7, 8, 9, 10, 12, 13, 14, 15] = false → σ'.1 j = σ.1 j) ∧ (∀ k, List.elem k [5, 6, 7, 9, 10, 11] = false → σ'.2.2.1 k = σ.2.2.1 k) ∧ (∀ k, k ≠ 8 → σ'.2.2.2 k = σ.2.2.2 k) ∧ ∀ s K, 1 ≤ s → s < 4 → KOK K → RepM σ s K → RepM σ' s K
section KIN
variable {d : Nat} {M : AM} {σ σ' τ τ' : MS} {T : TP} {st : St} {K : KD} {Q : Option Value → AM → Prop}
theorem m_clears_l : ∀ (n i : Nat) {τ : MS}, i + n = 5 → FrK σ τ → τ.2.2.1 5 4 = nI 0 → (∀ j, j < i → τ.2.2.1 6 (20 + j) = nI 0 ∧ τ.2.2.1 7 (20 + j) = nI (if j = 3 then 1 else 0)) → Wp d md_161 9 [some (.ref 287), some (.int (nI i))] [] (mset M τ) (fun v M' => v = none ∧ ∃ σ', M' = mset M σ' ∧ FrK σ σ' ∧ BM σ' K0)
  | 0, i, τ, hn, f, h5, h => by
    refine Wp.n (pc' := 11) 2 rfl ?_
    refine Wp.nc3 (x := i) (y := 5) (tgt := 49) (len := 3) rfl (by omega) (by omega) (fun h11 => ?_) (fun h11 => ?_)
    · skip
      refine Wp.n (pc' := 55) 4 rfl ?_
      refine Wp.mlastN (j := 4) (len := 1) rfl rfl rfl (by omega) ?_
      refine Wp.retV (len := 1) rfl rfl ?_
      have hl : ∀ j, j < 5 → τ.2.2.1 7 (20 + j) = nI (kh K0 (6 + j)) := fun j hj => by
        rw [(h j (by omega)).2]
        show _ = nI (if 6 + j = 9 then 1 else 0)
        by_cases c : j = 3
        · rw [if_pos c, if_pos (by omega)]
        · rw [if_neg c, if_neg (by omega)]
      refine ⟨rfl, _, rfl, f.t FrK.l, ⟨fun j hj => ?_, fun h0 => absurd h0 (by decide), h5, ?_, fun i hi => absurd hi (Nat.not_lt_zero _), fun i hi => ?_, fun i hi => absurd hi (Nat.not_lt_zero _)⟩, hl, rfl⟩
      · show τ.2.2.1 6 (20 + j) = nI (if j = 9 then 1 else 0)
        rw [if_neg (by omega)]; exact (h j (by omega)).1
      · show vp_updL (τ.2.2.2 8) 4 _ 4 = _
        rw [lu_s]
        rfl
      · rcases hi with hi | hi
        · exact absurd hi (Nat.not_lt_zero _)
        · exact absurd hi.2 (by show ¬ (0 : Nat) = 1; decide)
    · omega
  | n + 1, i, τ, hn, f, h5, h => by
    have nx2 : ∀ (x : Int32), x = nI (if i = 3 then 1 else 0) → Wp d md_161 9 [some (.ref 287), some (.int (nI (i + 1)))] [] (mset M (aset (aset τ 6 (upd (τ.2.2.1 6) (20 + i) 0)) 7 (upd ((aset τ 6 (upd (τ.2.2.1 6) (20 + i) 0)).2.2.1 7) (20 + i) x))) (fun v M' => v = none ∧ ∃ σ', M' = mset M σ' ∧ FrK σ σ' ∧ BM σ' K0) := by
      intro x hx
      refine m_clears_l n (i + 1) (by omega) (f.t ((FrK.a (by unfold dcl; omega)).t (FrK.a (by unfold dcl; omega)))) h5 (fun j hj => ?_)
      refine ⟨?_, ?_⟩
      · show upd (τ.2.2.1 6) (20 + i) 0 (20 + j) = _
        by_cases c : j = i
        · rw [c, pk_us]; rfl
        · rw [pk_un (by omega)]; exact (h j (by omega)).1
      · show upd (τ.2.2.1 7) (20 + i) x (20 + j) = _
        by_cases c : j = i
        · rw [c, pk_us, hx]
        · rw [pk_un (by omega)]; exact (h j (by omega)).2
    refine Wp.n (pc' := 11) 2 rfl ?_
    refine Wp.nc3 (x := i) (y := 5) (tgt := 49) (len := 3) rfl (by omega) (by omega) (fun h11 => ?_) (fun h11 => ?_)
    · omega
    · skip
      refine Wp.n (pc' := 21) 4 rfl ?_
      refine Wp.iaddN (x := 20) (y := i) (len := 1) rfl ?_
      refine Wp.n (pc' := 23) 1 rfl ?_
      refine Wp.miastN (j := 20 + i) (len := 1) rfl rfl rfl (by omega) ?_
      refine Wp.n (pc' := 31) 4 rfl ?_
      refine Wp.iaddN (x := 20) (y := i) (len := 1) rfl ?_
      refine Wp.n (pc' := 34) 2 rfl ?_
      refine Wp.nc1 (x := i) (y := 3) (tgt := 41) (len := 3) rfl (by omega) (by omega) (fun h34 => ?_) (fun h34 => ?_)
      · skip
        refine Wp.n (pc' := 42) 1 rfl ?_
        refine Wp.miastN (j := 20 + i) (len := 1) rfl rfl rfl (by omega) ?_
        refine Wp.incN (x := i) (len := 3) rfl rfl ?_
        refine Wp.n (pc' := 9) 1 rfl ?_
        first
          | (have q : i = 3 := h34
             exact nx2 1 (by rw [if_pos q]; rfl))
          | (have q : ¬ i = 3 := h34
             exact nx2 0 (by rw [if_neg q]; rfl))
      · skip
        refine Wp.n (pc' := 42) 2 rfl ?_
        refine Wp.miastN (j := 20 + i) (len := 1) rfl rfl rfl (by omega) ?_
        refine Wp.incN (x := i) (len := 3) rfl rfl ?_
        refine Wp.n (pc' := 9) 1 rfl ?_
        first
          | (have q : i = 3 := h34
             exact nx2 1 (by rw [if_pos q]; rfl))
          | (have q : ¬ i = 3 := h34
             exact nx2 0 (by rw [if_neg q]; rfl))
theorem m_clears : Wp d md_161 0 [some (.ref 287), none] [] (mset M σ) (fun v M' => v = none ∧ ∃ σ', M' = mset M σ' ∧ FrK σ σ' ∧ BM σ' K0) := by
  refine Wp.n (pc' := 6) 4 rfl ?_
  refine Wp.miastN (j := 4) (len := 1) rfl rfl rfl (by omega) ?_
  refine Wp.n (pc' := 9) 2 rfl ?_
  exact m_clears_l 5 0 (by decide) (FrK.a (by unfold dcl; omega)) (show upd (σ.2.2.1 5) 4 0 4 = _ by rw [pk_us]; rfl) (fun j hj => by omega)
theorem m_begins (hT : TM σ T) : Wp (d + 2) md_162 0 [some (.ref 287)] [] (mset M σ) (fun v M' => v = none ∧ RdB M σ T (.inr (bl T 0)) M') := by
  refine Wp.n (pc' := 2) 2 rfl ?_
  refine Wp.mput (len := 3) rfl rfl ?_
  refine Wp.n (pc' := 7) 2 rfl ?_
  refine Wp.mput (len := 3) rfl rfl ?_
  refine Wp.n (pc' := 12) 2 rfl ?_
  refine Wp.mput (len := 3) rfl rfl ?_
  refine Wp.n (pc' := 16) 1 rfl ?_
  refine Wp.callV (len := 3) rfl rfl rfl (rfl) rfl (by decide) rfl (m_next (p := 0) (FrB.T ((FrB.f rfl).t ((FrB.f rfl).t (FrB.f rfl))) hT) (Nat.zero_le _) rfl) ?_
  rintro _ _ ⟨rfl, τ, rfl, f, h⟩
  refine Wp.retV (len := 1) rfl rfl ?_
  exact ⟨rfl, τ, rfl, ((FrB.f rfl).t ((FrB.f rfl).t (FrB.f rfl))).t f.b, f.1 12 rfl, h⟩
theorem m_isOver (hL : LM σ T st) (hT : TM σ T) : Wp d md_183 0 [some (.ref 287)] [] (mset M σ) (fun v M' => v = none ∧ ∃ σ', M' = mset M σ' ∧ (∀ j, List.elem j [6, 14, 15] = false → σ'.1 j = σ.1 j) ∧ σ'.2 = σ.2 ∧ FM σ' (flt st) ∧ TM σ' (0, T.2)) := by
  have e : ∀ (a b c : Int32) j, List.elem j [6, 14, 15] = false → (fset (fset (fset σ 6 a) 14 b) 15 c).1 j = σ.1 j := fun a b c j hj => (pk_un (fun q => by rw [q] at hj; cases hj)).trans ((pk_un (fun q => by rw [q] at hj; cases hj)).trans (pk_un (fun q => by rw [q] at hj; cases hj)))
  rcases st with x | s
  · have x1 := hL.2.1
    have x3 := hL.2.2.1
    refine Wp.n (pc' := 2) 2 rfl ?_
    refine Wp.mput (len := 3) rfl rfl ?_
    refine Wp.n (pc' := 10) 3 rfl ?_
    refine Wp.top hL.1 ?_
    refine Wp.mput (len := 3) rfl rfl ?_
    refine Wp.n (pc' := 18) 3 rfl ?_
    refine Wp.top hL.1 ?_
    refine Wp.nz1 (x := x.1) (tgt := 25) (len := 3) rfl (by omega) (fun h18 => ?_) (fun h18 => ?_)
    · skip
      refine Wp.n (pc' := 29) 2 rfl ?_
      refine Wp.top hL.2.2.2.1 ?_
      refine Wp.mput (len := 3) rfl rfl ?_
      refine Wp.retV (len := 1) rfl rfl ?_
      exact ⟨rfl, _, rfl, e _ _ _, rfl, ⟨rfl, rfl⟩, rfl, Nat.zero_le _, fun i hi => absurd hi (Nat.not_lt_zero _)⟩
    · omega
  · skip
    refine Wp.n (pc' := 2) 2 rfl ?_
    refine Wp.mput (len := 3) rfl rfl ?_
    refine Wp.n (pc' := 10) 3 rfl ?_
    refine Wp.top hL.1 ?_
    refine Wp.mput (len := 3) rfl rfl ?_
    refine Wp.n (pc' := 18) 3 rfl ?_
    refine Wp.top hL.1 ?_
    refine Wp.nz1 (x := 0) (tgt := 25) (len := 3) rfl (by omega) (fun h18 => ?_) (fun h18 => ?_)
    · omega
    · skip
      refine Wp.n (pc' := 29) 2 rfl ?_
      refine Wp.mput (len := 3) rfl rfl ?_
      refine Wp.retV (len := 1) rfl rfl ?_
      exact ⟨rfl, _, rfl, e _ _ _, rfl, ⟨rfl, rfl⟩, rfl, Nat.zero_le _, fun i hi => absurd hi (Nat.not_lt_zero _)⟩
theorem bod_5 {s : Nat} : kh (bodK T K s) 5 = kh K 5 := by
  unfold bodK
  by_cases c : kh K 5 = 0
  · rw [if_pos c, c]; rfl
  · rw [if_neg c]
    unfold linK
    split
    · rfl
    · split
      · rfl
      · split
        · rfl
        · split
          · rfl
          · have hm : ∀ k, lwm k = 3 ∨ lwm k = 4 := fun k => by unfold lwm; split <;> simp
            exact if_neg (by have := hm (lwq T (lw1 T (.inr s))); omega)
theorem BM_inc (hB : BM σ K) : BM (aset σ 5 (upd (σ.2.2.1 5) 4 (nI (kh K 5 + 1)))) (incL K) := by
  obtain ⟨⟨h1, h2, h3, h4, h5, h6, h7⟩, hl, h11⟩ := hB
  have ek : ∀ j, j ≠ 5 → kh (incL K) j = kh K j := fun j hj => if_neg hj
  have hl' : ∀ j, j < 5 → σ.2.2.1 7 (20 + j) = nI (kh (incL K) (6 + j)) := fun j hj => by rw [ek (6 + j) (by omega)]; exact hl j hj
  refine ⟨⟨fun j hj => ?_, fun _ => hl', ?_, h4, h5, h6, h7⟩, hl', h11⟩
  · rw [ek j (by omega)]; exact h1 j hj
  · show upd (σ.2.2.1 5) 4 _ 4 = _
    rw [pk_us]; rfl
theorem m_kin_l (hT : TM σ T) {r : St × KD} (kk : ∀ τ', FrK σ τ' → LM τ' T r.1 → (gd r.1 = true → BM τ' r.2 ∧ PK r.2) → Wp (d + 8) md_160 71 [some (.ref 287)] [] (mset M τ') Q) : ∀ (n : Nat) {st : St} {K : KD} {τ : MS}, FrK σ τ → LM τ T st → (gd st = true → BM τ K ∧ PK K) → (∀ s, st = .inr s → kh K 5 ≤ s ∧ T.1 - s < n) → prsT T n st K = r → Wp (d + 8) md_160 13 [some (.ref 287)] [] (mset M τ) Q
  | n, .inl x, K, τ, f, l, hB, hs, hr => by
    have e : r = (.inl x, K) := by
      rw [← hr]
      cases n <;> rfl
    subst e
    refine Wp.n (pc' := 14) 1 rfl ?_
    refine Wp.ecallV (len := 3) rfl rfl rfl (rfl) rfl (by decide) rfl (m_isGood l) ?_
    refine Wp.ifb0 (tgt := 71) (len := 3) rfl (fun h17 => ?_) (fun h17 => ?_)
    · skip
      exact kk τ f l (fun q => by cases q)
    · cases h17
  | 0, .inr s, K, τ, f, l, hB, hs, hr => absurd (hs s rfl).2 (Nat.not_lt_zero _)
  | n + 1, .inr s, K, τ, f, l, hB, hs, hr => by
    obtain ⟨hB1, hP⟩ := hB rfl
    obtain ⟨s5, sn⟩ := hs s rfl
    obtain ⟨l12, lN_⟩ := id l
    have sT := lN_.2.2.2.2.2
    have t20 := hT.2.1
    have t4 := tk_le (T := T) (s := s)
    have ok := hP.1
    have k5 := (ok_h ok).2.2.2.2.2.1
    by_cases c0 : tk T s = 0
    · have e : r = (.inr s, K) := by
        rw [← hr]
        exact if_pos c0
      subst e
      refine Wp.n (pc' := 14) 1 rfl ?_
      refine Wp.ecallV (len := 3) rfl rfl rfl (rfl) rfl (by decide) rfl (m_isGood l) ?_
      refine Wp.ifb0 (tgt := 71) (len := 3) rfl (fun h17 => ?_) (fun h17 => ?_)
      · cases h17
      · skip
        refine Wp.n (pc' := 24) 2 rfl ?_
        refine Wp.top lN_.2.1 ?_
        refine Wp.nz0 (x := tk T s) (tgt := 71) (len := 3) rfl (by omega) (fun h24 => ?_) (fun h24 => ?_)
        · skip
          exact kk τ f l (fun _ => ⟨hB1, hP⟩)
        · omega
    · have st0 : s < T.1 := by
        by_cases c : s < T.1
        · exact c
        · exact absurd (tk_0.mpr (by omega)) c0
      have e : r = prsT T n (endS T (bodS T K s)) (incL (bodK T K s)) := by
        rw [← hr]
        exact if_neg c0
      have tail : ∀ τ1, FrK τ τ1 → LM τ1 T (bodS T K s) → (gd (bodS T K s) = true → BM τ1 (bodK T K s)) → Wp (d + 8) md_160 47 [some (.ref 287)] [] (mset M τ1) Q := by
        intro τ1 f1 l1 b1
        have hT1 := (f.t f1).T hT
        rcases hq : bodS T K s with x | s1
        · rw [hq] at l1
          have es : endS T (bodS T K s) = .inl x := by rw [hq]; rfl
          rw [es] at e
          refine Wp.n (pc' := 48) 1 rfl ?_
          refine Wp.ecallV (len := 3) rfl rfl rfl (rfl) rfl (by decide) rfl (m_isGood l1) ?_
          refine Wp.ifb0 (tgt := 58) (len := 3) rfl (fun h51 => ?_) (fun h51 => ?_)
          · skip
            refine Wp.n (pc' := 64) 4 rfl ?_
            refine Wp.mialdN (j := 4) (len := 1) rfl rfl rfl (by omega) ?_
            refine Wp.n (pc' := 67) 2 rfl ?_
            refine Wp.miastN (j := 4) (len := 1) rfl rfl rfl (by omega) ?_
            refine Wp.n (pc' := 13) 1 rfl ?_
            exact m_kin_l hT kk n (f.t (f1.t (FrK.a (by unfold dcl; omega)))) (LM_a (st := .inl x) l1) (fun q => by cases q) (fun s q => by cases q) e.symm
          · cases h51
        · rw [hq] at l1 b1
          have b2 := b1 rfl
          refine Wp.n (pc' := 48) 1 rfl ?_
          refine Wp.ecallV (len := 3) rfl rfl rfl (rfl) rfl (by decide) rfl (m_isGood l1) ?_
          refine Wp.ifb0 (tgt := 58) (len := 3) rfl (fun h51 => ?_) (fun h51 => ?_)
          · cases h51
          · skip
            refine Wp.n (pc' := 55) 1 rfl ?_
            refine Wp.callV (len := 3) rfl rfl rfl (rfl) rfl (by decide) rfl (m_ends (d := d + 5) hT1 l1) ?_
            rintro _ _ ⟨rfl, τ2, rfl, f2, l2⟩
            have b3 := BM_b b2 f2
            refine Wp.n (pc' := 64) 4 rfl ?_
            refine Wp.mialdN (j := 4) (len := 1) rfl rfl rfl (by omega) ?_
            refine Wp.top (b3.1.2.2.1.trans (congrArg nI bod_5)) ?_
            refine Wp.n (pc' := 66) 1 rfl ?_
            refine Wp.iaddN (x := kh K 5) (y := 1) (len := 1) rfl ?_
            refine Wp.miastN (j := 4) (len := 1) rfl rfl rfl (by omega) ?_
            refine Wp.n (pc' := 13) 1 rfl ?_
            refine m_kin_l hT kk n (f.t (f1.t (f2.k.t (FrK.a (by unfold dcl; omega))))) (st := endS T (bodS T K s)) (by rw [hq]; exact LM_a l2) (fun g => ⟨?_, ?_⟩) (fun s' q => ?_) e.symm
            · have w := BM_inc b3
              rw [bod_5] at w
              exact w
            · exact PK_step hP (by omega) g
            · have h1 := step_lt sT q
              have h2 : kh (incL (bodK T K s)) 5 = kh K 5 + 1 := by
                show kh (bodK T K s) 5 + 1 = _
                rw [bod_5]
              omega
      by_cases c5 : kh K 5 = 0
      · have eK := hP.2.2.2.2 c5
        subst eK
        refine Wp.n (pc' := 14) 1 rfl ?_
        refine Wp.ecallV (len := 3) rfl rfl rfl (rfl) rfl (by decide) rfl (m_isGood l) ?_
        refine Wp.ifb0 (tgt := 71) (len := 3) rfl (fun h17 => ?_) (fun h17 => ?_)
        · cases h17
        · skip
          refine Wp.n (pc' := 24) 2 rfl ?_
          refine Wp.top lN_.2.1 ?_
          refine Wp.nz0 (x := tk T s) (tgt := 71) (len := 3) rfl (by omega) (fun h24 => ?_) (fun h24 => ?_)
          · omega
          · skip
            refine Wp.n (pc' := 32) 3 rfl ?_
            refine Wp.mialdN (j := 4) (len := 1) rfl rfl rfl (by omega) ?_
            refine Wp.top hB1.1.2.2.1 ?_
            refine Wp.nz1 (x := 0) (tgt := 43) (len := 3) rfl (by omega) (fun h33 => ?_) (fun h33 => ?_)
            · omega
            · skip
              refine Wp.n (pc' := 37) 1 rfl ?_
              refine Wp.callV (len := 3) rfl rfl rfl (rfl) rfl (by decide) rfl (m_first (d := d + 2) (f.T hT) l hB1) ?_
              rintro _ _ ⟨rfl, τ1, rfl, f1, l1, b1⟩
              refine Wp.n (pc' := 47) 1 rfl ?_
              exact tail τ1 f1 l1 b1
      · obtain ⟨p1, p2⟩ := hP.2.2.2.1 (by omega)
        have eS : bodS T K s = linS T K s := if_neg c5
        have eK : bodK T K s = linK T K s := if_neg c5
        refine Wp.n (pc' := 14) 1 rfl ?_
        refine Wp.ecallV (len := 3) rfl rfl rfl (rfl) rfl (by decide) rfl (m_isGood l) ?_
        refine Wp.ifb0 (tgt := 71) (len := 3) rfl (fun h17 => ?_) (fun h17 => ?_)
        · cases h17
        · skip
          refine Wp.n (pc' := 24) 2 rfl ?_
          refine Wp.top lN_.2.1 ?_
          refine Wp.nz0 (x := tk T s) (tgt := 71) (len := 3) rfl (by omega) (fun h24 => ?_) (fun h24 => ?_)
          · omega
          · skip
            refine Wp.n (pc' := 32) 3 rfl ?_
            refine Wp.mialdN (j := 4) (len := 1) rfl rfl rfl (by omega) ?_
            refine Wp.top hB1.1.2.2.1 ?_
            refine Wp.nz1 (x := kh K 5) (tgt := 43) (len := 3) rfl (by omega) (fun h33 => ?_) (fun h33 => ?_)
            · skip
              refine Wp.n (pc' := 44) 1 rfl ?_
              refine Wp.callV (len := 3) rfl rfl rfl (rfl) rfl (by decide) rfl (m_line (d := d + 1) (f.T hT) l hB1 ok p1 p2) ?_
              rintro _ _ ⟨rfl, τ1, rfl, f1, l1, b1⟩
              exact tail τ1 f1 (by rw [eS]; exact l1) (by rw [eS, eK]; exact b1)
            · omega
theorem m_kingdom (hM : MK σ K) (h11 : kh K 11 = 0) (hT : TM σ T) : Wp (d + 9) md_160 0 [some (.ref 287)] [] (mset M σ) (fun v M' => v = some (.int (kinA T)) ∧ ∃ σ', M' = mset M σ' ∧ FrKin σ σ' ∧ MK σ' (kinN T K) ∧ FM σ' (flt (kinR T).1) ∧ TM σ' (0, T.2)) := by
  obtain ⟨hR0, ok, h25, hσ0⟩ := hM
  have t20 := hT.2.1
  refine Wp.n (pc' := 2) 2 rfl ?_
  refine Wp.mput0 (len := 3) rfl hσ0 ?_
  refine Wp.n (pc' := 6) 1 rfl ?_
  refine Wp.callV (len := 3) rfl rfl rfl (rfl) rfl (by decide) rfl (m_clears (d := d + 8)) ?_
  rintro _ _ ⟨rfl, τ1, rfl, f1, b1⟩
  refine Wp.n (pc' := 10) 1 rfl ?_
  refine Wp.callV (len := 3) rfl rfl rfl (rfl) rfl (by decide) rfl (m_begins (d := d + 6) (f1.T hT)) ?_
  rintro _ _ ⟨rfl, τ2, rfl, f2, l2⟩
  have b2 := BM_b b1 f2
  have hbl : bl T 0 ≤ T.1 := (tn_le (T := T) (p := isBl) (Nat.zero_le _)).2
  refine m_kin_l (d := d + 1) (r := kinR T) hT (fun τ f l hB => ?_) 2001 (f1.t f2.k) l2 (fun _ => ⟨b2, PK_K0⟩) (fun s q => ⟨Nat.zero_le _, by omega⟩) rfl
  refine Wp.n (pc' := 72) 1 rfl ?_
  refine Wp.callV (len := 3) rfl rfl rfl (rfl) rfl (by decide) rfl (m_isOver (d := d + 8) l (f.T hT)) ?_
  rintro _ _ ⟨rfl, τ3, rfl, g1, g2, hF, hT3⟩
  have e1 : ∀ j, List.elem j [6, 7, 8, 9, 10, 12, 13, 14, 15] = false → τ3.1 j = σ.1 j := fun j hj => (g1 j (elem_sub (F' := [6, 7, 8, 9, 10, 12, 13, 14, 15]) rfl hj)).trans (f.1 j (elem_sub (F' := [6, 7, 8, 9, 10, 12, 13, 14, 15]) rfl hj))
  have g12 : τ3.1 12 = τ.1 12 := g1 12 rfl
  refine Wp.n (pc' := 76) 1 rfl ?_
  rcases hq : (kinR T).1 with x | s
  · rw [hq] at l
    have x1 := l.2.1
    have x3 := l.2.2.1
    have ng : ¬ gd (kinR T).1 = true := by rw [hq]; exact Bool.false_ne_true
    refine Wp.n (pc' := 79) 1 rfl ?_
    refine Wp.top (g12.trans l.1) ?_
    refine Wp.nz0 (x := x.1) (tgt := 85) (len := 3) rfl (by omega) (fun h79 => ?_) (fun h79 => ?_)
    · omega
    · skip
      refine Wp.n (pc' := 84) 1 rfl ?_
      refine Wp.retI (len := 1) rfl rfl ?_
      refine ⟨by unfold kinA; rw [if_neg ng], τ3, rfl, ⟨e1, fun k hk => by rw [g2]; exact f.2.1 k hk, fun k hk => by rw [g2]; exact f.2.2.1 k hk, fun s K' h1 h4 okk hR => ?_⟩, ?_, by rw [hq] at hF; exact hF, hT3⟩
      · have w := f.rep h4 okk hR
        unfold RepM at w ⊢
        rw [g2]
        exact w
      · unfold kinN
        rw [if_neg ng]
        have w := f.rep (s := 0) (by decide) ok hR0
        refine ⟨?_, ok, (e1 25 rfl).trans h25, (e1 0 rfl).trans hσ0⟩
        unfold RepM at w ⊢
        rw [g2]
        exact w
  · rw [hq] at l
    have yg : gd (kinR T).1 = true := by rw [hq]; rfl
    obtain ⟨bK, pK⟩ := hB yg
    refine Wp.n (pc' := 79) 1 rfl ?_
    refine Wp.top (g12.trans l.1) ?_
    refine Wp.nz0 (x := 0) (tgt := 85) (len := 3) rfl (by omega) (fun h79 => ?_) (fun h79 => ?_)
    · skip
      refine Wp.n (pc' := 88) 3 rfl ?_
      refine Wp.callV (len := 3) rfl rfl rfl (rfl) rfl (by decide) rfl (m_copyKingdom (d := d + 7) (a := 4) (b := 0) (by decide) (by decide) (by decide)) ?_
      rintro _ _ ⟨rfl, τ4, rfl, hC⟩
      have bK3 : RepM τ3 4 (kinR T).2 := by
        have w := bK.1
        unfold RepM at w ⊢
        rw [g2]
        exact w
      have bK4 : RepM τ4 0 (kinR T).2 := CK_t hC pK.1 bK3
      have hL5 : τ4.2.2.1 5 0 = nI (kh (kinR T).2 5) := bK4.2.2.1
      refine Wp.n (pc' := 96) 3 rfl ?_
      refine Wp.mialdN (j := 0) (len := 1) rfl rfl rfl (by omega) ?_
      refine Wp.top hL5 ?_
      refine Wp.retI (len := 1) rfl rfl ?_
      refine ⟨by unfold kinA; rw [if_pos yg], τ4, rfl, ⟨fun j hj => by rw [hC.1]; exact e1 j hj, fun k hk => (hC.2.2.1 k hk).trans (by rw [g2]; exact f.2.1 k hk), fun k hk => (hC.2.2.2.1 k hk).trans (by rw [g2]; exact f.2.2.1 k hk), fun s K' h1 h4 okk hR => ?_⟩, ?_, ?_, ?_⟩
      · have w := f.rep h4 okk hR
        have w3 : RepM τ3 s K' := by
          unfold RepM at w ⊢
          rw [g2]
          exact w
        exact CK_o hC okk (by omega) w3
      · unfold kinN
        rw [if_pos yg]
        exact ⟨bK4, pK.1, by rw [hC.1, pK.2.1, e1 25 rfl, h25, h11], by rw [hC.1]; exact (e1 0 rfl).trans hσ0⟩
      · rw [hq] at hF
        unfold FM at hF ⊢
        rw [hC.1]
        exact hF
      · exact ⟨by rw [hC.1]; exact hT3.1, Nat.zero_le _, fun i hi => absurd hi (Nat.not_lt_zero _)⟩
    · omega
end KIN
