section
/-! A ROW OF PLACES: its length and lanes. -/
def addJ (K : KD) (s : Nat × List Nat) (j : Nat) : Nat × List Nat := (s.1 + spanJ K j, if j < 20 then s.2 else s.2 ++ [j - 20])
def lookK (K : KD) (y : Nat) (P : Nat → Nat) : Nat → Nat → Nat × List Nat → Nat × Nat × List Nat
  | 0, i, s => (i, s)
  | n + 1, i, s => match joinK K (P i) (P (i + 1)) y with
    | none => (i, s)
    | some j => lookK K y P n (i + 1) (addJ K s j)
def bitsM (ls : List Nat) : Nat := ls.foldl (fun b l => b ||| 2 ^ l) 0
def wat (K : KD) (ls : List Nat) : List Nat := (ls.filter (fun l => decide (0 < kl K l 6))).map (fun l => kl K l 6)
theorem bitsM_app (ls : List Nat) (l : Nat) : bitsM (ls ++ [l]) = bitsM ls ||| 2 ^ l := by
  unfold bitsM
  rw [List.foldl_append]
  rfl
theorem bitsM_tb (l : Nat) : ∀ (ls : List Nat) (b : Nat), (ls.foldl (fun b l => b ||| 2 ^ l) b).testBit l = (b.testBit l || ls.contains l)
  | [], b => by simp
  | x :: t, b => by
    rw [List.foldl_cons, bitsM_tb l t, Nat.testBit_or, Nat.testBit_two_pow, List.contains_cons, Bool.or_assoc]
    congr 2
    by_cases e : x = l
    · subst e; simp
    · simp [e, Ne.symm e]
theorem bits_tb (ls : List Nat) (l : Nat) : (bitsM ls).testBit l = ls.contains l := by
  unfold bitsM
  rw [bitsM_tb, Nat.zero_testBit, Bool.false_or]
theorem bits_lt {ls : List Nat} (h : ∀ l, l ∈ ls → l ≤ 8) : bitsM ls < 2 ^ 9 := by
  apply Nat.lt_pow_two_of_testBit
  intro i hi
  rw [bits_tb]
  cases e : ls.contains i with
  | false => rfl
  | true =>
    have := h i (List.contains_iff_mem.mp e)
    omega
theorem wat_app (K : KD) (ls : List Nat) (l : Nat) : wat K (ls ++ [l]) = wat K ls ++ (if 0 < kl K l 6 then [kl K l 6] else []) := by
  unfold wat
  rw [List.filter_append, List.map_append]
  congr 1
  by_cases h : 0 < kl K l 6
  · rw [if_pos h, List.filter_cons_of_pos (by exact decide_eq_true h)]
    rfl
  · rw [if_neg h, List.filter_cons_of_neg (by rw [decide_eq_false h]; decide)]
    rfl
theorem getD_app {ls : List Nat} {x i : Nat} (h : i < ls.length) : (ls ++ [x]).getD i 0 = ls.getD i 0 := by
  simp [List.getD_eq_getElem?_getD, List.getElem?_append_left h]
theorem getD_end {ls : List Nat} {x : Nat} : (ls ++ [x]).getD ls.length 0 = x := by
  simp [List.getD_eq_getElem?_getD]
/-- sound so far: i steps -/
def SB (K : KD) (i : Nat) (s : Nat × List Nat) : Prop := s.1 ≤ 129 * i ∧ s.2.length ≤ i ∧ ∀ l, l ∈ s.2 → LV K l
theorem SB_s {K : KD} (ok : KOK K) {i j : Nat} {s : Nat × List Nat} (h : SB K i s) (hj : JV K j) : SB K (i + 1) (addJ K s j) := by
  obtain ⟨h1, h2, h3⟩ := h
  have hs := spanJ_b ok hj
  unfold addJ
  refine ⟨by show s.1 + spanJ K j ≤ _; omega, ?_, ?_⟩
  · show (if j < 20 then s.2 else s.2 ++ [j - 20]).length ≤ i + 1
    by_cases c : j < 20
    · rw [if_pos c]; omega
    · rw [if_neg c, List.length_append]; show s.2.length + 1 ≤ _; omega
  · intro l hl
    have hl' : l ∈ (if j < 20 then s.2 else s.2 ++ [j - 20]) := hl
    by_cases c : j < 20
    · rw [if_pos c] at hl'; exact h3 l hl'
    · rw [if_neg c, List.mem_append] at hl'
      rcases hl' with q | q
      · exact h3 l q
      · rw [List.mem_singleton] at q
        rw [q]
        have b2 := (ok_h ok).2.2.1
        rcases hj with p | p
        · omega
        · exact p.2
theorem LV_8 {K : KD} (ok : KOK K) {l : Nat} (h : LV K l) : l ≤ 8 := by
  have := (ok_h ok).2.2.2.1
  unfold LV at h
  omega
theorem SB_bits {K : KD} (ok : KOK K) {i : Nat} {s : Nat × List Nat} (h : SB K i s) : bitsM s.2 < 2 ^ 9 := bits_lt (fun l hl => LV_8 ok (h.2.2 l hl))
theorem wat_len {K : KD} (ls : List Nat) : (wat K ls).length ≤ ls.length := by
  unfold wat
  rw [List.length_map]
  exact List.length_filter_le _ _
theorem joinK_v {K : KD} (ok : KOK K) {a b y j : Nat} (h : joinK K a b y = some j) : JV K j := by
  rw [← joinK_m ok] at h
  have : ∀ (n i : Nat) (c : Option Nat), (∀ j, c = some j → JV K j) → ∀ j, fld (jstep K a b y) n i c = some j → JV K j := by
    intro n
    induction n with
    | zero => intro i c hc; exact hc
    | succ n ih =>
      intro i c hc
      refine ih (i + 1) (jstep K a b y c i) ?_
      unfold jstep
      by_cases q : i < kh K 3 ∨ (i = 8 ∧ kh K 11 = 1)
      · rw [if_pos q]; exact joinStep_v q hc
      · rw [if_neg q]; exact hc
  exact this 9 0 (roadK K a b) (fun j hj => Or.inl (roadK_v hj).1) j h
theorem lookK_b {K : KD} (ok : KOK K) {y : Nat} {P : Nat → Nat} : ∀ (n i : Nat) (s : Nat × List Nat), SB K i s → SB K (i + n) (lookK K y P n i s).2 ∧ (lookK K y P n i s).1 ≤ i + n ∧ i ≤ (lookK K y P n i s).1
  | 0, i, s, h => ⟨h, by show i ≤ _; omega, by show i ≤ i; omega⟩
  | n + 1, i, s, h => by
    unfold lookK
    cases hj : joinK K (P i) (P (i + 1)) y with
    | none =>
      refine ⟨?_, by show i ≤ _; omega, by show i ≤ i; omega⟩
      obtain ⟨h1, h2, h3⟩ := h
      exact ⟨by show s.1 ≤ _; omega, by show s.2.length ≤ _; omega, h3⟩
    | some j =>
      obtain ⟨a1, a2, a3⟩ := lookK_b ok n (i + 1) (addJ K s j) (SB_s ok h (joinK_v ok hj))
      rw [show i + 1 + n = i + (n + 1) by omega] at a1 a2
      exact ⟨a1, a2, by show i ≤ (lookK K y P n (i + 1) (addJ K s j)).1; omega⟩
section LOOK
variable {d : Nat} {M : AM} {σ σ' : MS} {K : KD} {Q : Option Value → AM → Prop}
def LKs (σ : MS) (K : KD) (s : Nat × List Nat) : Prop := σ.1 28 = nI s.1 ∧ σ.1 29 = nI (bitsM s.2) ∧ σ.1 32 = nI (wat K s.2).length ∧ (∀ i, i < (wat K s.2).length → σ.2.2.1 15 i = nI ((wat K s.2).getD i 0))
theorem LKs_road {s : Nat × List Nat} {j : Nat} (h : LKs σ K s) (hj : j < 20) : LKs (fset σ 28 (nI (s.1 + spanJ K j))) K (addJ K s j) := by
  have e : addJ K s j = (s.1 + spanJ K j, s.2) := by unfold addJ; rw [if_pos hj]
  rw [e]
  exact ⟨rfl, h.2.1, h.2.2.1, h.2.2.2⟩
theorem LKs_un {s : Nat × List Nat} {j : Nat} (h : LKs σ K s) (hj : 20 ≤ j) (hw : kl K (j - 20) 6 = 0) : LKs (fset (fset σ 28 (nI (s.1 + spanJ K j))) 29 (nI (bitsM s.2 ||| 2 ^ (j - 20)))) K (addJ K s j) := by
  have e : addJ K s j = (s.1 + spanJ K j, s.2 ++ [j - 20]) := by unfold addJ; rw [if_neg (by omega)]
  have e2 : wat K (s.2 ++ [j - 20]) = wat K s.2 := by rw [wat_app, if_neg (by omega), List.append_nil]
  rw [e]
  refine ⟨rfl, ?_, ?_, ?_⟩
  · show _ = nI (bitsM (s.2 ++ [j - 20]))
    rw [bitsM_app]
    rfl
  · show _ = nI (wat K (s.2 ++ [j - 20])).length
    rw [e2]
    exact h.2.2.1
  · show ∀ i, i < (wat K (s.2 ++ [j - 20])).length → _ = nI ((wat K (s.2 ++ [j - 20])).getD i 0)
    rw [e2]
    exact h.2.2.2
theorem LKs_w {s : Nat × List Nat} {j : Nat} (h : LKs σ K s) (hj : 20 ≤ j) (hw : kl K (j - 20) 6 ≠ 0) : LKs (fset (aset (fset (fset σ 28 (nI (s.1 + spanJ K j))) 29 (nI (bitsM s.2 ||| 2 ^ (j - 20)))) 15 (upd (σ.2.2.1 15) (wat K s.2).length (nI (kl K (j - 20) 6)))) 32 (nI ((wat K s.2).length + 1))) K (addJ K s j) := by
  have e : addJ K s j = (s.1 + spanJ K j, s.2 ++ [j - 20]) := by unfold addJ; rw [if_neg (by omega)]
  have e2 : wat K (s.2 ++ [j - 20]) = wat K s.2 ++ [kl K (j - 20) 6] := by rw [wat_app, if_pos (by omega)]
  rw [e]
  refine ⟨rfl, ?_, ?_, ?_⟩
  · show _ = nI (bitsM (s.2 ++ [j - 20]))
    rw [bitsM_app]
    rfl
  · show _ = nI (wat K (s.2 ++ [j - 20])).length
    rw [e2, List.length_append]
    rfl
  · show ∀ i, i < (wat K (s.2 ++ [j - 20])).length → upd (σ.2.2.1 15) (wat K s.2).length (nI (kl K (j - 20) 6)) i = nI ((wat K (s.2 ++ [j - 20])).getD i 0)
    rw [e2, List.length_append]
    intro i hi
    have hi' : i < (wat K s.2).length + 1 := hi
    by_cases c : i = (wat K s.2).length
    · rw [c, pk_us, getD_end]
    · rw [pk_un c, getD_app (by omega)]
      exact h.2.2.2 i (by omega)
abbrev LF : List Nat := [28, 29, 32]
abbrev LA : List Nat := [15]
theorem Scr_L (h : Fr LF LA σ σ') : Scr σ σ' := Fr.mono h rfl rfl
theorem m_looks_l (hM : MK σ K) {m y : Nat} {P : Nat → Nat} (hm : σ.1 27 = nI m) (hm7 : m ≤ 7) (hy : y < 31) (hr : ∀ i, i < m → σ.2.2.1 14 i = nI (P i) ∧ P i < 7) : ∀ (n i : Nat) (s : Nat × List Nat) (τ : MS) (z : Option Value), i + n + 1 = m → Fr LF LA σ τ → LKs τ K s → SB K i s → Wp (d + 3) md_207 17 [some (.ref 287), some (.int (nI y)), some (.int (nI i)), z] [] (mset M τ) (fun v M' => ∃ τ', v = some (.int (nI (lookK K y P n i s).1)) ∧ M' = mset M τ' ∧ Fr LF LA σ τ' ∧ LKs τ' K (lookK K y P n i s).2) := by
  have ok := hM.2.1
  intro n
  obtain ⟨b0, b1, b2, b3, b4, b5, b6, b7, b8, b9, b10, b11, b12⟩ := ok_h ok
  induction n with
  | zero =>
    intro i s τ z hi hF hL hB
    have hm' : τ.1 27 = nI m := (hF.1 27 rfl).trans hm
    refine Wp.n (pc' := 19) 2 rfl ?_
    refine Wp.iaddN (x := i) (y := 1) (len := 1) rfl ?_
    refine Wp.n (pc' := 24) 2 rfl ?_
    refine Wp.top hm' ?_
    refine Wp.nc3 (x := i + 1) (y := m) (tgt := 153) (len := 3) rfl (by omega) (by omega) (fun h24 => ?_) (fun h24 => ?_)
    · skip
      refine Wp.n (pc' := 157) 2 rfl ?_
      refine Wp.top hm' ?_
      refine Wp.n (pc' := 158) 1 rfl ?_
      refine Wp.isubN (x := m) (y := 1) (len := 1) rfl (by omega) ?_
      refine Wp.retI (len := 1) rfl rfl ?_
      rw [show m - 1 = i by omega]
      exact ⟨τ, rfl, rfl, hF, hL⟩
    · omega
  | succ n ih =>
    intro i s τ z hi hF hL hB
    have hm' : τ.1 27 = nI m := (hF.1 27 rfl).trans hm
    have hK := MK_scr hM (Scr_L hF)
    have h14 : τ.2.2.1 14 = σ.2.2.1 14 := hF.2.1 14 rfl
    have r1 : τ.2.2.1 14 i = nI (P i) := by rw [h14]; exact (hr i (by omega)).1
    have r2 : τ.2.2.1 14 (i + 1) = nI (P (i + 1)) := by rw [h14]; exact (hr (i + 1) (by omega)).1
    have p1 := (hr i (by omega)).2
    have p2 := (hr (i + 1) (by omega)).2
    have hw := wat_len (K := K) s.2
    have hb := SB_bits ok hB
    obtain ⟨hB1, hB2, hB3⟩ := hB
    unfold lookK
    refine Wp.n (pc' := 19) 2 rfl ?_
    refine Wp.iaddN (x := i) (y := 1) (len := 1) rfl ?_
    refine Wp.n (pc' := 24) 2 rfl ?_
    refine Wp.top hm' ?_
    refine Wp.nc3 (x := i + 1) (y := m) (tgt := 153) (len := 3) rfl (by omega) (by omega) (fun h24 => ?_) (fun h24 => ?_)
    · omega
    · skip
      refine Wp.n (pc' := 33) 4 rfl ?_
      refine Wp.mialdN (j := i) (len := 1) rfl rfl rfl (by omega) ?_
      refine Wp.top r1 ?_
      refine Wp.n (pc' := 40) 4 rfl ?_
      refine Wp.iaddN (x := i) (y := 1) (len := 1) rfl ?_
      refine Wp.mialdN (j := i + 1) (len := 1) rfl rfl rfl (by omega) ?_
      refine Wp.top r2 ?_
      refine Wp.n (pc' := 43) 1 rfl ?_
      refine Wp.ecallV (len := 3) rfl rfl rfl (rfl) rfl (by decide) rfl (m_joined hK.1 hK.2.2.1 ok p1 p2 hy) ?_
      rcases hj : joinK K (P i) (P (i + 1)) y with _ | j
      · skip
        refine Wp.n (pc' := 49) 3 rfl ?_
        refine Wp.ic1 (tgt := 54) (len := 3) rfl (fun h49 => ?_) (fun h49 => ?_)
        · exact absurd rfl h49
        · skip
          refine Wp.n (pc' := 53) 1 rfl ?_
          refine Wp.retI (len := 1) rfl rfl ?_
          exact ⟨τ, rfl, rfl, hF, hL⟩
      · have hjv := joinK_v ok hj
        have hjb : j < 29 := by
          rcases hjv with q | ⟨q1, q2⟩
          · omega
          · have := LV_8 ok q2; omega
        have hsj := spanJ_b ok hjv
        have hB' := SB_s ok (show SB K i s from ⟨hB1, hB2, hB3⟩) hjv
        refine Wp.n (pc' := 49) 3 rfl ?_
        refine Wp.ic1 (tgt := 54) (len := 3) rfl (fun h49 => ?_) (fun h49 => ?_)
        · skip
          refine Wp.n (pc' := 59) 3 rfl ?_
          refine Wp.top hL.1 ?_
          refine Wp.n (pc' := 61) 2 rfl ?_
          refine Wp.ecallV (len := 3) rfl rfl rfl (rfl) rfl (by decide) rfl (m_longOf hK.1 ok hjv) ?_
          refine Wp.iaddN (x := s.1) (y := spanJ K j) (len := 1) rfl ?_
          refine Wp.mput (len := 3) rfl rfl ?_
          refine Wp.n (pc' := 71) 2 rfl ?_
          refine Wp.nc3 (x := j) (y := 20) (tgt := 77) (len := 3) rfl (by omega) (by omega) (fun h71 => ?_) (fun h71 => ?_)
          · skip
            have hjl : LV K (j - 20) := by
              rcases hjv with q | q
              · omega
              · exact q.2
            have hlb := ok_lane ok hjl
            have hj8 := LV_8 ok hjl
            refine Wp.n (pc' := 82) 3 rfl ?_
            refine Wp.top hL.2.1 ?_
            refine Wp.n (pc' := 86) 3 rfl ?_
            refine Wp.isubN (x := j) (y := 20) (len := 1) rfl (by omega) ?_
            refine Wp.n (pc' := 89) 2 rfl ?_
            refine Wp.top (by rw [n_sh1 _ (by omega), n_or]) ?_
            refine Wp.mput (len := 3) rfl rfl ?_
            refine Wp.n (pc' := 101) 5 rfl ?_
            refine Wp.isubN (x := j) (y := 20) (len := 1) rfl (by omega) ?_
            refine Wp.imulN (x := 7) (y := j - 20) (len := 1) rfl ?_
            refine Wp.n (pc' := 105) 1 rfl ?_
            refine Wp.iaddN (x := 7 * (j - 20)) (y := 6) (len := 1) rfl ?_
            refine Wp.mialdN (j := (7 * (j - 20)) + 6) (len := 1) rfl rfl rfl (by omega) ?_
            refine Wp.top (r0_lane hK.1 hjl (j := 6) (by decide) (by omega)) ?_
            refine Wp.nz1 (x := kl K (j - 20) 6) (tgt := 113) (len := 3) rfl (by omega) (fun h107 => ?_) (fun h107 => ?_)
            · skip
              refine Wp.n (pc' := 121) 4 rfl ?_
              refine Wp.top hL.2.2.1 ?_
              refine Wp.n (pc' := 130) 5 rfl ?_
              refine Wp.isubN (x := j) (y := 20) (len := 1) rfl (by omega) ?_
              refine Wp.imulN (x := 7) (y := j - 20) (len := 1) rfl ?_
              refine Wp.n (pc' := 134) 1 rfl ?_
              refine Wp.iaddN (x := 7 * (j - 20)) (y := 6) (len := 1) rfl ?_
              refine Wp.mialdN (j := (7 * (j - 20)) + 6) (len := 1) rfl rfl rfl (by omega) ?_
              refine Wp.top (r0_lane hK.1 hjl (j := 6) (by decide) (by omega)) ?_
              refine Wp.miastN (j := (wat K s.2).length) (len := 1) rfl rfl rfl (by omega) ?_
              refine Wp.n (pc' := 142) 3 rfl ?_
              refine Wp.top hL.2.2.1 ?_
              refine Wp.n (pc' := 143) 1 rfl ?_
              refine Wp.iaddN (x := (wat K s.2).length) (y := 1) (len := 1) rfl ?_
              refine Wp.mput (len := 3) rfl rfl ?_
              refine Wp.incN (x := i) (len := 3) rfl rfl ?_
              refine Wp.n (pc' := 17) 1 rfl ?_
              first
                | exact ih (i + 1) (addJ K s j) _ _ (by omega) (hF.fset rfl) (LKs_road hL (by omega)) hB'
                | exact ih (i + 1) (addJ K s j) _ _ (by omega) ((hF.fset rfl).fset rfl) (LKs_un hL (by omega) (by omega)) hB'
                | exact ih (i + 1) (addJ K s j) _ _ (by omega) ((((hF.fset rfl).fset rfl).aset rfl).fset rfl) (LKs_w hL (by omega) (by omega)) hB'
            · skip
              refine Wp.n (pc' := 147) 1 rfl ?_
              refine Wp.incN (x := i) (len := 3) rfl rfl ?_
              refine Wp.n (pc' := 17) 1 rfl ?_
              first
                | exact ih (i + 1) (addJ K s j) _ _ (by omega) (hF.fset rfl) (LKs_road hL (by omega)) hB'
                | exact ih (i + 1) (addJ K s j) _ _ (by omega) ((hF.fset rfl).fset rfl) (LKs_un hL (by omega) (by omega)) hB'
                | exact ih (i + 1) (addJ K s j) _ _ (by omega) ((((hF.fset rfl).fset rfl).aset rfl).fset rfl) (LKs_w hL (by omega) (by omega)) hB'
          · skip
            refine Wp.n (pc' := 147) 1 rfl ?_
            refine Wp.incN (x := i) (len := 3) rfl rfl ?_
            refine Wp.n (pc' := 17) 1 rfl ?_
            first
              | exact ih (i + 1) (addJ K s j) _ _ (by omega) (hF.fset rfl) (LKs_road hL (by omega)) hB'
              | exact ih (i + 1) (addJ K s j) _ _ (by omega) ((hF.fset rfl).fset rfl) (LKs_un hL (by omega) (by omega)) hB'
              | exact ih (i + 1) (addJ K s j) _ _ (by omega) ((((hF.fset rfl).fset rfl).aset rfl).fset rfl) (LKs_w hL (by omega) (by omega)) hB'
        · exact absurd h49 (oI_ne (by omega))

theorem m_looks (hM : MK σ K) {m y : Nat} {P : Nat → Nat} (hm : σ.1 27 = nI m) (hm1 : 1 ≤ m) (hm7 : m ≤ 7) (hy : y < 31) (hr : ∀ i, i < m → σ.2.2.1 14 i = nI (P i) ∧ P i < 7) : Wp (d + 3) md_207 0 [some (.ref 287), some (.int (nI y)), none, none] [] (mset M σ) (fun v M' => ∃ τ', v = some (.int (nI (lookK K y P (m - 1) 0 (0, [])).1)) ∧ M' = mset M τ' ∧ Fr LF LA σ τ' ∧ LKs τ' K (lookK K y P (m - 1) 0 (0, [])).2) := by
  refine Wp.n (pc' := 2) 2 rfl ?_
  refine Wp.mput (len := 3) rfl rfl ?_
  refine Wp.n (pc' := 7) 2 rfl ?_
  refine Wp.mput (len := 3) rfl rfl ?_
  refine Wp.n (pc' := 12) 2 rfl ?_
  refine Wp.mput (len := 3) rfl rfl ?_
  refine Wp.n (pc' := 17) 2 rfl ?_
  exact m_looks_l hM hm hm7 hy hr (m - 1) 0 (0, []) _ _ (by omega) (((Fr.rfl'.fset rfl).fset rfl).fset rfl) ⟨rfl, rfl, rfl, fun i hi => absurd hi (Nat.not_lt_zero i)⟩ ⟨Nat.le_refl _, Nat.le_refl _, fun l hl => absurd hl (List.not_mem_nil)⟩

end LOOK
end
section
/-! BOATS, WHAT IS SAVED, DUTY, TOLD WALKS: the reference. -/
def boatK (K : KD) (ls : List Nat) : Bool := ls.any (fun l => decide (kl K l 5 = 2))
def savK (K : KD) (a b len : Nat) : Nat := if distK K a b < 1000000 then distK K a b - len else 0
def dutyS (K : KD) (bt : Bool) (s y load : Nat) : Nat := if bt = true ∨ (kh K 9 = 0 ∧ y % 7 = 6) then 0 else (s - kh K 7) * kh K 6 * (if kh K 10 = 1 then load else 1)
def TRr (K : KD) (w : Nat) : Nat × Nat × List Nat := lookK K (kw K w 2) (fun i => kw K w (4 + i)) (kw K w 3 - 1) 0 (0, [])
def lawK (K : KD) (w : Nat) : Bool := decide ((TRr K w).1 = kw K w 3 - 1)
def savW (K : KD) (w : Nat) : Nat := savK K (kw K w 4) (kw K w (3 + kw K w 3)) (TRr K w).2.1
def dutW (K : KD) (w : Nat) : Nat := dutyS K (boatK K (TRr K w).2.2) (savW K w) (kw K w 2) (kw K w 1)
theorem boat_fnd {K : KD} {ls : List Nat} (h : ∀ l, l ∈ ls → l ≤ 8) : (fnd (fun l => ls.contains l && decide (kl K l 5 = 2)) 9 0).isSome = boatK K ls := by
  unfold boatK
  cases e : fnd (fun l => ls.contains l && decide (kl K l 5 = 2)) 9 0 with
  | none =>
    have hn := fnd_none e
    symm
    rw [Option.isSome_none, List.any_eq_false]
    intro l hl
    have h1 := hn l (by omega) (by have := h l hl; omega)
    rw [List.contains_iff_mem.mpr hl, Bool.true_and] at h1
    rw [h1]
    decide
  | some l =>
    obtain ⟨_, _, h3⟩ := fnd_lt e
    have h3' : (ls.contains l && decide (kl K l 5 = 2)) = true := h3
    rw [Bool.and_eq_true] at h3'
    symm
    rw [Option.isSome_some, List.any_eq_true]
    exact ⟨l, List.contains_iff_mem.mp h3'.1, h3'.2⟩
theorem n_subneg {s f : Nat} (hs : s < 2 ^ 30) (hf : f < 2 ^ 30) (h : s ≤ f) : ¬ (0 : Int32) < nI s - nI f := by
  rw [i_lt, pk_sub_toInt hs hf]
  show ¬ (0 : Int) < _
  omega
theorem dist_774 {K : KD} (ok : KOK K) {a b : Nat} (ha : a < kh K 0) (h : distK K a b < 1000000) : distK K a b ≤ 774 := by
  have : ∀ n a, a < kh K 0 → rnk K b a ≤ n → distK K a b < 1000000 → distK K a b ≤ 129 * n := by
    intro n
    induction n with
    | zero =>
      intro a ha hr hd
      by_cases e : a = b
      · rw [e, (dist_g ok).1]; omega
      · obtain ⟨c, w, h1, h2⟩ := dist_step ok hd e
        have hb := Eg_b ok h1
        have := rnk_s (t := b) (p := a) hb.2.1 (by omega)
        omega
    | succ n ih =>
      intro a ha hr hd
      by_cases e : a = b
      · rw [e, (dist_g ok).1]; omega
      · obtain ⟨c, w, h1, h2⟩ := dist_step ok hd e
        have hb := Eg_b ok h1
        have h3 := rnk_s (t := b) (p := a) hb.2.1 (by omega)
        have := ih c hb.2.1 (by omega) (by omega)
        omega
  have h1 := this 6 a ha (by have := rnk_lt (t := b) ha; have := (ok_h ok).1; omega) h
  omega
theorem savK_b {K : KD} (ok : KOK K) {a b len : Nat} (ha : a < kh K 0) : savK K a b len ≤ 774 := by
  unfold savK
  by_cases c : distK K a b < 1000000
  · rw [if_pos c]
    have := dist_774 ok ha c
    omega
  · rw [if_neg c]; omega
theorem dutyS_b {K : KD} (ok : KOK K) {bt : Bool} {s y load : Nat} (hs : s ≤ 774) (hl : load ≤ 9) : dutyS K bt s y load ≤ 689634 := by
  obtain ⟨b0, b1, b2, b3, b4, b5, b6, b7, b8, b9, b10, b11, b12⟩ := ok_h ok
  unfold dutyS
  by_cases c : bt = true ∨ (kh K 9 = 0 ∧ y % 7 = 6)
  · rw [if_pos c]; omega
  · rw [if_neg c]
    have h1 : (s - kh K 7) * kh K 6 ≤ 774 * 99 := Nat.mul_le_mul (by omega) b6
    have h2 : (if kh K 10 = 1 then load else 1) ≤ 9 := by
      by_cases q : kh K 10 = 1
      · rw [if_pos q]; exact hl
      · rw [if_neg q]; omega
    exact Nat.le_trans (Nat.mul_le_mul h1 h2) (by decide)
section DUTY
variable {d : Nat} {M : AM} {σ σ' : MS} {K : KD} {Q : Option Value → AM → Prop}
theorem m_hasBoat_l (hM : MK σ K) {ls : List Nat} (h29 : σ.1 29 = nI (bitsM ls)) (hls : ∀ l, l ∈ ls → LV K l) : ∀ (n i : Nat), i + n = 9 → Wp d md_216 2 [some (.ref 287), some (.int (nI i))] [] (mset M σ) (IsR (some (.int (bI (fnd (fun l => ls.contains l && decide (kl K l 5 = 2)) n i).isSome))) (mset M σ)) := by
  have ok := hM.2.1
  have hb := bits_lt (fun l hl => LV_8 ok (hls l hl))
  intro n
  induction n with
  | zero =>
    intro i hi
    refine Wp.n (pc' := 5) 2 rfl ?_
    refine Wp.nc4 (x := i) (y := 8) (tgt := 43) (len := 3) rfl (by omega) (by omega) (fun h5 => ?_) (fun h5 => ?_)
    · skip
      refine Wp.n (pc' := 44) 1 rfl ?_
      refine Wp.retZ (len := 1) (c := false) rfl rfl rfl ?_
      exact ⟨rfl, rfl⟩
    · omega
  | succ n ih =>
    intro i hi
    have ht := bits_tb ls i
    have hw := ih (i + 1) (by omega)
    unfold fnd
    refine Wp.n (pc' := 5) 2 rfl ?_
    refine Wp.nc4 (x := i) (y := 8) (tgt := 43) (len := 3) rfl (by first | omega | (rw [ht]; cases ls.contains i <;> decide) | (have := ok_lane ok hl; omega)) (by first | omega | (rw [ht]; cases ls.contains i <;> decide) | (have := ok_lane ok hl; omega)) (fun h5 => ?_) (fun h5 => ?_)
    · omega
    · skip
      refine Wp.n (pc' := 12) 2 rfl ?_
      refine Wp.top h29 ?_
      refine Wp.n (pc' := 16) 4 rfl ?_
      refine Wp.top (n_bitI (by omega) (by omega)) ?_
      refine Wp.n (pc' := 17) 1 rfl ?_
      refine Wp.nc1 (x := ((bitsM ls).testBit i).toNat) (y := 1) (tgt := 37) (len := 3) rfl (by first | omega | (rw [ht]; cases ls.contains i <;> decide) | (have := ok_lane ok hl; omega)) (by first | omega | (rw [ht]; cases ls.contains i <;> decide) | (have := ok_lane ok hl; omega)) (fun h17 => ?_) (fun h17 => ?_)
      · skip
        refine Wp.incN (x := i) (len := 3) rfl rfl ?_
        refine Wp.n (pc' := 2) 1 rfl ?_
        first
          | (rw [if_neg (by rw [hc, decide_eq_false h32]; decide)]; exact hw)
          | (have hc : ls.contains i = false := by
               rw [ht] at h17
               cases e : ls.contains i with
               | false => rfl
               | true => rw [e] at h17; exact absurd rfl h17
             rw [if_neg (by rw [hc, Bool.false_and]; decide)]
             exact hw)
      · skip
        have hc : ls.contains i = true := by
          rw [ht] at h17
          cases e : ls.contains i with
          | true => rfl
          | false => rw [e] at h17; exact absurd h17 (by decide)
        have hl := hls i (List.contains_iff_mem.mp hc)
        refine Wp.n (pc' := 27) 4 rfl ?_
        refine Wp.imulN (x := 7) (y := i) (len := 1) rfl ?_
        refine Wp.n (pc' := 29) 1 rfl ?_
        refine Wp.iaddN (x := 7 * i) (y := 5) (len := 1) rfl ?_
        refine Wp.mialdN (j := (7 * i) + 5) (len := 1) rfl rfl rfl (by omega) ?_
        refine Wp.top (r0_lane hM.1 hl (j := 5) (by decide) (by omega)) ?_
        refine Wp.n (pc' := 32) 1 rfl ?_
        refine Wp.nc1 (x := kl K i 5) (y := 2) (tgt := 37) (len := 3) rfl (by first | omega | (rw [ht]; cases ls.contains i <;> decide) | (have := ok_lane ok hl; omega)) (by first | omega | (rw [ht]; cases ls.contains i <;> decide) | (have := ok_lane ok hl; omega)) (fun h32 => ?_) (fun h32 => ?_)
        · skip
          refine Wp.incN (x := i) (len := 3) rfl rfl ?_
          refine Wp.n (pc' := 2) 1 rfl ?_
          first
            | (rw [if_neg (by rw [hc, decide_eq_false h32]; decide)]; exact hw)
            | (have hc : ls.contains i = false := by
                 rw [ht] at h17
                 cases e : ls.contains i with
                 | false => rfl
                 | true => rw [e] at h17; exact absurd rfl h17
               rw [if_neg (by rw [hc, Bool.false_and]; decide)]
               exact hw)
        · skip
          refine Wp.n (pc' := 36) 1 rfl ?_
          refine Wp.retZ (len := 1) (c := true) rfl rfl rfl ?_
          rw [if_pos (by rw [hc, decide_eq_true h32]; rfl)]
          exact ⟨rfl, rfl⟩

theorem m_hasBoat (hM : MK σ K) {ls : List Nat} (h29 : σ.1 29 = nI (bitsM ls)) (hls : ∀ l, l ∈ ls → LV K l) : Ev d md_216 0 [some (.ref 287), none] [] (mset M σ) (some (.int (bI (boatK K ls))), mset M σ) := by
  refine Wp.toEv ?_
  rw [← boat_fnd (fun l hl => LV_8 hM.2.1 (hls l hl))]
  refine Wp.n (pc' := 2) 2 rfl ?_
  exact m_hasBoat_l hM h29 hls 9 0 (by omega)
/-- the row holds the places P -/
def RW (σ : MS) (m : Nat) (P : Nat → Nat) : Prop := σ.1 27 = nI m ∧ ∀ i, i < m → σ.2.2.1 14 i = nI (P i)
theorem m_savedOf (hM : MK σ K) {m len : Nat} {P : Nat → Nat} (hW : RW σ m P) (hm1 : 1 ≤ m) (hm7 : m ≤ 7) (hP : ∀ i, i < m → P i < kh K 0) (hlen : len ≤ 2000) (h28 : σ.1 28 = nI len) {y : Int32} : Wp (d + 2) md_212 0 [some (.ref 287), some (.int y), none] [] (mset M σ) (fun v M' => v = some (.int (nI (savK K (P 0) (P (m - 1)) len))) ∧ ∃ h, M' = mset M (aset σ 13 h)) := by
  have ok := hM.2.1
  obtain ⟨b0, b1, b2, b3, b4, b5, b6, b7, b8, b9, b10, b11, b12⟩ := ok_h ok
  have p0 := hP 0 (by omega)
  have p1 := hP (m - 1) (by omega)
  have hd := dist_le ok (P 0) (P (m - 1))
  unfold savK
  by_cases c : distK K (P 0) (P (m - 1)) < 1000000
  · rw [if_pos c]
    have e1 : dI (distK K (P 0) (P (m - 1))) = nI (distK K (P 0) (P (m - 1))) := if_pos c
    refine Wp.n (pc' := 6) 4 rfl ?_
    refine Wp.mialdN (j := 0) (len := 1) rfl rfl rfl (by omega) ?_
    refine Wp.top (hW.2 0 (by omega)) ?_
    refine Wp.n (pc' := 15) 4 rfl ?_
    refine Wp.top hW.1 ?_
    refine Wp.n (pc' := 16) 1 rfl ?_
    refine Wp.isubN (x := m) (y := 1) (len := 1) rfl (by omega) ?_
    refine Wp.mialdN (j := m - 1) (len := 1) rfl rfl rfl (by omega) ?_
    refine Wp.top (hW.2 (m - 1) (by omega)) ?_
    refine Wp.callV (len := 3) rfl rfl rfl (rfl) rfl (by decide) rfl (m_byRoad hM.1 ok p0 (by omega)) ?_
    rintro _ _ ⟨rfl, h, rfl, hh⟩
    refine Wp.top e1 ?_
    refine Wp.n (pc' := 24) 3 rfl ?_
    refine Wp.ic0 (tgt := 35) (len := 3) rfl (fun h24 => ?_) (fun h24 => ?_)
    · exact absurd h24 (oI_ne (by omega))
    · skip
      refine Wp.n (pc' := 32) 3 rfl ?_
      refine Wp.top h28 ?_
      refine Wp.nc3 (x := distK K (P 0) (P (m - 1))) (y := len) (tgt := 39) (len := 3) rfl (by omega) (by omega) (fun h32 => ?_) (fun h32 => ?_)
      · skip
        refine Wp.n (pc' := 44) 3 rfl ?_
        refine Wp.top h28 ?_
        refine Wp.isubN (x := distK K (P 0) (P (m - 1))) (y := len) (len := 1) rfl (by omega) ?_
        refine Wp.retI (len := 1) rfl rfl ?_
        first | exact ⟨rfl, h, rfl⟩ | (rw [show distK K (P 0) (P (m - 1)) - len = 0 by omega]; exact ⟨rfl, h, rfl⟩)
      · skip
        refine Wp.n (pc' := 45) 2 rfl ?_
        refine Wp.retI (len := 1) rfl rfl ?_
        first | exact ⟨rfl, h, rfl⟩ | (rw [show distK K (P 0) (P (m - 1)) - len = 0 by omega]; exact ⟨rfl, h, rfl⟩)
  · rw [if_neg c]
    have e1 : dI (distK K (P 0) (P (m - 1))) = -1 := if_neg c
    refine Wp.n (pc' := 6) 4 rfl ?_
    refine Wp.mialdN (j := 0) (len := 1) rfl rfl rfl (by omega) ?_
    refine Wp.top (hW.2 0 (by omega)) ?_
    refine Wp.n (pc' := 15) 4 rfl ?_
    refine Wp.top hW.1 ?_
    refine Wp.n (pc' := 16) 1 rfl ?_
    refine Wp.isubN (x := m) (y := 1) (len := 1) rfl (by omega) ?_
    refine Wp.mialdN (j := m - 1) (len := 1) rfl rfl rfl (by omega) ?_
    refine Wp.top (hW.2 (m - 1) (by omega)) ?_
    refine Wp.callV (len := 3) rfl rfl rfl (rfl) rfl (by decide) rfl (m_byRoad hM.1 ok p0 (by omega)) ?_
    rintro _ _ ⟨rfl, h, rfl, hh⟩
    refine Wp.top e1 ?_
    refine Wp.n (pc' := 24) 3 rfl ?_
    refine Wp.ic0 (tgt := 35) (len := 3) rfl (fun h24 => ?_) (fun h24 => ?_)
    · skip
      refine Wp.n (pc' := 45) 2 rfl ?_
      refine Wp.retI (len := 1) rfl rfl ?_
      exact ⟨rfl, h, rfl⟩
    · exact absurd rfl h24

theorem m_dutyOf (hM : MK σ K) {m len y load : Nat} {P : Nat → Nat} {ls : List Nat} (hW : RW σ m P) (hm1 : 1 ≤ m) (hm7 : m ≤ 7) (hP : ∀ i, i < m → P i < kh K 0) (hlen : len ≤ 2000) (h28 : σ.1 28 = nI len) (h29 : σ.1 29 = nI (bitsM ls)) (hls : ∀ l, l ∈ ls → LV K l) (hy : y < 31) (hload : load ≤ 9) : Wp (d + 3) md_215 0 [some (.ref 287), some (.int (nI y)), some (.int (nI load)), none] [] (mset M σ) (fun v M' => v = some (.int (nI (dutyS K (boatK K ls) (savK K (P 0) (P (m - 1)) len) y load))) ∧ ∃ h, M' = mset M (aset σ 13 h)) := by
  have ok := hM.2.1
  obtain ⟨b0, b1, b2, b3, b4, b5, b6, b7, b8, b9, b10, b11, b12⟩ := ok_h ok
  have p0 := hP 0 (by omega)
  have hs := savK_b (b := P (m - 1)) (len := len) ok p0
  have e0 : mset M σ = mset M (aset σ 13 (σ.2.2.1 13)) := by rw [aset_same]
  have l0 : σ.2.2.1 7 0 = nI (kh K 6) := r0_law hM.1 (by omega) (j := 0) (by decide)
  have l1 : σ.2.2.1 7 1 = nI (kh K 7) := r0_law hM.1 (by omega) (j := 1) (by decide)
  have l3 : σ.2.2.1 7 3 = nI (kh K 9) := r0_law hM.1 (by omega) (j := 3) (by decide)
  have l4 : σ.2.2.1 7 4 = nI (kh K 10) := r0_law hM.1 (by omega) (j := 4) (by decide)
  unfold dutyS
  refine Wp.n (pc' := 1) 1 rfl ?_
  refine Wp.ecallV (len := 3) rfl rfl rfl (rfl) rfl (by decide) rfl (m_hasBoat hM h29 hls) ?_
  refine Wp.ifb1 (tgt := 25) (len := 3) rfl (fun h4 => ?_) (fun h4 => ?_)
  · skip
    refine Wp.n (pc' := 26) 1 rfl ?_
    refine Wp.retI (len := 1) rfl rfl ?_
    first
      | (rw [if_pos (Or.inl (by assumption))]; exact ⟨rfl, _, e0⟩)
      | (rw [if_pos (Or.inr ⟨by omega, by omega⟩)]; exact ⟨rfl, _, e0⟩)
  · skip
    refine Wp.n (pc' := 12) 3 rfl ?_
    refine Wp.mialdN (j := 3) (len := 1) rfl rfl rfl (by omega) ?_
    refine Wp.top l3 ?_
    refine Wp.nz1 (x := kh K 9) (tgt := 27) (len := 3) rfl (by omega) (fun h13 => ?_) (fun h13 => ?_)
    · skip
      refine Wp.n (pc' := 29) 2 rfl ?_
      refine Wp.callV (len := 3) rfl rfl rfl (rfl) rfl (by decide) rfl (m_savedOf hM hW hm1 hm7 hP hlen h28) ?_
      rintro _ _ ⟨rfl, h, rfl⟩
      generalize savK K (P 0) (P (m - 1)) len = sv at hs ⊢
      refine Wp.n (pc' := 37) 3 rfl ?_
      refine Wp.mialdN (j := 1) (len := 1) rfl rfl rfl (by omega) ?_
      refine Wp.top l1 ?_
      by_cases c : kh K 7 ≤ sv
      · skip
        refine Wp.isubN (x := sv) (y := kh K 7) (len := 1) rfl (by omega) ?_
        refine Wp.n (pc' := 41) 2 rfl ?_
        refine Wp.nz4 (x := sv - (kh K 7)) (tgt := 48) (len := 3) rfl (by omega) (fun h41 => ?_) (fun h41 => ?_)
        · skip
          refine Wp.n (pc' := 54) 4 rfl ?_
          refine Wp.mialdN (j := 0) (len := 1) rfl rfl rfl (by omega) ?_
          refine Wp.top l0 ?_
          refine Wp.imulN (x := sv - (kh K 7)) (y := kh K 6) (len := 1) rfl ?_
          refine Wp.n (pc' := 61) 3 rfl ?_
          refine Wp.mialdN (j := 4) (len := 1) rfl rfl rfl (by omega) ?_
          refine Wp.top l4 ?_
          refine Wp.n (pc' := 63) 1 rfl ?_
          refine Wp.nc1 (x := kh K 10) (y := 1) (tgt := 70) (len := 3) rfl (by omega) (by omega) (fun h63 => ?_) (fun h63 => ?_)
          · skip
            refine Wp.n (pc' := 71) 1 rfl ?_
            refine Wp.imulN (x := (sv - (kh K 7)) * (kh K 6)) (y := 1) (len := 1) rfl ?_
            refine Wp.retI (len := 1) rfl rfl ?_
            rw [if_neg (by rintro (q | q); exact absurd (q.symm.trans h4) (by decide); omega)]
            first
              | (rw [show sv - kh K 7 = 0 by omega, Nat.zero_mul, Nat.zero_mul]; exact ⟨rfl, h, rfl⟩)
              | (rw [if_pos (by omega)]; exact ⟨rfl, h, rfl⟩)
              | (rw [if_neg (by omega)]; exact ⟨rfl, h, rfl⟩)
          · skip
            refine Wp.n (pc' := 71) 2 rfl ?_
            refine Wp.imulN (x := (sv - (kh K 7)) * (kh K 6)) (y := load) (len := 1) rfl ?_
            refine Wp.retI (len := 1) rfl rfl ?_
            rw [if_neg (by rintro (q | q); exact absurd (q.symm.trans h4) (by decide); omega)]
            first
              | (rw [show sv - kh K 7 = 0 by omega, Nat.zero_mul, Nat.zero_mul]; exact ⟨rfl, h, rfl⟩)
              | (rw [if_pos (by omega)]; exact ⟨rfl, h, rfl⟩)
              | (rw [if_neg (by omega)]; exact ⟨rfl, h, rfl⟩)
        · skip
          refine Wp.n (pc' := 72) 2 rfl ?_
          refine Wp.retI (len := 1) rfl rfl ?_
          rw [if_neg (by rintro (q | q); exact absurd (q.symm.trans h4) (by decide); omega)]
          first
            | (rw [show sv - kh K 7 = 0 by omega, Nat.zero_mul, Nat.zero_mul]; exact ⟨rfl, h, rfl⟩)
            | (rw [if_pos (by omega)]; exact ⟨rfl, h, rfl⟩)
            | (rw [if_neg (by omega)]; exact ⟨rfl, h, rfl⟩)
      · skip
        refine Wp.n (pc' := 41) 3 rfl ?_
        refine Wp.if4 (tgt := 48) (len := 3) rfl (fun h41 => ?_) (fun h41 => ?_)
        · exact absurd h41 (n_subneg (by omega) (by omega) (by omega))
        · skip
          refine Wp.n (pc' := 72) 2 rfl ?_
          refine Wp.retI (len := 1) rfl rfl ?_
          rw [if_neg (by rintro (q | q); exact absurd (q.symm.trans h4) (by decide); omega)]
          first
            | (rw [show sv - kh K 7 = 0 by omega, Nat.zero_mul, Nat.zero_mul]; exact ⟨rfl, h, rfl⟩)
            | (rw [if_pos (by omega)]; exact ⟨rfl, h, rfl⟩)
            | (rw [if_neg (by omega)]; exact ⟨rfl, h, rfl⟩)
    · skip
      refine Wp.n (pc' := 19) 2 rfl ?_
      refine Wp.s (pc' := 20) rfl ?_
      refine Wp.top (pk_rem (by omega) (by decide) (by decide)) ?_
      refine Wp.n (pc' := 22) 1 rfl ?_
      refine Wp.nc1 (x := y % 7) (y := 6) (tgt := 27) (len := 3) rfl (by omega) (by omega) (fun h22 => ?_) (fun h22 => ?_)
      · skip
        refine Wp.n (pc' := 29) 2 rfl ?_
        refine Wp.callV (len := 3) rfl rfl rfl (rfl) rfl (by decide) rfl (m_savedOf hM hW hm1 hm7 hP hlen h28) ?_
        rintro _ _ ⟨rfl, h, rfl⟩
        generalize savK K (P 0) (P (m - 1)) len = sv at hs ⊢
        refine Wp.n (pc' := 37) 3 rfl ?_
        refine Wp.mialdN (j := 1) (len := 1) rfl rfl rfl (by omega) ?_
        refine Wp.top l1 ?_
        by_cases c : kh K 7 ≤ sv
        · skip
          refine Wp.isubN (x := sv) (y := kh K 7) (len := 1) rfl (by omega) ?_
          refine Wp.n (pc' := 41) 2 rfl ?_
          refine Wp.nz4 (x := sv - (kh K 7)) (tgt := 48) (len := 3) rfl (by omega) (fun h41 => ?_) (fun h41 => ?_)
          · skip
            refine Wp.n (pc' := 54) 4 rfl ?_
            refine Wp.mialdN (j := 0) (len := 1) rfl rfl rfl (by omega) ?_
            refine Wp.top l0 ?_
            refine Wp.imulN (x := sv - (kh K 7)) (y := kh K 6) (len := 1) rfl ?_
            refine Wp.n (pc' := 61) 3 rfl ?_
            refine Wp.mialdN (j := 4) (len := 1) rfl rfl rfl (by omega) ?_
            refine Wp.top l4 ?_
            refine Wp.n (pc' := 63) 1 rfl ?_
            refine Wp.nc1 (x := kh K 10) (y := 1) (tgt := 70) (len := 3) rfl (by omega) (by omega) (fun h63 => ?_) (fun h63 => ?_)
            · skip
              refine Wp.n (pc' := 71) 1 rfl ?_
              refine Wp.imulN (x := (sv - (kh K 7)) * (kh K 6)) (y := 1) (len := 1) rfl ?_
              refine Wp.retI (len := 1) rfl rfl ?_
              rw [if_neg (by rintro (q | q); exact absurd (q.symm.trans h4) (by decide); omega)]
              first
                | (rw [show sv - kh K 7 = 0 by omega, Nat.zero_mul, Nat.zero_mul]; exact ⟨rfl, h, rfl⟩)
                | (rw [if_pos (by omega)]; exact ⟨rfl, h, rfl⟩)
                | (rw [if_neg (by omega)]; exact ⟨rfl, h, rfl⟩)
            · skip
              refine Wp.n (pc' := 71) 2 rfl ?_
              refine Wp.imulN (x := (sv - (kh K 7)) * (kh K 6)) (y := load) (len := 1) rfl ?_
              refine Wp.retI (len := 1) rfl rfl ?_
              rw [if_neg (by rintro (q | q); exact absurd (q.symm.trans h4) (by decide); omega)]
              first
                | (rw [show sv - kh K 7 = 0 by omega, Nat.zero_mul, Nat.zero_mul]; exact ⟨rfl, h, rfl⟩)
                | (rw [if_pos (by omega)]; exact ⟨rfl, h, rfl⟩)
                | (rw [if_neg (by omega)]; exact ⟨rfl, h, rfl⟩)
          · skip
            refine Wp.n (pc' := 72) 2 rfl ?_
            refine Wp.retI (len := 1) rfl rfl ?_
            rw [if_neg (by rintro (q | q); exact absurd (q.symm.trans h4) (by decide); omega)]
            first
              | (rw [show sv - kh K 7 = 0 by omega, Nat.zero_mul, Nat.zero_mul]; exact ⟨rfl, h, rfl⟩)
              | (rw [if_pos (by omega)]; exact ⟨rfl, h, rfl⟩)
              | (rw [if_neg (by omega)]; exact ⟨rfl, h, rfl⟩)
        · skip
          refine Wp.n (pc' := 41) 3 rfl ?_
          refine Wp.if4 (tgt := 48) (len := 3) rfl (fun h41 => ?_) (fun h41 => ?_)
          · exact absurd h41 (n_subneg (by omega) (by omega) (by omega))
          · skip
            refine Wp.n (pc' := 72) 2 rfl ?_
            refine Wp.retI (len := 1) rfl rfl ?_
            rw [if_neg (by rintro (q | q); exact absurd (q.symm.trans h4) (by decide); omega)]
            first
              | (rw [show sv - kh K 7 = 0 by omega, Nat.zero_mul, Nat.zero_mul]; exact ⟨rfl, h, rfl⟩)
              | (rw [if_pos (by omega)]; exact ⟨rfl, h, rfl⟩)
              | (rw [if_neg (by omega)]; exact ⟨rfl, h, rfl⟩)
      · skip
        refine Wp.n (pc' := 26) 1 rfl ?_
        refine Wp.retI (len := 1) rfl rfl ?_
        first
          | (rw [if_pos (Or.inl (by assumption))]; exact ⟨rfl, _, e0⟩)
          | (rw [if_pos (Or.inr ⟨by omega, by omega⟩)]; exact ⟨rfl, _, e0⟩)

theorem m_dutyOf1 (hM : MK σ K) {w : Nat} {P : Nat → Nat} (hw : w < kh K 4) (hP : P = fun i => kw K w (4 + i)) (hW : RW σ (kw K w 3) P) {s : Nat × List Nat} (hs : SB K 6 s) (hL : LKs σ K s) : Wp (d + 4) md_214 0 [some (.ref 287), some (.int (nI w))] [] (mset M σ) (fun v M' => v = some (.int (nI (dutyS K (boatK K s.2) (savK K (kw K w 4) (kw K w (3 + kw K w 3)) s.1) (kw K w 2) (kw K w 1)))) ∧ ∃ h, M' = mset M (aset σ 13 h)) := by
  have ok := hM.2.1
  obtain ⟨b0, b1, b2, b3, b4, b5, b6, b7, b8, b9, b10, b11, b12⟩ := ok_h ok
  have t := ok_walk ok hw
  have w1 := r0_walk hM.1 hw (j := 1) (q := 11 * w + 1) (by decide) (by omega)
  have w2 := r0_walk hM.1 hw (j := 2) (q := 11 * w + 2) (by decide) (by omega)
  have e1 : P (kw K w 3 - 1) = kw K w (3 + kw K w 3) := by rw [hP]; show kw K w (4 + (kw K w 3 - 1)) = _; rw [show 4 + (kw K w 3 - 1) = 3 + kw K w 3 by omega]
  have e2 : P 0 = kw K w 4 := by rw [hP]
  rw [← e1, ← e2]
  refine Wp.n (pc' := 4) 4 rfl ?_
  refine Wp.ecallV (len := 3) rfl rfl rfl (rfl) rfl (by decide) rfl (m_of σ w 2 (by omega)) ?_
  refine Wp.top w2 ?_
  refine Wp.n (pc' := 10) 3 rfl ?_
  refine Wp.ecallV (len := 3) rfl rfl rfl (rfl) rfl (by decide) rfl (m_of σ w 1 (by omega)) ?_
  refine Wp.top w1 ?_
  refine Wp.callV (len := 3) rfl rfl rfl (rfl) rfl (by decide) rfl (m_dutyOf hM hW (by omega) (by omega) (fun i hi => by rw [hP]; exact t.2.2.2.2.2.2.1 i hi) (by have := hs.1; omega) hL.1 hL.2.1 hs.2.2 (by omega) (by omega)) ?_
  rintro _ _ ⟨rfl, h, rfl⟩
  refine Wp.retI (len := 1) rfl rfl ?_
  exact ⟨rfl, h, rfl⟩

end DUTY
end
section
/-! TOLD WALKS, in the reference; its public questions of the first kind. -/
def GA (σ : MS) (K : KD) (w : Nat) : Prop := RW σ (kw K w 3) (fun i => kw K w (4 + i)) ∧ LKs σ K (TRr K w).2
def RI (M : AM) (σ : MS) (a : Int32) : Option Value → AM → Prop := fun v M' => v = some (.int a) ∧ ∃ σ', M' = mset M σ' ∧ Scr σ σ'
def RJ (M : AM) (σ : MS) (a : Int64) : Option Value → AM → Prop := fun v M' => v = some (.long a) ∧ ∃ σ', M' = mset M σ' ∧ Scr σ σ'
theorem Scr_r {σ : MS} : Scr σ σ := Fr.rfl'
theorem Scr_t {σ σ' σ'' : MS} (h : Scr σ σ') (h' : Scr σ' σ'') : Scr σ σ'' := Fr.trans h h'
theorem Scr_13 {σ σ' : MS} {f : Nat → Int32} (h : Scr σ σ') : Scr σ (aset σ' 13 f) := Fr.aset h rfl
theorem RI_r {M : AM} {σ : MS} {a b : Int32} (h : a = b) : RI M σ b (some (.int a)) (mset M σ) := ⟨by rw [h], σ, rfl, Scr_r⟩
theorem RI_s {M : AM} {σ σ' : MS} {a b : Int32} (e : Scr σ σ') (h : a = b) : RI M σ b (some (.int a)) (mset M σ') := ⟨by rw [h], σ', rfl, e⟩
theorem RJ_s {M : AM} {σ σ' : MS} {a b : Int64} (e : Scr σ σ') (h : a = b) : RJ M σ b (some (.long a)) (mset M σ') := ⟨by rw [h], σ', rfl, e⟩
theorem TRr_b {K : KD} (ok : KOK K) {w : Nat} (hw : w < kh K 4) : SB K 6 (TRr K w).2 ∧ (TRr K w).1 ≤ kw K w 3 - 1 := by
  have t := ok_walk ok hw
  obtain ⟨⟨h1, h2, h3⟩, h4, _⟩ := lookK_b ok (y := kw K w 2) (P := fun i => kw K w (4 + i)) (kw K w 3 - 1) 0 (0, []) ⟨Nat.le_refl _, Nat.le_refl _, fun l hl => absurd hl List.not_mem_nil⟩
  refine ⟨⟨?_, ?_, h3⟩, ?_⟩
  · show (TRr K w).2.1 ≤ _
    unfold TRr
    omega
  · show (TRr K w).2.2.length ≤ _
    unfold TRr
    omega
  · unfold TRr
    omega
section WALKS
variable {d : Nat} {M : AM} {σ σ' : MS} {K : KD} {Q : Option Value → AM → Prop}
theorem m_ga_l (hM : MK σ K) {w : Nat} (hw : w < kh K 4) : ∀ (n i : Nat) (τ : MS), i + n = kw K w 3 → Fr [27] [14] σ τ → τ.1 27 = nI (kw K w 3) → (∀ j, j < i → τ.2.2.1 14 j = nI (kw K w (4 + j))) → (∀ τ', Fr [27] [14] σ τ' → RW τ' (kw K w 3) (fun i => kw K w (4 + i)) → Wp (d + 1) md_206 39 [some (.ref 287), some (.int (nI w)), some (.int (nI (kw K w 3)))] [] (mset M τ') Q) → Wp (d + 1) md_206 11 [some (.ref 287), some (.int (nI w)), some (.int (nI i))] [] (mset M τ) Q := by
  have ok := hM.2.1
  have t := ok_walk ok hw
  intro n
  obtain ⟨b0, b1, b2, b3, b4, b5, b6, b7, b8, b9, b10, b11, b12⟩ := ok_h ok
  induction n with
  | zero =>
    intro i τ hi hF h27 hr k
    refine Wp.n (pc' := 16) 3 rfl ?_
    refine Wp.top h27 ?_
    refine Wp.nc3 (x := i) (y := kw K w 3) (tgt := 39) (len := 3) rfl (by omega) (by omega) (fun h16 => ?_) (fun h16 => ?_)
    · skip
      have e : i = kw K w 3 := by omega
      rw [e] at hr ⊢
      exact k τ hF ⟨h27, hr⟩
    · omega
  | succ n ih =>
    intro i τ hi hF h27 hr k
    have hK := MK_scr hM (Fr.mono hF rfl rfl)
    have e := r0_stop hK.1 hw (j := i) (q := 11 * w + (4 + i)) (by omega) (by omega)
    refine Wp.n (pc' := 16) 3 rfl ?_
    refine Wp.top h27 ?_
    refine Wp.nc3 (x := i) (y := kw K w 3) (tgt := 39) (len := 3) rfl (by omega) (by omega) (fun h16 => ?_) (fun h16 => ?_)
    · omega
    · skip
      refine Wp.n (pc' := 28) 7 rfl ?_
      refine Wp.iaddN (x := 4) (y := i) (len := 1) rfl ?_
      refine Wp.ecallV (len := 3) rfl rfl rfl (rfl) rfl (by decide) rfl (m_of τ w (4 + i) (by omega)) ?_
      refine Wp.top e ?_
      refine Wp.miastN (j := i) (len := 1) rfl rfl rfl (by omega) ?_
      refine Wp.incN (x := i) (len := 3) rfl rfl ?_
      refine Wp.n (pc' := 11) 1 rfl ?_
      refine ih (i + 1) _ (by omega) (hF.aset rfl) h27 (fun j hj => ?_) k
      show upd (τ.2.2.1 14) i _ j = _
      by_cases c : j = i
      · rw [c, pk_us]
      · rw [pk_un c]
        exact hr j (by omega)

theorem m_goesAs (hM : MK σ K) {w : Nat} (hw : w < kh K 4) : Wp (d + 4) md_206 0 [some (.ref 287), some (.int (nI w)), none] [] (mset M σ) (fun v M' => v = some (.int (bI (lawK K w))) ∧ ∃ σ', M' = mset M σ' ∧ Scr σ σ' ∧ GA σ' K w) := by
  have ok := hM.2.1
  have t := ok_walk ok hw
  obtain ⟨b0, b1, b2, b3, b4, b5, b6, b7, b8, b9, b10, b11, b12⟩ := ok_h ok
  have tb := (TRr_b ok hw).2
  refine Wp.n (pc' := 3) 3 rfl ?_
  refine Wp.ecallV (len := 3) rfl rfl rfl (rfl) rfl (by decide) rfl (m_many0 hM.1 ok hw) ?_
  refine Wp.mput (len := 3) rfl rfl ?_
  refine Wp.n (pc' := 11) 2 rfl ?_
  refine m_ga_l hM hw (kw K w 3) 0 _ (by omega) (Fr.rfl'.fset rfl) rfl (fun j hj => absurd hj (Nat.not_lt_zero j)) (fun τ hF hW => ?_)
  have hK := MK_scr hM (Fr.mono hF rfl rfl)
  have e := r0_walk hK.1 hw (j := 2) (q := 11 * w + 2) (by decide) (by omega)
  refine Wp.n (pc' := 43) 4 rfl ?_
  refine Wp.ecallV (len := 3) rfl rfl rfl (rfl) rfl (by decide) rfl (m_of τ w 2 (by omega)) ?_
  refine Wp.top e ?_
  refine Wp.callV (len := 3) rfl rfl rfl (rfl) rfl (by decide) rfl (m_looks hK hW.1 (by omega) (by omega) (by omega) (fun i hi => ⟨hW.2 i hi, by have := t.2.2.2.2.2.2.1 i hi; omega⟩)) ?_
  rintro _ _ ⟨τ', rfl, rfl, hF', hL'⟩
  refine Wp.n (pc' := 53) 2 rfl ?_
  refine Wp.top ((hF'.1 27 rfl).trans hW.1) ?_
  refine Wp.n (pc' := 54) 1 rfl ?_
  refine Wp.isubN (x := kw K w 3) (y := 1) (len := 1) rfl (by omega) ?_
  refine Wp.nc1 (x := (TRr K w).1) (y := (kw K w 3) - 1) (tgt := 62) (len := 3) rfl (by omega) (by omega) (fun h55 => ?_) (fun h55 => ?_)
  · skip
    refine Wp.n (pc' := 63) 1 rfl ?_
    refine Wp.retZ (len := 1) (c := false) rfl rfl rfl ?_
    refine ⟨?_, τ', rfl, Scr_t (Fr.mono hF rfl rfl) (Fr.mono hF' rfl rfl), ⟨(hF'.1 27 rfl).trans hW.1, fun i hi => ?_⟩, hL'⟩
    · unfold lawK
      first | rw [decide_eq_true (by omega)] | rw [decide_eq_false (by omega)]
    · rw [hF'.2.1 14 rfl]
      exact hW.2 i hi
  · skip
    refine Wp.n (pc' := 63) 2 rfl ?_
    refine Wp.retZ (len := 1) (c := true) rfl rfl rfl ?_
    refine ⟨?_, τ', rfl, Scr_t (Fr.mono hF rfl rfl) (Fr.mono hF' rfl rfl), ⟨(hF'.1 27 rfl).trans hW.1, fun i hi => ?_⟩, hL'⟩
    · unfold lawK
      first | rw [decide_eq_true (by omega)] | rw [decide_eq_false (by omega)]
    · rw [hF'.2.1 14 rfl]
      exact hW.2 i hi
  


def stepsA (K : KD) (x : Int32) : Int32 := if isN (kh K 4) x = true then nI (TRr K x.toNatClampNeg).1 else -2
def lengthA (K : KD) (x : Int32) : Int32 := if isN (kh K 4) x = true then (bif lawK K x.toNatClampNeg then nI (TRr K x.toNatClampNeg).2.1 else -1) else -2
def savedA (K : KD) (x : Int32) : Int32 := if isN (kh K 4) x = true then (bif lawK K x.toNatClampNeg then nI (savW K x.toNatClampNeg) else -1) else -2
def dutyA (K : KD) (x : Int32) : Int32 := if isN (kh K 4) x = true then (bif lawK K x.toNatClampNeg then nI (dutW K x.toNatClampNeg) else -1) else -2
def lanesA (K : KD) (x : Int32) : Int32 := if isN (kh K 4) x = true then (bif lawK K x.toNatClampNeg then nI (bitsM (TRr K x.toNatClampNeg).2.2) else -1) else -2

theorem m_length (hM : MK σ K) (x : Int32) : Wp (d + 5) md_210 0 [some (.ref 287), some (.int x)] [] (mset M σ) (RI M σ (lengthA K x)) := by
  have ok := hM.2.1
  have hσ0 := hM.2.2.2
  obtain ⟨b0, b1, b2, b3, b4, b5, b6, b7, b8, b9, b10, b11, b12⟩ := ok_h ok
  unfold lengthA
  refine Wp.n (pc' := 2) 2 rfl ?_
  refine Wp.mput0 (len := 3) rfl hσ0 ?_
  refine Wp.n (pc' := 7) 2 rfl ?_
  refine Wp.ecallV (len := 3) rfl rfl rfl (rfl) rfl (by decide) rfl (m_isWalkK hM.1 ok _) ?_
  refine Wp.ifb1 (tgt := 18) (len := 3) rfl (fun h10 => ?_) (fun h10 => ?_)
  · skip
    obtain ⟨w, hw, rfl⟩ := isN_of h10
    have t := ok_walk ok hw
    rw [if_pos h10, nI_clamp (by omega)]
    refine Wp.n (pc' := 20) 2 rfl ?_
    refine Wp.callV (len := 3) rfl rfl rfl (rfl) rfl (by decide) rfl (m_goesAs hM hw) ?_
    rintro _ _ ⟨rfl, τ, rfl, hS, hG⟩
    refine Wp.ifb0 (tgt := 33) (len := 3) rfl (fun h23 => ?_) (fun h23 => ?_)
    · skip
      refine Wp.n (pc' := 34) 1 rfl ?_
      refine Wp.retI (len := 1) rfl rfl ?_
      first
        | (rw [if_neg (by rw [h10]; decide)]; exact RI_r rfl)
        | (exact RI_s hS (by rw [h23]; rfl))
        | exact RI_s hS (by rw [h23]; rfl)
    · skip
      refine Wp.n (pc' := 30) 2 rfl ?_
      refine Wp.top hG.2.1 ?_
      refine Wp.n (pc' := 34) 1 rfl ?_
      refine Wp.retI (len := 1) rfl rfl ?_
      first
        | (rw [if_neg (by rw [h10]; decide)]; exact RI_r rfl)
        | (exact RI_s hS (by rw [h23]; rfl))
        | exact RI_s hS (by rw [h23]; rfl)
  · skip
    refine Wp.n (pc' := 34) 2 rfl ?_
    refine Wp.retI (len := 1) rfl rfl ?_
    first
      | (rw [if_neg (by rw [h10]; decide)]; exact RI_r rfl)
      | (exact RI_s hS (by rw [h23]; rfl))
      | exact RI_s hS (by rw [h23]; rfl)


theorem m_lanes (hM : MK σ K) (x : Int32) : Wp (d + 5) md_217 0 [some (.ref 287), some (.int x)] [] (mset M σ) (RI M σ (lanesA K x)) := by
  have ok := hM.2.1
  have hσ0 := hM.2.2.2
  obtain ⟨b0, b1, b2, b3, b4, b5, b6, b7, b8, b9, b10, b11, b12⟩ := ok_h ok
  unfold lanesA
  refine Wp.n (pc' := 2) 2 rfl ?_
  refine Wp.mput0 (len := 3) rfl hσ0 ?_
  refine Wp.n (pc' := 7) 2 rfl ?_
  refine Wp.ecallV (len := 3) rfl rfl rfl (rfl) rfl (by decide) rfl (m_isWalkK hM.1 ok _) ?_
  refine Wp.ifb1 (tgt := 18) (len := 3) rfl (fun h10 => ?_) (fun h10 => ?_)
  · skip
    obtain ⟨w, hw, rfl⟩ := isN_of h10
    have t := ok_walk ok hw
    rw [if_pos h10, nI_clamp (by omega)]
    refine Wp.n (pc' := 20) 2 rfl ?_
    refine Wp.callV (len := 3) rfl rfl rfl (rfl) rfl (by decide) rfl (m_goesAs hM hw) ?_
    rintro _ _ ⟨rfl, τ, rfl, hS, hG⟩
    refine Wp.ifb0 (tgt := 33) (len := 3) rfl (fun h23 => ?_) (fun h23 => ?_)
    · skip
      refine Wp.n (pc' := 34) 1 rfl ?_
      refine Wp.retI (len := 1) rfl rfl ?_
      first
        | (rw [if_neg (by rw [h10]; decide)]; exact RI_r rfl)
        | (exact RI_s hS (by rw [h23]; rfl))
        | exact RI_s hS (by rw [h23]; rfl)
    · skip
      refine Wp.n (pc' := 30) 2 rfl ?_
      refine Wp.top hG.2.2.1 ?_
      refine Wp.n (pc' := 34) 1 rfl ?_
      refine Wp.retI (len := 1) rfl rfl ?_
      first
        | (rw [if_neg (by rw [h10]; decide)]; exact RI_r rfl)
        | (exact RI_s hS (by rw [h23]; rfl))
        | exact RI_s hS (by rw [h23]; rfl)
  · skip
    refine Wp.n (pc' := 34) 2 rfl ?_
    refine Wp.retI (len := 1) rfl rfl ?_
    first
      | (rw [if_neg (by rw [h10]; decide)]; exact RI_r rfl)
      | (exact RI_s hS (by rw [h23]; rfl))
      | exact RI_s hS (by rw [h23]; rfl)


theorem m_saved (hM : MK σ K) (x : Int32) : Wp (d + 5) md_211 0 [some (.ref 287), some (.int x)] [] (mset M σ) (RI M σ (savedA K x)) := by
  have ok := hM.2.1
  have hσ0 := hM.2.2.2
  obtain ⟨b0, b1, b2, b3, b4, b5, b6, b7, b8, b9, b10, b11, b12⟩ := ok_h ok
  unfold savedA
  refine Wp.n (pc' := 2) 2 rfl ?_
  refine Wp.mput0 (len := 3) rfl hσ0 ?_
  refine Wp.n (pc' := 7) 2 rfl ?_
  refine Wp.ecallV (len := 3) rfl rfl rfl (rfl) rfl (by decide) rfl (m_isWalkK hM.1 ok _) ?_
  refine Wp.ifb1 (tgt := 18) (len := 3) rfl (fun h10 => ?_) (fun h10 => ?_)
  · skip
    obtain ⟨w, hw, rfl⟩ := isN_of h10
    have t := ok_walk ok hw
    rw [if_pos h10, nI_clamp (by omega)]
    refine Wp.n (pc' := 20) 2 rfl ?_
    refine Wp.callV (len := 3) rfl rfl rfl (rfl) rfl (by decide) rfl (m_goesAs hM hw) ?_
    rintro _ _ ⟨rfl, τ, rfl, hS, hG⟩
    refine Wp.ifb0 (tgt := 39) (len := 3) rfl (fun h23 => ?_) (fun h23 => ?_)
    · skip
      refine Wp.n (pc' := 40) 1 rfl ?_
      refine Wp.retI (len := 1) rfl rfl ?_
      first
        | (rw [if_neg (by rw [h10]; decide)]; exact RI_r rfl)
        | (exact RI_s (Scr_13 hS) (by rw [h23]; show nI (savK K (kw K w (4 + 0)) (kw K w (4 + (kw K w 3 - 1))) _) = nI (savW K w); rw [show 4 + (kw K w 3 - 1) = 3 + kw K w 3 by omega]; rfl))
        | exact RI_s hS (by rw [h23]; rfl)
    · skip
      refine Wp.n (pc' := 30) 4 rfl ?_
      refine Wp.ecallV (len := 3) rfl rfl rfl (rfl) rfl (by decide) rfl (m_of τ w 2 (by omega)) ?_
      refine Wp.top (r0_walk (MK_scr hM hS).1 hw (j := 2) (by decide) (by omega)) ?_
      refine Wp.callV (len := 3) rfl rfl rfl (rfl) rfl (by decide) rfl (m_savedOf (MK_scr hM hS) hG.1 (by omega) (by omega) (fun i hi => t.2.2.2.2.2.2.1 i hi) (by have := (TRr_b ok hw).1.1; omega) hG.2.1) ?_
      rintro _ _ ⟨rfl, h, rfl⟩
      refine Wp.n (pc' := 40) 1 rfl ?_
      refine Wp.retI (len := 1) rfl rfl ?_
      first
        | (rw [if_neg (by rw [h10]; decide)]; exact RI_r rfl)
        | (exact RI_s (Scr_13 hS) (by rw [h23]; show nI (savK K (kw K w (4 + 0)) (kw K w (4 + (kw K w 3 - 1))) _) = nI (savW K w); rw [show 4 + (kw K w 3 - 1) = 3 + kw K w 3 by omega]; rfl))
        | exact RI_s hS (by rw [h23]; rfl)
  · skip
    refine Wp.n (pc' := 40) 2 rfl ?_
    refine Wp.retI (len := 1) rfl rfl ?_
    first
      | (rw [if_neg (by rw [h10]; decide)]; exact RI_r rfl)
      | (exact RI_s (Scr_13 hS) (by rw [h23]; show nI (savK K (kw K w (4 + 0)) (kw K w (4 + (kw K w 3 - 1))) _) = nI (savW K w); rw [show 4 + (kw K w 3 - 1) = 3 + kw K w 3 by omega]; rfl))
      | exact RI_s hS (by rw [h23]; rfl)


theorem m_duty (hM : MK σ K) (x : Int32) : Wp (d + 5) md_213 0 [some (.ref 287), some (.int x)] [] (mset M σ) (RI M σ (dutyA K x)) := by
  have ok := hM.2.1
  have hσ0 := hM.2.2.2
  obtain ⟨b0, b1, b2, b3, b4, b5, b6, b7, b8, b9, b10, b11, b12⟩ := ok_h ok
  unfold dutyA
  refine Wp.n (pc' := 2) 2 rfl ?_
  refine Wp.mput0 (len := 3) rfl hσ0 ?_
  refine Wp.n (pc' := 7) 2 rfl ?_
  refine Wp.ecallV (len := 3) rfl rfl rfl (rfl) rfl (by decide) rfl (m_isWalkK hM.1 ok _) ?_
  refine Wp.ifb1 (tgt := 18) (len := 3) rfl (fun h10 => ?_) (fun h10 => ?_)
  · skip
    obtain ⟨w, hw, rfl⟩ := isN_of h10
    have t := ok_walk ok hw
    rw [if_pos h10, nI_clamp (by omega)]
    refine Wp.n (pc' := 20) 2 rfl ?_
    refine Wp.callV (len := 3) rfl rfl rfl (rfl) rfl (by decide) rfl (m_goesAs hM hw) ?_
    rintro _ _ ⟨rfl, τ, rfl, hS, hG⟩
    refine Wp.ifb0 (tgt := 34) (len := 3) rfl (fun h23 => ?_) (fun h23 => ?_)
    · skip
      refine Wp.n (pc' := 35) 1 rfl ?_
      refine Wp.retI (len := 1) rfl rfl ?_
      first
        | (rw [if_neg (by rw [h10]; decide)]; exact RI_r rfl)
        | (exact RI_s (Scr_13 hS) (by rw [h23]; rfl))
        | exact RI_s hS (by rw [h23]; rfl)
    · skip
      refine Wp.n (pc' := 28) 2 rfl ?_
      refine Wp.callV (len := 3) rfl rfl rfl (rfl) rfl (by decide) rfl (m_dutyOf1 (MK_scr hM hS) hw rfl hG.1 (TRr_b ok hw).1 hG.2) ?_
      rintro _ _ ⟨rfl, h, rfl⟩
      refine Wp.n (pc' := 35) 1 rfl ?_
      refine Wp.retI (len := 1) rfl rfl ?_
      first
        | (rw [if_neg (by rw [h10]; decide)]; exact RI_r rfl)
        | (exact RI_s (Scr_13 hS) (by rw [h23]; rfl))
        | exact RI_s hS (by rw [h23]; rfl)
  · skip
    refine Wp.n (pc' := 35) 2 rfl ?_
    refine Wp.retI (len := 1) rfl rfl ?_
    first
      | (rw [if_neg (by rw [h10]; decide)]; exact RI_r rfl)
      | (exact RI_s (Scr_13 hS) (by rw [h23]; rfl))
      | exact RI_s hS (by rw [h23]; rfl)


theorem m_steps (hM : MK σ K) (x : Int32) : Wp (d + 5) md_209 0 [some (.ref 287), some (.int x)] [] (mset M σ) (RI M σ (stepsA K x)) := by
  have ok := hM.2.1
  have hσ0 := hM.2.2.2
  obtain ⟨b0, b1, b2, b3, b4, b5, b6, b7, b8, b9, b10, b11, b12⟩ := ok_h ok
  unfold stepsA
  refine Wp.n (pc' := 2) 2 rfl ?_
  refine Wp.mput0 (len := 3) rfl hσ0 ?_
  refine Wp.n (pc' := 7) 2 rfl ?_
  refine Wp.ecallV (len := 3) rfl rfl rfl (rfl) rfl (by decide) rfl (m_isWalkK hM.1 ok _) ?_
  refine Wp.ifb1 (tgt := 16) (len := 3) rfl (fun h10 => ?_) (fun h10 => ?_)
  · skip
    obtain ⟨w, hw, rfl⟩ := isN_of h10
    have t := ok_walk ok hw
    rw [if_pos h10, nI_clamp (by omega)]
    refine Wp.n (pc' := 18) 2 rfl ?_
    refine Wp.callV (len := 3) rfl rfl rfl (rfl) rfl (by decide) rfl (m_goesAs hM hw) ?_
    rintro _ _ ⟨rfl, τ, rfl, hS, hG⟩
    refine Wp.n (pc' := 26) 5 rfl ?_
    refine Wp.ecallV (len := 3) rfl rfl rfl (rfl) rfl (by decide) rfl (m_of τ w 2 (by omega)) ?_
    refine Wp.top (r0_walk (MK_scr hM hS).1 hw (j := 2) (by decide) (by omega)) ?_
    refine Wp.callV (len := 3) rfl rfl rfl (rfl) rfl (by decide) rfl (m_looks (MK_scr hM hS) hG.1.1 (by omega) (by omega) (by omega) (fun i hi => ⟨hG.1.2 i hi, by have := t.2.2.2.2.2.2.1 i hi; omega⟩)) ?_
    rintro _ _ ⟨τ', rfl, rfl, hF', hL'⟩
    refine Wp.retI (len := 1) rfl rfl ?_
    exact RI_s (Scr_t hS (Scr_L hF')) rfl
  · skip
    refine Wp.n (pc' := 15) 1 rfl ?_
    refine Wp.retI (len := 1) rfl rfl ?_
    rw [if_neg (by rw [h10]; decide)]
    exact RI_r rfl

def unlawfulA (K : KD) : Int32 := if 0 < kh K 0 then oI (fnd (fun w => !(lawK K w)) (kh K 4) 0) else -2
theorem m_unlawful_l (hM : MK σ K) : ∀ (n w : Nat) (τ : MS), w + n = kh K 4 → Scr σ τ → Wp (d + 5) md_204 17 [some (.ref 287), some (.int (nI w))] [] (mset M τ) (RI M σ (oI (fnd (fun w => !(lawK K w)) n w))) := by
  have ok := hM.2.1
  intro n
  obtain ⟨b0, b1, b2, b3, b4, b5, b6, b7, b8, b9, b10, b11, b12⟩ := ok_h ok
  induction n with
  | zero =>
    intro w τ hw hS
    refine Wp.n (pc' := 23) 4 rfl ?_
    refine Wp.mialdN (j := 4) (len := 1) rfl rfl rfl (by omega) ?_
    refine Wp.top (r0_has (MK_scr hM hS).1 (by decide)) ?_
    refine Wp.nc3 (x := w) (y := kh K 4) (tgt := 43) (len := 3) rfl (by omega) (by omega) (fun h24 => ?_) (fun h24 => ?_)
    · skip
      refine Wp.n (pc' := 44) 1 rfl ?_
      refine Wp.retI (len := 1) rfl rfl ?_
      exact RI_s hS rfl
    · omega
  | succ n ih =>
    intro w τ hw hS
    have hK := MK_scr hM hS
    unfold fnd
    refine Wp.n (pc' := 23) 4 rfl ?_
    refine Wp.mialdN (j := 4) (len := 1) rfl rfl rfl (by omega) ?_
    refine Wp.top (r0_has hK.1 (by decide)) ?_
    refine Wp.nc3 (x := w) (y := kh K 4) (tgt := 43) (len := 3) rfl (by omega) (by omega) (fun h24 => ?_) (fun h24 => ?_)
    · omega
    · skip
      refine Wp.n (pc' := 29) 2 rfl ?_
      refine Wp.callV (len := 3) rfl rfl rfl (rfl) rfl (by decide) rfl (m_goesAs hK (by omega)) ?_
      rintro _ _ ⟨rfl, τ', rfl, hS', _⟩
      refine Wp.ifb1 (tgt := 37) (len := 3) rfl (fun h32 => ?_) (fun h32 => ?_)
      · skip
        refine Wp.incN (x := w) (len := 3) rfl rfl ?_
        refine Wp.n (pc' := 17) 1 rfl ?_
        rw [if_neg (by rw [h32]; decide)]
        exact ih (w + 1) τ' (by omega) (Scr_t hS hS')
      · skip
        refine Wp.n (pc' := 36) 1 rfl ?_
        refine Wp.retI (len := 1) rfl rfl ?_
        rw [if_pos (by rw [h32]; rfl)]
        exact RI_s (Scr_t hS hS') rfl

theorem m_unlawful (hM : MK σ K) : Wp (d + 5) md_204 0 [some (.ref 287), none] [] (mset M σ) (RI M σ (unlawfulA K)) := by
  have ok := hM.2.1
  have hσ0 := hM.2.2.2
  unfold unlawfulA
  refine Wp.n (pc' := 2) 2 rfl ?_
  refine Wp.mput0 (len := 3) rfl hσ0 ?_
  refine Wp.n (pc' := 6) 1 rfl ?_
  refine Wp.ecallV (len := 3) rfl rfl rfl (rfl) rfl (by decide) rfl (m_isKingdom hM.1 ok) ?_
  refine Wp.ifb1 (tgt := 15) (len := 3) rfl (fun h9 => ?_) (fun h9 => ?_)
  · skip
    refine Wp.n (pc' := 17) 2 rfl ?_
    rw [if_pos (of_decide_eq_true h9)]
    exact m_unlawful_l hM (kh K 4) 0 σ (by omega) Scr_r
  · skip
    refine Wp.n (pc' := 14) 1 rfl ?_
    refine Wp.retI (len := 1) rfl rfl ?_
    rw [if_neg (of_decide_eq_false h9)]
    exact RI_r rfl


def cntW (K : KD) (who y : Int32) (w : Nat) : Bool := (decide (who = -1) || decide (nI (kw K w 0) = who)) && (decide (y = -1) || decide (nI (kw K w 2) = y)) && lawK K w
def sumD (K : KD) (who y : Int32) (s w : Nat) : Nat := bif cntW K who y w then s + dutW K w else s
theorem m_sumOf_l (hM : MK σ K) (who y : Int32) : ∀ (n w s : Nat) (τ : MS), w + n = kh K 4 → Scr σ τ → Wp (d + 5) md_219 5 [some (.ref 287), some (.int who), some (.int y), some (.int (nI s)), some (.int (nI w))] [] (mset M τ) (fun v M' => v = some (.int (nI (fld (sumD K who y) n w s))) ∧ ∃ σ', M' = mset M σ' ∧ Scr σ σ') := by
  have ok := hM.2.1
  intro n
  obtain ⟨b0, b1, b2, b3, b4, b5, b6, b7, b8, b9, b10, b11, b12⟩ := ok_h ok
  induction n with
  | zero =>
    intro w s τ hw hS
    refine Wp.n (pc' := 12) 4 rfl ?_
    refine Wp.mialdN (j := 4) (len := 1) rfl rfl rfl (by omega) ?_
    refine Wp.top (r0_has (MK_scr hM hS).1 (by decide)) ?_
    refine Wp.nc3 (x := w) (y := kh K 4) (tgt := 72) (len := 3) rfl (by omega) (by omega) (fun h13 => ?_) (fun h13 => ?_)
    · skip
      refine Wp.n (pc' := 73) 1 rfl ?_
      refine Wp.retI (len := 1) rfl rfl ?_
      exact ⟨rfl, τ, rfl, hS⟩
    · omega
  | succ n ih =>
    intro w s τ hw hS
    have hK := MK_scr hM hS
    have hw4 : w < kh K 4 := by omega
    have kf : ∀ τ', Scr σ τ' → cntW K who y w = false → Wp (d + 5) md_219 5 [some (.ref 287), some (.int who), some (.int y), some (.int (nI s)), some (.int (nI (w + 1)))] [] (mset M τ') (fun v M' => v = some (.int (nI (fld (sumD K who y) (n + 1) w s))) ∧ ∃ σ', M' = mset M σ' ∧ Scr σ σ') := by
      intro τ' hS' hc
      have e : sumD K who y s w = s := by unfold sumD; rw [hc]; rfl
      show Wp _ _ _ _ _ _ (fun v M' => v = some (.int (nI (fld (sumD K who y) n (w + 1) (sumD K who y s w)))) ∧ _)
      rw [e]
      exact ih (w + 1) s τ' (by omega) hS'
    have kt : ∀ τ', Scr σ τ' → cntW K who y w = true → Wp (d + 5) md_219 5 [some (.ref 287), some (.int who), some (.int y), some (.int (nI (s + dutW K w))), some (.int (nI (w + 1)))] [] (mset M τ') (fun v M' => v = some (.int (nI (fld (sumD K who y) (n + 1) w s))) ∧ ∃ σ', M' = mset M σ' ∧ Scr σ σ') := by
      intro τ' hS' hc
      have e : sumD K who y s w = s + dutW K w := by unfold sumD; rw [hc]; rfl
      show Wp _ _ _ _ _ _ (fun v M' => v = some (.int (nI (fld (sumD K who y) n (w + 1) (sumD K who y s w)))) ∧ _)
      rw [e]
      exact ih (w + 1) (s + dutW K w) τ' (by omega) hS'
    unfold cntW at kf kt
    refine Wp.n (pc' := 12) 4 rfl ?_
    refine Wp.mialdN (j := 4) (len := 1) rfl rfl rfl (by omega) ?_
    refine Wp.top (r0_has hK.1 (by decide)) ?_
    refine Wp.nc3 (x := w) (y := kh K 4) (tgt := 72) (len := 3) rfl (by omega) (by omega) (fun h13 => ?_) (fun h13 => ?_)
    · omega
    · skip
      refine Wp.n (pc' := 18) 2 rfl ?_
      refine Wp.ic0 (tgt := 32) (len := 3) rfl (fun h18 => ?_) (fun h18 => ?_)
      · skip
        refine Wp.n (pc' := 34) 2 rfl ?_
        refine Wp.ic0 (tgt := 48) (len := 3) rfl (fun h34 => ?_) (fun h34 => ?_)
        · skip
          refine Wp.n (pc' := 51) 2 rfl ?_
          refine Wp.callV (len := 3) rfl rfl rfl (rfl) rfl (by decide) rfl (m_goesAs hK hw4) ?_
          rintro _ _ ⟨rfl, τ', rfl, hS', hG⟩
          refine Wp.ifb0 (tgt := 66) (len := 3) rfl (fun h54 => ?_) (fun h54 => ?_)
          · skip
            refine Wp.incN (x := w) (len := 3) rfl rfl ?_
            refine Wp.n (pc' := 5) 1 rfl ?_
            first
              | exact kt _ (Scr_13 (Scr_t hS hS')) (by simp [*])
              | exact kf _ (Scr_t hS hS') (by simp [*])
              | exact kf _ hS (by simp [*])
          · skip
            refine Wp.n (pc' := 61) 3 rfl ?_
            refine Wp.callV (len := 3) rfl rfl rfl (rfl) rfl (by decide) rfl (m_dutyOf1 (MK_scr hK hS') hw4 rfl hG.1 (TRr_b ok hw4).1 hG.2) ?_
            rintro _ _ ⟨rfl, h', rfl⟩
            refine Wp.iaddN (x := s) (y := dutW K w) (len := 1) rfl ?_
            refine Wp.n (pc' := 66) 1 rfl ?_
            refine Wp.incN (x := w) (len := 3) rfl rfl ?_
            refine Wp.n (pc' := 5) 1 rfl ?_
            first
              | exact kt _ (Scr_13 (Scr_t hS hS')) (by simp [*])
              | exact kf _ (Scr_t hS hS') (by simp [*])
              | exact kf _ hS (by simp [*])
        · skip
          refine Wp.n (pc' := 41) 3 rfl ?_
          refine Wp.ecallV (len := 3) rfl rfl rfl (rfl) rfl (by decide) rfl (m_of τ w 2 (by omega)) ?_
          refine Wp.top (r0_walk hK.1 hw4 (j := 2) (by decide) (by omega)) ?_
          refine Wp.n (pc' := 45) 1 rfl ?_
          refine Wp.ic1 (tgt := 66) (len := 3) rfl (fun h45 => ?_) (fun h45 => ?_)
          · skip
            refine Wp.incN (x := w) (len := 3) rfl rfl ?_
            refine Wp.n (pc' := 5) 1 rfl ?_
            first
              | exact kt _ (Scr_13 (Scr_t hS hS')) (by simp [*])
              | exact kf _ (Scr_t hS hS') (by simp [*])
              | exact kf _ hS (by simp [*])
          · skip
            refine Wp.n (pc' := 51) 2 rfl ?_
            refine Wp.callV (len := 3) rfl rfl rfl (rfl) rfl (by decide) rfl (m_goesAs hK hw4) ?_
            rintro _ _ ⟨rfl, τ', rfl, hS', hG⟩
            refine Wp.ifb0 (tgt := 66) (len := 3) rfl (fun h54 => ?_) (fun h54 => ?_)
            · skip
              refine Wp.incN (x := w) (len := 3) rfl rfl ?_
              refine Wp.n (pc' := 5) 1 rfl ?_
              first
                | exact kt _ (Scr_13 (Scr_t hS hS')) (by simp [*])
                | exact kf _ (Scr_t hS hS') (by simp [*])
                | exact kf _ hS (by simp [*])
            · skip
              refine Wp.n (pc' := 61) 3 rfl ?_
              refine Wp.callV (len := 3) rfl rfl rfl (rfl) rfl (by decide) rfl (m_dutyOf1 (MK_scr hK hS') hw4 rfl hG.1 (TRr_b ok hw4).1 hG.2) ?_
              rintro _ _ ⟨rfl, h', rfl⟩
              refine Wp.iaddN (x := s) (y := dutW K w) (len := 1) rfl ?_
              refine Wp.n (pc' := 66) 1 rfl ?_
              refine Wp.incN (x := w) (len := 3) rfl rfl ?_
              refine Wp.n (pc' := 5) 1 rfl ?_
              first
                | exact kt _ (Scr_13 (Scr_t hS hS')) (by simp [*])
                | exact kf _ (Scr_t hS hS') (by simp [*])
                | exact kf _ hS (by simp [*])
      · skip
        refine Wp.n (pc' := 25) 3 rfl ?_
        refine Wp.ecallV (len := 3) rfl rfl rfl (rfl) rfl (by decide) rfl (m_of τ w 0 (by omega)) ?_
        refine Wp.top (r0_walk hK.1 hw4 (j := 0) (by decide) (by omega)) ?_
        refine Wp.n (pc' := 29) 1 rfl ?_
        refine Wp.ic1 (tgt := 66) (len := 3) rfl (fun h29 => ?_) (fun h29 => ?_)
        · skip
          refine Wp.incN (x := w) (len := 3) rfl rfl ?_
          refine Wp.n (pc' := 5) 1 rfl ?_
          first
            | exact kt _ (Scr_13 (Scr_t hS hS')) (by simp [*])
            | exact kf _ (Scr_t hS hS') (by simp [*])
            | exact kf _ hS (by simp [*])
        · skip
          refine Wp.n (pc' := 34) 2 rfl ?_
          refine Wp.ic0 (tgt := 48) (len := 3) rfl (fun h34 => ?_) (fun h34 => ?_)
          · skip
            refine Wp.n (pc' := 51) 2 rfl ?_
            refine Wp.callV (len := 3) rfl rfl rfl (rfl) rfl (by decide) rfl (m_goesAs hK hw4) ?_
            rintro _ _ ⟨rfl, τ', rfl, hS', hG⟩
            refine Wp.ifb0 (tgt := 66) (len := 3) rfl (fun h54 => ?_) (fun h54 => ?_)
            · skip
              refine Wp.incN (x := w) (len := 3) rfl rfl ?_
              refine Wp.n (pc' := 5) 1 rfl ?_
              first
                | exact kt _ (Scr_13 (Scr_t hS hS')) (by simp [*])
                | exact kf _ (Scr_t hS hS') (by simp [*])
                | exact kf _ hS (by simp [*])
            · skip
              refine Wp.n (pc' := 61) 3 rfl ?_
              refine Wp.callV (len := 3) rfl rfl rfl (rfl) rfl (by decide) rfl (m_dutyOf1 (MK_scr hK hS') hw4 rfl hG.1 (TRr_b ok hw4).1 hG.2) ?_
              rintro _ _ ⟨rfl, h', rfl⟩
              refine Wp.iaddN (x := s) (y := dutW K w) (len := 1) rfl ?_
              refine Wp.n (pc' := 66) 1 rfl ?_
              refine Wp.incN (x := w) (len := 3) rfl rfl ?_
              refine Wp.n (pc' := 5) 1 rfl ?_
              first
                | exact kt _ (Scr_13 (Scr_t hS hS')) (by simp [*])
                | exact kf _ (Scr_t hS hS') (by simp [*])
                | exact kf _ hS (by simp [*])
          · skip
            refine Wp.n (pc' := 41) 3 rfl ?_
            refine Wp.ecallV (len := 3) rfl rfl rfl (rfl) rfl (by decide) rfl (m_of τ w 2 (by omega)) ?_
            refine Wp.top (r0_walk hK.1 hw4 (j := 2) (by decide) (by omega)) ?_
            refine Wp.n (pc' := 45) 1 rfl ?_
            refine Wp.ic1 (tgt := 66) (len := 3) rfl (fun h45 => ?_) (fun h45 => ?_)
            · skip
              refine Wp.incN (x := w) (len := 3) rfl rfl ?_
              refine Wp.n (pc' := 5) 1 rfl ?_
              first
                | exact kt _ (Scr_13 (Scr_t hS hS')) (by simp [*])
                | exact kf _ (Scr_t hS hS') (by simp [*])
                | exact kf _ hS (by simp [*])
            · skip
              refine Wp.n (pc' := 51) 2 rfl ?_
              refine Wp.callV (len := 3) rfl rfl rfl (rfl) rfl (by decide) rfl (m_goesAs hK hw4) ?_
              rintro _ _ ⟨rfl, τ', rfl, hS', hG⟩
              refine Wp.ifb0 (tgt := 66) (len := 3) rfl (fun h54 => ?_) (fun h54 => ?_)
              · skip
                refine Wp.incN (x := w) (len := 3) rfl rfl ?_
                refine Wp.n (pc' := 5) 1 rfl ?_
                first
                  | exact kt _ (Scr_13 (Scr_t hS hS')) (by simp [*])
                  | exact kf _ (Scr_t hS hS') (by simp [*])
                  | exact kf _ hS (by simp [*])
              · skip
                refine Wp.n (pc' := 61) 3 rfl ?_
                refine Wp.callV (len := 3) rfl rfl rfl (rfl) rfl (by decide) rfl (m_dutyOf1 (MK_scr hK hS') hw4 rfl hG.1 (TRr_b ok hw4).1 hG.2) ?_
                rintro _ _ ⟨rfl, h', rfl⟩
                refine Wp.iaddN (x := s) (y := dutW K w) (len := 1) rfl ?_
                refine Wp.n (pc' := 66) 1 rfl ?_
                refine Wp.incN (x := w) (len := 3) rfl rfl ?_
                refine Wp.n (pc' := 5) 1 rfl ?_
                first
                  | exact kt _ (Scr_13 (Scr_t hS hS')) (by simp [*])
                  | exact kf _ (Scr_t hS hS') (by simp [*])
                  | exact kf _ hS (by simp [*])

theorem m_sumOf (hM : MK σ K) (who y : Int32) : Wp (d + 5) md_219 0 [some (.ref 287), some (.int who), some (.int y), none, none] [] (mset M σ) (fun v M' => v = some (.int (nI (fld (sumD K who y) (kh K 4) 0 0))) ∧ ∃ σ', M' = mset M σ' ∧ Scr σ σ') := by
  refine Wp.n (pc' := 5) 4 rfl ?_
  exact m_sumOf_l hM who y (kh K 4) 0 0 σ (by omega) Scr_r
def owesA (K : KD) (x : Int32) : Int32 := if 0 < kh K 0 ∧ isN 5 x = true then nI (fld (sumD K x (-1)) (kh K 4) 0 0) else -2
def takingsA (K : KD) (x : Int32) : Int32 := if 0 < kh K 0 ∧ (x = -1 ∨ isN (kh K 1) x = true) then nI (fld (sumD K (-1) x) (kh K 4) 0 0) else -2
theorem m_owes (hM : MK σ K) (x : Int32) : Wp (d + 6) md_218 0 [some (.ref 287), some (.int x)] [] (mset M σ) (RI M σ (owesA K x)) := by
  have ok := hM.2.1
  have hσ0 := hM.2.2.2
  have e5 : decide ((0 : Int64).toInt ≤ x.toInt64.toInt ∧ x.toInt64.toInt ≤ (4 : Int64).toInt) = isN 5 x := by
    unfold isN
    rw [il_toInt, show (0 : Int64).toInt = 0 from rfl, show (4 : Int64).toInt = 4 from rfl]
    by_cases c : 0 ≤ x.toInt ∧ x.toInt < ((5 : Nat) : Int)
    · rw [decide_eq_true c, decide_eq_true (by omega)]
    · rw [decide_eq_false c, decide_eq_false (by omega)]
  unfold owesA
  refine Wp.n (pc' := 2) 2 rfl ?_
  refine Wp.mput0 (len := 3) rfl hσ0 ?_
  refine Wp.n (pc' := 6) 1 rfl ?_
  refine Wp.ecallV (len := 3) rfl rfl rfl (rfl) rfl (by decide) rfl (m_isKingdom hM.1 ok) ?_
  refine Wp.ifb0 (tgt := 33) (len := 3) rfl (fun h9 => ?_) (fun h9 => ?_)
  · skip
    refine Wp.n (pc' := 35) 1 rfl ?_
    refine Wp.retI (len := 1) rfl rfl ?_
    first
      | (rw [if_pos ⟨of_decide_eq_true h9, h21⟩]; exact RI_s hS rfl)
      | (rw [if_neg (fun q => by rw [h21] at q; exact absurd q.2 (by decide))]; exact RI_r rfl)
      | (rw [if_neg (fun q => of_decide_eq_false h9 q.1)]; exact RI_r rfl)
  · skip
    refine Wp.n (pc' := 18) 4 rfl ?_
    refine Wp.ecallS (len := 3) rfl rfl rfl rfl (m_in _ _ _) ?_
    refine Wp.ifb0 (tgt := 33) (len := 3) rfl (fun h21 => ?_) (fun h21 => ?_)
    · rw [e5] at h21
      refine Wp.n (pc' := 35) 1 rfl ?_
      refine Wp.retI (len := 1) rfl rfl ?_
      first
        | (rw [if_pos ⟨of_decide_eq_true h9, h21⟩]; exact RI_s hS rfl)
        | (rw [if_neg (fun q => by rw [h21] at q; exact absurd q.2 (by decide))]; exact RI_r rfl)
        | (rw [if_neg (fun q => of_decide_eq_false h9 q.1)]; exact RI_r rfl)
    · rw [e5] at h21
      refine Wp.n (pc' := 27) 3 rfl ?_
      refine Wp.callV (len := 3) rfl rfl rfl (rfl) rfl (by decide) rfl (m_sumOf hM _ _) ?_
      rintro _ _ ⟨rfl, τ, rfl, hS⟩
      refine Wp.n (pc' := 35) 1 rfl ?_
      refine Wp.retI (len := 1) rfl rfl ?_
      first
        | (rw [if_pos ⟨of_decide_eq_true h9, h21⟩]; exact RI_s hS rfl)
        | (rw [if_neg (fun q => by rw [h21] at q; exact absurd q.2 (by decide))]; exact RI_r rfl)
        | (rw [if_neg (fun q => of_decide_eq_false h9 q.1)]; exact RI_r rfl)

theorem m_takings (hM : MK σ K) (x : Int32) : Wp (d + 6) md_220 0 [some (.ref 287), some (.int x)] [] (mset M σ) (RI M σ (takingsA K x)) := by
  have ok := hM.2.1
  have hσ0 := hM.2.2.2
  unfold takingsA
  refine Wp.n (pc' := 2) 2 rfl ?_
  refine Wp.mput0 (len := 3) rfl hσ0 ?_
  refine Wp.n (pc' := 6) 1 rfl ?_
  refine Wp.ecallV (len := 3) rfl rfl rfl (rfl) rfl (by decide) rfl (m_isKingdom hM.1 ok) ?_
  refine Wp.ifb0 (tgt := 34) (len := 3) rfl (fun h9 => ?_) (fun h9 => ?_)
  · skip
    refine Wp.n (pc' := 36) 1 rfl ?_
    refine Wp.retI (len := 1) rfl rfl ?_
    first
      | (rw [if_pos ⟨of_decide_eq_true h9, hcond⟩]; exact RI_s hS rfl)
      | (rw [if_neg (fun q => of_decide_eq_false h9 q.1)]; exact RI_r rfl)
      | (rw [if_neg (fun q => by rcases q.2 with p | p; exact h14 p; rw [h22] at p; exact absurd p (by decide))]; exact RI_r rfl)
  · skip
    refine Wp.n (pc' := 14) 2 rfl ?_
    refine Wp.ic0 (tgt := 25) (len := 3) rfl (fun h14 => ?_) (fun h14 => ?_)
    · have hcond : x = -1 ∨ isN (kh K 1) x = true := Or.inl h14
      refine Wp.n (pc' := 28) 3 rfl ?_
      refine Wp.callV (len := 3) rfl rfl rfl (rfl) rfl (by decide) rfl (m_sumOf hM _ _) ?_
      rintro _ _ ⟨rfl, τ, rfl, hS⟩
      refine Wp.n (pc' := 36) 1 rfl ?_
      refine Wp.retI (len := 1) rfl rfl ?_
      first
        | (rw [if_pos ⟨of_decide_eq_true h9, hcond⟩]; exact RI_s hS rfl)
        | (rw [if_neg (fun q => of_decide_eq_false h9 q.1)]; exact RI_r rfl)
        | (rw [if_neg (fun q => by rcases q.2 with p | p; exact h14 p; rw [h22] at p; exact absurd p (by decide))]; exact RI_r rfl)
    · skip
      refine Wp.n (pc' := 19) 2 rfl ?_
      refine Wp.ecallV (len := 3) rfl rfl rfl (rfl) rfl (by decide) rfl (m_isDayK hM.1 ok _) ?_
      refine Wp.ifb0 (tgt := 34) (len := 3) rfl (fun h22 => ?_) (fun h22 => ?_)
      · skip
        refine Wp.n (pc' := 36) 1 rfl ?_
        refine Wp.retI (len := 1) rfl rfl ?_
        first
          | (rw [if_pos ⟨of_decide_eq_true h9, hcond⟩]; exact RI_s hS rfl)
          | (rw [if_neg (fun q => of_decide_eq_false h9 q.1)]; exact RI_r rfl)
          | (rw [if_neg (fun q => by rcases q.2 with p | p; exact h14 p; rw [h22] at p; exact absurd p (by decide))]; exact RI_r rfl)
      · have hcond : x = -1 ∨ isN (kh K 1) x = true := Or.inr h22
        refine Wp.n (pc' := 28) 3 rfl ?_
        refine Wp.callV (len := 3) rfl rfl rfl (rfl) rfl (by decide) rfl (m_sumOf hM _ _) ?_
        rintro _ _ ⟨rfl, τ, rfl, hS⟩
        refine Wp.n (pc' := 36) 1 rfl ?_
        refine Wp.retI (len := 1) rfl rfl ?_
        first
          | (rw [if_pos ⟨of_decide_eq_true h9, hcond⟩]; exact RI_s hS rfl)
          | (rw [if_neg (fun q => of_decide_eq_false h9 q.1)]; exact RI_r rfl)
          | (rw [if_neg (fun q => by rcases q.2 with p | p; exact h14 p; rw [h22] at p; exact absurd p (by decide))]; exact RI_r rfl)

end WALKS
end
section
/-! RULES FOR LONGS that are naturals. -/
theorem l_div {a b : Nat} (ha : a < 2 ^ 63) (hb : b < 2 ^ 63) (h0 : 0 < b) : lN a / lN b = lN (a / b) := pk_lDiv ha h0 hb
theorem l_rem {a b : Nat} (ha : a < 2 ^ 63) (hb : b < 2 ^ 63) (h0 : 0 < b) : lN a - lN a / lN b * lN b = lN (a % b) := pk_lRem ha h0 hb
section LR
variable {d : Nat} {X : MD} {pc len : Nat} {l : AL} {st : List Value} {M : AM} {Q : Option Value → AM → Prop} {a b : Nat} {v : Value}
theorem Wp.laddM {x y : Nat} (hc : cdx X pc = some (.inr (.inl .ladd), len)) (k : Wp d X (pc + len) l (.long (lN (x + y)) :: st) M Q) : Wp d X pc l (.long (lN y) :: .long (lN x) :: st) M Q := by
  refine Wp.s (pc' := pc + len) (l' := l) (st' := .long (lN x + lN y) :: st) (M' := M) ?_ (Wp.topL (lN_add x y) k)
  unfold sstep
  rw [hc]
  rfl
theorem Wp.lmulM {x y : Nat} (hc : cdx X pc = some (.inr (.inl .lmul), len)) (k : Wp d X (pc + len) l (.long (lN (x * y)) :: st) M Q) : Wp d X pc l (.long (lN y) :: .long (lN x) :: st) M Q := by
  refine Wp.s (pc' := pc + len) (l' := l) (st' := .long (lN x * lN y) :: st) (M' := M) ?_ (Wp.topL (lN_mul x y) k)
  unfold sstep
  rw [hc]
  rfl
theorem Wp.lsubM {x y : Nat} (hc : cdx X pc = some (.inr (.inl .lsub), len)) (h : y ≤ x) (k : Wp d X (pc + len) l (.long (lN (x - y)) :: st) M Q) : Wp d X pc l (.long (lN y) :: .long (lN x) :: st) M Q := by
  refine Wp.s (pc' := pc + len) (l' := l) (st' := .long (lN x - lN y) :: st) (M' := M) ?_ (Wp.topL (lN_sub h) k)
  unfold sstep
  rw [hc]
  rfl
theorem l_ne0 {y : Nat} (h : 0 < y) (h2 : y < 2 ^ 63) : (lN y == 0) = false := by
  rw [beq_eq_false_iff_ne]
  intro q
  have := (l_inj (b := 0) h2 (by decide)).mp q
  omega
theorem Wp.ldivM {x y : Nat} (hc : cdx X pc = some (.inr (.inl .ldiv), len)) (hx : x < 2 ^ 63) (hy : y < 2 ^ 63) (h0 : 0 < y) (k : Wp d X (pc + len) l (.long (lN (x / y)) :: st) M Q) : Wp d X pc l (.long (lN y) :: .long (lN x) :: st) M Q := by
  refine Wp.s (pc' := pc + len) (l' := l) (st' := .long (lN x / lN y) :: st) (M' := M) ?_ (Wp.topL (l_div hx hy h0) k)
  unfold sstep
  rw [hc]
  simp only [pstep, l_ne0 h0 hy, cond_false]
theorem Wp.lremM {x y : Nat} (hc : cdx X pc = some (.inr (.inl .lrem), len)) (hx : x < 2 ^ 63) (hy : y < 2 ^ 63) (h0 : 0 < y) (k : Wp d X (pc + len) l (.long (lN (x % y)) :: st) M Q) : Wp d X pc l (.long (lN y) :: .long (lN x) :: st) M Q := by
  refine Wp.s (pc' := pc + len) (l' := l) (st' := .long (lN x - lN x / lN y * lN y) :: st) (M' := M) ?_ (Wp.topL (l_rem hx hy h0) k)
  unfold sstep
  rw [hc]
  simp only [pstep, l_ne0 h0 hy, cond_false]
theorem Wp.i2lM {x : Nat} (hc : cdx X pc = some (.inr (.inl .i2l), len)) (hx : x < 2 ^ 31) (k : Wp d X (pc + len) l (.long (lN x) :: st) M Q) : Wp d X pc l (.int (nI x) :: st) M Q := by
  refine Wp.s (pc' := pc + len) (l' := l) (st' := .long (nI x).toInt64 :: st) (M' := M) ?_ (Wp.topL (nI_l hx) k)
  unfold sstep
  rw [hc]
  rfl
theorem Wp.l2iM {x : Nat} (hc : cdx X pc = some (.inr (.inl .l2i), len)) (k : Wp d X (pc + len) l (.int (nI x) :: st) M Q) : Wp d X pc l (.long (lN x) :: st) M Q := by
  refine Wp.s (pc' := pc + len) (l' := l) (st' := .int (lN x).toInt32 :: st) (M' := M) ?_ (Wp.top (lN_i x) k)
  unfold sstep
  rw [hc]
  rfl
theorem Wp.cz0 {x y tgt : Nat} (hc : cdx X pc = some (.inr (.inr (20, tgt, b, v)), len)) (hx : x < 2 ^ 63) (hy : y < 2 ^ 63) (kt : x = y → Wp d X tgt l st M Q) (kf : x ≠ y → Wp d X (pc + len) l st M Q) : Wp d X pc l (.int (lg_cmp (lN x) (lN y)) :: st) M Q := Wp.if0 hc (fun h => kt ((l_inj hx hy).mp ((cmp_eq _ _).mp h))) (fun h => kf (fun q => h ((cmp_eq _ _).mpr (by rw [q]))))
theorem Wp.cz1 {x y tgt : Nat} (hc : cdx X pc = some (.inr (.inr (21, tgt, b, v)), len)) (hx : x < 2 ^ 63) (hy : y < 2 ^ 63) (kt : x ≠ y → Wp d X tgt l st M Q) (kf : x = y → Wp d X (pc + len) l st M Q) : Wp d X pc l (.int (lg_cmp (lN x) (lN y)) :: st) M Q := Wp.if1 hc (fun h => kt (fun q => h ((cmp_eq _ _).mpr (by rw [q])))) (fun h => kf ((l_inj hx hy).mp ((cmp_eq _ _).mp h)))
theorem cmp_ltM {x y : Nat} (hx : x < 2 ^ 63) (hy : y < 2 ^ 63) : lg_cmp (lN x) (lN y) < 0 ↔ x < y := by
  rw [cmp_lt, l_toInt hx, l_toInt hy]
  omega
theorem cmp_gtM {x y : Nat} (hx : x < 2 ^ 63) (hy : y < 2 ^ 63) : 0 < lg_cmp (lN x) (lN y) ↔ y < x := by
  rw [cmp_gt, l_toInt hx, l_toInt hy]
  omega
theorem Wp.cz2 {x y tgt : Nat} (hc : cdx X pc = some (.inr (.inr (22, tgt, b, v)), len)) (hx : x < 2 ^ 63) (hy : y < 2 ^ 63) (kt : x < y → Wp d X tgt l st M Q) (kf : y ≤ x → Wp d X (pc + len) l st M Q) : Wp d X pc l (.int (lg_cmp (lN x) (lN y)) :: st) M Q := Wp.if2 hc (fun h => kt ((cmp_ltM hx hy).mp h)) (fun h => kf (Nat.not_lt.mp (fun q => h ((cmp_ltM hx hy).mpr q))))
theorem Wp.cz3 {x y tgt : Nat} (hc : cdx X pc = some (.inr (.inr (23, tgt, b, v)), len)) (hx : x < 2 ^ 63) (hy : y < 2 ^ 63) (kt : y ≤ x → Wp d X tgt l st M Q) (kf : x < y → Wp d X (pc + len) l st M Q) : Wp d X pc l (.int (lg_cmp (lN x) (lN y)) :: st) M Q := by
  refine Wp.if3 hc (fun h => kt (Nat.not_lt.mp (fun q => ?_))) (fun h => kf ((cmp_ltM hx hy).mp ?_))
  · have h1 := (cmp_ltM hx hy).mpr q
    rw [i_le] at h
    rw [i_lt] at h1
    omega
  · rw [i_le] at h
    rw [i_lt]
    omega
theorem Wp.cz4 {x y tgt : Nat} (hc : cdx X pc = some (.inr (.inr (24, tgt, b, v)), len)) (hx : x < 2 ^ 63) (hy : y < 2 ^ 63) (kt : y < x → Wp d X tgt l st M Q) (kf : x ≤ y → Wp d X (pc + len) l st M Q) : Wp d X pc l (.int (lg_cmp (lN x) (lN y)) :: st) M Q := Wp.if4 hc (fun h => kt ((cmp_gtM hx hy).mp h)) (fun h => kf (Nat.not_lt.mp (fun q => h ((cmp_gtM hx hy).mpr q))))
theorem Wp.cz5 {x y tgt : Nat} (hc : cdx X pc = some (.inr (.inr (25, tgt, b, v)), len)) (hx : x < 2 ^ 63) (hy : y < 2 ^ 63) (kt : x ≤ y → Wp d X tgt l st M Q) (kf : y < x → Wp d X (pc + len) l st M Q) : Wp d X pc l (.int (lg_cmp (lN x) (lN y)) :: st) M Q := by
  refine Wp.if5 hc (fun h => kt (Nat.not_lt.mp (fun q => ?_))) (fun h => kf ((cmp_gtM hx hy).mp ?_))
  · have h1 := (cmp_gtM hx hy).mpr q
    rw [i_le] at h
    rw [i_lt] at h1
    omega
  · rw [i_le] at h
    rw [i_lt]
    omega
end LR
end
section
/-! CHANCE, HOPE, AND WHO IS SEEN: the reference. -/
def npr (ws : List Nat) : Nat → Nat
  | 0 => 1
  | i + 1 => npr ws i * (100 - ws.getD i 0)
theorem npr_le (ws : List Nat) : ∀ i, npr ws i ≤ 100 ^ i
  | 0 => Nat.le_refl _
  | i + 1 => by
    unfold npr
    rw [Nat.pow_succ]
    exact Nat.mul_le_mul (npr_le ws i) (Nat.sub_le _ _)
def tellK (ws : List Nat) (m what : Nat) : Nat := (if what = 0 then (100 ^ ws.length - npr ws ws.length) * m else 100 ^ ws.length) / Nat.gcd ((100 ^ ws.length - npr ws ws.length) * m) (100 ^ ws.length)
def lcg (x : Nat) : Nat := (1103515245 * x + 12345) % 2147483648
def seenL (ws : List Nat) : Nat → Nat → Nat → Bool → Bool
  | 0, _, _, b => b
  | n + 1, i, x, b => seenL ws n (i + 1) (lcg x) (decide (lcg x / 65536 % 100 < ws.getD i 0) || b)
def seenK (ws : List Nat) (x : Nat) : Bool := seenL ws ws.length 0 x false
def WS (σ : MS) (ws : List Nat) : Prop := σ.1 32 = nI ws.length ∧ (∀ i, i < ws.length → σ.2.2.1 15 i = nI (ws.getD i 0))
/-- a row of watches: at most six, none above a hundred -/
def WB (ws : List Nat) : Prop := ws.length ≤ 6 ∧ ∀ i, ws.getD i 0 ≤ 100
theorem wat_b {K : KD} (ok : KOK K) {ls : List Nat} (h6 : ls.length ≤ 6) (hls : ∀ l, l ∈ ls → LV K l) : WB (wat K ls) := by
  refine ⟨Nat.le_trans (wat_len ls) h6, fun i => ?_⟩
  rw [List.getD_eq_getElem?_getD]
  cases e : (wat K ls)[i]? with
  | none => exact Nat.zero_le _
  | some x =>
    have hx : x ∈ wat K ls := List.mem_of_getElem? e
    unfold wat at hx
    rw [List.mem_map] at hx
    obtain ⟨l, hl, rfl⟩ := hx
    have hl2 := (List.mem_filter.mp hl).1
    have := ok_lane ok (hls l hl2)
    show kl K l 6 ≤ 100
    omega
theorem pow6 {i : Nat} (h : i ≤ 6) : 100 ^ i ≤ 1000000000000 ∧ 1 ≤ 100 ^ i := by
  have h1 : 100 ^ i ≤ 100 ^ 6 := Nat.pow_le_pow_right (by decide) h
  have h2 : 100 ^ 0 ≤ 100 ^ i := Nat.pow_le_pow_right (by decide) (Nat.zero_le i)
  omega
section CHANCE
variable {d : Nat} {M : AM} {σ σ' : MS} {K : KD} {Q : Option Value → AM → Prop}
theorem m_common_l {a b : Nat} : ∀ (v u : Nat) (z8 z9 : Option Value), u < 2 ^ 63 → v < 2 ^ 63 → Wp d md_223 6 [some (.long (lN a)), none, some (.long (lN b)), none, some (.long (lN u)), none, some (.long (lN v)), none, z8, z9] [] M (IsR (some (.long (lN (Nat.gcd u v)))) M) := by
  intro v
  induction v using Nat.strongRecOn with
  | _ v ih =>
    intro u z8 z9 hu hv
    refine Wp.n (pc' := 10) 3 rfl ?_
    refine Wp.cz0 (x := v) (y := 0) (tgt := 31) (len := 3) rfl (by omega) (by omega) (fun h10 => ?_) (fun h10 => ?_)
    · subst h10
      refine Wp.n (pc' := 33) 1 rfl ?_
      refine Wp.retL (len := 1) rfl rfl ?_
      rw [Nat.gcd_zero_right]
      exact ⟨rfl, rfl⟩
    · skip
      refine Wp.n (pc' := 17) 2 rfl ?_
      refine Wp.lremM (x := u) (y := v) (len := 1) rfl (by omega) (by omega) (by omega) ?_
      refine Wp.n (pc' := 6) 6 rfl ?_
      have w := ih (u % v) (Nat.mod_lt _ (by omega)) v (some (.long (lN (u % v)))) none hv (by have := Nat.mod_lt u (show 0 < v by omega); omega)
      rw [Nat.gcd_comm v (u % v), ← Nat.gcd_rec v u, Nat.gcd_comm v u] at w
      exact w

theorem m_common {a b : Nat} (ha : a < 2 ^ 63) (hb : b < 2 ^ 63) : Ev d md_223 0 [some (.long (lN a)), none, some (.long (lN b)), none, none, none, none, none, none, none] [] M (some (.long (lN (Nat.gcd a b))), M) := by
  refine Wp.toEv ?_
  refine Wp.n (pc' := 6) 4 rfl ?_
  exact m_common_l b a _ _ ha hb
theorem m_told_l {ws : List Nat} (hW : WS σ ws) (hB : WB ws) {m what : Nat} : ∀ (n i : Nat) (z9 : Option Value), i + n = ws.length → (∀ z8 z9, Wp d md_222 49 [some (.ref 287), some (.long (lN m)), none, some (.int (nI what)), some (.long (lN (100 ^ ws.length))), none, some (.long (lN (npr ws ws.length))), none, z8, z9] [] (mset M σ) Q) → Wp d md_222 9 [some (.ref 287), some (.long (lN m)), none, some (.int (nI what)), some (.long (lN (100 ^ i))), none, some (.long (lN (npr ws i))), none, some (.int (nI i)), z9] [] (mset M σ) Q := by
  intro n
  obtain ⟨hB1, hB2⟩ := hB
  induction n with
  | zero =>
    intro i z9 hi k
    refine Wp.n (pc' := 15) 3 rfl ?_
    refine Wp.top hW.1 ?_
    refine Wp.nc3 (x := i) (y := ws.length) (tgt := 49) (len := 3) rfl (by omega) (by omega) (fun h15 => ?_) (fun h15 => ?_)
    · skip
      rw [show i = ws.length by omega]
      exact k _ _
    · omega
  | succ n ih =>
    intro i z9 hi k
    have g := hB2 i
    refine Wp.n (pc' := 15) 3 rfl ?_
    refine Wp.top hW.1 ?_
    refine Wp.nc3 (x := i) (y := ws.length) (tgt := 49) (len := 3) rfl (by omega) (by omega) (fun h15 => ?_) (fun h15 => ?_)
    · omega
    · skip
      refine Wp.n (pc' := 23) 2 rfl ?_
      refine Wp.lmulM (x := 100 ^ i) (y := 100) (len := 1) rfl ?_
      refine Wp.n (pc' := 37) 6 rfl ?_
      refine Wp.mialdN (j := i) (len := 1) rfl rfl rfl (by omega) ?_
      refine Wp.top (hW.2 i (by omega)) ?_
      refine Wp.i2lM (x := ws.getD i 0) (len := 1) rfl (by omega) ?_
      refine Wp.lsubM (x := 100) (y := ws.getD i 0) (len := 1) rfl (by omega) ?_
      refine Wp.lmulM (x := npr ws i) (y := 100 - (ws.getD i 0)) (len := 1) rfl ?_
      refine Wp.n (pc' := 43) 1 rfl ?_
      refine Wp.incN (x := i) (len := 3) rfl rfl ?_
      refine Wp.n (pc' := 9) 1 rfl ?_
      have w := ih (i + 1) z9 (by omega) k
      rw [Nat.pow_succ] at w
      exact w

theorem m_told {ws : List Nat} (hW : WS σ ws) (hB : WB ws) {m what : Nat} (hm : m ≤ 689634) (hwh : what ≤ 1) : Ev (d + 1) md_222 0 [some (.ref 287), some (.long (lN m)), none, some (.int (nI what)), none, none, none, none, none, none] [] (mset M σ) (some (.long (lN (tellK ws m what))), mset M σ) := by
  refine Wp.toEv ?_
  refine Wp.n (pc' := 9) 6 rfl ?_
  refine m_told_l hW hB ws.length 0 none (by omega) (fun z8 z9 => ?_)
  have p := pow6 hB.1
  have q := npr_le ws ws.length
  unfold tellK
  generalize hA : 100 ^ ws.length = A at p q ⊢
  generalize npr ws ws.length = B at q ⊢
  have hx : (A - B) * m ≤ 1000000000000 * 689634 := Nat.mul_le_mul (by omega) hm
  have hg : 0 < Nat.gcd ((A - B) * m) A := Nat.gcd_pos_of_pos_right _ (by omega)
  have hg2 : Nat.gcd ((A - B) * m) A ≤ A := Nat.gcd_le_right _ (by omega)
  refine Wp.n (pc' := 53) 2 rfl ?_
  refine Wp.lsubM (x := A) (y := B) (len := 1) rfl (by omega) ?_
  refine Wp.n (pc' := 55) 1 rfl ?_
  refine Wp.lmulM (x := A - B) (y := m) (len := 1) rfl ?_
  refine Wp.n (pc' := 59) 2 rfl ?_
  refine Wp.nz1 (x := what) (tgt := 67) (len := 3) rfl (by omega) (fun h59 => ?_) (fun h59 => ?_)
  · skip
    refine Wp.n (pc' := 73) 3 rfl ?_
    refine Wp.ecallS (len := 3) rfl rfl rfl rfl (m_common (by omega) (by omega)) ?_
    refine Wp.ldivM (x := A) (y := Nat.gcd ((A - B) * m) A) (len := 1) rfl (by omega) (by omega) (by omega) ?_
    refine Wp.retL (len := 1) rfl rfl ?_
    first | (rw [if_pos (by omega)]; exact ⟨rfl, rfl⟩) | (rw [if_neg (by omega)]; exact ⟨rfl, rfl⟩)
  · skip
    refine Wp.n (pc' := 73) 4 rfl ?_
    refine Wp.ecallS (len := 3) rfl rfl rfl rfl (m_common (by omega) (by omega)) ?_
    refine Wp.ldivM (x := (A - B) * m) (y := Nat.gcd ((A - B) * m) A) (len := 1) rfl (by omega) (by omega) (by omega) ?_
    refine Wp.retL (len := 1) rfl rfl ?_
    first | (rw [if_pos (by omega)]; exact ⟨rfl, rfl⟩) | (rw [if_neg (by omega)]; exact ⟨rfl, rfl⟩)

theorem lcg_lt (x : Nat) : lcg x < 2147483648 := Nat.mod_lt _ (by decide)
theorem m_seen_l {ws : List Nat} (hW : WS σ ws) (hB : WB ws) {x0 : Nat} : ∀ (n i x : Nat) (b : Bool), i + n = ws.length → x < 2147483648 → Wp d md_258 8 [some (.ref 287), some (.long (lN x0)), none, some (.long (lN x)), none, some (.int (bI b)), some (.int (nI i))] [] (mset M σ) (IsR (some (.int (bI (seenL ws n i x b)))) (mset M σ)) := by
  intro n
  obtain ⟨hB1, hB2⟩ := hB
  induction n with
  | zero =>
    intro i x b hi hx
    refine Wp.n (pc' := 14) 3 rfl ?_
    refine Wp.top hW.1 ?_
    refine Wp.nc3 (x := i) (y := ws.length) (tgt := 70) (len := 3) rfl (by omega) (by omega) (fun h14 => ?_) (fun h14 => ?_)
    · skip
      refine Wp.n (pc' := 72) 1 rfl ?_
      refine Wp.retZ (len := 1) (c := b) rfl rfl rfl ?_
      exact ⟨rfl, rfl⟩
    · omega
  | succ n ih =>
    intro i x b hi hx
    have g := hB2 i
    have hl := lcg_lt x
    have el : (1103515245 * x + 12345) % 2147483648 = lcg x := rfl
    have kk : ∀ c : Bool, c = (decide (lcg x / 65536 % 100 < ws.getD i 0) || b) → Wp d md_258 8 [some (.ref 287), some (.long (lN x0)), none, some (.long (lN (lcg x))), none, some (.int (bI c)), some (.int (nI (i + 1)))] [] (mset M σ) (IsR (some (.int (bI (seenL ws (n + 1) i x b)))) (mset M σ)) := by
      intro c hc
      rw [hc]
      exact ih (i + 1) (lcg x) _ (by omega) hl
    refine Wp.n (pc' := 14) 3 rfl ?_
    refine Wp.top hW.1 ?_
    refine Wp.nc3 (x := i) (y := ws.length) (tgt := 70) (len := 3) rfl (by omega) (by omega) (fun h14 => ?_) (fun h14 => ?_)
    · omega
    · skip
      refine Wp.n (pc' := 21) 2 rfl ?_
      refine Wp.lmulM (x := 1103515245) (y := x) (len := 1) rfl ?_
      refine Wp.n (pc' := 25) 1 rfl ?_
      refine Wp.laddM (x := 1103515245 * x) (y := 12345) (len := 1) rfl ?_
      refine Wp.n (pc' := 29) 1 rfl ?_
      refine Wp.lremM (x := (1103515245 * x) + 12345) (y := 2147483648) (len := 1) rfl (by omega) (by omega) (by omega) ?_
      refine Wp.topL rfl ?_
      refine Wp.n (pc' := 35) 3 rfl ?_
      refine Wp.ldivM (x := lcg x) (y := 65536) (len := 1) rfl (by omega) (by omega) (by omega) ?_
      refine Wp.n (pc' := 39) 1 rfl ?_
      refine Wp.lremM (x := (lcg x) / 65536) (y := 100) (len := 1) rfl (by omega) (by omega) (by omega) ?_
      refine Wp.n (pc' := 46) 3 rfl ?_
      refine Wp.mialdN (j := i) (len := 1) rfl rfl rfl (by omega) ?_
      refine Wp.top (hW.2 i (by omega)) ?_
      refine Wp.i2lM (x := ws.getD i 0) (len := 1) rfl (by omega) ?_
      refine Wp.n (pc' := 49) 1 rfl ?_
      refine Wp.cz2 (x := ((lcg x) / 65536) % 100) (y := ws.getD i 0) (tgt := 57) (len := 3) rfl (by omega) (by omega) (fun h49 => ?_) (fun h49 => ?_)
      · skip
        refine Wp.n (pc' := 64) 3 rfl ?_
        refine Wp.incN (x := i) (len := 3) rfl rfl ?_
        refine Wp.n (pc' := 8) 1 rfl ?_
        first
          | exact kk true (by rw [decide_eq_true (by omega)]; rfl)
          | exact kk true (by rw [h54, Bool.or_true])
          | exact kk false (by rw [decide_eq_false (by omega), h54]; rfl)
      · skip
        refine Wp.n (pc' := 54) 1 rfl ?_
        refine Wp.ifb0 (tgt := 61) (len := 3) rfl (fun h54 => ?_) (fun h54 => ?_)
        · skip
          refine Wp.n (pc' := 64) 2 rfl ?_
          refine Wp.incN (x := i) (len := 3) rfl rfl ?_
          refine Wp.n (pc' := 8) 1 rfl ?_
          first
            | exact kk true (by rw [decide_eq_true (by omega)]; rfl)
            | exact kk true (by rw [h54, Bool.or_true])
            | exact kk false (by rw [decide_eq_false (by omega), h54]; rfl)
        · skip
          refine Wp.n (pc' := 64) 3 rfl ?_
          refine Wp.incN (x := i) (len := 3) rfl rfl ?_
          refine Wp.n (pc' := 8) 1 rfl ?_
          first
            | exact kk true (by rw [decide_eq_true (by omega)]; rfl)
            | exact kk true (by rw [h54, Bool.or_true])
            | exact kk false (by rw [decide_eq_false (by omega), h54]; rfl)

theorem m_isSeenBy {ws : List Nat} (hW : WS σ ws) (hB : WB ws) {x : Nat} (hx : x < 2147483648) : Ev d md_258 0 [some (.ref 287), some (.long (lN x)), none, none, none, none, none] [] (mset M σ) (some (.int (bI (seenK ws x))), mset M σ) := by
  refine Wp.toEv ?_
  refine Wp.n (pc' := 8) 6 rfl ?_
  exact m_seen_l hW hB ws.length 0 x false (by omega) hx
theorem GA_ws (ok : KOK K) {w : Nat} (hw : w < kh K 4) (h : GA σ K w) : WS σ (wat K (TRr K w).2.2) ∧ WB (wat K (TRr K w).2.2) := ⟨⟨h.2.2.2.1, h.2.2.2.2⟩, wat_b ok (TRr_b ok hw).1.2.1 (TRr_b ok hw).1.2.2⟩
def chanceA (K : KD) (x y : Int32) : Int64 := if isN (kh K 4) x = true ∧ isN 2 y = true then (bif lawK K x.toNatClampNeg then lN (tellK (wat K (TRr K x.toNatClampNeg).2.2) 1 y.toNatClampNeg) else -1) else -2
def hopeA (K : KD) (x y : Int32) : Int64 := if isN (kh K 4) x = true ∧ isN 2 y = true then (bif lawK K x.toNatClampNeg then lN (tellK (wat K (TRr K x.toNatClampNeg).2.2) (dutW K x.toNatClampNeg) y.toNatClampNeg) else -1) else -2
theorem in_isN {x : Int32} {hi : Int64} {k : Nat} (h : hi.toInt + 1 = (k : Int)) : decide ((0 : Int64).toInt ≤ x.toInt64.toInt ∧ x.toInt64.toInt ≤ hi.toInt) = isN k x := by
  unfold isN
  rw [il_toInt, show (0 : Int64).toInt = 0 from rfl]
  by_cases c : 0 ≤ x.toInt ∧ x.toInt < (k : Int)
  · rw [decide_eq_true c, decide_eq_true (by omega)]
  · rw [decide_eq_false c, decide_eq_false (by omega)]
theorem dutW_b (ok : KOK K) {w : Nat} (hw : w < kh K 4) : dutW K w ≤ 689634 := by
  have t := ok_walk ok hw
  exact dutyS_b ok (savK_b ok (t.2.2.2.2.2.2.1 0 (by omega))) (by omega)
theorem m_chance (hM : MK σ K) (x y : Int32) : Wp (d + 5) md_221 0 [some (.ref 287), some (.int x), some (.int y)] [] (mset M σ) (RJ M σ (chanceA K x y)) := by
  have ok := hM.2.1
  have hσ0 := hM.2.2.2
  obtain ⟨b0, b1, b2, b3, b4, b5, b6, b7, b8, b9, b10, b11, b12⟩ := ok_h ok
  unfold chanceA
  refine Wp.n (pc' := 2) 2 rfl ?_
  refine Wp.mput0 (len := 3) rfl hσ0 ?_
  refine Wp.n (pc' := 7) 2 rfl ?_
  refine Wp.ecallV (len := 3) rfl rfl rfl (rfl) rfl (by decide) rfl (m_isWalkK hM.1 ok _) ?_
  refine Wp.ifb0 (tgt := 23) (len := 3) rfl (fun h10 => ?_) (fun h10 => ?_)
  · skip
    refine Wp.n (pc' := 49) 2 rfl ?_
    refine Wp.retL (len := 1) rfl rfl ?_
    first
      | exact RJ_s hS (by rw [h34]; rfl)
      | (rw [if_neg (fun q => by rw [h10] at q; exact absurd q.1 (by decide))]; exact RJ_s Scr_r rfl)
      | (rw [if_neg (fun q => by rw [h20] at q; exact absurd q.2 (by decide))]; exact RJ_s Scr_r rfl)
  · skip
    refine Wp.n (pc' := 17) 4 rfl ?_
    refine Wp.ecallS (len := 3) rfl rfl rfl rfl (m_in _ _ _) ?_
    refine Wp.ifb1 (tgt := 29) (len := 3) rfl (fun h20 => ?_) (fun h20 => ?_)
    · rw [in_isN (k := 2) (by decide)] at h20
      obtain ⟨w, hw, rfl⟩ := isN_of h10
      obtain ⟨v, hv, rfl⟩ := isN_of h20
      rw [if_pos ⟨h10, h20⟩, nI_clamp (by omega), nI_clamp (by omega)]
      refine Wp.n (pc' := 31) 2 rfl ?_
      refine Wp.callV (len := 3) rfl rfl rfl (rfl) rfl (by decide) rfl (m_goesAs hM hw) ?_
      rintro _ _ ⟨rfl, τ, rfl, hS, hG⟩
      have hws := GA_ws ok hw hG
      refine Wp.ifb0 (tgt := 46) (len := 3) rfl (fun h34 => ?_) (fun h34 => ?_)
      · skip
        refine Wp.n (pc' := 49) 1 rfl ?_
        refine Wp.retL (len := 1) rfl rfl ?_
        first
          | exact RJ_s hS (by rw [h34]; rfl)
          | (rw [if_neg (fun q => by rw [h10] at q; exact absurd q.1 (by decide))]; exact RJ_s Scr_r rfl)
          | (rw [if_neg (fun q => by rw [h20] at q; exact absurd q.2 (by decide))]; exact RJ_s Scr_r rfl)
      · skip
        refine Wp.n (pc' := 40) 3 rfl ?_
        refine Wp.ecallV (len := 3) rfl rfl rfl (rfl) rfl (by decide) rfl (m_told (m := 1) hws.1 hws.2 (by omega) (by omega)) ?_
        refine Wp.n (pc' := 49) 1 rfl ?_
        refine Wp.retL (len := 1) rfl rfl ?_
        first
          | exact RJ_s hS (by rw [h34]; rfl)
          | (rw [if_neg (fun q => by rw [h10] at q; exact absurd q.1 (by decide))]; exact RJ_s Scr_r rfl)
          | (rw [if_neg (fun q => by rw [h20] at q; exact absurd q.2 (by decide))]; exact RJ_s Scr_r rfl)
    · rw [in_isN (k := 2) (by decide)] at h20
      refine Wp.n (pc' := 49) 2 rfl ?_
      refine Wp.retL (len := 1) rfl rfl ?_
      first
        | exact RJ_s hS (by rw [h34]; rfl)
        | (rw [if_neg (fun q => by rw [h10] at q; exact absurd q.1 (by decide))]; exact RJ_s Scr_r rfl)
        | (rw [if_neg (fun q => by rw [h20] at q; exact absurd q.2 (by decide))]; exact RJ_s Scr_r rfl)

theorem m_hope (hM : MK σ K) (x y : Int32) : Wp (d + 5) md_224 0 [some (.ref 287), some (.int x), some (.int y)] [] (mset M σ) (RJ M σ (hopeA K x y)) := by
  have ok := hM.2.1
  have hσ0 := hM.2.2.2
  obtain ⟨b0, b1, b2, b3, b4, b5, b6, b7, b8, b9, b10, b11, b12⟩ := ok_h ok
  unfold hopeA
  refine Wp.n (pc' := 2) 2 rfl ?_
  refine Wp.mput0 (len := 3) rfl hσ0 ?_
  refine Wp.n (pc' := 7) 2 rfl ?_
  refine Wp.ecallV (len := 3) rfl rfl rfl (rfl) rfl (by decide) rfl (m_isWalkK hM.1 ok _) ?_
  refine Wp.ifb0 (tgt := 23) (len := 3) rfl (fun h10 => ?_) (fun h10 => ?_)
  · skip
    refine Wp.n (pc' := 26) 1 rfl ?_
    refine Wp.retL (len := 1) rfl rfl ?_
    first
      | exact RJ_s (Scr_13 hS) (by rw [h32]; rfl)
      | exact RJ_s hS (by rw [h32]; rfl)
      | (rw [if_neg (fun q => by rw [h10] at q; exact absurd q.1 (by decide))]; exact RJ_s Scr_r rfl)
      | (rw [if_neg (fun q => by rw [h20] at q; exact absurd q.2 (by decide))]; exact RJ_s Scr_r rfl)
  · skip
    refine Wp.n (pc' := 17) 4 rfl ?_
    refine Wp.ecallS (len := 3) rfl rfl rfl rfl (m_in _ _ _) ?_
    refine Wp.ifb1 (tgt := 27) (len := 3) rfl (fun h20 => ?_) (fun h20 => ?_)
    · rw [in_isN (k := 2) (by decide)] at h20
      obtain ⟨w, hw, rfl⟩ := isN_of h10
      obtain ⟨v, hv, rfl⟩ := isN_of h20
      rw [if_pos ⟨h10, h20⟩, nI_clamp (by omega), nI_clamp (by omega)]
      refine Wp.n (pc' := 29) 2 rfl ?_
      refine Wp.callV (len := 3) rfl rfl rfl (rfl) rfl (by decide) rfl (m_goesAs hM hw) ?_
      rintro _ _ ⟨rfl, τ, rfl, hS, hG⟩
      have hws := GA_ws ok hw hG
      have hdw := dutW_b ok hw
      refine Wp.ifb1 (tgt := 39) (len := 3) rfl (fun h32 => ?_) (fun h32 => ?_)
      · skip
        refine Wp.n (pc' := 42) 3 rfl ?_
        refine Wp.callV (len := 3) rfl rfl rfl (rfl) rfl (by decide) rfl (m_dutyOf1 (MK_scr hM hS) hw rfl hG.1 (TRr_b ok hw).1 hG.2) ?_
        rintro _ _ ⟨rfl, h, rfl⟩
        refine Wp.i2lM (x := dutW K w) (len := 1) rfl (by omega) ?_
        refine Wp.n (pc' := 47) 1 rfl ?_
        refine Wp.ecallV (len := 3) rfl rfl rfl (rfl) rfl (by decide) rfl (m_told (m := dutW K w) (show WS (aset τ 13 h) _ from hws.1) hws.2 hdw (by omega)) ?_
        refine Wp.retL (len := 1) rfl rfl ?_
        first
          | exact RJ_s (Scr_13 hS) (by rw [h32]; rfl)
          | exact RJ_s hS (by rw [h32]; rfl)
          | (rw [if_neg (fun q => by rw [h10] at q; exact absurd q.1 (by decide))]; exact RJ_s Scr_r rfl)
          | (rw [if_neg (fun q => by rw [h20] at q; exact absurd q.2 (by decide))]; exact RJ_s Scr_r rfl)
      · skip
        refine Wp.n (pc' := 38) 1 rfl ?_
        refine Wp.retL (len := 1) rfl rfl ?_
        first
          | exact RJ_s (Scr_13 hS) (by rw [h32]; rfl)
          | exact RJ_s hS (by rw [h32]; rfl)
          | (rw [if_neg (fun q => by rw [h10] at q; exact absurd q.1 (by decide))]; exact RJ_s Scr_r rfl)
          | (rw [if_neg (fun q => by rw [h20] at q; exact absurd q.2 (by decide))]; exact RJ_s Scr_r rfl)
    · rw [in_isN (k := 2) (by decide)] at h20
      refine Wp.n (pc' := 26) 1 rfl ?_
      refine Wp.retL (len := 1) rfl rfl ?_
      first
        | exact RJ_s (Scr_13 hS) (by rw [h32]; rfl)
        | exact RJ_s hS (by rw [h32]; rfl)
        | (rw [if_neg (fun q => by rw [h10] at q; exact absurd q.1 (by decide))]; exact RJ_s Scr_r rfl)
        | (rw [if_neg (fun q => by rw [h20] at q; exact absurd q.2 (by decide))]; exact RJ_s Scr_r rfl)

theorem m_isSeedN (x : Int32) : Ev (d + 1) md_257 0 [some (.int x)] [] M (some (.int (bI (isN 2000000001 x))), M) := by
  have w := m_isSeed (d := d) (M := M) x
  have e : decide (0 ≤ x.toInt ∧ x.toInt ≤ 2000000000) = isN 2000000001 x := by
    unfold isN
    by_cases c : 0 ≤ x.toInt ∧ x.toInt < ((2000000001 : Nat) : Int)
    · rw [decide_eq_true c, decide_eq_true (by omega)]
    · rw [decide_eq_false c, decide_eq_false (by omega)]
  rw [e] at w
  exact w
def seenA (K : KD) (x y : Int32) : Int32 := if isN 2000000001 x = true ∧ isN (kh K 4) y = true then (bif lawK K y.toNatClampNeg then bI (seenK (wat K (TRr K y.toNatClampNeg).2.2) x.toNatClampNeg) else -1) else -2
theorem m_seen (hM : MK σ K) (x y : Int32) : Wp (d + 5) md_256 0 [some (.ref 287), some (.int x), some (.int y)] [] (mset M σ) (RI M σ (seenA K x y)) := by
  have ok := hM.2.1
  have hσ0 := hM.2.2.2
  obtain ⟨b0, b1, b2, b3, b4, b5, b6, b7, b8, b9, b10, b11, b12⟩ := ok_h ok
  unfold seenA
  refine Wp.n (pc' := 2) 2 rfl ?_
  refine Wp.mput0 (len := 3) rfl hσ0 ?_
  refine Wp.n (pc' := 6) 1 rfl ?_
  refine Wp.ecallS (len := 3) rfl rfl rfl rfl (m_isSeedN _) ?_
  refine Wp.ifb0 (tgt := 20) (len := 3) rfl (fun h9 => ?_) (fun h9 => ?_)
  · skip
    refine Wp.n (pc' := 22) 1 rfl ?_
    refine Wp.retI (len := 1) rfl rfl ?_
    first
      | exact RI_s hS (by rw [h28, h41]; rfl)
      | exact RI_s hS (by rw [h28]; rfl)
      | (rw [if_neg (fun q => by rw [h9] at q; exact absurd q.1 (by decide))]; exact RI_r rfl)
      | (rw [if_neg (fun q => by rw [h17] at q; exact absurd q.2 (by decide))]; exact RI_r rfl)
  · skip
    refine Wp.n (pc' := 14) 2 rfl ?_
    refine Wp.ecallV (len := 3) rfl rfl rfl (rfl) rfl (by decide) rfl (m_isWalkK hM.1 ok _) ?_
    refine Wp.ifb1 (tgt := 23) (len := 3) rfl (fun h17 => ?_) (fun h17 => ?_)
    · skip
      obtain ⟨v, hv, rfl⟩ := isN_of h9
      obtain ⟨w, hw, rfl⟩ := isN_of h17
      rw [if_pos ⟨h9, h17⟩, nI_clamp (by omega), nI_clamp (by omega)]
      refine Wp.n (pc' := 25) 2 rfl ?_
      refine Wp.callV (len := 3) rfl rfl rfl (rfl) rfl (by decide) rfl (m_goesAs hM hw) ?_
      rintro _ _ ⟨rfl, τ, rfl, hS, hG⟩
      have hws := GA_ws ok hw hG
      refine Wp.ifb1 (tgt := 35) (len := 3) rfl (fun h28 => ?_) (fun h28 => ?_)
      · skip
        refine Wp.n (pc' := 37) 2 rfl ?_
        refine Wp.i2lM (x := v) (len := 1) rfl (by omega) ?_
        refine Wp.ecallV (len := 3) rfl rfl rfl (rfl) rfl (by decide) rfl (m_isSeenBy hws.1 hws.2 (by omega)) ?_
        refine Wp.ifb0 (tgt := 48) (len := 3) rfl (fun h41 => ?_) (fun h41 => ?_)
        · skip
          refine Wp.n (pc' := 49) 1 rfl ?_
          refine Wp.retI (len := 1) rfl rfl ?_
          first
            | exact RI_s hS (by rw [h28, h41]; rfl)
            | exact RI_s hS (by rw [h28]; rfl)
            | (rw [if_neg (fun q => by rw [h9] at q; exact absurd q.1 (by decide))]; exact RI_r rfl)
            | (rw [if_neg (fun q => by rw [h17] at q; exact absurd q.2 (by decide))]; exact RI_r rfl)
        · skip
          refine Wp.n (pc' := 49) 2 rfl ?_
          refine Wp.retI (len := 1) rfl rfl ?_
          first
            | exact RI_s hS (by rw [h28, h41]; rfl)
            | exact RI_s hS (by rw [h28]; rfl)
            | (rw [if_neg (fun q => by rw [h9] at q; exact absurd q.1 (by decide))]; exact RI_r rfl)
            | (rw [if_neg (fun q => by rw [h17] at q; exact absurd q.2 (by decide))]; exact RI_r rfl)
      · skip
        refine Wp.n (pc' := 49) 2 rfl ?_
        refine Wp.retI (len := 1) rfl rfl ?_
        first
          | exact RI_s hS (by rw [h28, h41]; rfl)
          | exact RI_s hS (by rw [h28]; rfl)
          | (rw [if_neg (fun q => by rw [h9] at q; exact absurd q.1 (by decide))]; exact RI_r rfl)
          | (rw [if_neg (fun q => by rw [h17] at q; exact absurd q.2 (by decide))]; exact RI_r rfl)
    · skip
      refine Wp.n (pc' := 22) 1 rfl ?_
      refine Wp.retI (len := 1) rfl rfl ?_
      first
        | exact RI_s hS (by rw [h28, h41]; rfl)
        | exact RI_s hS (by rw [h28]; rfl)
        | (rw [if_neg (fun q => by rw [h9] at q; exact absurd q.1 (by decide))]; exact RI_r rfl)
        | (rw [if_neg (fun q => by rw [h17] at q; exact absurd q.2 (by decide))]; exact RI_r rfl)

def ctI (K : KD) (seed w : Nat) (s k : Nat) : Nat := bif seenK (wat K (TRr K w).2.2) (seed + k) then s + dutW K w else s
def ctO (K : KD) (seed m : Nat) (s w : Nat) : Nat := bif lawK K w then fld (ctI K seed w) m 0 s else s
theorem m_ct_i (hM : MK σ K) {seed m w : Nat} (hs : seed < 2000000001) (hm : m ≤ 20) (hw : w < kh K 4) : ∀ (n k s : Nat) (τ : MS), k + n = m → Scr σ τ → GA τ K w → (∀ τ', Scr σ τ' → Wp (d + 5) md_259 103 [some (.ref 287), some (.int (nI seed)), some (.int (nI m)), some (.int (nI (fld (ctI K seed w) n k s))), some (.int (nI w)), some (.int (nI m))] [] (mset M τ') Q) → Wp (d + 5) md_259 65 [some (.ref 287), some (.int (nI seed)), some (.int (nI m)), some (.int (nI s)), some (.int (nI w)), some (.int (nI k))] [] (mset M τ) Q := by
  have ok := hM.2.1
  intro n
  obtain ⟨b0, b1, b2, b3, b4, b5, b6, b7, b8, b9, b10, b11, b12⟩ := ok_h ok
  induction n with
  | zero =>
    intro k s τ hk hS hG kk
    refine Wp.n (pc' := 68) 2 rfl ?_
    refine Wp.nc3 (x := k) (y := m) (tgt := 103) (len := 3) rfl (by omega) (by omega) (fun h68 => ?_) (fun h68 => ?_)
    · skip
      rw [show k = m by omega]
      exact kk τ hS
    · omega
  | succ n ih =>
    intro k s τ hk hS hG kk
    have hws := GA_ws ok hw hG
    refine Wp.n (pc' := 68) 2 rfl ?_
    refine Wp.nc3 (x := k) (y := m) (tgt := 103) (len := 3) rfl (by omega) (by omega) (fun h68 => ?_) (fun h68 => ?_)
    · omega
    · skip
      refine Wp.n (pc' := 74) 3 rfl ?_
      refine Wp.i2lM (x := seed) (len := 1) rfl (by omega) ?_
      refine Wp.n (pc' := 77) 1 rfl ?_
      refine Wp.i2lM (x := k) (len := 1) rfl (by omega) ?_
      refine Wp.laddM (x := seed) (y := k) (len := 1) rfl ?_
      refine Wp.ecallV (len := 3) rfl rfl rfl (rfl) rfl (by decide) rfl (m_isSeenBy hws.1 hws.2 (by omega)) ?_
      refine Wp.ifb0 (tgt := 94) (len := 3) rfl (fun h82 => ?_) (fun h82 => ?_)
      · skip
        refine Wp.n (pc' := 95) 1 rfl ?_
        refine Wp.iaddN (x := s) (y := 0) (len := 1) rfl ?_
        refine Wp.n (pc' := 97) 1 rfl ?_
        refine Wp.incN (x := k) (len := 3) rfl rfl ?_
        refine Wp.n (pc' := 65) 1 rfl ?_
        first
          | (refine ih (k + 1) (s + dutW K w) _ (by omega) (Scr_13 hS) hG ?_
             rw [show fld (ctI K seed w) (n + 1) k s = fld (ctI K seed w) n (k + 1) (ctI K seed w s k) from rfl, show ctI K seed w s k = s + dutW K w by unfold ctI; rw [h82]; rfl] at kk
             exact kk)
          | (refine ih (k + 1) s _ (by omega) hS hG ?_
             rw [show fld (ctI K seed w) (n + 1) k s = fld (ctI K seed w) n (k + 1) (ctI K seed w s k) from rfl, show ctI K seed w s k = s by unfold ctI; rw [h82]; rfl] at kk
             exact kk)
      · skip
        refine Wp.n (pc' := 88) 2 rfl ?_
        refine Wp.callV (len := 3) rfl rfl rfl (rfl) rfl (by decide) rfl (m_dutyOf1 (MK_scr hM hS) hw rfl hG.1 (TRr_b ok hw).1 hG.2) ?_
        rintro _ _ ⟨rfl, h, rfl⟩
        refine Wp.n (pc' := 95) 1 rfl ?_
        refine Wp.iaddN (x := s) (y := dutW K w) (len := 1) rfl ?_
        refine Wp.n (pc' := 97) 1 rfl ?_
        refine Wp.incN (x := k) (len := 3) rfl rfl ?_
        refine Wp.n (pc' := 65) 1 rfl ?_
        first
          | (refine ih (k + 1) (s + dutW K w) _ (by omega) (Scr_13 hS) hG ?_
             rw [show fld (ctI K seed w) (n + 1) k s = fld (ctI K seed w) n (k + 1) (ctI K seed w s k) from rfl, show ctI K seed w s k = s + dutW K w by unfold ctI; rw [h82]; rfl] at kk
             exact kk)
          | (refine ih (k + 1) s _ (by omega) hS hG ?_
             rw [show fld (ctI K seed w) (n + 1) k s = fld (ctI K seed w) n (k + 1) (ctI K seed w s k) from rfl, show ctI K seed w s k = s by unfold ctI; rw [h82]; rfl] at kk
             exact kk)

theorem m_ct_o (hM : MK σ K) {seed m : Nat} (hs : seed < 2000000001) (hm : m ≤ 20) : ∀ (n w s : Nat) (τ : MS) (z : Option Value), w + n = kh K 4 → Scr σ τ → Wp (d + 5) md_259 39 [some (.ref 287), some (.int (nI seed)), some (.int (nI m)), some (.int (nI s)), some (.int (nI w)), z] [] (mset M τ) (RI M σ (nI (fld (ctO K seed m) n w s))) := by
  have ok := hM.2.1
  intro n
  obtain ⟨b0, b1, b2, b3, b4, b5, b6, b7, b8, b9, b10, b11, b12⟩ := ok_h ok
  induction n with
  | zero =>
    intro w s τ z hw hS
    refine Wp.n (pc' := 46) 4 rfl ?_
    refine Wp.mialdN (j := 4) (len := 1) rfl rfl rfl (by omega) ?_
    refine Wp.top (r0_has (MK_scr hM hS).1 (by decide)) ?_
    refine Wp.nc3 (x := w) (y := kh K 4) (tgt := 109) (len := 3) rfl (by omega) (by omega) (fun h47 => ?_) (fun h47 => ?_)
    · skip
      refine Wp.n (pc' := 110) 1 rfl ?_
      refine Wp.retI (len := 1) rfl rfl ?_
      exact RI_s hS rfl
    · omega
  | succ n ih =>
    intro w s τ z hw hS
    have hK := MK_scr hM hS
    rw [show fld (ctO K seed m) (n + 1) w s = fld (ctO K seed m) n (w + 1) (ctO K seed m s w) from rfl]
    refine Wp.n (pc' := 46) 4 rfl ?_
    refine Wp.mialdN (j := 4) (len := 1) rfl rfl rfl (by omega) ?_
    refine Wp.top (r0_has hK.1 (by decide)) ?_
    refine Wp.nc3 (x := w) (y := kh K 4) (tgt := 109) (len := 3) rfl (by omega) (by omega) (fun h47 => ?_) (fun h47 => ?_)
    · omega
    · skip
      refine Wp.n (pc' := 53) 2 rfl ?_
      refine Wp.callV (len := 3) rfl rfl rfl (rfl) rfl (by decide) rfl (m_goesAs hK (by omega)) ?_
      rintro _ _ ⟨rfl, τ', rfl, hS', hG⟩
      refine Wp.ifb1 (tgt := 62) (len := 3) rfl (fun h56 => ?_) (fun h56 => ?_)
      · skip
        refine Wp.n (pc' := 65) 2 rfl ?_
        rw [show ctO K seed m s w = fld (ctI K seed w) m 0 s by unfold ctO; rw [h56]; rfl]
        refine m_ct_i hM hs hm (by omega) m 0 s τ' (by omega) (Scr_t hS hS') hG (fun τ2 hS2 => ?_)
        refine Wp.incN (x := w) (len := 3) rfl rfl ?_
        refine Wp.n (pc' := 39) 1 rfl ?_
        exact ih (w + 1) _ τ2 _ (by omega) hS2
        
      · skip
        refine Wp.n (pc' := 103) 1 rfl ?_
        refine Wp.incN (x := w) (len := 3) rfl rfl ?_
        refine Wp.n (pc' := 39) 1 rfl ?_
        rw [show ctO K seed m s w = s by unfold ctO; rw [h56]; rfl]
        exact ih (w + 1) s τ' _ (by omega) (Scr_t hS hS')

def caughtA (K : KD) (x y : Int32) : Int32 := if 0 < kh K 0 ∧ isN 2000000001 x = true ∧ (1 ≤ y.toInt ∧ y.toInt ≤ 20) then nI (fld (ctO K x.toNatClampNeg y.toNatClampNeg) (kh K 4) 0 0) else -2
theorem m_caught (hM : MK σ K) (x y : Int32) : Wp (d + 6) md_259 0 [some (.ref 287), some (.int x), some (.int y), none, none, none] [] (mset M σ) (RI M σ (caughtA K x y)) := by
  have ok := hM.2.1
  have hσ0 := hM.2.2.2
  obtain ⟨b0, b1, b2, b3, b4, b5, b6, b7, b8, b9, b10, b11, b12⟩ := ok_h ok
  unfold caughtA
  refine Wp.n (pc' := 2) 2 rfl ?_
  refine Wp.mput0 (len := 3) rfl hσ0 ?_
  refine Wp.n (pc' := 6) 1 rfl ?_
  refine Wp.ecallV (len := 3) rfl rfl rfl (rfl) rfl (by decide) rfl (m_isKingdom hM.1 ok) ?_
  refine Wp.ifb0 (tgt := 31) (len := 3) rfl (fun h9 => ?_) (fun h9 => ?_)
  · skip
    refine Wp.n (pc' := 33) 1 rfl ?_
    refine Wp.retI (len := 1) rfl rfl ?_
    first
      | (rw [if_neg (fun q => of_decide_eq_false h9 q.1)]; exact RI_r rfl)
      | (rw [if_neg (fun q => by rw [h16] at q; exact absurd q.2.1 (by decide))]; exact RI_r rfl)
      | (rw [if_neg (fun q => of_decide_eq_false h28 q.2.2)]; exact RI_r rfl)
  · skip
    refine Wp.n (pc' := 13) 1 rfl ?_
    refine Wp.ecallS (len := 3) rfl rfl rfl rfl (m_isSeedN _) ?_
    refine Wp.ifb0 (tgt := 31) (len := 3) rfl (fun h16 => ?_) (fun h16 => ?_)
    · skip
      refine Wp.n (pc' := 33) 1 rfl ?_
      refine Wp.retI (len := 1) rfl rfl ?_
      first
        | (rw [if_neg (fun q => of_decide_eq_false h9 q.1)]; exact RI_r rfl)
        | (rw [if_neg (fun q => by rw [h16] at q; exact absurd q.2.1 (by decide))]; exact RI_r rfl)
        | (rw [if_neg (fun q => of_decide_eq_false h28 q.2.2)]; exact RI_r rfl)
    · skip
      refine Wp.n (pc' := 25) 4 rfl ?_
      refine Wp.ecallS (len := 3) rfl rfl rfl rfl (m_in _ _ _) ?_
      refine Wp.ifb1 (tgt := 34) (len := 3) rfl (fun h28 => ?_) (fun h28 => ?_)
      · rw [il_toInt] at h28
        have hy := of_decide_eq_true h28
        obtain ⟨v, hv, rfl⟩ := isN_of h16
        obtain ⟨m, hm, rfl⟩ := nI_of (x := y) (by rw [i_lt]; intro q; have q' : y.toInt < 0 := q; have : (1 : Int) ≤ y.toInt := hy.1; omega)
        rw [if_pos ⟨of_decide_eq_true h9, h16, hy⟩, nI_clamp (by omega), nI_clamp hm]
        have hm20 : m ≤ 20 := by
          have := hy.2
          rw [nI_toInt hm] at this
          have : (m : Int) ≤ 20 := this
          omega
        refine Wp.n (pc' := 39) 4 rfl ?_
        exact m_ct_o hM hv hm20 (kh K 4) 0 0 σ none (by omega) Scr_r
      · rw [il_toInt] at h28
        refine Wp.n (pc' := 33) 1 rfl ?_
        refine Wp.retI (len := 1) rfl rfl ?_
        first
          | (rw [if_neg (fun q => of_decide_eq_false h9 q.1)]; exact RI_r rfl)
          | (rw [if_neg (fun q => by rw [h16] at q; exact absurd q.2.1 (by decide))]; exact RI_r rfl)
          | (rw [if_neg (fun q => of_decide_eq_false h28 q.2.2)]; exact RI_r rfl)

end CHANCE
end
section
/-! ALL WAYS, as a list, in the order in which both sides go. -/
def loopL {α : Type} (g : Nat → List α) : Nat → Nat → List α
  | 0, _ => []
  | n + 1, p => g p ++ loopL g n (p + 1)
def dfs (K : KD) (y t : Nat) : Nat → List Nat → Nat → Nat × List Nat → List (List Nat × Nat × List Nat)
  | 0, _, _, _ => []
  | f + 1, ps, q, s => if q = t then [(ps, s)] else loopL (fun p => if ps.contains p = true then [] else match joinK K q p y with
    | none => []
    | some j => dfs K y t f (ps ++ [p]) p (addJ K s j)) (kh K 0) 0
def PV (K : KD) (y : Nat) (ps : List Nat) (q : Nat) (s : Nat × List Nat) : Prop := 1 ≤ ps.length ∧ ps.getD (ps.length - 1) 0 = q ∧ ps.Nodup ∧ (∀ p, p ∈ ps → p < kh K 0) ∧ lookK K y (fun i => ps.getD i 0) (ps.length - 1) 0 (0, []) = (ps.length - 1, s)
theorem lookK_snoc {K : KD} {y : Nat} {P : Nat → Nat} {s : Nat × List Nat} : ∀ (n i : Nat) (s0 : Nat × List Nat), lookK K y P n i s0 = (i + n, s) → lookK K y P (n + 1) i s0 = match joinK K (P (i + n)) (P (i + n + 1)) y with
    | none => (i + n, s)
    | some j => (i + n + 1, addJ K s j)
  | 0, i, s0, h => by
    have h2 : s0 = s := by
      have := congrArg Prod.snd h
      exact this
    subst h2
    show (match joinK K (P i) (P (i + 1)) y with | none => (i, s0) | some j => lookK K y P 0 (i + 1) (addJ K s0 j)) = _
    cases joinK K (P i) (P (i + 1)) y with
    | none => rfl
    | some j => rfl
  | n + 1, i, s0, h => by
    have h1 : (match joinK K (P i) (P (i + 1)) y with | none => (i, s0) | some j => lookK K y P n (i + 1) (addJ K s0 j)) = (i + (n + 1), s) := h
    show (match joinK K (P i) (P (i + 1)) y with | none => (i, s0) | some j => lookK K y P (n + 1) (i + 1) (addJ K s0 j)) = _
    cases e : joinK K (P i) (P (i + 1)) y with
    | none =>
      rw [e] at h1
      have h2 : i = i + (n + 1) := congrArg Prod.fst h1
      omega
    | some j =>
      rw [e] at h1
      have h2 : lookK K y P n (i + 1) (addJ K s0 j) = (i + 1 + n, s) := by rw [show i + 1 + n = i + (n + 1) by omega]; exact h1
      have := lookK_snoc n (i + 1) (addJ K s0 j) h2
      rw [show i + 1 + n = i + (n + 1) by omega] at this
      exact this
theorem lookK_c {K : KD} {y : Nat} {P P' : Nat → Nat} : ∀ (n i : Nat) (s : Nat × List Nat), (∀ j, j ≤ i + n → P j = P' j) → lookK K y P n i s = lookK K y P' n i s
  | 0, _, _, _ => rfl
  | n + 1, i, s, h => by
    show (match joinK K (P i) (P (i + 1)) y with | none => (i, s) | some j => lookK K y P n (i + 1) (addJ K s j)) = (match joinK K (P' i) (P' (i + 1)) y with | none => (i, s) | some j => lookK K y P' n (i + 1) (addJ K s j))
    rw [h i (by omega), h (i + 1) (by omega)]
    cases joinK K (P' i) (P' (i + 1)) y with
    | none => rfl
    | some j => exact lookK_c n (i + 1) (addJ K s j) (fun j hj => h j (by omega))
theorem cn_one (x : Nat) : ∀ n, cn (fun q => decide (q = x)) n = if x < n then 1 else 0
  | 0 => by rw [if_neg (by omega)]; rfl
  | n + 1 => by
    unfold cn
    rw [cn_one x n]
    by_cases h : n = x
    · subst h
      rw [if_neg (by omega), if_pos (by omega), decide_eq_true rfl]
      rfl
    · rw [decide_eq_false h]
      by_cases c : x < n
      · rw [if_pos c, if_pos (by omega)]; rfl
      · rw [if_neg c, if_neg (by omega)]; rfl
theorem cn_or {P Q : Nat → Bool} : ∀ n, (∀ q, ¬ (P q = true ∧ Q q = true)) → cn (fun q => P q || Q q) n = cn P n + cn Q n
  | 0, _ => rfl
  | n + 1, h => by
    unfold cn
    rw [cn_or n h]
    have := h n
    cases hp : P n <;> cases hq : Q n
    · show _ + 0 = _; simp
    · show _ + 1 = _; show _ = _ + 0 + (_ + 1); omega
    · show _ + 1 = _; show _ = _ + 1 + (_ + 0); omega
    · exact absurd ⟨hp, hq⟩ this
theorem cn_list {n : Nat} : ∀ {ps : List Nat}, ps.Nodup → (∀ p, p ∈ ps → p < n) → cn (fun q => ps.contains q) n = ps.length
  | [], _, _ => by
    have : ∀ n, cn (fun q => ([] : List Nat).contains q) n = 0 := by
      intro n
      induction n with
      | zero => rfl
      | succ n ih => unfold cn; rw [ih]; rfl
    exact this n
  | x :: t, hn, hb => by
    have hn' := List.nodup_cons.mp hn
    have e : (fun q => (x :: t).contains q) = fun q => decide (q = x) || t.contains q := by
      funext q
      rw [List.contains_cons]
      congr 1
    rw [e, cn_or n, cn_one, if_pos (hb x List.mem_cons_self), cn_list hn'.2 (fun p hp => hb p (List.mem_cons_of_mem _ hp)), List.length_cons]
    · omega
    · intro q hq
      have h1 := of_decide_eq_true hq.1
      have h2 := List.contains_iff_mem.mp hq.2
      rw [h1] at h2
      exact hn'.1 h2
section PVS
variable {K : KD}
theorem PV_len {y q : Nat} {ps : List Nat} {s : Nat × List Nat} (ok : KOK K) (h : PV K y ps q s) : ps.length ≤ kh K 0 := by
  have h1 := cn_list h.2.2.1 h.2.2.2.1
  have h2 := cn_le (P := fun q => ps.contains q) (Q := fun _ => true) (kh K 0) (fun _ _ _ => rfl)
  rw [cn_all] at h2
  omega
/-- when all places are met, none is left -/
theorem PV_full {y q : Nat} {ps : List Nat} {s : Nat × List Nat} (h : PV K y ps q s) (hl : kh K 0 ≤ ps.length) {p : Nat} (hp : p < kh K 0) : ps.contains p = true := by
  cases e : ps.contains p with
  | true => rfl
  | false =>
    have h1 := cn_list h.2.2.1 h.2.2.2.1
    have h2 := cn_lt (P := fun q => ps.contains q) (Q := fun _ => true) (kh K 0) (fun _ _ _ => rfl) ⟨p, hp, e, rfl⟩
    rw [cn_all] at h2
    omega
theorem PV_1 {y a : Nat} (ha : a < kh K 0) : PV K y [a] a (0, []) := ⟨Nat.le_refl _, rfl, List.nodup_cons.mpr ⟨List.not_mem_nil, List.nodup_nil⟩, fun p hp => by rw [List.mem_singleton] at hp; omega, rfl⟩
theorem PV_q {y q : Nat} {ps : List Nat} {s : Nat × List Nat} (h : PV K y ps q s) : q < kh K 0 := by
  have h1 := h.1
  rw [← h.2.1, List.getD_eq_getElem?_getD, List.getElem?_eq_getElem (by omega)]
  exact h.2.2.2.1 _ (List.getElem_mem _)
theorem PV_s {y q p j : Nat} {ps : List Nat} {s : Nat × List Nat} (h : PV K y ps q s) (hp : p < kh K 0) (hc : ps.contains p = false) (hj : joinK K q p y = some j) : PV K y (ps ++ [p]) p (addJ K s j) := by
  obtain ⟨h1, h2, h3, h4, h5⟩ := h
  have hl : (ps ++ [p]).length = ps.length + 1 := by rw [List.length_append]; rfl
  refine ⟨by omega, ?_, ?_, ?_, ?_⟩
  · rw [hl, show ps.length + 1 - 1 = ps.length by omega, getD_end]
  · rw [List.nodup_append]
    refine ⟨h3, List.nodup_cons.mpr ⟨List.not_mem_nil, List.nodup_nil⟩, ?_⟩
    intro a ha b hb
    rw [List.mem_singleton] at hb
    rw [hb]
    intro e
    rw [e] at ha
    rw [List.contains_iff_mem.mpr ha] at hc
    cases hc
  · intro x hx
    rw [List.mem_append] at hx
    rcases hx with hx | hx
    · exact h4 x hx
    · rw [List.mem_singleton] at hx; omega
  · rw [hl, show ps.length + 1 - 1 = (ps.length - 1) + 1 by omega]
    have e1 : lookK K y (fun i => (ps ++ [p]).getD i 0) (ps.length - 1) 0 (0, []) = (0 + (ps.length - 1), s) := by
      rw [Nat.zero_add, ← h5]
      exact lookK_c _ _ _ (fun i hi => getD_app (by omega))
    rw [lookK_snoc _ _ _ e1]
    have e2 : (ps ++ [p]).getD (0 + (ps.length - 1)) 0 = q := by
      rw [Nat.zero_add, getD_app (by omega), h2]
    have e3 : (ps ++ [p]).getD (0 + (ps.length - 1) + 1) 0 = p := by
      rw [show 0 + (ps.length - 1) + 1 = ps.length by omega, getD_end]
    show (match joinK K ((ps ++ [p]).getD (0 + (ps.length - 1)) 0) ((ps ++ [p]).getD (0 + (ps.length - 1) + 1) 0) y with | none => (0 + (ps.length - 1), s) | some j => (0 + (ps.length - 1) + 1, addJ K s j)) = _
    rw [e2, e3, hj, Nat.zero_add]
theorem PV_sb (ok : KOK K) {y q : Nat} {ps : List Nat} {s : Nat × List Nat} (h : PV K y ps q s) : SB K 6 s := by
  obtain ⟨⟨a1, a2, a3⟩, _, _⟩ := lookK_b ok (y := y) (P := fun i => ps.getD i 0) (ps.length - 1) 0 (0, []) ⟨Nat.le_refl _, Nat.le_refl _, fun l hl => absurd hl List.not_mem_nil⟩
  rw [h.2.2.2.2] at a1 a2 a3
  have hl := PV_len ok h
  have h0 := (ok_h ok).1
  exact ⟨by show s.1 ≤ _; have : s.1 ≤ 129 * (0 + (ps.length - 1)) := a1; omega, by have : s.2.length ≤ 0 + (ps.length - 1) := a2; omega, a3⟩
end PVS
/-- what a way gives: ways, least cost, its length, lanes of all, the best with its duty -/
abbrev MT : Type := Nat × Nat × Nat × Option Nat × Option (Nat × List Nat)
def dW (K : KD) (a b y load : Nat) (s : Nat × List Nat) : Nat := dutyS K (boatK K s.2) (savK K a b s.1) y load
def cW (K : KD) (aim d : Nat) (s : Nat × List Nat) : Nat := if aim = 2 then kh K 8 * s.1 + d else 0
def meet (K : KD) (aim a b y load dn : Nat) (st : MT) (w : List Nat × Nat × List Nat) : MT :=
  if aim = 1 ∧ 0 < (wat K w.2.2).length then st
  else if aim = 3 ∨ aim = 4 then (if dW K a b y load w.2 = dn ∧ (aim = 4 → w.2.2.contains 8 = true) then (st.1 + 1, st.2.1, st.2.2.1, some (match st.2.2.2.1 with | none => bitsM w.2.2 | some c => c &&& bitsM w.2.2), st.2.2.2.2) else st)
  else if st.2.1 < cW K aim (dW K a b y load w.2) w.2 ∨ (cW K aim (dW K a b y load w.2) w.2 = st.2.1 ∧ st.2.2.1 ≤ w.2.1) then (st.1 + 1, st.2)
  else (st.1 + 1, cW K aim (dW K a b y load w.2) w.2, w.2.1, st.2.2.2.1, some (if aim = 2 then dW K a b y load w.2 else 0, w.1))
end
section
/-! meets, goesOn, seeks: the reference goes all ways. -/
abbrev MF : List Nat := [37, 38, 39, 40, 41, 42]
abbrev MA : List Nat := [13, 16]
def BR (τ : MS) (dq : Nat) (pq : List Nat) : Prop := τ.1 40 = nI dq ∧ τ.1 41 = nI pq.length ∧ ∀ i, i < pq.length → τ.2.2.1 16 i = nI (pq.getD i 0)
def MR (τ : MS) (st : MT) : Prop := τ.1 37 = nI st.1 ∧ τ.1 38 = nI st.2.1 ∧ τ.1 39 = nI st.2.2.1 ∧ τ.1 42 = oI st.2.2.2.1 ∧ (∀ dq pq, st.2.2.2.2 = some (dq, pq) → BR τ dq pq)
def MB (st : MT) : Prop := st.2.1 ≤ 100000000 ∧ st.2.2.1 ≤ 1000000
/-- what is sought -/
def SK (τ : MS) (aim y load dn : Nat) : Prop := τ.1 33 = nI aim ∧ τ.1 34 = nI y ∧ τ.1 35 = nI load ∧ (3 ≤ aim → τ.1 36 = nI dn)
theorem all_and {c : Option Nat} {b : Nat} : oI c &&& nI b = oI (some (match c with | none => b | some c => c &&& b)) := by
  cases c with
  | none =>
    show (-1 : Int32) &&& nI b = nI b
    apply Int32.toBitVec_inj.1
    show BitVec.allOnes 32 &&& _ = _
    exact BitVec.allOnes_and
  | some c => exact n_and c b
theorem cW_b {K : KD} (ok : KOK K) {aim dd : Nat} {s : Nat × List Nat} (hs : s.1 ≤ 774) (hd : dd ≤ 689634) : cW K aim dd s ≤ 100000000 := by
  have b8 := (ok_h ok).2.2.2.2.2.2.2.2.1
  unfold cW
  by_cases c : aim = 2
  · rw [if_pos c]
    have : kh K 8 * s.1 ≤ 99 * 774 := Nat.mul_le_mul b8 hs
    omega
  · rw [if_neg c]; omega
theorem meet_b {K : KD} (ok : KOK K) {aim a b y load dn : Nat} {st : MT} {w : List Nat × Nat × List Nat} (hs : w.2.1 ≤ 774) (ha : a < kh K 0) (hl : load ≤ 9) (h : MB st) : MB (meet K aim a b y load dn st w) := by
  have hd : dW K a b y load w.2 ≤ 689634 := dutyS_b ok (savK_b ok ha) hl
  have hc := cW_b (aim := aim) ok hs hd
  unfold meet
  split
  · exact h
  · split
    · split
      · exact h
      · exact h
    · split
      · exact h
      · exact ⟨hc, by show w.2.1 ≤ _; omega⟩
section MEETS
variable {d : Nat} {M : AM} {σ τ : MS} {K : KD} {Q : Option Value → AM → Prop}
theorem m_best_l {ps : List Nat} (h7 : ps.length ≤ 7) : ∀ (n i : Nat) (υ : MS) (z1 z2 : Option Value), i + n = ps.length → RW υ ps.length (fun i => ps.getD i 0) → (∀ j, j < i → υ.2.2.1 16 j = nI (ps.getD j 0)) → (∀ g, (∀ j, j < ps.length → g j = nI (ps.getD j 0)) → Q none (mset M (aset υ 16 g))) → Wp d md_229 213 [some (.ref 287), z1, z2, some (.int (nI i))] [] (mset M υ) Q := by
  intro n
  induction n with
  | zero =>
    intro i υ z1 z2 hi hW hb k
    refine Wp.n (pc' := 218) 3 rfl ?_
    refine Wp.top hW.1 ?_
    refine Wp.nc3 (x := i) (y := ps.length) (tgt := 239) (len := 3) rfl (by omega) (by omega) (fun h218 => ?_) (fun h218 => ?_)
    · skip
      refine Wp.retV (len := 1) rfl rfl ?_
      have q := k (υ.2.2.1 16) (fun j hj => hb j (by omega))
      rw [aset_same] at q
      exact q
    · omega
  | succ n ih =>
    intro i υ z1 z2 hi hW hb k
    refine Wp.n (pc' := 218) 3 rfl ?_
    refine Wp.top hW.1 ?_
    refine Wp.nc3 (x := i) (y := ps.length) (tgt := 239) (len := 3) rfl (by omega) (by omega) (fun h218 => ?_) (fun h218 => ?_)
    · omega
    · skip
      refine Wp.n (pc' := 231) 6 rfl ?_
      refine Wp.mialdN (j := i) (len := 1) rfl rfl rfl (by omega) ?_
      refine Wp.top (hW.2 i (by omega)) ?_
      refine Wp.miastN (j := i) (len := 1) rfl rfl rfl (by omega) ?_
      refine Wp.incN (x := i) (len := 3) rfl rfl ?_
      refine Wp.n (pc' := 213) 1 rfl ?_
      refine ih (i + 1) (aset υ 16 (upd (υ.2.2.1 16) i (nI (ps.getD i 0)))) _ _ (by omega) hW (fun j hj => ?_) (fun g hg => ?_)
      · show upd (υ.2.2.1 16) i _ j = _
        by_cases c : j = i
        · rw [c, pk_us]
        · rw [pk_un c]
          exact hb j (by omega)
      · rw [aset_aset]
        exact k g hg

theorem m_meets (hK : MK τ K) {aim a b y load dn : Nat} {ps : List Nat} {s : Nat × List Nat} {st : MT} (hA : SK τ aim y load dn) (haim : aim ≤ 4) (hy : y < 31) (hload : load ≤ 9) (hdn : dn < 2 ^ 31) (hW : RW τ ps.length (fun i => ps.getD i 0)) (h1 : 1 ≤ ps.length) (h7 : ps.length ≤ 7) (hP : ∀ i, i < ps.length → ps.getD i 0 < kh K 0) (ha : ps.getD 0 0 = a) (hb : ps.getD (ps.length - 1) 0 = b) (hL : LKs τ K s) (hS : SB K 6 s) (hR : MR τ st) (hB : MB st) : Wp (d + 4) md_229 0 [some (.ref 287), none, none, none] [] (mset M τ) (fun v M' => v = none ∧ ∃ τ', M' = mset M τ' ∧ Fr MF MA τ τ' ∧ MR τ' (meet K aim a b y load dn st (ps, s))) := by
  have ok := hK.2.1
  obtain ⟨b0, b1, b2, b3, b4, b5, b6, b7, b8, b9, b10, b11, b12⟩ := ok_h ok
  have ha0 : a < kh K 0 := by rw [← ha]; exact hP 0 (by omega)
  have hs1 : s.1 ≤ 774 := hS.1
  have hs2 : (wat K s.2).length ≤ 6 := Nat.le_trans (wat_len s.2) hS.2.1
  have hbt := SB_bits ok hS
  have hd : dW K a b y load s ≤ 689634 := dutyS_b ok (savK_b ok ha0) hload
  have hcw := cW_b (aim := aim) ok hs1 hd
  have hl2 : τ.2.2.1 7 2 = nI (kh K 8) := r0_law hK.1 (by omega) (j := 2) (by decide)
  have hlm : kh K 8 * s.1 ≤ 99 * 774 := Nat.mul_le_mul b8 hs1
  obtain ⟨hB1, hB2⟩ := hB
  obtain ⟨hR1, hR2, hR3, hR4, hR5⟩ := hR
  obtain ⟨hL1, hL2, hL3, hL4⟩ := hL
  have hdut : Wp (d + 3) md_215 0 [some (.ref 287), some (.int (nI y)), some (.int (nI load)), none] [] (mset M τ) (fun v M' => v = some (.int (nI (dW K a b y load s))) ∧ ∃ h, M' = mset M (aset τ 13 h)) := by
    have w := m_dutyOf (d := d) (M := M) (load := load) hK hW h1 h7 hP (by omega) hL1 hL2 hS.2.2 hy hload
    rw [ha, hb] at w
    exact w
  obtain ⟨g, hg⟩ : ∃ g, dW K a b y load s = g := ⟨_, rfl⟩
  rw [hg] at hdut hd
  unfold meet
  rw [show dW K a b y load (ps, s).2 = g from hg]
  obtain hk | hk | hk | hk | hk : aim = 0 ∨ aim = 1 ∨ aim = 2 ∨ aim = 3 ∨ aim = 4 := by omega
  · subst hk
    have ec : cW K 0 g s = 0 := rfl
    rw [if_neg (by omega), if_neg (by omega)]
    refine Wp.n (pc' := 4) 2 rfl ?_
    refine Wp.top hA.1 ?_
    refine Wp.n (pc' := 5) 1 rfl ?_
    refine Wp.nc1 (x := 0) (y := 1) (tgt := 16) (len := 3) rfl (by first | omega | (cases (bitsM s.2).testBit 8 <;> decide)) (by first | omega | (cases (bitsM s.2).testBit 8 <;> decide)) (fun h5 => ?_) (fun h5 => ?_)
    · skip
      refine Wp.n (pc' := 20) 2 rfl ?_
      refine Wp.top hA.1 ?_
      refine Wp.n (pc' := 21) 1 rfl ?_
      refine Wp.nc0 (x := 0) (y := 3) (tgt := 32) (len := 3) rfl (by first | omega | (cases (bitsM s.2).testBit 8 <;> decide)) (by first | omega | (cases (bitsM s.2).testBit 8 <;> decide)) (fun h21 => ?_) (fun h21 => ?_)
      · omega
      · skip
        refine Wp.n (pc' := 28) 2 rfl ?_
        refine Wp.top hA.1 ?_
        refine Wp.n (pc' := 29) 1 rfl ?_
        refine Wp.nc1 (x := 0) (y := 4) (tgt := 96) (len := 3) rfl (by first | omega | (cases (bitsM s.2).testBit 8 <;> decide)) (by first | omega | (cases (bitsM s.2).testBit 8 <;> decide)) (fun h29 => ?_) (fun h29 => ?_)
        · skip
          refine Wp.n (pc' := 101) 3 rfl ?_
          refine Wp.top hR1 ?_
          refine Wp.n (pc' := 102) 1 rfl ?_
          refine Wp.iaddN (x := st.1) (y := 1) (len := 1) rfl ?_
          refine Wp.mput (len := 3) rfl rfl ?_
          refine Wp.n (pc' := 110) 2 rfl ?_
          refine Wp.top hA.1 ?_
          refine Wp.n (pc' := 111) 1 rfl ?_
          refine Wp.nc1 (x := 0) (y := 2) (tgt := 129) (len := 3) rfl (by first | omega | (cases (bitsM s.2).testBit 8 <;> decide)) (by first | omega | (cases (bitsM s.2).testBit 8 <;> decide)) (fun h111 => ?_) (fun h111 => ?_)
          · skip
            refine Wp.n (pc' := 135) 4 rfl ?_
            refine Wp.top hA.1 ?_
            refine Wp.n (pc' := 136) 1 rfl ?_
            refine Wp.nc1 (x := 0) (y := 2) (tgt := 155) (len := 3) rfl (by first | omega | (cases (bitsM s.2).testBit 8 <;> decide)) (by first | omega | (cases (bitsM s.2).testBit 8 <;> decide)) (fun h136 => ?_) (fun h136 => ?_)
            · skip
              refine Wp.n (pc' := 162) 5 rfl ?_
              refine Wp.top hR2 ?_
              refine Wp.nc4 (x := 0) (y := st.2.1) (tgt := 184) (len := 3) rfl (by first | omega | (cases (bitsM s.2).testBit 8 <;> decide)) (by first | omega | (cases (bitsM s.2).testBit 8 <;> decide)) (fun h162 => ?_) (fun h162 => ?_)
              · skip
                refine Wp.retV (len := 1) rfl rfl ?_
                rw [if_pos (by show st.2.1 < cW K 0 g s ∨ (cW K 0 g s = st.2.1 ∧ st.2.2.1 ≤ s.1); omega)]
                exact ⟨rfl, _, rfl, (Fr.rfl'.fset rfl), rfl, hR2, hR3, hR4, hR5⟩
              · skip
                refine Wp.n (pc' := 170) 3 rfl ?_
                refine Wp.top hR2 ?_
                refine Wp.nc1 (x := 0) (y := st.2.1) (tgt := 185) (len := 3) rfl (by first | omega | (cases (bitsM s.2).testBit 8 <;> decide)) (by first | omega | (cases (bitsM s.2).testBit 8 <;> decide)) (fun h170 => ?_) (fun h170 => ?_)
                · skip
                  refine Wp.n (pc' := 187) 2 rfl ?_
                  refine Wp.mput (len := 3) rfl rfl ?_
                  refine Wp.n (pc' := 195) 3 rfl ?_
                  refine Wp.top hL1 ?_
                  refine Wp.mput (len := 3) rfl rfl ?_
                  refine Wp.n (pc' := 200) 2 rfl ?_
                  refine Wp.mput (len := 3) rfl rfl ?_
                  refine Wp.n (pc' := 208) 3 rfl ?_
                  refine Wp.top hW.1 ?_
                  refine Wp.mput (len := 3) rfl rfl ?_
                  refine Wp.n (pc' := 213) 2 rfl ?_
                  rw [if_neg (by show ¬ (st.2.1 < cW K 0 g s ∨ (cW K 0 g s = st.2.1 ∧ st.2.2.1 ≤ s.1)); omega)]
                  refine m_best_l h7 ps.length 0 _ _ _ (by omega) hW (fun j hj => absurd hj (Nat.not_lt_zero j)) (fun f hf => ?_)
                  refine ⟨rfl, _, rfl, (((((Fr.rfl'.fset rfl).fset rfl).fset rfl).fset rfl).fset rfl).aset rfl, rfl, rfl, rfl, hR4, fun dq pq hq => ?_⟩
                  cases hq
                  exact ⟨rfl, rfl, hf⟩
                · skip
                  refine Wp.n (pc' := 177) 2 rfl ?_
                  refine Wp.top hL1 ?_
                  refine Wp.n (pc' := 181) 2 rfl ?_
                  refine Wp.top hR3 ?_
                  refine Wp.nc2 (x := s.1) (y := st.2.2.1) (tgt := 185) (len := 3) rfl (by first | omega | (cases (bitsM s.2).testBit 8 <;> decide)) (by first | omega | (cases (bitsM s.2).testBit 8 <;> decide)) (fun h181 => ?_) (fun h181 => ?_)
                  · skip
                    refine Wp.n (pc' := 187) 2 rfl ?_
                    refine Wp.mput (len := 3) rfl rfl ?_
                    refine Wp.n (pc' := 195) 3 rfl ?_
                    refine Wp.top hL1 ?_
                    refine Wp.mput (len := 3) rfl rfl ?_
                    refine Wp.n (pc' := 200) 2 rfl ?_
                    refine Wp.mput (len := 3) rfl rfl ?_
                    refine Wp.n (pc' := 208) 3 rfl ?_
                    refine Wp.top hW.1 ?_
                    refine Wp.mput (len := 3) rfl rfl ?_
                    refine Wp.n (pc' := 213) 2 rfl ?_
                    rw [if_neg (by show ¬ (st.2.1 < cW K 0 g s ∨ (cW K 0 g s = st.2.1 ∧ st.2.2.1 ≤ s.1)); omega)]
                    refine m_best_l h7 ps.length 0 _ _ _ (by omega) hW (fun j hj => absurd hj (Nat.not_lt_zero j)) (fun f hf => ?_)
                    refine ⟨rfl, _, rfl, (((((Fr.rfl'.fset rfl).fset rfl).fset rfl).fset rfl).fset rfl).aset rfl, rfl, rfl, rfl, hR4, fun dq pq hq => ?_⟩
                    cases hq
                    exact ⟨rfl, rfl, hf⟩
                  · skip
                    refine Wp.retV (len := 1) rfl rfl ?_
                    rw [if_pos (by show st.2.1 < cW K 0 g s ∨ (cW K 0 g s = st.2.1 ∧ st.2.2.1 ≤ s.1); omega)]
                    exact ⟨rfl, _, rfl, (Fr.rfl'.fset rfl), rfl, hR2, hR3, hR4, hR5⟩
            · omega
          · omega
        · omega
    · omega
  · subst hk
    have ec : cW K 1 g s = 0 := rfl
    refine Wp.n (pc' := 4) 2 rfl ?_
    refine Wp.top hA.1 ?_
    refine Wp.n (pc' := 5) 1 rfl ?_
    refine Wp.nc1 (x := 1) (y := 1) (tgt := 16) (len := 3) rfl (by first | omega | (cases (bitsM s.2).testBit 8 <;> decide)) (by first | omega | (cases (bitsM s.2).testBit 8 <;> decide)) (fun h5 => ?_) (fun h5 => ?_)
    · omega
    · skip
      refine Wp.n (pc' := 12) 2 rfl ?_
      refine Wp.top hL3 ?_
      refine Wp.nz5 (x := (wat K s.2).length) (tgt := 16) (len := 3) rfl (by first | omega | (cases (bitsM s.2).testBit 8 <;> decide)) (fun h12 => ?_) (fun h12 => ?_)
      · skip
        refine Wp.n (pc' := 20) 2 rfl ?_
        refine Wp.top hA.1 ?_
        refine Wp.n (pc' := 21) 1 rfl ?_
        refine Wp.nc0 (x := 1) (y := 3) (tgt := 32) (len := 3) rfl (by first | omega | (cases (bitsM s.2).testBit 8 <;> decide)) (by first | omega | (cases (bitsM s.2).testBit 8 <;> decide)) (fun h21 => ?_) (fun h21 => ?_)
        · omega
        · skip
          refine Wp.n (pc' := 28) 2 rfl ?_
          refine Wp.top hA.1 ?_
          refine Wp.n (pc' := 29) 1 rfl ?_
          refine Wp.nc1 (x := 1) (y := 4) (tgt := 96) (len := 3) rfl (by first | omega | (cases (bitsM s.2).testBit 8 <;> decide)) (by first | omega | (cases (bitsM s.2).testBit 8 <;> decide)) (fun h29 => ?_) (fun h29 => ?_)
          · skip
            refine Wp.n (pc' := 101) 3 rfl ?_
            refine Wp.top hR1 ?_
            refine Wp.n (pc' := 102) 1 rfl ?_
            refine Wp.iaddN (x := st.1) (y := 1) (len := 1) rfl ?_
            refine Wp.mput (len := 3) rfl rfl ?_
            refine Wp.n (pc' := 110) 2 rfl ?_
            refine Wp.top hA.1 ?_
            refine Wp.n (pc' := 111) 1 rfl ?_
            refine Wp.nc1 (x := 1) (y := 2) (tgt := 129) (len := 3) rfl (by first | omega | (cases (bitsM s.2).testBit 8 <;> decide)) (by first | omega | (cases (bitsM s.2).testBit 8 <;> decide)) (fun h111 => ?_) (fun h111 => ?_)
            · skip
              refine Wp.n (pc' := 135) 4 rfl ?_
              refine Wp.top hA.1 ?_
              refine Wp.n (pc' := 136) 1 rfl ?_
              refine Wp.nc1 (x := 1) (y := 2) (tgt := 155) (len := 3) rfl (by first | omega | (cases (bitsM s.2).testBit 8 <;> decide)) (by first | omega | (cases (bitsM s.2).testBit 8 <;> decide)) (fun h136 => ?_) (fun h136 => ?_)
              · skip
                refine Wp.n (pc' := 162) 5 rfl ?_
                refine Wp.top hR2 ?_
                refine Wp.nc4 (x := 0) (y := st.2.1) (tgt := 184) (len := 3) rfl (by first | omega | (cases (bitsM s.2).testBit 8 <;> decide)) (by first | omega | (cases (bitsM s.2).testBit 8 <;> decide)) (fun h162 => ?_) (fun h162 => ?_)
                · skip
                  refine Wp.retV (len := 1) rfl rfl ?_
                  rw [if_neg (by rintro ⟨_, q⟩; have q2 : 0 < (wat K s.2).length := q; omega), if_neg (by omega)]
                  rw [if_pos (by show st.2.1 < cW K 1 g s ∨ (cW K 1 g s = st.2.1 ∧ st.2.2.1 ≤ s.1); omega)]
                  exact ⟨rfl, _, rfl, (Fr.rfl'.fset rfl), rfl, hR2, hR3, hR4, hR5⟩
                · skip
                  refine Wp.n (pc' := 170) 3 rfl ?_
                  refine Wp.top hR2 ?_
                  refine Wp.nc1 (x := 0) (y := st.2.1) (tgt := 185) (len := 3) rfl (by first | omega | (cases (bitsM s.2).testBit 8 <;> decide)) (by first | omega | (cases (bitsM s.2).testBit 8 <;> decide)) (fun h170 => ?_) (fun h170 => ?_)
                  · skip
                    refine Wp.n (pc' := 187) 2 rfl ?_
                    refine Wp.mput (len := 3) rfl rfl ?_
                    refine Wp.n (pc' := 195) 3 rfl ?_
                    refine Wp.top hL1 ?_
                    refine Wp.mput (len := 3) rfl rfl ?_
                    refine Wp.n (pc' := 200) 2 rfl ?_
                    refine Wp.mput (len := 3) rfl rfl ?_
                    refine Wp.n (pc' := 208) 3 rfl ?_
                    refine Wp.top hW.1 ?_
                    refine Wp.mput (len := 3) rfl rfl ?_
                    refine Wp.n (pc' := 213) 2 rfl ?_
                    rw [if_neg (by rintro ⟨_, q⟩; have q2 : 0 < (wat K s.2).length := q; omega), if_neg (by omega)]
                    rw [if_neg (by show ¬ (st.2.1 < cW K 1 g s ∨ (cW K 1 g s = st.2.1 ∧ st.2.2.1 ≤ s.1)); omega)]
                    refine m_best_l h7 ps.length 0 _ _ _ (by omega) hW (fun j hj => absurd hj (Nat.not_lt_zero j)) (fun f hf => ?_)
                    refine ⟨rfl, _, rfl, (((((Fr.rfl'.fset rfl).fset rfl).fset rfl).fset rfl).fset rfl).aset rfl, rfl, rfl, rfl, hR4, fun dq pq hq => ?_⟩
                    cases hq
                    exact ⟨rfl, rfl, hf⟩
                  · skip
                    refine Wp.n (pc' := 177) 2 rfl ?_
                    refine Wp.top hL1 ?_
                    refine Wp.n (pc' := 181) 2 rfl ?_
                    refine Wp.top hR3 ?_
                    refine Wp.nc2 (x := s.1) (y := st.2.2.1) (tgt := 185) (len := 3) rfl (by first | omega | (cases (bitsM s.2).testBit 8 <;> decide)) (by first | omega | (cases (bitsM s.2).testBit 8 <;> decide)) (fun h181 => ?_) (fun h181 => ?_)
                    · skip
                      refine Wp.n (pc' := 187) 2 rfl ?_
                      refine Wp.mput (len := 3) rfl rfl ?_
                      refine Wp.n (pc' := 195) 3 rfl ?_
                      refine Wp.top hL1 ?_
                      refine Wp.mput (len := 3) rfl rfl ?_
                      refine Wp.n (pc' := 200) 2 rfl ?_
                      refine Wp.mput (len := 3) rfl rfl ?_
                      refine Wp.n (pc' := 208) 3 rfl ?_
                      refine Wp.top hW.1 ?_
                      refine Wp.mput (len := 3) rfl rfl ?_
                      refine Wp.n (pc' := 213) 2 rfl ?_
                      rw [if_neg (by rintro ⟨_, q⟩; have q2 : 0 < (wat K s.2).length := q; omega), if_neg (by omega)]
                      rw [if_neg (by show ¬ (st.2.1 < cW K 1 g s ∨ (cW K 1 g s = st.2.1 ∧ st.2.2.1 ≤ s.1)); omega)]
                      refine m_best_l h7 ps.length 0 _ _ _ (by omega) hW (fun j hj => absurd hj (Nat.not_lt_zero j)) (fun f hf => ?_)
                      refine ⟨rfl, _, rfl, (((((Fr.rfl'.fset rfl).fset rfl).fset rfl).fset rfl).fset rfl).aset rfl, rfl, rfl, rfl, hR4, fun dq pq hq => ?_⟩
                      cases hq
                      exact ⟨rfl, rfl, hf⟩
                    · skip
                      refine Wp.retV (len := 1) rfl rfl ?_
                      rw [if_neg (by rintro ⟨_, q⟩; have q2 : 0 < (wat K s.2).length := q; omega), if_neg (by omega)]
                      rw [if_pos (by show st.2.1 < cW K 1 g s ∨ (cW K 1 g s = st.2.1 ∧ st.2.2.1 ≤ s.1); omega)]
                      exact ⟨rfl, _, rfl, (Fr.rfl'.fset rfl), rfl, hR2, hR3, hR4, hR5⟩
              · omega
            · omega
          · omega
      · skip
        refine Wp.retV (len := 1) rfl rfl ?_
        rw [if_pos ⟨rfl, by omega⟩]
        exact ⟨rfl, τ, rfl, Fr.rfl', hR1, hR2, hR3, hR4, hR5⟩
  · subst hk
    have hdut' : Wp (d + 3) md_215 0 [some (.ref 287), some (.int (nI y)), some (.int (nI load)), none] [] (mset M (fset τ 37 (nI (st.1 + 1)))) (fun v M' => v = some (.int (nI g)) ∧ ∃ h, M' = mset M (aset (fset τ 37 (nI (st.1 + 1))) 13 h)) := by
      have w := m_dutyOf (d := d) (M := M) (σ := fset τ 37 (nI (st.1 + 1))) (load := load) ⟨hK.1, hK.2.1, hK.2.2.1, hK.2.2.2⟩ hW h1 h7 hP (by omega) hL1 hL2 hS.2.2 hy hload
      rw [ha, hb] at w
      rw [show dutyS K (boatK K s.2) (savK K a b s.1) y load = g from hg] at w
      exact w
    have ec : cW K 2 g s = kh K 8 * s.1 + g := rfl
    rw [if_neg (by omega), if_neg (by omega)]
    refine Wp.n (pc' := 4) 2 rfl ?_
    refine Wp.top hA.1 ?_
    refine Wp.n (pc' := 5) 1 rfl ?_
    refine Wp.nc1 (x := 2) (y := 1) (tgt := 16) (len := 3) rfl (by first | omega | (cases (bitsM s.2).testBit 8 <;> decide)) (by first | omega | (cases (bitsM s.2).testBit 8 <;> decide)) (fun h5 => ?_) (fun h5 => ?_)
    · skip
      refine Wp.n (pc' := 20) 2 rfl ?_
      refine Wp.top hA.1 ?_
      refine Wp.n (pc' := 21) 1 rfl ?_
      refine Wp.nc0 (x := 2) (y := 3) (tgt := 32) (len := 3) rfl (by first | omega | (cases (bitsM s.2).testBit 8 <;> decide)) (by first | omega | (cases (bitsM s.2).testBit 8 <;> decide)) (fun h21 => ?_) (fun h21 => ?_)
      · omega
      · skip
        refine Wp.n (pc' := 28) 2 rfl ?_
        refine Wp.top hA.1 ?_
        refine Wp.n (pc' := 29) 1 rfl ?_
        refine Wp.nc1 (x := 2) (y := 4) (tgt := 96) (len := 3) rfl (by first | omega | (cases (bitsM s.2).testBit 8 <;> decide)) (by first | omega | (cases (bitsM s.2).testBit 8 <;> decide)) (fun h29 => ?_) (fun h29 => ?_)
        · skip
          refine Wp.n (pc' := 101) 3 rfl ?_
          refine Wp.top hR1 ?_
          refine Wp.n (pc' := 102) 1 rfl ?_
          refine Wp.iaddN (x := st.1) (y := 1) (len := 1) rfl ?_
          refine Wp.mput (len := 3) rfl rfl ?_
          refine Wp.n (pc' := 110) 2 rfl ?_
          refine Wp.top hA.1 ?_
          refine Wp.n (pc' := 111) 1 rfl ?_
          refine Wp.nc1 (x := 2) (y := 2) (tgt := 129) (len := 3) rfl (by first | omega | (cases (bitsM s.2).testBit 8 <;> decide)) (by first | omega | (cases (bitsM s.2).testBit 8 <;> decide)) (fun h111 => ?_) (fun h111 => ?_)
          · omega
          · skip
            refine Wp.n (pc' := 119) 3 rfl ?_
            refine Wp.top hA.2.1 ?_
            refine Wp.n (pc' := 123) 2 rfl ?_
            refine Wp.top hA.2.2.1 ?_
            refine Wp.callV (len := 3) rfl rfl rfl (rfl) rfl (by decide) rfl (hdut') ?_
            rintro _ _ ⟨rfl, h, rfl⟩
            refine Wp.n (pc' := 135) 4 rfl ?_
            refine Wp.top hA.1 ?_
            refine Wp.n (pc' := 136) 1 rfl ?_
            refine Wp.nc1 (x := 2) (y := 2) (tgt := 155) (len := 3) rfl (by first | omega | (cases (bitsM s.2).testBit 8 <;> decide)) (by first | omega | (cases (bitsM s.2).testBit 8 <;> decide)) (fun h136 => ?_) (fun h136 => ?_)
            · omega
            · skip
              refine Wp.n (pc' := 144) 3 rfl ?_
              refine Wp.mialdN (j := 2) (len := 1) rfl rfl rfl (by omega) ?_
              refine Wp.top hl2 ?_
              refine Wp.n (pc' := 149) 2 rfl ?_
              refine Wp.top hL1 ?_
              refine Wp.imulN (x := kh K 8) (y := s.1) (len := 1) rfl ?_
              refine Wp.n (pc' := 151) 1 rfl ?_
              refine Wp.iaddN (x := (kh K 8) * (s.1)) (y := g) (len := 1) rfl ?_
              refine Wp.n (pc' := 162) 5 rfl ?_
              refine Wp.top hR2 ?_
              refine Wp.nc4 (x := ((kh K 8) * (s.1)) + g) (y := st.2.1) (tgt := 184) (len := 3) rfl (by first | omega | (cases (bitsM s.2).testBit 8 <;> decide)) (by first | omega | (cases (bitsM s.2).testBit 8 <;> decide)) (fun h162 => ?_) (fun h162 => ?_)
              · skip
                refine Wp.retV (len := 1) rfl rfl ?_
                rw [if_pos (by show st.2.1 < cW K 2 g s ∨ (cW K 2 g s = st.2.1 ∧ st.2.2.1 ≤ s.1); omega)]
                exact ⟨rfl, _, rfl, ((Fr.rfl'.fset rfl).aset rfl), rfl, hR2, hR3, hR4, hR5⟩
              · skip
                refine Wp.n (pc' := 170) 3 rfl ?_
                refine Wp.top hR2 ?_
                refine Wp.nc1 (x := ((kh K 8) * (s.1)) + g) (y := st.2.1) (tgt := 185) (len := 3) rfl (by first | omega | (cases (bitsM s.2).testBit 8 <;> decide)) (by first | omega | (cases (bitsM s.2).testBit 8 <;> decide)) (fun h170 => ?_) (fun h170 => ?_)
                · skip
                  refine Wp.n (pc' := 187) 2 rfl ?_
                  refine Wp.mput (len := 3) rfl rfl ?_
                  refine Wp.n (pc' := 195) 3 rfl ?_
                  refine Wp.top hL1 ?_
                  refine Wp.mput (len := 3) rfl rfl ?_
                  refine Wp.n (pc' := 200) 2 rfl ?_
                  refine Wp.mput (len := 3) rfl rfl ?_
                  refine Wp.n (pc' := 208) 3 rfl ?_
                  refine Wp.top hW.1 ?_
                  refine Wp.mput (len := 3) rfl rfl ?_
                  refine Wp.n (pc' := 213) 2 rfl ?_
                  rw [if_neg (by show ¬ (st.2.1 < cW K 2 g s ∨ (cW K 2 g s = st.2.1 ∧ st.2.2.1 ≤ s.1)); omega)]
                  refine m_best_l h7 ps.length 0 _ _ _ (by omega) hW (fun j hj => absurd hj (Nat.not_lt_zero j)) (fun f hf => ?_)
                  refine ⟨rfl, _, rfl, ((((((Fr.rfl'.fset rfl).aset rfl).fset rfl).fset rfl).fset rfl).fset rfl).aset rfl, rfl, rfl, rfl, hR4, fun dq pq hq => ?_⟩
                  cases hq
                  exact ⟨rfl, rfl, hf⟩
                · skip
                  refine Wp.n (pc' := 177) 2 rfl ?_
                  refine Wp.top hL1 ?_
                  refine Wp.n (pc' := 181) 2 rfl ?_
                  refine Wp.top hR3 ?_
                  refine Wp.nc2 (x := s.1) (y := st.2.2.1) (tgt := 185) (len := 3) rfl (by first | omega | (cases (bitsM s.2).testBit 8 <;> decide)) (by first | omega | (cases (bitsM s.2).testBit 8 <;> decide)) (fun h181 => ?_) (fun h181 => ?_)
                  · skip
                    refine Wp.n (pc' := 187) 2 rfl ?_
                    refine Wp.mput (len := 3) rfl rfl ?_
                    refine Wp.n (pc' := 195) 3 rfl ?_
                    refine Wp.top hL1 ?_
                    refine Wp.mput (len := 3) rfl rfl ?_
                    refine Wp.n (pc' := 200) 2 rfl ?_
                    refine Wp.mput (len := 3) rfl rfl ?_
                    refine Wp.n (pc' := 208) 3 rfl ?_
                    refine Wp.top hW.1 ?_
                    refine Wp.mput (len := 3) rfl rfl ?_
                    refine Wp.n (pc' := 213) 2 rfl ?_
                    rw [if_neg (by show ¬ (st.2.1 < cW K 2 g s ∨ (cW K 2 g s = st.2.1 ∧ st.2.2.1 ≤ s.1)); omega)]
                    refine m_best_l h7 ps.length 0 _ _ _ (by omega) hW (fun j hj => absurd hj (Nat.not_lt_zero j)) (fun f hf => ?_)
                    refine ⟨rfl, _, rfl, ((((((Fr.rfl'.fset rfl).aset rfl).fset rfl).fset rfl).fset rfl).fset rfl).aset rfl, rfl, rfl, rfl, hR4, fun dq pq hq => ?_⟩
                    cases hq
                    exact ⟨rfl, rfl, hf⟩
                  · skip
                    refine Wp.retV (len := 1) rfl rfl ?_
                    rw [if_pos (by show st.2.1 < cW K 2 g s ∨ (cW K 2 g s = st.2.1 ∧ st.2.2.1 ≤ s.1); omega)]
                    exact ⟨rfl, _, rfl, ((Fr.rfl'.fset rfl).aset rfl), rfl, hR2, hR3, hR4, hR5⟩
        · omega
    · omega
  · subst hk
    rw [if_neg (by omega), if_pos (by omega)]
    refine Wp.n (pc' := 4) 2 rfl ?_
    refine Wp.top hA.1 ?_
    refine Wp.n (pc' := 5) 1 rfl ?_
    refine Wp.nc1 (x := 3) (y := 1) (tgt := 16) (len := 3) rfl (by first | omega | (cases (bitsM s.2).testBit 8 <;> decide)) (by first | omega | (cases (bitsM s.2).testBit 8 <;> decide)) (fun h5 => ?_) (fun h5 => ?_)
    · skip
      refine Wp.n (pc' := 20) 2 rfl ?_
      refine Wp.top hA.1 ?_
      refine Wp.n (pc' := 21) 1 rfl ?_
      refine Wp.nc0 (x := 3) (y := 3) (tgt := 32) (len := 3) rfl (by first | omega | (cases (bitsM s.2).testBit 8 <;> decide)) (by first | omega | (cases (bitsM s.2).testBit 8 <;> decide)) (fun h21 => ?_) (fun h21 => ?_)
      · skip
        refine Wp.n (pc' := 37) 3 rfl ?_
        refine Wp.top hA.2.1 ?_
        refine Wp.n (pc' := 41) 2 rfl ?_
        refine Wp.top hA.2.2.1 ?_
        refine Wp.callV (len := 3) rfl rfl rfl (rfl) rfl (by decide) rfl (hdut) ?_
        rintro _ _ ⟨rfl, h, rfl⟩
        refine Wp.n (pc' := 48) 2 rfl ?_
        refine Wp.top (hA.2.2.2 (by omega)) ?_
        refine Wp.nc1 (x := g) (y := dn) (tgt := 71) (len := 3) rfl (by first | omega | (cases (bitsM s.2).testBit 8 <;> decide)) (by first | omega | (cases (bitsM s.2).testBit 8 <;> decide)) (fun h48 => ?_) (fun h48 => ?_)
        · skip
          refine Wp.retV (len := 1) rfl rfl ?_
          first
            | (rw [if_neg (fun q => h48 q.1)]; exact ⟨rfl, _, rfl, Fr.rfl'.aset rfl, hR1, hR2, hR3, hR4, hR5⟩)
            | (rw [if_neg (fun q => by have q2 := q.2 rfl; rw [show (ps, s).2.2 = s.2 from rfl, ← bits_tb] at q2; rw [q2] at h68; exact absurd h68 (by decide))]; exact ⟨rfl, _, rfl, Fr.rfl'.aset rfl, hR1, hR2, hR3, hR4, hR5⟩)
        · skip
          refine Wp.n (pc' := 55) 2 rfl ?_
          refine Wp.top hA.1 ?_
          refine Wp.n (pc' := 56) 1 rfl ?_
          refine Wp.nc1 (x := 3) (y := 4) (tgt := 72) (len := 3) rfl (by first | omega | (cases (bitsM s.2).testBit 8 <;> decide)) (by first | omega | (cases (bitsM s.2).testBit 8 <;> decide)) (fun h56 => ?_) (fun h56 => ?_)
          · skip
            refine Wp.n (pc' := 77) 3 rfl ?_
            refine Wp.top hR4 ?_
            refine Wp.n (pc' := 81) 2 rfl ?_
            refine Wp.top hL2 ?_
            refine Wp.n (pc' := 82) 1 rfl ?_
            refine Wp.top all_and ?_
            refine Wp.mput (len := 3) rfl rfl ?_
            refine Wp.n (pc' := 90) 3 rfl ?_
            refine Wp.top hR1 ?_
            refine Wp.n (pc' := 91) 1 rfl ?_
            refine Wp.iaddN (x := st.1) (y := 1) (len := 1) rfl ?_
            refine Wp.mput (len := 3) rfl rfl ?_
            refine Wp.retV (len := 1) rfl rfl ?_
            rw [if_pos ⟨h48, fun q => by omega⟩]
            exact ⟨rfl, _, rfl, ((Fr.rfl'.aset rfl).fset rfl).fset rfl, rfl, hR2, hR3, rfl, hR5⟩
          · omega
      · omega
    · omega
  · subst hk
    rw [if_neg (by omega), if_pos (by omega)]
    refine Wp.n (pc' := 4) 2 rfl ?_
    refine Wp.top hA.1 ?_
    refine Wp.n (pc' := 5) 1 rfl ?_
    refine Wp.nc1 (x := 4) (y := 1) (tgt := 16) (len := 3) rfl (by first | omega | (cases (bitsM s.2).testBit 8 <;> decide)) (by first | omega | (cases (bitsM s.2).testBit 8 <;> decide)) (fun h5 => ?_) (fun h5 => ?_)
    · skip
      refine Wp.n (pc' := 20) 2 rfl ?_
      refine Wp.top hA.1 ?_
      refine Wp.n (pc' := 21) 1 rfl ?_
      refine Wp.nc0 (x := 4) (y := 3) (tgt := 32) (len := 3) rfl (by first | omega | (cases (bitsM s.2).testBit 8 <;> decide)) (by first | omega | (cases (bitsM s.2).testBit 8 <;> decide)) (fun h21 => ?_) (fun h21 => ?_)
      · omega
      · skip
        refine Wp.n (pc' := 28) 2 rfl ?_
        refine Wp.top hA.1 ?_
        refine Wp.n (pc' := 29) 1 rfl ?_
        refine Wp.nc1 (x := 4) (y := 4) (tgt := 96) (len := 3) rfl (by first | omega | (cases (bitsM s.2).testBit 8 <;> decide)) (by first | omega | (cases (bitsM s.2).testBit 8 <;> decide)) (fun h29 => ?_) (fun h29 => ?_)
        · omega
        · skip
          refine Wp.n (pc' := 37) 3 rfl ?_
          refine Wp.top hA.2.1 ?_
          refine Wp.n (pc' := 41) 2 rfl ?_
          refine Wp.top hA.2.2.1 ?_
          refine Wp.callV (len := 3) rfl rfl rfl (rfl) rfl (by decide) rfl (hdut) ?_
          rintro _ _ ⟨rfl, h, rfl⟩
          refine Wp.n (pc' := 48) 2 rfl ?_
          refine Wp.top (hA.2.2.2 (by omega)) ?_
          refine Wp.nc1 (x := g) (y := dn) (tgt := 71) (len := 3) rfl (by first | omega | (cases (bitsM s.2).testBit 8 <;> decide)) (by first | omega | (cases (bitsM s.2).testBit 8 <;> decide)) (fun h48 => ?_) (fun h48 => ?_)
          · skip
            refine Wp.retV (len := 1) rfl rfl ?_
            first
              | (rw [if_neg (fun q => h48 q.1)]; exact ⟨rfl, _, rfl, Fr.rfl'.aset rfl, hR1, hR2, hR3, hR4, hR5⟩)
              | (rw [if_neg (fun q => by have q2 := q.2 rfl; rw [show (ps, s).2.2 = s.2 from rfl, ← bits_tb] at q2; rw [q2] at h68; exact absurd h68 (by decide))]; exact ⟨rfl, _, rfl, Fr.rfl'.aset rfl, hR1, hR2, hR3, hR4, hR5⟩)
          · skip
            refine Wp.n (pc' := 55) 2 rfl ?_
            refine Wp.top hA.1 ?_
            refine Wp.n (pc' := 56) 1 rfl ?_
            refine Wp.nc1 (x := 4) (y := 4) (tgt := 72) (len := 3) rfl (by first | omega | (cases (bitsM s.2).testBit 8 <;> decide)) (by first | omega | (cases (bitsM s.2).testBit 8 <;> decide)) (fun h56 => ?_) (fun h56 => ?_)
            · omega
            · skip
              refine Wp.n (pc' := 63) 2 rfl ?_
              refine Wp.top hL2 ?_
              refine Wp.n (pc' := 68) 4 rfl ?_
              refine Wp.top (n_bitI (y := 8) (by omega) (by decide)) ?_
              refine Wp.nz1 (x := ((bitsM s.2).testBit 8).toNat) (tgt := 72) (len := 3) rfl (by first | omega | (cases (bitsM s.2).testBit 8 <;> decide)) (fun h68 => ?_) (fun h68 => ?_)
              · skip
                refine Wp.n (pc' := 77) 3 rfl ?_
                refine Wp.top hR4 ?_
                refine Wp.n (pc' := 81) 2 rfl ?_
                refine Wp.top hL2 ?_
                refine Wp.n (pc' := 82) 1 rfl ?_
                refine Wp.top all_and ?_
                refine Wp.mput (len := 3) rfl rfl ?_
                refine Wp.n (pc' := 90) 3 rfl ?_
                refine Wp.top hR1 ?_
                refine Wp.n (pc' := 91) 1 rfl ?_
                refine Wp.iaddN (x := st.1) (y := 1) (len := 1) rfl ?_
                refine Wp.mput (len := 3) rfl rfl ?_
                refine Wp.retV (len := 1) rfl rfl ?_
                rw [if_pos ⟨h48, fun _ => by rw [show (ps, s).2.2 = s.2 from rfl, ← bits_tb]; cases e : (bitsM s.2).testBit 8 with | true => rfl | false => rw [e] at h68; exact absurd rfl h68⟩]
                exact ⟨rfl, _, rfl, ((Fr.rfl'.aset rfl).fset rfl).fset rfl, rfl, hR2, hR3, rfl, hR5⟩
              · skip
                refine Wp.retV (len := 1) rfl rfl ?_
                first
                  | (rw [if_neg (fun q => h48 q.1)]; exact ⟨rfl, _, rfl, Fr.rfl'.aset rfl, hR1, hR2, hR3, hR4, hR5⟩)
                  | (rw [if_neg (fun q => by have q2 := q.2 rfl; rw [show (ps, s).2.2 = s.2 from rfl, ← bits_tb] at q2; rw [q2] at h68; exact absurd h68 (by decide))]; exact ⟨rfl, _, rfl, Fr.rfl'.aset rfl, hR1, hR2, hR3, hR4, hR5⟩)
    · omega

end MEETS
end
section
/-! goesOn, seeks. -/
def GO (σ τ : MS) (aim y load dn : Nat) (ps : List Nat) (st : MT) : Prop := Scr σ τ ∧ SK τ aim y load dn ∧ (∀ i, i < ps.length → τ.2.2.1 14 i = nI (ps.getD i 0)) ∧ MR τ st ∧ MB st
section GOES
theorem tb_t {b : Bool} (h : b.toNat = 1) : b = true := by cases b <;> first | rfl | cases h
theorem tb_f {b : Bool} (h : b.toNat ≠ 1) : b = false := by cases b <;> first | rfl | exact absurd rfl h
variable {d : Nat} {M : AM} {σ τ : MS} {K : KD} {Q : Option Value → AM → Prop}
theorem SK_fr {σ τ : MS} {F A : List Nat} {aim y load dn : Nat} (h : SK σ aim y load dn) (e : Fr F A σ τ) (h33 : List.elem 33 F = false) (h34 : List.elem 34 F = false) (h35 : List.elem 35 F = false) (h36 : List.elem 36 F = false) : SK τ aim y load dn := ⟨(e.1 33 h33).trans h.1, (e.1 34 h34).trans h.2.1, (e.1 35 h35).trans h.2.2.1, fun q => (e.1 36 h36).trans (h.2.2.2 q)⟩
theorem MR_fr {σ τ : MS} {F A : List Nat} {st : MT} (h : MR σ st) (e : Fr F A σ τ) (h37 : List.elem 37 F = false) (h38 : List.elem 38 F = false) (h39 : List.elem 39 F = false) (h40 : List.elem 40 F = false) (h41 : List.elem 41 F = false) (h42 : List.elem 42 F = false) (h16 : List.elem 16 A = false) : MR τ st := ⟨(e.1 37 h37).trans h.1, (e.1 38 h38).trans h.2.1, (e.1 39 h39).trans h.2.2.1, (e.1 42 h42).trans h.2.2.2.1, fun dq pq hq => by
  obtain ⟨q1, q2, q3⟩ := h.2.2.2.2 dq pq hq
  exact ⟨(e.1 40 h40).trans q1, (e.1 41 h41).trans q2, fun i hi => by rw [e.2.1 16 h16]; exact q3 i hi⟩⟩
theorem m_go_p {f : Nat} {aim a t y load dn : Nat} (haim : aim ≤ 4) (ht : t < kh K 0) (hy : y < 31) (hload : load ≤ 9) (hdn : dn < 2 ^ 31) (hM : MK σ K) {e0 : Nat} (hfe : f ≤ e0) (ih : ∀ (ps : List Nat) (q : Nat) (s : Nat × List Nat) (st : MT) (τ : MS) (e : Nat), f + 5 ≤ e → f + ps.length = 8 → PV K y ps q s → ps.getD 0 0 = a → GO σ τ aim y load dn ps st → Wp e md_228 0 [some (.ref 287), some (.int (nI t)), some (.int (nI (ps.length))), some (.int (nI (bitsM ps))), none] [] (mset M τ) (fun v M' => v = none ∧ ∃ τ', M' = mset M τ' ∧ GO σ τ' aim y load dn ps (List.foldl (meet K aim a t y load dn) st (dfs K y t f ps q s)))) {ps : List Nat} {q : Nat} {s : Nat × List Nat} (hf : f + 1 + ps.length = 8) (hP : PV K y ps q s) (ha : ps.getD 0 0 = a) : ∀ (n p : Nat) (st : MT) (τ : MS), p + n = kh K 0 → GO σ τ aim y load dn ps st → Wp (e0 + 6) md_228 34 [some (.ref 287), some (.int (nI t)), some (.int (nI (ps.length))), some (.int (nI (bitsM ps))), some (.int (nI p))] [] (mset M τ) (fun v M' => v = none ∧ ∃ τ', M' = mset M τ' ∧ GO σ τ' aim y load dn ps (List.foldl (meet K aim a t y load dn) st (loopL (fun p => if ps.contains p = true then [] else match joinK K q p y with | none => [] | some j => dfs K y t f (ps ++ [p]) p (addJ K s j)) n p))) := by
  have ok := hM.2.1
  obtain ⟨b0, b1, b2, b3, b4, b5, b6, b7, b8, b9, b10, b11, b12⟩ := ok_h ok
  have hl := PV_len ok hP
  have h1 := hP.1
  have hq := PV_q hP
  have hbt : bitsM ps < 2 ^ 9 := bits_lt (fun l hl => by have := hP.2.2.2.1 l hl; omega)
  intro n
  induction n with
  | zero =>
    intro p st τ hp hG
    have hK := MK_scr hM hG.1
    refine Wp.n (pc' := 41) 4 rfl ?_
    refine Wp.mialdN (j := 0) (len := 1) rfl rfl rfl (by omega) ?_
    refine Wp.top (r0_has hK.1 (by decide)) ?_
    refine Wp.nc3 (x := p) (y := kh K 0) (tgt := 108) (len := 3) rfl (by omega) (by omega) (fun h42 => ?_) (fun h42 => ?_)
    · skip
      refine Wp.retV (len := 1) rfl rfl ?_
      exact ⟨rfl, τ, rfl, hG⟩
    · omega
  | succ n ihn =>
    intro p st τ hp hG
    have hK := MK_scr hM hG.1
    have hr : τ.2.2.1 14 (ps.length - 1) = nI q := by rw [hG.2.2.1 _ (by omega), hP.2.1]
    have ht2 := bits_tb ps p
    have kf : (fun p => if ps.contains p = true then [] else match joinK K q p y with | none => [] | some j => dfs K y t f (ps ++ [p]) p (addJ K s j)) p = [] → Wp (e0 + 6) md_228 34 [some (.ref 287), some (.int (nI t)), some (.int (nI (ps.length))), some (.int (nI (bitsM ps))), some (.int (nI (p + 1)))] [] (mset M τ) (fun v M' => v = none ∧ ∃ τ', M' = mset M τ' ∧ GO σ τ' aim y load dn ps (List.foldl (meet K aim a t y load dn) st (loopL (fun p => if ps.contains p = true then [] else match joinK K q p y with | none => [] | some j => dfs K y t f (ps ++ [p]) p (addJ K s j)) (n + 1) p))) := by
      intro e
      rw [show loopL (fun p => if ps.contains p = true then [] else match joinK K q p y with | none => [] | some j => dfs K y t f (ps ++ [p]) p (addJ K s j)) (n + 1) p = (fun p => if ps.contains p = true then [] else match joinK K q p y with | none => [] | some j => dfs K y t f (ps ++ [p]) p (addJ K s j)) p ++ loopL (fun p => if ps.contains p = true then [] else match joinK K q p y with | none => [] | some j => dfs K y t f (ps ++ [p]) p (addJ K s j)) n (p + 1) from rfl, e, List.nil_append]
      exact ihn (p + 1) st τ (by omega) hG
    refine Wp.n (pc' := 41) 4 rfl ?_
    refine Wp.mialdN (j := 0) (len := 1) rfl rfl rfl (by omega) ?_
    refine Wp.top (r0_has hK.1 (by decide)) ?_
    refine Wp.nc3 (x := p) (y := kh K 0) (tgt := 108) (len := 3) rfl (by first | omega | (cases (bitsM ps).testBit p <;> decide)) (by first | omega | (cases (bitsM ps).testBit p <;> decide)) (fun h42 => ?_) (fun h42 => ?_)
    · omega
    · skip
      refine Wp.n (pc' := 51) 5 rfl ?_
      refine Wp.top (n_bitI (by omega) (by omega)) ?_
      refine Wp.n (pc' := 52) 1 rfl ?_
      refine Wp.nc0 (x := ((bitsM ps).testBit p).toNat) (y := 1) (tgt := 102) (len := 3) rfl (by first | omega | (cases (bitsM ps).testBit p <;> decide)) (by first | omega | (cases (bitsM ps).testBit p <;> decide)) (fun h52 => ?_) (fun h52 => ?_)
      · skip
        refine Wp.incN (x := p) (len := 3) rfl rfl ?_
        refine Wp.n (pc' := 34) 1 rfl ?_
        exact kf (if_pos (by rw [← ht2]; exact tb_t h52))
      · skip
        have hc : ps.contains p = false := by rw [← ht2]; exact tb_f h52
        refine Wp.n (pc' := 62) 5 rfl ?_
        refine Wp.isubN (x := ps.length) (y := 1) (len := 1) rfl (by omega) ?_
        refine Wp.mialdN (j := (ps.length) - 1) (len := 1) rfl rfl rfl (by omega) ?_
        refine Wp.top hr ?_
        refine Wp.n (pc' := 70) 3 rfl ?_
        refine Wp.top hG.2.1.2.1 ?_
        refine Wp.ecallV (len := 3) rfl rfl rfl (rfl) rfl (by decide) rfl (m_joined hK.1 hK.2.2.1 ok (by omega) (by omega) hy) ?_
        rcases hj : joinK K q p y with _ | j
        · skip
          refine Wp.n (pc' := 74) 1 rfl ?_
          refine Wp.ic1 (tgt := 80) (len := 3) rfl (fun h74 => ?_) (fun h74 => ?_)
          · exact absurd rfl h74
          · skip
            refine Wp.n (pc' := 102) 1 rfl ?_
            refine Wp.incN (x := p) (len := 3) rfl rfl ?_
            refine Wp.n (pc' := 34) 1 rfl ?_
            exact kf ((if_neg (by rw [hc]; decide)).trans (by rw [hj]))
        · have hjv := joinK_v ok hj
          have hjb : j < 29 := by
            rcases hjv with q | ⟨q1, q2⟩
            · omega
            · have := LV_8 ok q2; omega
          refine Wp.n (pc' := 74) 1 rfl ?_
          refine Wp.ic1 (tgt := 80) (len := 3) rfl (fun h74 => ?_) (fun h74 => ?_)
          · skip
            refine Wp.n (pc' := 87) 4 rfl ?_
            have hl3 : ps.length + 1 ≤ kh K 0 := by
              have q := PV_len ok (PV_s hP (by omega) hc hj)
              rw [List.length_append] at q
              exact q
            refine Wp.miastN (j := ps.length) (len := 1) rfl rfl rfl (by omega) ?_
            have hGp : GO σ (aset τ 14 (upd (τ.2.2.1 14) ps.length (nI p))) aim y load dn (ps ++ [p]) st := by
              refine ⟨hG.1.aset rfl, hG.2.1, fun i hi => ?_, hG.2.2.2.1, hG.2.2.2.2⟩
              have hi' : i < ps.length + 1 := by rw [List.length_append] at hi; exact hi
              show upd (τ.2.2.1 14) ps.length (nI p) i = _
              by_cases c : i = ps.length
              · rw [c, pk_us, getD_end]
              · rw [pk_un c, getD_app (by omega)]
                exact hG.2.2.1 i (by omega)
            refine Wp.n (pc' := 92) 4 rfl ?_
            refine Wp.iaddN (x := ps.length) (y := 1) (len := 1) rfl ?_
            refine Wp.n (pc' := 99) 5 rfl ?_
            refine Wp.top (by rw [n_sh1 _ (by omega), n_or]) ?_
            refine Wp.callV (len := 3) rfl rfl rfl (rfl) rfl (by decide) rfl (by
              have w := ih (ps ++ [p]) p (addJ K s j) st _ (e0 + 5) (by omega) (by rw [List.length_append]; show f + (ps.length + 1) = 8; omega) (PV_s hP (by omega) hc hj) (by rw [getD_app (by omega)]; exact ha) hGp
              rw [bitsM_app, List.length_append] at w
              exact w) ?_
            rintro _ _ ⟨rfl, τ2, rfl, hG2⟩
            refine Wp.incN (x := p) (len := 3) rfl rfl ?_
            refine Wp.n (pc' := 34) 1 rfl ?_
            have e : (fun p => if ps.contains p = true then [] else match joinK K q p y with | none => [] | some j => dfs K y t f (ps ++ [p]) p (addJ K s j)) p = dfs K y t f (ps ++ [p]) p (addJ K s j) := (if_neg (by rw [hc]; decide)).trans (by rw [hj])
            rw [show loopL (fun p => if ps.contains p = true then [] else match joinK K q p y with | none => [] | some j => dfs K y t f (ps ++ [p]) p (addJ K s j)) (n + 1) p = (fun p => if ps.contains p = true then [] else match joinK K q p y with | none => [] | some j => dfs K y t f (ps ++ [p]) p (addJ K s j)) p ++ loopL (fun p => if ps.contains p = true then [] else match joinK K q p y with | none => [] | some j => dfs K y t f (ps ++ [p]) p (addJ K s j)) n (p + 1) from rfl, e, List.foldl_append]
            exact ihn (p + 1) _ τ2 (by omega) ⟨hG2.1, hG2.2.1, fun i hi => by rw [hG2.2.2.1 i (by rw [List.length_append]; omega), getD_app hi], hG2.2.2.2⟩
          · exact absurd h74 (oI_ne (by omega))

theorem m_goesOn {aim a t y load dn : Nat} (haim : aim ≤ 4) (ht : t < kh K 0) (hy : y < 31) (hload : load ≤ 9) (hdn : dn < 2 ^ 31) (hM : MK σ K) : ∀ (f : Nat) (ps : List Nat) (q : Nat) (s : Nat × List Nat) (st : MT) (τ : MS) (e : Nat), f + 5 ≤ e → f + ps.length = 8 → PV K y ps q s → ps.getD 0 0 = a → GO σ τ aim y load dn ps st → Wp e md_228 0 [some (.ref 287), some (.int (nI t)), some (.int (nI (ps.length))), some (.int (nI (bitsM ps))), none] [] (mset M τ) (fun v M' => v = none ∧ ∃ τ', M' = mset M τ' ∧ GO σ τ' aim y load dn ps (List.foldl (meet K aim a t y load dn) st (dfs K y t f ps q s))) := by
  have ok := hM.2.1
  obtain ⟨b0, b1, b2, b3, b4, b5, b6, b7, b8, b9, b10, b11, b12⟩ := ok_h ok
  intro f
  induction f with
  | zero =>
    intro ps q s st τ e he hf hP ha hG
    have := PV_len ok hP
    omega
  | succ f ih =>
    intro ps q s st τ e he hf hP ha hG
    obtain ⟨e0, rfl⟩ : ∃ e0, e = e0 + 6 := ⟨e - 6, by omega⟩
    have hl := PV_len ok hP
    have h1 := hP.1
    have hq := PV_q hP
    have hK := MK_scr hM hG.1
    have hr : τ.2.2.1 14 (ps.length - 1) = nI q := by rw [hG.2.2.1 _ (by omega), hP.2.1]
    have hin : ∀ i, i < ps.length → ps.getD i 0 < kh K 0 := fun i hi => by
      rw [List.getD_eq_getElem?_getD, List.getElem?_eq_getElem hi]
      exact hP.2.2.2.1 _ (List.getElem_mem _)
    unfold dfs
    refine Wp.n (pc' := 6) 4 rfl ?_
    refine Wp.isubN (x := ps.length) (y := 1) (len := 1) rfl (by omega) ?_
    refine Wp.mialdN (j := (ps.length) - 1) (len := 1) rfl rfl rfl (by omega) ?_
    refine Wp.top hr ?_
    refine Wp.n (pc' := 9) 1 rfl ?_
    refine Wp.nc1 (x := q) (y := t) (tgt := 31) (len := 3) rfl (by omega) (by omega) (fun h9 => ?_) (fun h9 => ?_)
    · skip
      refine Wp.n (pc' := 34) 2 rfl ?_
      rw [if_neg h9]
      exact m_go_p haim ht hy hload hdn hM (by omega) ih (by omega) hP ha (kh K 0) 0 st τ (by omega) hG
    · skip
      rw [if_pos h9]
      refine Wp.n (pc' := 14) 2 rfl ?_
      refine Wp.mput (len := 3) rfl rfl ?_
      refine Wp.n (pc' := 22) 3 rfl ?_
      refine Wp.top hG.2.1.2.1 ?_
      refine Wp.callV (len := 3) rfl rfl rfl (rfl) rfl (by decide) rfl (m_looks (d := e0 + 2) (m := ps.length) (P := fun i => ps.getD i 0) (MK_scr hM (hG.1.fset rfl)) rfl h1 (by omega) hy (fun i hi => ⟨hG.2.2.1 i hi, by have := hin i hi; omega⟩)) ?_
      rintro _ _ ⟨τ2, rfl, rfl, hF2, hL2⟩
      rw [hP.2.2.2.2] at hL2
      have hS2 : Scr σ τ2 := Scr_t (hG.1.fset rfl) (Scr_L hF2)
      have hW2 : RW τ2 ps.length (fun i => ps.getD i 0) := ⟨hF2.1 27 rfl, fun i hi => by rw [hF2.2.1 14 rfl]; exact hG.2.2.1 i hi⟩
      refine Wp.n (pc' := 27) 2 rfl ?_
      refine Wp.callV (len := 3) rfl rfl rfl (rfl) rfl (by decide) rfl (m_meets (d := e0 + 1) (a := a) (b := t) (MK_scr hM hS2) (SK_fr (show SK (fset τ 27 (nI ps.length)) aim y load dn from hG.2.1) hF2 rfl rfl rfl rfl) haim hy hload hdn hW2 h1 (by omega) hin ha (by rw [hP.2.1]; exact h9) hL2 (PV_sb ok hP) (MR_fr (show MR (fset τ 27 (nI ps.length)) st from hG.2.2.2.1) hF2 rfl rfl rfl rfl rfl rfl rfl) hG.2.2.2.2) ?_
      rintro _ _ ⟨rfl, τ3, rfl, hF3, hR3⟩
      refine Wp.retV (len := 1) rfl rfl ?_
      refine ⟨rfl, τ3, rfl, Scr_t hS2 (Fr.mono hF3 rfl rfl), ?_, fun i hi => ?_, hR3, ?_⟩
      · exact SK_fr (SK_fr (show SK (fset τ 27 (nI ps.length)) aim y load dn from hG.2.1) hF2 rfl rfl rfl rfl) hF3 rfl rfl rfl rfl
      · rw [hF3.2.1 14 rfl]
        exact hW2.2 i hi
      · have hs := (PV_sb ok hP).1
        exact meet_b ok (by show s.1 ≤ 774; omega) (by rw [← ha]; exact hin 0 (by omega)) hload hG.2.2.2.2

def st0 : MT := (0, 100000000, 1000000, none, none)
/-- all ways from a to t on a day -/
def allW (K : KD) (y a t : Nat) : List (List Nat × Nat × List Nat) := dfs K y t 7 [a] a (0, [])
def fin (K : KD) (aim a t y load dn : Nat) : MT := List.foldl (meet K aim a t y load dn) st0 (allW K y a t)
theorem m_seeks {aim a t y load dn : Nat} (haim : aim ≤ 4) (ht : t < kh K 0) (hy : y < 31) (hload : load ≤ 9) (hdn : dn < 2 ^ 31) (ha : a < kh K 0) (hM : MK σ K) (h36 : 3 ≤ aim → σ.1 36 = nI dn) : Wp (d + 13) md_227 0 [some (.ref 287), some (.int (nI aim)), some (.int (nI a)), some (.int (nI t)), some (.int (nI y)), some (.int (nI load))] [] (mset M σ) (fun v M' => v = none ∧ ∃ τ, M' = mset M τ ∧ Scr σ τ ∧ MR τ (fin K aim a t y load dn)) := by
  have ok := hM.2.1
  obtain ⟨b0, b1, b2, b3, b4, b5, b6, b7, b8, b9, b10, b11, b12⟩ := ok_h ok
  refine Wp.n (pc' := 2) 2 rfl ?_
  refine Wp.mput (len := 3) rfl rfl ?_
  refine Wp.n (pc' := 8) 2 rfl ?_
  refine Wp.mput (len := 3) rfl rfl ?_
  refine Wp.n (pc' := 14) 2 rfl ?_
  refine Wp.mput (len := 3) rfl rfl ?_
  refine Wp.n (pc' := 19) 2 rfl ?_
  refine Wp.mput (len := 3) rfl rfl ?_
  refine Wp.n (pc' := 26) 2 rfl ?_
  refine Wp.mput (len := 3) rfl rfl ?_
  refine Wp.n (pc' := 32) 2 rfl ?_
  refine Wp.mput (len := 3) rfl rfl ?_
  refine Wp.n (pc' := 37) 2 rfl ?_
  refine Wp.mput (len := 3) rfl rfl ?_
  refine Wp.n (pc' := 46) 4 rfl ?_
  refine Wp.miastN (j := 0) (len := 1) rfl rfl rfl (by omega) ?_
  refine Wp.n (pc' := 53) 6 rfl ?_
  refine Wp.top (show _ = nI (bitsM [a]) from by rw [n_sh1 _ (by omega)]; rw [show bitsM [a] = 0 ||| 2 ^ a from rfl, Nat.zero_or]) ?_
  refine Wp.callV (len := 3) rfl rfl rfl (rfl) rfl (by decide) rfl (m_goesOn haim ht hy hload hdn hM 7 [a] a (0, []) st0 _ (d + 12) (by omega) rfl (PV_1 ha) rfl (by exact ⟨(((((((Scr_r.fset rfl).fset rfl).fset rfl).fset rfl).fset rfl).fset rfl).fset rfl).aset rfl, ⟨rfl, rfl, rfl, h36⟩, (fun i hi => by obtain rfl : i = 0 := Nat.lt_one_iff.mp hi; rfl), ⟨rfl, rfl, rfl, rfl, fun dq pq hq => by cases hq⟩, ⟨Nat.le_refl _, Nat.le_refl _⟩⟩)) ?_
  rintro _ _ ⟨rfl, τ, rfl, hG⟩
  refine Wp.retV (len := 1) rfl rfl ?_
  exact ⟨rfl, τ, rfl, hG.1, hG.2.2.2.1⟩

end GOES
end
