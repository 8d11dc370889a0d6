section
/-! A ROW OF PLACES: its length and lanes. -/
def addJ (K : KD) (s : Nat × List Nat) (j : Nat) : Nat × List Nat := (s.1 + spanJ K j, if j < 20 then s.2 else s.2 ++ [j - 20])
def lookK (K : KD) (y : Nat) (P : Nat → Nat) : Nat → Nat → Nat × List Nat → Nat × Nat × List Nat
  | 0, i, s => (i, s)
  | n + 1, i, s => match joinK K (P i) (P (i + 1)) y with
    | none => (i, s)
    | some j => lookK K y P n (i + 1) (addJ K s j)
def bitsM (ls : List Nat) : Nat := ls.foldl (fun b l => b ||| 2 ^ l) 0
def wat (K : KD) (ls : List Nat) : List Nat := (ls.filter (fun l => decide (0 < kl K l 6))).map (fun l => kl K l 6)
theorem bitsM_app (ls : List Nat) (l : Nat) : bitsM (ls ++ [l]) = bitsM ls ||| 2 ^ l := by
  unfold bitsM
  rw [List.foldl_append]
  rfl
theorem bitsM_tb (l : Nat) : ∀ (ls : List Nat) (b : Nat), (ls.foldl (fun b l => b ||| 2 ^ l) b).testBit l = (b.testBit l || ls.contains l)
  | [], b => by simp
  | x :: t, b => by
    rw [List.foldl_cons, bitsM_tb l t, Nat.testBit_or, Nat.testBit_two_pow, List.contains_cons, Bool.or_assoc]
    congr 2
    by_cases e : x = l
    · subst e; simp
    · simp [e, Ne.symm e]
theorem bits_tb (ls : List Nat) (l : Nat) : (bitsM ls).testBit l = ls.contains l := by
  unfold bitsM
  rw [bitsM_tb, Nat.zero_testBit, Bool.false_or]
theorem bits_lt {ls : List Nat} (h : ∀ l, l ∈ ls → l ≤ 8) : bitsM ls < 2 ^ 9 := by
  apply Nat.lt_pow_two_of_testBit
  intro i hi
  rw [bits_tb]
  cases e : ls.contains i with
  | false => rfl
  | true =>
    have := h i (List.contains_iff_mem.mp e)
    omega
theorem wat_app (K : KD) (ls : List Nat) (l : Nat) : wat K (ls ++ [l]) = wat K ls ++ (if 0 < kl K l 6 then [kl K l 6] else []) := by
  unfold wat
  rw [List.filter_append, List.map_append]
  congr 1
  by_cases h : 0 < kl K l 6
  · rw [if_pos h, List.filter_cons_of_pos (by exact decide_eq_true h)]
    rfl
  · rw [if_neg h, List.filter_cons_of_neg (by rw [decide_eq_false h]; decide)]
    rfl
theorem getD_app {ls : List Nat} {x i : Nat} (h : i < ls.length) : (ls ++ [x]).getD i 0 = ls.getD i 0 := by
  simp [List.getD_eq_getElem?_getD, List.getElem?_append_left h]
theorem getD_end {ls : List Nat} {x : Nat} : (ls ++ [x]).getD ls.length 0 = x := by
  simp [List.getD_eq_getElem?_getD]
/-- sound so far: i steps -/
def SB (K : KD) (i : Nat) (s : Nat × List Nat) : Prop := s.1 ≤ 129 * i ∧ s.2.length ≤ i ∧ ∀ l, l ∈ s.2 → LV K l
theorem SB_s {K : KD} (ok : KOK K) {i j : Nat} {s : Nat × List Nat} (h : SB K i s) (hj : JV K j) : SB K (i + 1) (addJ K s j) := by
  obtain ⟨h1, h2, h3⟩ := h
  have hs := spanJ_b ok hj
  unfold addJ
  refine ⟨by show s.1 + spanJ K j ≤ _; omega, ?_, ?_⟩
  · show (if j < 20 then s.2 else s.2 ++ [j - 20]).length ≤ i + 1
    by_cases c : j < 20
    · rw [if_pos c]; omega
    · rw [if_neg c, List.length_append]; show s.2.length + 1 ≤ _; omega
  · intro l hl
    have hl' : l ∈ (if j < 20 then s.2 else s.2 ++ [j - 20]) := hl
    by_cases c : j < 20
    · rw [if_pos c] at hl'; exact h3 l hl'
    · rw [if_neg c, List.mem_append] at hl'
      rcases hl' with q | q
      · exact h3 l q
      · rw [List.mem_singleton] at q
        rw [q]
        have b2 := (ok_h ok).2.2.1
        rcases hj with p | p
        · omega
        · exact p.2
theorem LV_8 {K : KD} (ok : KOK K) {l : Nat} (h : LV K l) : l ≤ 8 := by
  have := (ok_h ok).2.2.2.1
  unfold LV at h
  omega
theorem SB_bits {K : KD} (ok : KOK K) {i : Nat} {s : Nat × List Nat} (h : SB K i s) : bitsM s.2 < 2 ^ 9 := bits_lt (fun l hl => LV_8 ok (h.2.2 l hl))
theorem wat_len {K : KD} (ls : List Nat) : (wat K ls).length ≤ ls.length := by
  unfold wat
  rw [List.length_map]
  exact List.length_filter_le _ _
theorem joinK_v {K : KD} (ok : KOK K) {a b y j : Nat} (h : joinK K a b y = some j) : JV K j := by
  rw [← joinK_m ok] at h
  have : ∀ (n i : Nat) (c : Option Nat), (∀ j, c = some j → JV K j) → ∀ j, fld (jstep K a b y) n i c = some j → JV K j := by
    intro n
    induction n with
    | zero => intro i c hc; exact hc
    | succ n ih =>
      intro i c hc
      refine ih (i + 1) (jstep K a b y c i) ?_
      unfold jstep
      by_cases q : i < kh K 3 ∨ (i = 8 ∧ kh K 11 = 1)
      · rw [if_pos q]; exact joinStep_v q hc
      · rw [if_neg q]; exact hc
  exact this 9 0 (roadK K a b) (fun j hj => Or.inl (roadK_v hj).1) j h
theorem lookK_b {K : KD} (ok : KOK K) {y : Nat} {P : Nat → Nat} : ∀ (n i : Nat) (s : Nat × List Nat), SB K i s → SB K (i + n) (lookK K y P n i s).2 ∧ (lookK K y P n i s).1 ≤ i + n ∧ i ≤ (lookK K y P n i s).1
  | 0, i, s, h => ⟨h, by show i ≤ _; omega, by show i ≤ i; omega⟩
  | n + 1, i, s, h => by
    unfold lookK
    cases hj : joinK K (P i) (P (i + 1)) y with
    | none =>
      refine ⟨?_, by show i ≤ _; omega, by show i ≤ i; omega⟩
      obtain ⟨h1, h2, h3⟩ := h
      exact ⟨by show s.1 ≤ _; omega, by show s.2.length ≤ _; omega, h3⟩
    | some j =>
      obtain ⟨a1, a2, a3⟩ := lookK_b ok n (i + 1) (addJ K s j) (SB_s ok h (joinK_v ok hj))
      rw [show i + 1 + n = i + (n + 1) by omega] at a1 a2
      exact ⟨a1, a2, by show i ≤ (lookK K y P n (i + 1) (addJ K s j)).1; omega⟩
section LOOK
variable {d : Nat} {M : AM} {σ σ' : MS} {K : KD} {Q : Option Value → AM → Prop}
def LKs (σ : MS) (K : KD) (s : Nat × List Nat) : Prop := σ.1 28 = nI s.1 ∧ σ.1 29 = nI (bitsM s.2) ∧ σ.1 32 = nI (wat K s.2).length ∧ (∀ i, i < (wat K s.2).length → σ.2.2.1 15 i = nI ((wat K s.2).getD i 0))
theorem LKs_road {s : Nat × List Nat} {j : Nat} (h : LKs σ K s) (hj : j < 20) : LKs (fset σ 28 (nI (s.1 + spanJ K j))) K (addJ K s j) := by
  have e : addJ K s j = (s.1 + spanJ K j, s.2) := by unfold addJ; rw [if_pos hj]
  rw [e]
  exact ⟨rfl, h.2.1, h.2.2.1, h.2.2.2⟩
theorem LKs_un {s : Nat × List Nat} {j : Nat} (h : LKs σ K s) (hj : 20 ≤ j) (hw : kl K (j - 20) 6 = 0) : LKs (fset (fset σ 28 (nI (s.1 + spanJ K j))) 29 (nI (bitsM s.2 ||| 2 ^ (j - 20)))) K (addJ K s j) := by
  have e : addJ K s j = (s.1 + spanJ K j, s.2 ++ [j - 20]) := by unfold addJ; rw [if_neg (by omega)]
  have e2 : wat K (s.2 ++ [j - 20]) = wat K s.2 := by rw [wat_app, if_neg (by omega), List.append_nil]
  rw [e]
  refine ⟨rfl, ?_, ?_, ?_⟩
  · show _ = nI (bitsM (s.2 ++ [j - 20]))
    rw [bitsM_app]
    rfl
  · show _ = nI (wat K (s.2 ++ [j - 20])).length
    rw [e2]
    exact h.2.2.1
  · show ∀ i, i < (wat K (s.2 ++ [j - 20])).length → _ = nI ((wat K (s.2 ++ [j - 20])).getD i 0)
    rw [e2]
    exact h.2.2.2
theorem LKs_w {s : Nat × List Nat} {j : Nat} (h : LKs σ K s) (hj : 20 ≤ j) (hw : kl K (j - 20) 6 ≠ 0) : LKs (fset (aset (fset (fset σ 28 (nI (s.1 + spanJ K j))) 29 (nI (bitsM s.2 ||| 2 ^ (j - 20)))) 15 (upd (σ.2.2.1 15) (wat K s.2).length (nI (kl K (j - 20) 6)))) 32 (nI ((wat K s.2).length + 1))) K (addJ K s j) := by
  have e : addJ K s j = (s.1 + spanJ K j, s.2 ++ [j - 20]) := by unfold addJ; rw [if_neg (by omega)]
  have e2 : wat K (s.2 ++ [j - 20]) = wat K s.2 ++ [kl K (j - 20) 6] := by rw [wat_app, if_pos (by omega)]
  rw [e]
  refine ⟨rfl, ?_, ?_, ?_⟩
  · show _ = nI (bitsM (s.2 ++ [j - 20]))
    rw [bitsM_app]
    rfl
  · show _ = nI (wat K (s.2 ++ [j - 20])).length
    rw [e2, List.length_append]
    rfl
  · show ∀ i, i < (wat K (s.2 ++ [j - 20])).length → upd (σ.2.2.1 15) (wat K s.2).length (nI (kl K (j - 20) 6)) i = nI ((wat K (s.2 ++ [j - 20])).getD i 0)
    rw [e2, List.length_append]
    intro i hi
    have hi' : i < (wat K s.2).length + 1 := hi
    by_cases c : i = (wat K s.2).length
    · rw [c, pk_us, getD_end]
    · rw [pk_un c, getD_app (by omega)]
      exact h.2.2.2 i (by omega)
abbrev LF : List Nat := [28, 29, 32]
abbrev LA : List Nat := [15]
theorem Scr_L (h : Fr LF LA σ σ') : Scr σ σ' := Fr.mono h rfl rfl
theorem m_looks_l (hM : MK σ K) {m y : Nat} {P : Nat → Nat} (hm : σ.1 27 = nI m) (hm7 : m ≤ 7) (hy : y < 31) (hr : ∀ i, i < m → σ.2.2.1 14 i = nI (P i) ∧ P i < 7) : ∀ (n i : Nat) (s : Nat × List Nat) (τ : MS) (z : Option Value), i + n + 1 = m → Fr LF LA σ τ → LKs τ K s → SB K i s → Wp (d + 3) md_207 17 [some (.ref 287), some (.int (nI y)), some (.int (nI i)), z] [] (mset M τ) (fun v M' => ∃ τ', v = some (.int (nI (lookK K y P n i s).1)) ∧ M' = mset M τ' ∧ Fr LF LA σ τ' ∧ LKs τ' K (lookK K y P n i s).2) := by
  have ok := hM.2.1
  intro n
  obtain ⟨b0, b1, b2, b3, b4, b5, b6, b7, b8, b9, b10, b11, b12⟩ := ok_h ok
  induction n with
  | zero =>
    intro i s τ z hi hF hL hB
    have hm' : τ.1 27 = nI m := (hF.1 27 rfl).trans hm
    refine Wp.n (pc' := 19) 2 rfl ?_
    refine Wp.iaddN (x := i) (y := 1) (len := 1) rfl ?_
    refine Wp.n (pc' := 24) 2 rfl ?_
    refine Wp.top hm' ?_
    refine Wp.nc3 (x := i + 1) (y := m) (tgt := 153) (len := 3) rfl (by omega) (by omega) (fun h24 => ?_) (fun h24 => ?_)
    · skip
      refine Wp.n (pc' := 157) 2 rfl ?_
      refine Wp.top hm' ?_
      refine Wp.n (pc' := 158) 1 rfl ?_
      refine Wp.isubN (x := m) (y := 1) (len := 1) rfl (by omega) ?_
      refine Wp.retI (len := 1) rfl rfl ?_
      rw [show m - 1 = i by omega]
      exact ⟨τ, rfl, rfl, hF, hL⟩
    · omega
  | succ n ih =>
    intro i s τ z hi hF hL hB
    have hm' : τ.1 27 = nI m := (hF.1 27 rfl).trans hm
    have hK := MK_scr hM (Scr_L hF)
    have h14 : τ.2.2.1 14 = σ.2.2.1 14 := hF.2.1 14 rfl
    have r1 : τ.2.2.1 14 i = nI (P i) := by rw [h14]; exact (hr i (by omega)).1
    have r2 : τ.2.2.1 14 (i + 1) = nI (P (i + 1)) := by rw [h14]; exact (hr (i + 1) (by omega)).1
    have p1 := (hr i (by omega)).2
    have p2 := (hr (i + 1) (by omega)).2
    have hw := wat_len (K := K) s.2
    have hb := SB_bits ok hB
    obtain ⟨hB1, hB2, hB3⟩ := hB
    unfold lookK
    refine Wp.n (pc' := 19) 2 rfl ?_
    refine Wp.iaddN (x := i) (y := 1) (len := 1) rfl ?_
    refine Wp.n (pc' := 24) 2 rfl ?_
    refine Wp.top hm' ?_
    refine Wp.nc3 (x := i + 1) (y := m) (tgt := 153) (len := 3) rfl (by omega) (by omega) (fun h24 => ?_) (fun h24 => ?_)
    · omega
    · skip
      refine Wp.n (pc' := 33) 4 rfl ?_
      refine Wp.mialdN (j := i) (len := 1) rfl rfl rfl (by omega) ?_
      refine Wp.top r1 ?_
      refine Wp.n (pc' := 40) 4 rfl ?_
      refine Wp.iaddN (x := i) (y := 1) (len := 1) rfl ?_
      refine Wp.mialdN (j := i + 1) (len := 1) rfl rfl rfl (by omega) ?_
      refine Wp.top r2 ?_
      refine Wp.n (pc' := 43) 1 rfl ?_
      refine Wp.ecallV (len := 3) rfl rfl rfl (rfl) rfl (by decide) rfl (m_joined hK.1 hK.2.2.1 ok p1 p2 hy) ?_
      rcases hj : joinK K (P i) (P (i + 1)) y with _ | j
      · skip
        refine Wp.n (pc' := 49) 3 rfl ?_
        refine Wp.ic1 (tgt := 54) (len := 3) rfl (fun h49 => ?_) (fun h49 => ?_)
        · exact absurd rfl h49
        · skip
          refine Wp.n (pc' := 53) 1 rfl ?_
          refine Wp.retI (len := 1) rfl rfl ?_
          exact ⟨τ, rfl, rfl, hF, hL⟩
      · have hjv := joinK_v ok hj
        have hjb : j < 29 := by
          rcases hjv with q | ⟨q1, q2⟩
          · omega
          · have := LV_8 ok q2; omega
        have hsj := spanJ_b ok hjv
        have hB' := SB_s ok (show SB K i s from ⟨hB1, hB2, hB3⟩) hjv
        refine Wp.n (pc' := 49) 3 rfl ?_
        refine Wp.ic1 (tgt := 54) (len := 3) rfl (fun h49 => ?_) (fun h49 => ?_)
        · skip
          refine Wp.n (pc' := 59) 3 rfl ?_
          refine Wp.top hL.1 ?_
          refine Wp.n (pc' := 61) 2 rfl ?_
          refine Wp.ecallV (len := 3) rfl rfl rfl (rfl) rfl (by decide) rfl (m_longOf hK.1 ok hjv) ?_
          refine Wp.iaddN (x := s.1) (y := spanJ K j) (len := 1) rfl ?_
          refine Wp.mput (len := 3) rfl rfl ?_
          refine Wp.n (pc' := 71) 2 rfl ?_
          refine Wp.nc3 (x := j) (y := 20) (tgt := 77) (len := 3) rfl (by omega) (by omega) (fun h71 => ?_) (fun h71 => ?_)
          · skip
            have hjl : LV K (j - 20) := by
              rcases hjv with q | q
              · omega
              · exact q.2
            have hlb := ok_lane ok hjl
            have hj8 := LV_8 ok hjl
            refine Wp.n (pc' := 82) 3 rfl ?_
            refine Wp.top hL.2.1 ?_
            refine Wp.n (pc' := 86) 3 rfl ?_
            refine Wp.isubN (x := j) (y := 20) (len := 1) rfl (by omega) ?_
            refine Wp.n (pc' := 89) 2 rfl ?_
            refine Wp.top (by rw [n_sh1 _ (by omega), n_or]) ?_
            refine Wp.mput (len := 3) rfl rfl ?_
            refine Wp.n (pc' := 101) 5 rfl ?_
            refine Wp.isubN (x := j) (y := 20) (len := 1) rfl (by omega) ?_
            refine Wp.imulN (x := 7) (y := j - 20) (len := 1) rfl ?_
            refine Wp.n (pc' := 105) 1 rfl ?_
            refine Wp.iaddN (x := 7 * (j - 20)) (y := 6) (len := 1) rfl ?_
            refine Wp.mialdN (j := (7 * (j - 20)) + 6) (len := 1) rfl rfl rfl (by omega) ?_
            refine Wp.top (r0_lane hK.1 hjl (j := 6) (by decide) (by omega)) ?_
            refine Wp.nz1 (x := kl K (j - 20) 6) (tgt := 113) (len := 3) rfl (by omega) (fun h107 => ?_) (fun h107 => ?_)
            · skip
              refine Wp.n (pc' := 121) 4 rfl ?_
              refine Wp.top hL.2.2.1 ?_
              refine Wp.n (pc' := 130) 5 rfl ?_
              refine Wp.isubN (x := j) (y := 20) (len := 1) rfl (by omega) ?_
              refine Wp.imulN (x := 7) (y := j - 20) (len := 1) rfl ?_
              refine Wp.n (pc' := 134) 1 rfl ?_
              refine Wp.iaddN (x := 7 * (j - 20)) (y := 6) (len := 1) rfl ?_
              refine Wp.mialdN (j := (7 * (j - 20)) + 6) (len := 1) rfl rfl rfl (by omega) ?_
              refine Wp.top (r0_lane hK.1 hjl (j := 6) (by decide) (by omega)) ?_
              refine Wp.miastN (j := (wat K s.2).length) (len := 1) rfl rfl rfl (by omega) ?_
              refine Wp.n (pc' := 142) 3 rfl ?_
              refine Wp.top hL.2.2.1 ?_
              refine Wp.n (pc' := 143) 1 rfl ?_
              refine Wp.iaddN (x := (wat K s.2).length) (y := 1) (len := 1) rfl ?_
              refine Wp.mput (len := 3) rfl rfl ?_
              refine Wp.incN (x := i) (len := 3) rfl rfl ?_
              refine Wp.n (pc' := 17) 1 rfl ?_
              first
                | exact ih (i + 1) (addJ K s j) _ _ (by omega) (hF.fset rfl) (LKs_road hL (by omega)) hB'
                | exact ih (i + 1) (addJ K s j) _ _ (by omega) ((hF.fset rfl).fset rfl) (LKs_un hL (by omega) (by omega)) hB'
                | exact ih (i + 1) (addJ K s j) _ _ (by omega) ((((hF.fset rfl).fset rfl).aset rfl).fset rfl) (LKs_w hL (by omega) (by omega)) hB'
            · skip
              refine Wp.n (pc' := 147) 1 rfl ?_
              refine Wp.incN (x := i) (len := 3) rfl rfl ?_
              refine Wp.n (pc' := 17) 1 rfl ?_
              first
                | exact ih (i + 1) (addJ K s j) _ _ (by omega) (hF.fset rfl) (LKs_road hL (by omega)) hB'
                | exact ih (i + 1) (addJ K s j) _ _ (by omega) ((hF.fset rfl).fset rfl) (LKs_un hL (by omega) (by omega)) hB'
                | exact ih (i + 1) (addJ K s j) _ _ (by omega) ((((hF.fset rfl).fset rfl).aset rfl).fset rfl) (LKs_w hL (by omega) (by omega)) hB'
          · skip
            refine Wp.n (pc' := 147) 1 rfl ?_
            refine Wp.incN (x := i) (len := 3) rfl rfl ?_
            refine Wp.n (pc' := 17) 1 rfl ?_
            first
              | exact ih (i + 1) (addJ K s j) _ _ (by omega) (hF.fset rfl) (LKs_road hL (by omega)) hB'
              | exact ih (i + 1) (addJ K s j) _ _ (by omega) ((hF.fset rfl).fset rfl) (LKs_un hL (by omega) (by omega)) hB'
              | exact ih (i + 1) (addJ K s j) _ _ (by omega) ((((hF.fset rfl).fset rfl).aset rfl).fset rfl) (LKs_w hL (by omega) (by omega)) hB'
        · exact absurd h49 (oI_ne (by omega))

theorem m_looks (hM : MK σ K) {m y : Nat} {P : Nat → Nat} (hm : σ.1 27 = nI m) (hm1 : 1 ≤ m) (hm7 : m ≤ 7) (hy : y < 31) (hr : ∀ i, i < m → σ.2.2.1 14 i = nI (P i) ∧ P i < 7) : Wp (d + 3) md_207 0 [some (.ref 287), some (.int (nI y)), none, none] [] (mset M σ) (fun v M' => ∃ τ', v = some (.int (nI (lookK K y P (m - 1) 0 (0, [])).1)) ∧ M' = mset M τ' ∧ Fr LF LA σ τ' ∧ LKs τ' K (lookK K y P (m - 1) 0 (0, [])).2) := by
  refine Wp.n (pc' := 2) 2 rfl ?_
  refine Wp.mput (len := 3) rfl rfl ?_
  refine Wp.n (pc' := 7) 2 rfl ?_
  refine Wp.mput (len := 3) rfl rfl ?_
  refine Wp.n (pc' := 12) 2 rfl ?_
  refine Wp.mput (len := 3) rfl rfl ?_
  refine Wp.n (pc' := 17) 2 rfl ?_
  exact m_looks_l hM hm hm7 hy hr (m - 1) 0 (0, []) _ _ (by omega) (((Fr.rfl'.fset rfl).fset rfl).fset rfl) ⟨rfl, rfl, rfl, fun i hi => absurd hi (Nat.not_lt_zero i)⟩ ⟨Nat.le_refl _, Nat.le_refl _, fun l hl => absurd hl (List.not_mem_nil)⟩

end LOOK
end
section
/-! BOATS, WHAT IS SAVED, DUTY, TOLD WALKS: the reference. -/
def boatK (K : KD) (ls : List Nat) : Bool := ls.any (fun l => decide (kl K l 5 = 2))
def savK (K : KD) (a b len : Nat) : Nat := if distK K a b < 1000000 then distK K a b - len else 0
def dutyS (K : KD) (bt : Bool) (s y load : Nat) : Nat := if bt = true ∨ (kh K 9 = 0 ∧ y % 7 = 6) then 0 else (s - kh K 7) * kh K 6 * (if kh K 10 = 1 then load else 1)
def TRr (K : KD) (w : Nat) : Nat × Nat × List Nat := lookK K (kw K w 2) (fun i => kw K w (4 + i)) (kw K w 3 - 1) 0 (0, [])
def lawK (K : KD) (w : Nat) : Bool := decide ((TRr K w).1 = kw K w 3 - 1)
def savW (K : KD) (w : Nat) : Nat := savK K (kw K w 4) (kw K w (3 + kw K w 3)) (TRr K w).2.1
def dutW (K : KD) (w : Nat) : Nat := dutyS K (boatK K (TRr K w).2.2) (savW K w) (kw K w 2) (kw K w 1)
theorem boat_fnd {K : KD} {ls : List Nat} (h : ∀ l, l ∈ ls → l ≤ 8) : (fnd (fun l => ls.contains l && decide (kl K l 5 = 2)) 9 0).isSome = boatK K ls := by
  unfold boatK
  cases e : fnd (fun l => ls.contains l && decide (kl K l 5 = 2)) 9 0 with
  | none =>
    have hn := fnd_none e
    symm
    rw [Option.isSome_none, List.any_eq_false]
    intro l hl
    have h1 := hn l (by omega) (by have := h l hl; omega)
    rw [List.contains_iff_mem.mpr hl, Bool.true_and] at h1
    rw [h1]
    decide
  | some l =>
    obtain ⟨_, _, h3⟩ := fnd_lt e
    have h3' : (ls.contains l && decide (kl K l 5 = 2)) = true := h3
    rw [Bool.and_eq_true] at h3'
    symm
    rw [Option.isSome_some, List.any_eq_true]
    exact ⟨l, List.contains_iff_mem.mp h3'.1, h3'.2⟩
theorem n_subneg {s f : Nat} (hs : s < 2 ^ 30) (hf : f < 2 ^ 30) (h : s ≤ f) : ¬ (0 : Int32) < nI s - nI f := by
  rw [i_lt, pk_sub_toInt hs hf]
  show ¬ (0 : Int) < _
  omega
theorem dist_774 {K : KD} (ok : KOK K) {a b : Nat} (ha : a < kh K 0) (h : distK K a b < 1000000) : distK K a b ≤ 774 := by
  have : ∀ n a, a < kh K 0 → rnk K b a ≤ n → distK K a b < 1000000 → distK K a b ≤ 129 * n := by
    intro n
    induction n with
    | zero =>
      intro a ha hr hd
      by_cases e : a = b
      · rw [e, (dist_g ok).1]; omega
      · obtain ⟨c, w, h1, h2⟩ := dist_step ok hd e
        have hb := Eg_b ok h1
        have := rnk_s (t := b) (p := a) hb.2.1 (by omega)
        omega
    | succ n ih =>
      intro a ha hr hd
      by_cases e : a = b
      · rw [e, (dist_g ok).1]; omega
      · obtain ⟨c, w, h1, h2⟩ := dist_step ok hd e
        have hb := Eg_b ok h1
        have h3 := rnk_s (t := b) (p := a) hb.2.1 (by omega)
        have := ih c hb.2.1 (by omega) (by omega)
        omega
  have h1 := this 6 a ha (by have := rnk_lt (t := b) ha; have := (ok_h ok).1; omega) h
  omega
theorem savK_b {K : KD} (ok : KOK K) {a b len : Nat} (ha : a < kh K 0) : savK K a b len ≤ 774 := by
  unfold savK
  by_cases c : distK K a b < 1000000
  · rw [if_pos c]
    have := dist_774 ok ha c
    omega
  · rw [if_neg c]; omega
theorem dutyS_b {K : KD} (ok : KOK K) {bt : Bool} {s y load : Nat} (hs : s ≤ 774) (hl : load ≤ 9) : dutyS K bt s y load ≤ 689634 := by
  obtain ⟨b0, b1, b2, b3, b4, b5, b6, b7, b8, b9, b10, b11, b12⟩ := ok_h ok
  unfold dutyS
  by_cases c : bt = true ∨ (kh K 9 = 0 ∧ y % 7 = 6)
  · rw [if_pos c]; omega
  · rw [if_neg c]
    have h1 : (s - kh K 7) * kh K 6 ≤ 774 * 99 := Nat.mul_le_mul (by omega) b6
    have h2 : (if kh K 10 = 1 then load else 1) ≤ 9 := by
      by_cases q : kh K 10 = 1
      · rw [if_pos q]; exact hl
      · rw [if_neg q]; omega
    exact Nat.le_trans (Nat.mul_le_mul h1 h2) (by decide)
section DUTY
variable {d : Nat} {M : AM} {σ σ' : MS} {K : KD} {Q : Option Value → AM → Prop}
theorem m_hasBoat_l (hM : MK σ K) {ls : List Nat} (h29 : σ.1 29 = nI (bitsM ls)) (hls : ∀ l, l ∈ ls → LV K l) : ∀ (n i : Nat), i + n = 9 → Wp d md_216 2 [some (.ref 287), some (.int (nI i))] [] (mset M σ) (IsR (some (.int (bI (fnd (fun l => ls.contains l && decide (kl K l 5 = 2)) n i).isSome))) (mset M σ)) := by
  have ok := hM.2.1
  have hb := bits_lt (fun l hl => LV_8 ok (hls l hl))
  intro n
  induction n with
  | zero =>
    intro i hi
    refine Wp.n (pc' := 5) 2 rfl ?_
    refine Wp.nc4 (x := i) (y := 8) (tgt := 43) (len := 3) rfl (by omega) (by omega) (fun h5 => ?_) (fun h5 => ?_)
    · skip
      refine Wp.n (pc' := 44) 1 rfl ?_
      refine Wp.retZ (len := 1) (c := false) rfl rfl rfl ?_
      exact ⟨rfl, rfl⟩
    · omega
  | succ n ih =>
    intro i hi
    have ht := bits_tb ls i
    have hw := ih (i + 1) (by omega)
    unfold fnd
    refine Wp.n (pc' := 5) 2 rfl ?_
    refine Wp.nc4 (x := i) (y := 8) (tgt := 43) (len := 3) rfl (by first | omega | (rw [ht]; cases ls.contains i <;> decide) | (have := ok_lane ok hl; omega)) (by first | omega | (rw [ht]; cases ls.contains i <;> decide) | (have := ok_lane ok hl; omega)) (fun h5 => ?_) (fun h5 => ?_)
    · omega
    · skip
      refine Wp.n (pc' := 12) 2 rfl ?_
      refine Wp.top h29 ?_
      refine Wp.n (pc' := 16) 4 rfl ?_
      refine Wp.top (n_bitI (by omega) (by omega)) ?_
      refine Wp.n (pc' := 17) 1 rfl ?_
      refine Wp.nc1 (x := ((bitsM ls).testBit i).toNat) (y := 1) (tgt := 37) (len := 3) rfl (by first | omega | (rw [ht]; cases ls.contains i <;> decide) | (have := ok_lane ok hl; omega)) (by first | omega | (rw [ht]; cases ls.contains i <;> decide) | (have := ok_lane ok hl; omega)) (fun h17 => ?_) (fun h17 => ?_)
      · skip
        refine Wp.incN (x := i) (len := 3) rfl rfl ?_
        refine Wp.n (pc' := 2) 1 rfl ?_
        first
          | (rw [if_neg (by rw [hc, decide_eq_false h32]; decide)]; exact hw)
          | (have hc : ls.contains i = false := by
               rw [ht] at h17
               cases e : ls.contains i with
               | false => rfl
               | true => rw [e] at h17; exact absurd rfl h17
             rw [if_neg (by rw [hc, Bool.false_and]; decide)]
             exact hw)
      · skip
        have hc : ls.contains i = true := by
          rw [ht] at h17
          cases e : ls.contains i with
          | true => rfl
          | false => rw [e] at h17; exact absurd h17 (by decide)
        have hl := hls i (List.contains_iff_mem.mp hc)
        refine Wp.n (pc' := 27) 4 rfl ?_
        refine Wp.imulN (x := 7) (y := i) (len := 1) rfl ?_
        refine Wp.n (pc' := 29) 1 rfl ?_
        refine Wp.iaddN (x := 7 * i) (y := 5) (len := 1) rfl ?_
        refine Wp.mialdN (j := (7 * i) + 5) (len := 1) rfl rfl rfl (by omega) ?_
        refine Wp.top (r0_lane hM.1 hl (j := 5) (by decide) (by omega)) ?_
        refine Wp.n (pc' := 32) 1 rfl ?_
        refine Wp.nc1 (x := kl K i 5) (y := 2) (tgt := 37) (len := 3) rfl (by first | omega | (rw [ht]; cases ls.contains i <;> decide) | (have := ok_lane ok hl; omega)) (by first | omega | (rw [ht]; cases ls.contains i <;> decide) | (have := ok_lane ok hl; omega)) (fun h32 => ?_) (fun h32 => ?_)
        · skip
          refine Wp.incN (x := i) (len := 3) rfl rfl ?_
          refine Wp.n (pc' := 2) 1 rfl ?_
          first
            | (rw [if_neg (by rw [hc, decide_eq_false h32]; decide)]; exact hw)
            | (have hc : ls.contains i = false := by
                 rw [ht] at h17
                 cases e : ls.contains i with
                 | false => rfl
                 | true => rw [e] at h17; exact absurd rfl h17
               rw [if_neg (by rw [hc, Bool.false_and]; decide)]
               exact hw)
        · skip
          refine Wp.n (pc' := 36) 1 rfl ?_
          refine Wp.retZ (len := 1) (c := true) rfl rfl rfl ?_
          rw [if_pos (by rw [hc, decide_eq_true h32]; rfl)]
          exact ⟨rfl, rfl⟩

theorem m_hasBoat (hM : MK σ K) {ls : List Nat} (h29 : σ.1 29 = nI (bitsM ls)) (hls : ∀ l, l ∈ ls → LV K l) : Ev d md_216 0 [some (.ref 287), none] [] (mset M σ) (some (.int (bI (boatK K ls))), mset M σ) := by
  refine Wp.toEv ?_
  rw [← boat_fnd (fun l hl => LV_8 hM.2.1 (hls l hl))]
  refine Wp.n (pc' := 2) 2 rfl ?_
  exact m_hasBoat_l hM h29 hls 9 0 (by omega)
/-- the row holds the places P -/
def RW (σ : MS) (m : Nat) (P : Nat → Nat) : Prop := σ.1 27 = nI m ∧ ∀ i, i < m → σ.2.2.1 14 i = nI (P i)
theorem m_savedOf (hM : MK σ K) {m len : Nat} {P : Nat → Nat} (hW : RW σ m P) (hm1 : 1 ≤ m) (hm7 : m ≤ 7) (hP : ∀ i, i < m → P i < kh K 0) (hlen : len ≤ 2000) (h28 : σ.1 28 = nI len) {y : Int32} : Wp (d + 2) md_212 0 [some (.ref 287), some (.int y), none] [] (mset M σ) (fun v M' => v = some (.int (nI (savK K (P 0) (P (m - 1)) len))) ∧ ∃ h, M' = mset M (aset σ 13 h)) := by
  have ok := hM.2.1
  obtain ⟨b0, b1, b2, b3, b4, b5, b6, b7, b8, b9, b10, b11, b12⟩ := ok_h ok
  have p0 := hP 0 (by omega)
  have p1 := hP (m - 1) (by omega)
  have hd := dist_le ok (P 0) (P (m - 1))
  unfold savK
  by_cases c : distK K (P 0) (P (m - 1)) < 1000000
  · rw [if_pos c]
    have e1 : dI (distK K (P 0) (P (m - 1))) = nI (distK K (P 0) (P (m - 1))) := if_pos c
    refine Wp.n (pc' := 6) 4 rfl ?_
    refine Wp.mialdN (j := 0) (len := 1) rfl rfl rfl (by omega) ?_
    refine Wp.top (hW.2 0 (by omega)) ?_
    refine Wp.n (pc' := 15) 4 rfl ?_
    refine Wp.top hW.1 ?_
    refine Wp.n (pc' := 16) 1 rfl ?_
    refine Wp.isubN (x := m) (y := 1) (len := 1) rfl (by omega) ?_
    refine Wp.mialdN (j := m - 1) (len := 1) rfl rfl rfl (by omega) ?_
    refine Wp.top (hW.2 (m - 1) (by omega)) ?_
    refine Wp.callV (len := 3) rfl rfl rfl (rfl) rfl (by decide) rfl (m_byRoad hM.1 ok p0 (by omega)) ?_
    rintro _ _ ⟨rfl, h, rfl, hh⟩
    refine Wp.top e1 ?_
    refine Wp.n (pc' := 24) 3 rfl ?_
    refine Wp.ic0 (tgt := 35) (len := 3) rfl (fun h24 => ?_) (fun h24 => ?_)
    · exact absurd h24 (oI_ne (by omega))
    · skip
      refine Wp.n (pc' := 32) 3 rfl ?_
      refine Wp.top h28 ?_
      refine Wp.nc3 (x := distK K (P 0) (P (m - 1))) (y := len) (tgt := 39) (len := 3) rfl (by omega) (by omega) (fun h32 => ?_) (fun h32 => ?_)
      · skip
        refine Wp.n (pc' := 44) 3 rfl ?_
        refine Wp.top h28 ?_
        refine Wp.isubN (x := distK K (P 0) (P (m - 1))) (y := len) (len := 1) rfl (by omega) ?_
        refine Wp.retI (len := 1) rfl rfl ?_
        first | exact ⟨rfl, h, rfl⟩ | (rw [show distK K (P 0) (P (m - 1)) - len = 0 by omega]; exact ⟨rfl, h, rfl⟩)
      · skip
        refine Wp.n (pc' := 45) 2 rfl ?_
        refine Wp.retI (len := 1) rfl rfl ?_
        first | exact ⟨rfl, h, rfl⟩ | (rw [show distK K (P 0) (P (m - 1)) - len = 0 by omega]; exact ⟨rfl, h, rfl⟩)
  · rw [if_neg c]
    have e1 : dI (distK K (P 0) (P (m - 1))) = -1 := if_neg c
    refine Wp.n (pc' := 6) 4 rfl ?_
    refine Wp.mialdN (j := 0) (len := 1) rfl rfl rfl (by omega) ?_
    refine Wp.top (hW.2 0 (by omega)) ?_
    refine Wp.n (pc' := 15) 4 rfl ?_
    refine Wp.top hW.1 ?_
    refine Wp.n (pc' := 16) 1 rfl ?_
    refine Wp.isubN (x := m) (y := 1) (len := 1) rfl (by omega) ?_
    refine Wp.mialdN (j := m - 1) (len := 1) rfl rfl rfl (by omega) ?_
    refine Wp.top (hW.2 (m - 1) (by omega)) ?_
    refine Wp.callV (len := 3) rfl rfl rfl (rfl) rfl (by decide) rfl (m_byRoad hM.1 ok p0 (by omega)) ?_
    rintro _ _ ⟨rfl, h, rfl, hh⟩
    refine Wp.top e1 ?_
    refine Wp.n (pc' := 24) 3 rfl ?_
    refine Wp.ic0 (tgt := 35) (len := 3) rfl (fun h24 => ?_) (fun h24 => ?_)
    · skip
      refine Wp.n (pc' := 45) 2 rfl ?_
      refine Wp.retI (len := 1) rfl rfl ?_
      exact ⟨rfl, h, rfl⟩
    · exact absurd rfl h24

theorem m_dutyOf (hM : MK σ K) {m len y load : Nat} {P : Nat → Nat} {ls : List Nat} (hW : RW σ m P) (hm1 : 1 ≤ m) (hm7 : m ≤ 7) (hP : ∀ i, i < m → P i < kh K 0) (hlen : len ≤ 2000) (h28 : σ.1 28 = nI len) (h29 : σ.1 29 = nI (bitsM ls)) (hls : ∀ l, l ∈ ls → LV K l) (hy : y < 31) (hload : load ≤ 9) : Wp (d + 3) md_215 0 [some (.ref 287), some (.int (nI y)), some (.int (nI load)), none] [] (mset M σ) (fun v M' => v = some (.int (nI (dutyS K (boatK K ls) (savK K (P 0) (P (m - 1)) len) y load))) ∧ ∃ h, M' = mset M (aset σ 13 h)) := by
  have ok := hM.2.1
  obtain ⟨b0, b1, b2, b3, b4, b5, b6, b7, b8, b9, b10, b11, b12⟩ := ok_h ok
  have p0 := hP 0 (by omega)
  have hs := savK_b (b := P (m - 1)) (len := len) ok p0
  have e0 : mset M σ = mset M (aset σ 13 (σ.2.2.1 13)) := by rw [aset_same]
  have l0 : σ.2.2.1 7 0 = nI (kh K 6) := r0_law hM.1 (by omega) (j := 0) (by decide)
  have l1 : σ.2.2.1 7 1 = nI (kh K 7) := r0_law hM.1 (by omega) (j := 1) (by decide)
  have l3 : σ.2.2.1 7 3 = nI (kh K 9) := r0_law hM.1 (by omega) (j := 3) (by decide)
  have l4 : σ.2.2.1 7 4 = nI (kh K 10) := r0_law hM.1 (by omega) (j := 4) (by decide)
  unfold dutyS
  refine Wp.n (pc' := 1) 1 rfl ?_
  refine Wp.ecallV (len := 3) rfl rfl rfl (rfl) rfl (by decide) rfl (m_hasBoat hM h29 hls) ?_
  refine Wp.ifb1 (tgt := 25) (len := 3) rfl (fun h4 => ?_) (fun h4 => ?_)
  · skip
    refine Wp.n (pc' := 26) 1 rfl ?_
    refine Wp.retI (len := 1) rfl rfl ?_
    first
      | (rw [if_pos (Or.inl (by assumption))]; exact ⟨rfl, _, e0⟩)
      | (rw [if_pos (Or.inr ⟨by omega, by omega⟩)]; exact ⟨rfl, _, e0⟩)
  · skip
    refine Wp.n (pc' := 12) 3 rfl ?_
    refine Wp.mialdN (j := 3) (len := 1) rfl rfl rfl (by omega) ?_
    refine Wp.top l3 ?_
    refine Wp.nz1 (x := kh K 9) (tgt := 27) (len := 3) rfl (by omega) (fun h13 => ?_) (fun h13 => ?_)
    · skip
      refine Wp.n (pc' := 29) 2 rfl ?_
      refine Wp.callV (len := 3) rfl rfl rfl (rfl) rfl (by decide) rfl (m_savedOf hM hW hm1 hm7 hP hlen h28) ?_
      rintro _ _ ⟨rfl, h, rfl⟩
      generalize savK K (P 0) (P (m - 1)) len = sv at hs ⊢
      refine Wp.n (pc' := 37) 3 rfl ?_
      refine Wp.mialdN (j := 1) (len := 1) rfl rfl rfl (by omega) ?_
      refine Wp.top l1 ?_
      by_cases c : kh K 7 ≤ sv
      · skip
        refine Wp.isubN (x := sv) (y := kh K 7) (len := 1) rfl (by omega) ?_
        refine Wp.n (pc' := 41) 2 rfl ?_
        refine Wp.nz4 (x := sv - (kh K 7)) (tgt := 48) (len := 3) rfl (by omega) (fun h41 => ?_) (fun h41 => ?_)
        · skip
          refine Wp.n (pc' := 54) 4 rfl ?_
          refine Wp.mialdN (j := 0) (len := 1) rfl rfl rfl (by omega) ?_
          refine Wp.top l0 ?_
          refine Wp.imulN (x := sv - (kh K 7)) (y := kh K 6) (len := 1) rfl ?_
          refine Wp.n (pc' := 61) 3 rfl ?_
          refine Wp.mialdN (j := 4) (len := 1) rfl rfl rfl (by omega) ?_
          refine Wp.top l4 ?_
          refine Wp.n (pc' := 63) 1 rfl ?_
          refine Wp.nc1 (x := kh K 10) (y := 1) (tgt := 70) (len := 3) rfl (by omega) (by omega) (fun h63 => ?_) (fun h63 => ?_)
          · skip
            refine Wp.n (pc' := 71) 1 rfl ?_
            refine Wp.imulN (x := (sv - (kh K 7)) * (kh K 6)) (y := 1) (len := 1) rfl ?_
            refine Wp.retI (len := 1) rfl rfl ?_
            rw [if_neg (by rintro (q | q); exact absurd (q.symm.trans h4) (by decide); omega)]
            first
              | (rw [show sv - kh K 7 = 0 by omega, Nat.zero_mul, Nat.zero_mul]; exact ⟨rfl, h, rfl⟩)
              | (rw [if_pos (by omega)]; exact ⟨rfl, h, rfl⟩)
              | (rw [if_neg (by omega)]; exact ⟨rfl, h, rfl⟩)
          · skip
            refine Wp.n (pc' := 71) 2 rfl ?_
            refine Wp.imulN (x := (sv - (kh K 7)) * (kh K 6)) (y := load) (len := 1) rfl ?_
            refine Wp.retI (len := 1) rfl rfl ?_
            rw [if_neg (by rintro (q | q); exact absurd (q.symm.trans h4) (by decide); omega)]
            first
              | (rw [show sv - kh K 7 = 0 by omega, Nat.zero_mul, Nat.zero_mul]; exact ⟨rfl, h, rfl⟩)
              | (rw [if_pos (by omega)]; exact ⟨rfl, h, rfl⟩)
              | (rw [if_neg (by omega)]; exact ⟨rfl, h, rfl⟩)
        · skip
          refine Wp.n (pc' := 72) 2 rfl ?_
          refine Wp.retI (len := 1) rfl rfl ?_
          rw [if_neg (by rintro (q | q); exact absurd (q.symm.trans h4) (by decide); omega)]
          first
            | (rw [show sv - kh K 7 = 0 by omega, Nat.zero_mul, Nat.zero_mul]; exact ⟨rfl, h, rfl⟩)
            | (rw [if_pos (by omega)]; exact ⟨rfl, h, rfl⟩)
            | (rw [if_neg (by omega)]; exact ⟨rfl, h, rfl⟩)
      · skip
        refine Wp.n (pc' := 41) 3 rfl ?_
        refine Wp.if4 (tgt := 48) (len := 3) rfl (fun h41 => ?_) (fun h41 => ?_)
        · exact absurd h41 (n_subneg (by omega) (by omega) (by omega))
        · skip
          refine Wp.n (pc' := 72) 2 rfl ?_
          refine Wp.retI (len := 1) rfl rfl ?_
          rw [if_neg (by rintro (q | q); exact absurd (q.symm.trans h4) (by decide); omega)]
          first
            | (rw [show sv - kh K 7 = 0 by omega, Nat.zero_mul, Nat.zero_mul]; exact ⟨rfl, h, rfl⟩)
            | (rw [if_pos (by omega)]; exact ⟨rfl, h, rfl⟩)
            | (rw [if_neg (by omega)]; exact ⟨rfl, h, rfl⟩)
    · skip
      refine Wp.n (pc' := 19) 2 rfl ?_
      refine Wp.s (pc' := 20) rfl ?_
      refine Wp.top (pk_rem (by omega) (by decide) (by decide)) ?_
      refine Wp.n (pc' := 22) 1 rfl ?_
      refine Wp.nc1 (x := y % 7) (y := 6) (tgt := 27) (len := 3) rfl (by omega) (by omega) (fun h22 => ?_) (fun h22 => ?_)
      · skip
        refine Wp.n (pc' := 29) 2 rfl ?_
        refine Wp.callV (len := 3) rfl rfl rfl (rfl) rfl (by decide) rfl (m_savedOf hM hW hm1 hm7 hP hlen h28) ?_
        rintro _ _ ⟨rfl, h, rfl⟩
        generalize savK K (P 0) (P (m - 1)) len = sv at hs ⊢
        refine Wp.n (pc' := 37) 3 rfl ?_
        refine Wp.mialdN (j := 1) (len := 1) rfl rfl rfl (by omega) ?_
        refine Wp.top l1 ?_
        by_cases c : kh K 7 ≤ sv
        · skip
          refine Wp.isubN (x := sv) (y := kh K 7) (len := 1) rfl (by omega) ?_
          refine Wp.n (pc' := 41) 2 rfl ?_
          refine Wp.nz4 (x := sv - (kh K 7)) (tgt := 48) (len := 3) rfl (by omega) (fun h41 => ?_) (fun h41 => ?_)
          · skip
            refine Wp.n (pc' := 54) 4 rfl ?_
            refine Wp.mialdN (j := 0) (len := 1) rfl rfl rfl (by omega) ?_
            refine Wp.top l0 ?_
            refine Wp.imulN (x := sv - (kh K 7)) (y := kh K 6) (len := 1) rfl ?_
            refine Wp.n (pc' := 61) 3 rfl ?_
            refine Wp.mialdN (j := 4) (len := 1) rfl rfl rfl (by omega) ?_
            refine Wp.top l4 ?_
            refine Wp.n (pc' := 63) 1 rfl ?_
            refine Wp.nc1 (x := kh K 10) (y := 1) (tgt := 70) (len := 3) rfl (by omega) (by omega) (fun h63 => ?_) (fun h63 => ?_)
            · skip
              refine Wp.n (pc' := 71) 1 rfl ?_
              refine Wp.imulN (x := (sv - (kh K 7)) * (kh K 6)) (y := 1) (len := 1) rfl ?_
              refine Wp.retI (len := 1) rfl rfl ?_
              rw [if_neg (by rintro (q | q); exact absurd (q.symm.trans h4) (by decide); omega)]
              first
                | (rw [show sv - kh K 7 = 0 by omega, Nat.zero_mul, Nat.zero_mul]; exact ⟨rfl, h, rfl⟩)
                | (rw [if_pos (by omega)]; exact ⟨rfl, h, rfl⟩)
                | (rw [if_neg (by omega)]; exact ⟨rfl, h, rfl⟩)
            · skip
              refine Wp.n (pc' := 71) 2 rfl ?_
              refine Wp.imulN (x := (sv - (kh K 7)) * (kh K 6)) (y := load) (len := 1) rfl ?_
              refine Wp.retI (len := 1) rfl rfl ?_
              rw [if_neg (by rintro (q | q); exact absurd (q.symm.trans h4) (by decide); omega)]
              first
                | (rw [show sv - kh K 7 = 0 by omega, Nat.zero_mul, Nat.zero_mul]; exact ⟨rfl, h, rfl⟩)
                | (rw [if_pos (by omega)]; exact ⟨rfl, h, rfl⟩)
                | (rw [if_neg (by omega)]; exact ⟨rfl, h, rfl⟩)
          · skip
            refine Wp.n (pc' := 72) 2 rfl ?_
            refine Wp.retI (len := 1) rfl rfl ?_
            rw [if_neg (by rintro (q | q); exact absurd (q.symm.trans h4) (by decide); omega)]
            first
              | (rw [show sv - kh K 7 = 0 by omega, Nat.zero_mul, Nat.zero_mul]; exact ⟨rfl, h, rfl⟩)
              | (rw [if_pos (by omega)]; exact ⟨rfl, h, rfl⟩)
              | (rw [if_neg (by omega)]; exact ⟨rfl, h, rfl⟩)
        · skip
          refine Wp.n (pc' := 41) 3 rfl ?_
          refine Wp.if4 (tgt := 48) (len := 3) rfl (fun h41 => ?_) (fun h41 => ?_)
          · exact absurd h41 (n_subneg (by omega) (by omega) (by omega))
          · skip
            refine Wp.n (pc' := 72) 2 rfl ?_
            refine Wp.retI (len := 1) rfl rfl ?_
            rw [if_neg (by rintro (q | q); exact absurd (q.symm.trans h4) (by decide); omega)]
            first
              | (rw [show sv - kh K 7 = 0 by omega, Nat.zero_mul, Nat.zero_mul]; exact ⟨rfl, h, rfl⟩)
              | (rw [if_pos (by omega)]; exact ⟨rfl, h, rfl⟩)
              | (rw [if_neg (by omega)]; exact ⟨rfl, h, rfl⟩)
      · skip
        refine Wp.n (pc' := 26) 1 rfl ?_
        refine Wp.retI (len := 1) rfl rfl ?_
        first
          | (rw [if_pos (Or.inl (by assumption))]; exact ⟨rfl, _, e0⟩)
          | (rw [if_pos (Or.inr ⟨by omega, by omega⟩)]; exact ⟨rfl, _, e0⟩)

theorem m_dutyOf1 (hM : MK σ K) {w : Nat} {P : Nat → Nat} (hw : w < kh K 4) (hP : P = fun i => kw K w (4 + i)) (hW : RW σ (kw K w 3) P) {s : Nat × List Nat} (hs : SB K 6 s) (hL : LKs σ K s) : Wp (d + 4) md_214 0 [some (.ref 287), some (.int (nI w))] [] (mset M σ) (fun v M' => v = some (.int (nI (dutyS K (boatK K s.2) (savK K (kw K w 4) (kw K w (3 + kw K w 3)) s.1) (kw K w 2) (kw K w 1)))) ∧ ∃ h, M' = mset M (aset σ 13 h)) := by
  have ok := hM.2.1
  obtain ⟨b0, b1, b2, b3, b4, b5, b6, b7, b8, b9, b10, b11, b12⟩ := ok_h ok
  have t := ok_walk ok hw
  have w1 := r0_walk hM.1 hw (j := 1) (q := 11 * w + 1) (by decide) (by omega)
  have w2 := r0_walk hM.1 hw (j := 2) (q := 11 * w + 2) (by decide) (by omega)
  have e1 : P (kw K w 3 - 1) = kw K w (3 + kw K w 3) := by rw [hP]; show kw K w (4 + (kw K w 3 - 1)) = _; rw [show 4 + (kw K w 3 - 1) = 3 + kw K w 3 by omega]
  have e2 : P 0 = kw K w 4 := by rw [hP]
  rw [← e1, ← e2]
  refine Wp.n (pc' := 4) 4 rfl ?_
  refine Wp.ecallV (len := 3) rfl rfl rfl (rfl) rfl (by decide) rfl (m_of σ w 2 (by omega)) ?_
  refine Wp.top w2 ?_
  refine Wp.n (pc' := 10) 3 rfl ?_
  refine Wp.ecallV (len := 3) rfl rfl rfl (rfl) rfl (by decide) rfl (m_of σ w 1 (by omega)) ?_
  refine Wp.top w1 ?_
  refine Wp.callV (len := 3) rfl rfl rfl (rfl) rfl (by decide) rfl (m_dutyOf hM hW (by omega) (by omega) (fun i hi => by rw [hP]; exact t.2.2.2.2.2.2.1 i hi) (by have := hs.1; omega) hL.1 hL.2.1 hs.2.2 (by omega) (by omega)) ?_
  rintro _ _ ⟨rfl, h, rfl⟩
  refine Wp.retI (len := 1) rfl rfl ?_
  exact ⟨rfl, h, rfl⟩

end DUTY
end
section
/-! TOLD WALKS, in the reference; its public questions of the first kind. -/
def GA (σ : MS) (K : KD) (w : Nat) : Prop := RW σ (kw K w 3) (fun i => kw K w (4 + i)) ∧ LKs σ K (TRr K w).2
def RI (M : AM) (σ : MS) (a : Int32) : Option Value → AM → Prop := fun v M' => v = some (.int a) ∧ ∃ σ', M' = mset M σ' ∧ Scr σ σ'
def RJ (M : AM) (σ : MS) (a : Int64) : Option Value → AM → Prop := fun v M' => v = some (.long a) ∧ ∃ σ', M' = mset M σ' ∧ Scr σ σ'
theorem Scr_r {σ : MS} : Scr σ σ := Fr.rfl'
theorem Scr_t {σ σ' σ'' : MS} (h : Scr σ σ') (h' : Scr σ' σ'') : Scr σ σ'' := Fr.trans h h'
theorem Scr_13 {σ σ' : MS} {f : Nat → Int32} (h : Scr σ σ') : Scr σ (aset σ' 13 f) := Fr.aset h rfl
theorem RI_r {M : AM} {σ : MS} {a b : Int32} (h : a = b) : RI M σ b (some (.int a)) (mset M σ) := ⟨by rw [h], σ, rfl, Scr_r⟩
theorem RI_s {M : AM} {σ σ' : MS} {a b : Int32} (e : Scr σ σ') (h : a = b) : RI M σ b (some (.int a)) (mset M σ') := ⟨by rw [h], σ', rfl, e⟩
theorem RJ_s {M : AM} {σ σ' : MS} {a b : Int64} (e : Scr σ σ') (h : a = b) : RJ M σ b (some (.long a)) (mset M σ') := ⟨by rw [h], σ', rfl, e⟩
theorem TRr_b {K : KD} (ok : KOK K) {w : Nat} (hw : w < kh K 4) : SB K 6 (TRr K w).2 ∧ (TRr K w).1 ≤ kw K w 3 - 1 := by
  have t := ok_walk ok hw
  obtain ⟨⟨h1, h2, h3⟩, h4, _⟩ := lookK_b ok (y := kw K w 2) (P := fun i => kw K w (4 + i)) (kw K w 3 - 1) 0 (0, []) ⟨Nat.le_refl _, Nat.le_refl _, fun l hl => absurd hl List.not_mem_nil⟩
  refine ⟨⟨?_, ?_, h3⟩, ?_⟩
  · show (TRr K w).2.1 ≤ _
    unfold TRr
    omega
  · show (TRr K w).2.2.length ≤ _
    unfold TRr
    omega
  · unfold TRr
    omega
section WALKS
variable {d : Nat} {M : AM} {σ σ' : MS} {K : KD} {Q : Option Value → AM → Prop}
theorem m_ga_l (hM : MK σ K) {w : Nat} (hw : w < kh K 4) : ∀ (n i : Nat) (τ : MS), i + n = kw K w 3 → Fr [27] [14] σ τ → τ.1 27 = nI (kw K w 3) → (∀ j, j < i → τ.2.2.1 14 j = nI (kw K w (4 + j))) → (∀ τ', Fr [27] [14] σ τ' → RW τ' (kw K w 3) (fun i => kw K w (4 + i)) → Wp (d + 1) md_206 39 [some (.ref 287), some (.int (nI w)), some (.int (nI (kw K w 3)))] [] (mset M τ') Q) → Wp (d + 1) md_206 11 [some (.ref 287), some (.int (nI w)), some (.int (nI i))] [] (mset M τ) Q := by
  have ok := hM.2.1
  have t := ok_walk ok hw
  intro n
  obtain ⟨b0, b1, b2, b3, b4, b5, b6, b7, b8, b9, b10, b11, b12⟩ := ok_h ok
  induction n with
  | zero =>
    intro i τ hi hF h27 hr k
    refine Wp.n (pc' := 16) 3 rfl ?_
    refine Wp.top h27 ?_
    refine Wp.nc3 (x := i) (y := kw K w 3) (tgt := 39) (len := 3) rfl (by omega) (by omega) (fun h16 => ?_) (fun h16 => ?_)
    · skip
      have e : i = kw K w 3 := by omega
      rw [e] at hr ⊢
      exact k τ hF ⟨h27, hr⟩
    · omega
  | succ n ih =>
    intro i τ hi hF h27 hr k
    have hK := MK_scr hM (Fr.mono hF rfl rfl)
    have e := r0_stop hK.1 hw (j := i) (q := 11 * w + (4 + i)) (by omega) (by omega)
    refine Wp.n (pc' := 16) 3 rfl ?_
    refine Wp.top h27 ?_
    refine Wp.nc3 (x := i) (y := kw K w 3) (tgt := 39) (len := 3) rfl (by omega) (by omega) (fun h16 => ?_) (fun h16 => ?_)
    · omega
    · skip
      refine Wp.n (pc' := 28) 7 rfl ?_
      refine Wp.iaddN (x := 4) (y := i) (len := 1) rfl ?_
      refine Wp.ecallV (len := 3) rfl rfl rfl (rfl) rfl (by decide) rfl (m_of τ w (4 + i) (by omega)) ?_
      refine Wp.top e ?_
      refine Wp.miastN (j := i) (len := 1) rfl rfl rfl (by omega) ?_
      refine Wp.incN (x := i) (len := 3) rfl rfl ?_
      refine Wp.n (pc' := 11) 1 rfl ?_
      refine ih (i + 1) _ (by omega) (hF.aset rfl) h27 (fun j hj => ?_) k
      show upd (τ.2.2.1 14) i _ j = _
      by_cases c : j = i
      · rw [c, pk_us]
      · rw [pk_un c]
        exact hr j (by omega)

theorem m_goesAs (hM : MK σ K) {w : Nat} (hw : w < kh K 4) : Wp (d + 4) md_206 0 [some (.ref 287), some (.int (nI w)), none] [] (mset M σ) (fun v M' => v = some (.int (bI (lawK K w))) ∧ ∃ σ', M' = mset M σ' ∧ Scr σ σ' ∧ GA σ' K w) := by
  have ok := hM.2.1
  have t := ok_walk ok hw
  obtain ⟨b0, b1, b2, b3, b4, b5, b6, b7, b8, b9, b10, b11, b12⟩ := ok_h ok
  have tb := (TRr_b ok hw).2
  refine Wp.n (pc' := 3) 3 rfl ?_
  refine Wp.ecallV (len := 3) rfl rfl rfl (rfl) rfl (by decide) rfl (m_many0 hM.1 ok hw) ?_
  refine Wp.mput (len := 3) rfl rfl ?_
  refine Wp.n (pc' := 11) 2 rfl ?_
  refine m_ga_l hM hw (kw K w 3) 0 _ (by omega) (Fr.rfl'.fset rfl) rfl (fun j hj => absurd hj (Nat.not_lt_zero j)) (fun τ hF hW => ?_)
  have hK := MK_scr hM (Fr.mono hF rfl rfl)
  have e := r0_walk hK.1 hw (j := 2) (q := 11 * w + 2) (by decide) (by omega)
  refine Wp.n (pc' := 43) 4 rfl ?_
  refine Wp.ecallV (len := 3) rfl rfl rfl (rfl) rfl (by decide) rfl (m_of τ w 2 (by omega)) ?_
  refine Wp.top e ?_
  refine Wp.callV (len := 3) rfl rfl rfl (rfl) rfl (by decide) rfl (m_looks hK hW.1 (by omega) (by omega) (by omega) (fun i hi => ⟨hW.2 i hi, by have := t.2.2.2.2.2.2.1 i hi; omega⟩)) ?_
  rintro _ _ ⟨τ', rfl, rfl, hF', hL'⟩
  refine Wp.n (pc' := 53) 2 rfl ?_
  refine Wp.top ((hF'.1 27 rfl).trans hW.1) ?_
  refine Wp.n (pc' := 54) 1 rfl ?_
  refine Wp.isubN (x := kw K w 3) (y := 1) (len := 1) rfl (by omega) ?_
  refine Wp.nc1 (x := (TRr K w).1) (y := (kw K w 3) - 1) (tgt := 62) (len := 3) rfl (by omega) (by omega) (fun h55 => ?_) (fun h55 => ?_)
  · skip
    refine Wp.n (pc' := 63) 1 rfl ?_
    refine Wp.retZ (len := 1) (c := false) rfl rfl rfl ?_
    refine ⟨?_, τ', rfl, Scr_t (Fr.mono hF rfl rfl) (Fr.mono hF' rfl rfl), ⟨(hF'.1 27 rfl).trans hW.1, fun i hi => ?_⟩, hL'⟩
    · unfold lawK
      first | rw [decide_eq_true (by omega)] | rw [decide_eq_false (by omega)]
    · rw [hF'.2.1 14 rfl]
      exact hW.2 i hi
  · skip
    refine Wp.n (pc' := 63) 2 rfl ?_
    refine Wp.retZ (len := 1) (c := true) rfl rfl rfl ?_
    refine ⟨?_, τ', rfl, Scr_t (Fr.mono hF rfl rfl) (Fr.mono hF' rfl rfl), ⟨(hF'.1 27 rfl).trans hW.1, fun i hi => ?_⟩, hL'⟩
    · unfold lawK
      first | rw [decide_eq_true (by omega)] | rw [decide_eq_false (by omega)]
    · rw [hF'.2.1 14 rfl]
      exact hW.2 i hi
  


def stepsA (K : KD) (x : Int32) : Int32 := if isN (kh K 4) x = true then nI (TRr K x.toNatClampNeg).1 else -2
def lengthA (K : KD) (x : Int32) : Int32 := if isN (kh K 4) x = true then (bif lawK K x.toNatClampNeg then nI (TRr K x.toNatClampNeg).2.1 else -1) else -2
def savedA (K : KD) (x : Int32) : Int32 := if isN (kh K 4) x = true then (bif lawK K x.toNatClampNeg then nI (savW K x.toNatClampNeg) else -1) else -2
def dutyA (K : KD) (x : Int32) : Int32 := if isN (kh K 4) x = true then (bif lawK K x.toNatClampNeg then nI (dutW K x.toNatClampNeg) else -1) else -2
def lanesA (K : KD) (x : Int32) : Int32 := if isN (kh K 4) x = true then (bif lawK K x.toNatClampNeg then nI (bitsM (TRr K x.toNatClampNeg).2.2) else -1) else -2

theorem m_length (hM : MK σ K) (x : Int32) : Wp (d + 5) md_210 0 [some (.ref 287), some (.int x)] [] (mset M σ) (RI M σ (lengthA K x)) := by
  have ok := hM.2.1
  have hσ0 := hM.2.2.2
  obtain ⟨b0, b1, b2, b3, b4, b5, b6, b7, b8, b9, b10, b11, b12⟩ := ok_h ok
  unfold lengthA
  refine Wp.n (pc' := 2) 2 rfl ?_
  refine Wp.mput0 (len := 3) rfl hσ0 ?_
  refine Wp.n (pc' := 7) 2 rfl ?_
  refine Wp.ecallV (len := 3) rfl rfl rfl (rfl) rfl (by decide) rfl (m_isWalkK hM.1 ok _) ?_
  refine Wp.ifb1 (tgt := 18) (len := 3) rfl (fun h10 => ?_) (fun h10 => ?_)
  · skip
    obtain ⟨w, hw, rfl⟩ := isN_of h10
    have t := ok_walk ok hw
    rw [if_pos h10, nI_clamp (by omega)]
    refine Wp.n (pc' := 20) 2 rfl ?_
    refine Wp.callV (len := 3) rfl rfl rfl (rfl) rfl (by decide) rfl (m_goesAs hM hw) ?_
    rintro _ _ ⟨rfl, τ, rfl, hS, hG⟩
    refine Wp.ifb0 (tgt := 33) (len := 3) rfl (fun h23 => ?_) (fun h23 => ?_)
    · skip
      refine Wp.n (pc' := 34) 1 rfl ?_
      refine Wp.retI (len := 1) rfl rfl ?_
      first
        | (rw [if_neg (by rw [h10]; decide)]; exact RI_r rfl)
        | (exact RI_s hS (by rw [h23]; rfl))
        | exact RI_s hS (by rw [h23]; rfl)
    · skip
      refine Wp.n (pc' := 30) 2 rfl ?_
      refine Wp.top hG.2.1 ?_
      refine Wp.n (pc' := 34) 1 rfl ?_
      refine Wp.retI (len := 1) rfl rfl ?_
      first
        | (rw [if_neg (by rw [h10]; decide)]; exact RI_r rfl)
        | (exact RI_s hS (by rw [h23]; rfl))
        | exact RI_s hS (by rw [h23]; rfl)
  · skip
    refine Wp.n (pc' := 34) 2 rfl ?_
    refine Wp.retI (len := 1) rfl rfl ?_
    first
      | (rw [if_neg (by rw [h10]; decide)]; exact RI_r rfl)
      | (exact RI_s hS (by rw [h23]; rfl))
      | exact RI_s hS (by rw [h23]; rfl)


theorem m_lanes (hM : MK σ K) (x : Int32) : Wp (d + 5) md_217 0 [some (.ref 287), some (.int x)] [] (mset M σ) (RI M σ (lanesA K x)) := by
  have ok := hM.2.1
  have hσ0 := hM.2.2.2
  obtain ⟨b0, b1, b2, b3, b4, b5, b6, b7, b8, b9, b10, b11, b12⟩ := ok_h ok
  unfold lanesA
  refine Wp.n (pc' := 2) 2 rfl ?_
  refine Wp.mput0 (len := 3) rfl hσ0 ?_
  refine Wp.n (pc' := 7) 2 rfl ?_
  refine Wp.ecallV (len := 3) rfl rfl rfl (rfl) rfl (by decide) rfl (m_isWalkK hM.1 ok _) ?_
  refine Wp.ifb1 (tgt := 18) (len := 3) rfl (fun h10 => ?_) (fun h10 => ?_)
  · skip
    obtain ⟨w, hw, rfl⟩ := isN_of h10
    have t := ok_walk ok hw
    rw [if_pos h10, nI_clamp (by omega)]
    refine Wp.n (pc' := 20) 2 rfl ?_
    refine Wp.callV (len := 3) rfl rfl rfl (rfl) rfl (by decide) rfl (m_goesAs hM hw) ?_
    rintro _ _ ⟨rfl, τ, rfl, hS, hG⟩
    refine Wp.ifb0 (tgt := 33) (len := 3) rfl (fun h23 => ?_) (fun h23 => ?_)
    · skip
      refine Wp.n (pc' := 34) 1 rfl ?_
      refine Wp.retI (len := 1) rfl rfl ?_
      first
        | (rw [if_neg (by rw [h10]; decide)]; exact RI_r rfl)
        | (exact RI_s hS (by rw [h23]; rfl))
        | exact RI_s hS (by rw [h23]; rfl)
    · skip
      refine Wp.n (pc' := 30) 2 rfl ?_
      refine Wp.top hG.2.2.1 ?_
      refine Wp.n (pc' := 34) 1 rfl ?_
      refine Wp.retI (len := 1) rfl rfl ?_
      first
        | (rw [if_neg (by rw [h10]; decide)]; exact RI_r rfl)
        | (exact RI_s hS (by rw [h23]; rfl))
        | exact RI_s hS (by rw [h23]; rfl)
  · skip
    refine Wp.n (pc' := 34) 2 rfl ?_
    refine Wp.retI (len := 1) rfl rfl ?_
    first
      | (rw [if_neg (by rw [h10]; decide)]; exact RI_r rfl)
      | (exact RI_s hS (by rw [h23]; rfl))
      | exact RI_s hS (by rw [h23]; rfl)


theorem m_saved (hM : MK σ K) (x : Int32) : Wp (d + 5) md_211 0 [some (.ref 287), some (.int x)] [] (mset M σ) (RI M σ (savedA K x)) := by
  have ok := hM.2.1
  have hσ0 := hM.2.2.2
  obtain ⟨b0, b1, b2, b3, b4, b5, b6, b7, b8, b9, b10, b11, b12⟩ := ok_h ok
  unfold savedA
  refine Wp.n (pc' := 2) 2 rfl ?_
  refine Wp.mput0 (len := 3) rfl hσ0 ?_
  refine Wp.n (pc' := 7) 2 rfl ?_
  refine Wp.ecallV (len := 3) rfl rfl rfl (rfl) rfl (by decide) rfl (m_isWalkK hM.1 ok _) ?_
  refine Wp.ifb1 (tgt := 18) (len := 3) rfl (fun h10 => ?_) (fun h10 => ?_)
  · skip
    obtain ⟨w, hw, rfl⟩ := isN_of h10
    have t := ok_walk ok hw
    rw [if_pos h10, nI_clamp (by omega)]
    refine Wp.n (pc' := 20) 2 rfl ?_
    refine Wp.callV (len := 3) rfl rfl rfl (rfl) rfl (by decide) rfl (m_goesAs hM hw) ?_
    rintro _ _ ⟨rfl, τ, rfl, hS, hG⟩
    refine Wp.ifb0 (tgt := 39) (len := 3) rfl (fun h23 => ?_) (fun h23 => ?_)
    · skip
      refine Wp.n (pc' := 40) 1 rfl ?_
      refine Wp.retI (len := 1) rfl rfl ?_
      first
        | (rw [if_neg (by rw [h10]; decide)]; exact RI_r rfl)
        | (exact RI_s (Scr_13 hS) (by rw [h23]; show nI (savK K (kw K w (4 + 0)) (kw K w (4 + (kw K w 3 - 1))) _) = nI (savW K w); rw [show 4 + (kw K w 3 - 1) = 3 + kw K w 3 by omega]; rfl))
        | exact RI_s hS (by rw [h23]; rfl)
    · skip
      refine Wp.n (pc' := 30) 4 rfl ?_
      refine Wp.ecallV (len := 3) rfl rfl rfl (rfl) rfl (by decide) rfl (m_of τ w 2 (by omega)) ?_
      refine Wp.top (r0_walk (MK_scr hM hS).1 hw (j := 2) (by decide) (by omega)) ?_
      refine Wp.callV (len := 3) rfl rfl rfl (rfl) rfl (by decide) rfl (m_savedOf (MK_scr hM hS) hG.1 (by omega) (by omega) (fun i hi => t.2.2.2.2.2.2.1 i hi) (by have := (TRr_b ok hw).1.1; omega) hG.2.1) ?_
      rintro _ _ ⟨rfl, h, rfl⟩
      refine Wp.n (pc' := 40) 1 rfl ?_
      refine Wp.retI (len := 1) rfl rfl ?_
      first
        | (rw [if_neg (by rw [h10]; decide)]; exact RI_r rfl)
        | (exact RI_s (Scr_13 hS) (by rw [h23]; show nI (savK K (kw K w (4 + 0)) (kw K w (4 + (kw K w 3 - 1))) _) = nI (savW K w); rw [show 4 + (kw K w 3 - 1) = 3 + kw K w 3 by omega]; rfl))
        | exact RI_s hS (by rw [h23]; rfl)
  · skip
    refine Wp.n (pc' := 40) 2 rfl ?_
    refine Wp.retI (len := 1) rfl rfl ?_
    first
      | (rw [if_neg (by rw [h10]; decide)]; exact RI_r rfl)
      | (exact RI_s (Scr_13 hS) (by rw [h23]; show nI (savK K (kw K w (4 + 0)) (kw K w (4 + (kw K w 3 - 1))) _) = nI (savW K w); rw [show 4 + (kw K w 3 - 1) = 3 + kw K w 3 by omega]; rfl))
      | exact RI_s hS (by rw [h23]; rfl)


theorem m_duty (hM : MK σ K) (x : Int32) : Wp (d + 5) md_213 0 [some (.ref 287), some (.int x)] [] (mset M σ) (RI M σ (dutyA K x)) := by
  have ok := hM.2.1
  have hσ0 := hM.2.2.2
  obtain ⟨b0, b1, b2, b3, b4, b5, b6, b7, b8, b9, b10, b11, b12⟩ := ok_h ok
  unfold dutyA
  refine Wp.n (pc' := 2) 2 rfl ?_
  refine Wp.mput0 (len := 3) rfl hσ0 ?_
  refine Wp.n (pc' := 7) 2 rfl ?_
  refine Wp.ecallV (len := 3) rfl rfl rfl (rfl) rfl (by decide) rfl (m_isWalkK hM.1 ok _) ?_
  refine Wp.ifb1 (tgt := 18) (len := 3) rfl (fun h10 => ?_) (fun h10 => ?_)
  · skip
    obtain ⟨w, hw, rfl⟩ := isN_of h10
    have t := ok_walk ok hw
    rw [if_pos h10, nI_clamp (by omega)]
    refine Wp.n (pc' := 20) 2 rfl ?_
    refine Wp.callV (len := 3) rfl rfl rfl (rfl) rfl (by decide) rfl (m_goesAs hM hw) ?_
    rintro _ _ ⟨rfl, τ, rfl, hS, hG⟩
    refine Wp.ifb0 (tgt := 34) (len := 3) rfl (fun h23 => ?_) (fun h23 => ?_)
    · skip
      refine Wp.n (pc' := 35) 1 rfl ?_
      refine Wp.retI (len := 1) rfl rfl ?_
      first
        | (rw [if_neg (by rw [h10]; decide)]; exact RI_r rfl)
        | (exact RI_s (Scr_13 hS) (by rw [h23]; rfl))
        | exact RI_s hS (by rw [h23]; rfl)
    · skip
      refine Wp.n (pc' := 28) 2 rfl ?_
      refine Wp.callV (len := 3) rfl rfl rfl (rfl) rfl (by decide) rfl (m_dutyOf1 (MK_scr hM hS) hw rfl hG.1 (TRr_b ok hw).1 hG.2) ?_
      rintro _ _ ⟨rfl, h, rfl⟩
      refine Wp.n (pc' := 35) 1 rfl ?_
      refine Wp.retI (len := 1) rfl rfl ?_
      first
        | (rw [if_neg (by rw [h10]; decide)]; exact RI_r rfl)
        | (exact RI_s (Scr_13 hS) (by rw [h23]; rfl))
        | exact RI_s hS (by rw [h23]; rfl)
  · skip
    refine Wp.n (pc' := 35) 2 rfl ?_
    refine Wp.retI (len := 1) rfl rfl ?_
    first
      | (rw [if_neg (by rw [h10]; decide)]; exact RI_r rfl)
      | (exact RI_s (Scr_13 hS) (by rw [h23]; rfl))
      | exact RI_s hS (by rw [h23]; rfl)


theorem m_steps (hM : MK σ K) (x : Int32) : Wp (d + 5) md_209 0 [some (.ref 287), some (.int x)] [] (mset M σ) (RI M σ (stepsA K x)) := by
  have ok := hM.2.1
  have hσ0 := hM.2.2.2
  obtain ⟨b0, b1, b2, b3, b4, b5, b6, b7, b8, b9, b10, b11, b12⟩ := ok_h ok
  unfold stepsA
  refine Wp.n (pc' := 2) 2 rfl ?_
  refine Wp.mput0 (len := 3) rfl hσ0 ?_
  refine Wp.n (pc' := 7) 2 rfl ?_
  refine Wp.ecallV (len := 3) rfl rfl rfl (rfl) rfl (by decide) rfl (m_isWalkK hM.1 ok _) ?_
  refine Wp.ifb1 (tgt := 16) (len := 3) rfl (fun h10 => ?_) (fun h10 => ?_)
  · skip
    obtain ⟨w, hw, rfl⟩ := isN_of h10
    have t := ok_walk ok hw
    rw [if_pos h10, nI_clamp (by omega)]
    refine Wp.n (pc' := 18) 2 rfl ?_
    refine Wp.callV (len := 3) rfl rfl rfl (rfl) rfl (by decide) rfl (m_goesAs hM hw) ?_
    rintro _ _ ⟨rfl, τ, rfl, hS, hG⟩
    refine Wp.n (pc' := 26) 5 rfl ?_
    refine Wp.ecallV (len := 3) rfl rfl rfl (rfl) rfl (by decide) rfl (m_of τ w 2 (by omega)) ?_
    refine Wp.top (r0_walk (MK_scr hM hS).1 hw (j := 2) (by decide) (by omega)) ?_
    refine Wp.callV (len := 3) rfl rfl rfl (rfl) rfl (by decide) rfl (m_looks (MK_scr hM hS) hG.1.1 (by omega) (by omega) (by omega) (fun i hi => ⟨hG.1.2 i hi, by have := t.2.2.2.2.2.2.1 i hi; omega⟩)) ?_
    rintro _ _ ⟨τ', rfl, rfl, hF', hL'⟩
    refine Wp.retI (len := 1) rfl rfl ?_
    exact RI_s (Scr_t hS (Scr_L hF')) rfl
  · skip
    refine Wp.n (pc' := 15) 1 rfl ?_
    refine Wp.retI (len := 1) rfl rfl ?_
    rw [if_neg (by rw [h10]; decide)]
    exact RI_r rfl

def unlawfulA (K : KD) : Int32 := if 0 < kh K 0 then oI (fnd (fun w => !(lawK K w)) (kh K 4) 0) else -2
theorem m_unlawful_l (hM : MK σ K) : ∀ (n w : Nat) (τ : MS), w + n = kh K 4 → Scr σ τ → Wp (d + 5) md_204 17 [some (.ref 287), some (.int (nI w))] [] (mset M τ) (RI M σ (oI (fnd (fun w => !(lawK K w)) n w))) := by
  have ok := hM.2.1
  intro n
  obtain ⟨b0, b1, b2, b3, b4, b5, b6, b7, b8, b9, b10, b11, b12⟩ := ok_h ok
  induction n with
  | zero =>
    intro w τ hw hS
    refine Wp.n (pc' := 23) 4 rfl ?_
    refine Wp.mialdN (j := 4) (len := 1) rfl rfl rfl (by omega) ?_
    refine Wp.top (r0_has (MK_scr hM hS).1 (by decide)) ?_
    refine Wp.nc3 (x := w) (y := kh K 4) (tgt := 43) (len := 3) rfl (by omega) (by omega) (fun h24 => ?_) (fun h24 => ?_)
    · skip
      refine Wp.n (pc' := 44) 1 rfl ?_
      refine Wp.retI (len := 1) rfl rfl ?_
      exact RI_s hS rfl
    · omega
  | succ n ih =>
    intro w τ hw hS
    have hK := MK_scr hM hS
    unfold fnd
    refine Wp.n (pc' := 23) 4 rfl ?_
    refine Wp.mialdN (j := 4) (len := 1) rfl rfl rfl (by omega) ?_
    refine Wp.top (r0_has hK.1 (by decide)) ?_
    refine Wp.nc3 (x := w) (y := kh K 4) (tgt := 43) (len := 3) rfl (by omega) (by omega) (fun h24 => ?_) (fun h24 => ?_)
    · omega
    · skip
      refine Wp.n (pc' := 29) 2 rfl ?_
      refine Wp.callV (len := 3) rfl rfl rfl (rfl) rfl (by decide) rfl (m_goesAs hK (by omega)) ?_
      rintro _ _ ⟨rfl, τ', rfl, hS', _⟩
      refine Wp.ifb1 (tgt := 37) (len := 3) rfl (fun h32 => ?_) (fun h32 => ?_)
      · skip
        refine Wp.incN (x := w) (len := 3) rfl rfl ?_
        refine Wp.n (pc' := 17) 1 rfl ?_
        rw [if_neg (by rw [h32]; decide)]
        exact ih (w + 1) τ' (by omega) (Scr_t hS hS')
      · skip
        refine Wp.n (pc' := 36) 1 rfl ?_
        refine Wp.retI (len := 1) rfl rfl ?_
        rw [if_pos (by rw [h32]; rfl)]
        exact RI_s (Scr_t hS hS') rfl

theorem m_unlawful (hM : MK σ K) : Wp (d + 5) md_204 0 [some (.ref 287), none] [] (mset M σ) (RI M σ (unlawfulA K)) := by
  have ok := hM.2.1
  have hσ0 := hM.2.2.2
  unfold unlawfulA
  refine Wp.n (pc' := 2) 2 rfl ?_
  refine Wp.mput0 (len := 3) rfl hσ0 ?_
  refine Wp.n (pc' := 6) 1 rfl ?_
  refine Wp.ecallV (len := 3) rfl rfl rfl (rfl) rfl (by decide) rfl (m_isKingdom hM.1 ok) ?_
  refine Wp.ifb1 (tgt := 15) (len := 3) rfl (fun h9 => ?_) (fun h9 => ?_)
  · skip
    refine Wp.n (pc' := 17) 2 rfl ?_
    rw [if_pos (of_decide_eq_true h9)]
    exact m_unlawful_l hM (kh K 4) 0 σ (by omega) Scr_r
  · skip
    refine Wp.n (pc' := 14) 1 rfl ?_
    refine Wp.retI (len := 1) rfl rfl ?_
    rw [if_neg (of_decide_eq_false h9)]
    exact RI_r rfl


def cntW (K : KD) (who y : Int32) (w : Nat) : Bool := (decide (who = -1) || decide (nI (kw K w 0) = who)) && (decide (y = -1) || decide (nI (kw K w 2) = y)) && lawK K w
def sumD (K : KD) (who y : Int32) (s w : Nat) : Nat := bif cntW K who y w then s + dutW K w else s
theorem m_sumOf_l (hM : MK σ K) (who y : Int32) : ∀ (n w s : Nat) (τ : MS), w + n = kh K 4 → Scr σ τ → Wp (d + 5) md_219 5 [some (.ref 287), some (.int who), some (.int y), some (.int (nI s)), some (.int (nI w))] [] (mset M τ) (fun v M' => v = some (.int (nI (fld (sumD K who y) n w s))) ∧ ∃ σ', M' = mset M σ' ∧ Scr σ σ') := by
  have ok := hM.2.1
  intro n
  obtain ⟨b0, b1, b2, b3, b4, b5, b6, b7, b8, b9, b10, b11, b12⟩ := ok_h ok
  induction n with
  | zero =>
    intro w s τ hw hS
    refine Wp.n (pc' := 12) 4 rfl ?_
    refine Wp.mialdN (j := 4) (len := 1) rfl rfl rfl (by omega) ?_
    refine Wp.top (r0_has (MK_scr hM hS).1 (by decide)) ?_
    refine Wp.nc3 (x := w) (y := kh K 4) (tgt := 72) (len := 3) rfl (by omega) (by omega) (fun h13 => ?_) (fun h13 => ?_)
    · skip
      refine Wp.n (pc' := 73) 1 rfl ?_
      refine Wp.retI (len := 1) rfl rfl ?_
      exact ⟨rfl, τ, rfl, hS⟩
    · omega
  | succ n ih =>
    intro w s τ hw hS
    have hK := MK_scr hM hS
    have hw4 : w < kh K 4 := by omega
    have kf : ∀ τ', Scr σ τ' → cntW K who y w = false → Wp (d + 5) md_219 5 [some (.ref 287), some (.int who), some (.int y), some (.int (nI s)), some (.int (nI (w + 1)))] [] (mset M τ') (fun v M' => v = some (.int (nI (fld (sumD K who y) (n + 1) w s))) ∧ ∃ σ', M' = mset M σ' ∧ Scr σ σ') := by
      intro τ' hS' hc
      have e : sumD K who y s w = s := by unfold sumD; rw [hc]; rfl
      show Wp _ _ _ _ _ _ (fun v M' => v = some (.int (nI (fld (sumD K who y) n (w + 1) (sumD K who y s w)))) ∧ _)
      rw [e]
      exact ih (w + 1) s τ' (by omega) hS'
    have kt : ∀ τ', Scr σ τ' → cntW K who y w = true → Wp (d + 5) md_219 5 [some (.ref 287), some (.int who), some (.int y), some (.int (nI (s + dutW K w))), some (.int (nI (w + 1)))] [] (mset M τ') (fun v M' => v = some (.int (nI (fld (sumD K who y) (n + 1) w s))) ∧ ∃ σ', M' = mset M σ' ∧ Scr σ σ') := by
      intro τ' hS' hc
      have e : sumD K who y s w = s + dutW K w := by unfold sumD; rw [hc]; rfl
      show Wp _ _ _ _ _ _ (fun v M' => v = some (.int (nI (fld (sumD K who y) n (w + 1) (sumD K who y s w)))) ∧ _)
      rw [e]
      exact ih (w + 1) (s + dutW K w) τ' (by omega) hS'
    unfold cntW at kf kt
    refine Wp.n (pc' := 12) 4 rfl ?_
    refine Wp.mialdN (j := 4) (len := 1) rfl rfl rfl (by omega) ?_
    refine Wp.top (r0_has hK.1 (by decide)) ?_
    refine Wp.nc3 (x := w) (y := kh K 4) (tgt := 72) (len := 3) rfl (by omega) (by omega) (fun h13 => ?_) (fun h13 => ?_)
    · omega
    · skip
      refine Wp.n (pc' := 18) 2 rfl ?_
      refine Wp.ic0 (tgt := 32) (len := 3) rfl (fun h18 => ?_) (fun h18 => ?_)
      · skip
        refine Wp.n (pc' := 34) 2 rfl ?_
        refine Wp.ic0 (tgt := 48) (len := 3) rfl (fun h34 => ?_) (fun h34 => ?_)
        · skip
          refine Wp.n (pc' := 51) 2 rfl ?_
          refine Wp.callV (len := 3) rfl rfl rfl (rfl) rfl (by decide) rfl (m_goesAs hK hw4) ?_
          rintro _ _ ⟨rfl, τ', rfl, hS', hG⟩
          refine Wp.ifb0 (tgt := 66) (len := 3) rfl (fun h54 => ?_) (fun h54 => ?_)
          · skip
            refine Wp.incN (x := w) (len := 3) rfl rfl ?_
            refine Wp.n (pc' := 5) 1 rfl ?_
            first
              | exact kt _ (Scr_13 (Scr_t hS hS')) (by simp [*])
              | exact kf _ (Scr_t hS hS') (by simp [*])
              | exact kf _ hS (by simp [*])
          · skip
            refine Wp.n (pc' := 61) 3 rfl ?_
            refine Wp.callV (len := 3) rfl rfl rfl (rfl) rfl (by decide) rfl (m_dutyOf1 (MK_scr hK hS') hw4 rfl hG.1 (TRr_b ok hw4).1 hG.2) ?_
            rintro _ _ ⟨rfl, h', rfl⟩
            refine Wp.iaddN (x := s) (y := dutW K w) (len := 1) rfl ?_
            refine Wp.n (pc' := 66) 1 rfl ?_
            refine Wp.incN (x := w) (len := 3) rfl rfl ?_
            refine Wp.n (pc' := 5) 1 rfl ?_
            first
              | exact kt _ (Scr_13 (Scr_t hS hS')) (by simp [*])
              | exact kf _ (Scr_t hS hS') (by simp [*])
              | exact kf _ hS (by simp [*])
        · skip
          refine Wp.n (pc' := 41) 3 rfl ?_
          refine Wp.ecallV (len := 3) rfl rfl rfl (rfl) rfl (by decide) rfl (m_of τ w 2 (by omega)) ?_
          refine Wp.top (r0_walk hK.1 hw4 (j := 2) (by decide) (by omega)) ?_
          refine Wp.n (pc' := 45) 1 rfl ?_
          refine Wp.ic1 (tgt := 66) (len := 3) rfl (fun h45 => ?_) (fun h45 => ?_)
          · skip
            refine Wp.incN (x := w) (len := 3) rfl rfl ?_
            refine Wp.n (pc' := 5) 1 rfl ?_
            first
              | exact kt _ (Scr_13 (Scr_t hS hS')) (by simp [*])
              | exact kf _ (Scr_t hS hS') (by simp [*])
              | exact kf _ hS (by simp [*])
          · skip
            refine Wp.n (pc' := 51) 2 rfl ?_
            refine Wp.callV (len := 3) rfl rfl rfl (rfl) rfl (by decide) rfl (m_goesAs hK hw4) ?_
            rintro _ _ ⟨rfl, τ', rfl, hS', hG⟩
            refine Wp.ifb0 (tgt := 66) (len := 3) rfl (fun h54 => ?_) (fun h54 => ?_)
            · skip
              refine Wp.incN (x := w) (len := 3) rfl rfl ?_
              refine Wp.n (pc' := 5) 1 rfl ?_
              first
                | exact kt _ (Scr_13 (Scr_t hS hS')) (by simp [*])
                | exact kf _ (Scr_t hS hS') (by simp [*])
                | exact kf _ hS (by simp [*])
            · skip
              refine Wp.n (pc' := 61) 3 rfl ?_
              refine Wp.callV (len := 3) rfl rfl rfl (rfl) rfl (by decide) rfl (m_dutyOf1 (MK_scr hK hS') hw4 rfl hG.1 (TRr_b ok hw4).1 hG.2) ?_
              rintro _ _ ⟨rfl, h', rfl⟩
              refine Wp.iaddN (x := s) (y := dutW K w) (len := 1) rfl ?_
              refine Wp.n (pc' := 66) 1 rfl ?_
              refine Wp.incN (x := w) (len := 3) rfl rfl ?_
              refine Wp.n (pc' := 5) 1 rfl ?_
              first
                | exact kt _ (Scr_13 (Scr_t hS hS')) (by simp [*])
                | exact kf _ (Scr_t hS hS') (by simp [*])
                | exact kf _ hS (by simp [*])
      · skip
        refine Wp.n (pc' := 25) 3 rfl ?_
        refine Wp.ecallV (len := 3) rfl rfl rfl (rfl) rfl (by decide) rfl (m_of τ w 0 (by omega)) ?_
        refine Wp.top (r0_walk hK.1 hw4 (j := 0) (by decide) (by omega)) ?_
        refine Wp.n (pc' := 29) 1 rfl ?_
        refine Wp.ic1 (tgt := 66) (len := 3) rfl (fun h29 => ?_) (fun h29 => ?_)
        · skip
          refine Wp.incN (x := w) (len := 3) rfl rfl ?_
          refine Wp.n (pc' := 5) 1 rfl ?_
          first
            | exact kt _ (Scr_13 (Scr_t hS hS')) (by simp [*])
            | exact kf _ (Scr_t hS hS') (by simp [*])
            | exact kf _ hS (by simp [*])
        · skip
          refine Wp.n (pc' := 34) 2 rfl ?_
          refine Wp.ic0 (tgt := 48) (len := 3) rfl (fun h34 => ?_) (fun h34 => ?_)
          · skip
            refine Wp.n (pc' := 51) 2 rfl ?_
            refine Wp.callV (len := 3) rfl rfl rfl (rfl) rfl (by decide) rfl (m_goesAs hK hw4) ?_
            rintro _ _ ⟨rfl, τ', rfl, hS', hG⟩
            refine Wp.ifb0 (tgt := 66) (len := 3) rfl (fun h54 => ?_) (fun h54 => ?_)
            · skip
              refine Wp.incN (x := w) (len := 3) rfl rfl ?_
              refine Wp.n (pc' := 5) 1 rfl ?_
              first
                | exact kt _ (Scr_13 (Scr_t hS hS')) (by simp [*])
                | exact kf _ (Scr_t hS hS') (by simp [*])
                | exact kf _ hS (by simp [*])
            · skip
              refine Wp.n (pc' := 61) 3 rfl ?_
              refine Wp.callV (len := 3) rfl rfl rfl (rfl) rfl (by decide) rfl (m_dutyOf1 (MK_scr hK hS') hw4 rfl hG.1 (TRr_b ok hw4).1 hG.2) ?_
              rintro _ _ ⟨rfl, h', rfl⟩
              refine Wp.iaddN (x := s) (y := dutW K w) (len := 1) rfl ?_
              refine Wp.n (pc' := 66) 1 rfl ?_
              refine Wp.incN (x := w) (len := 3) rfl rfl ?_
              refine Wp.n (pc' := 5) 1 rfl ?_
              first
                | exact kt _ (Scr_13 (Scr_t hS hS')) (by simp [*])
                | exact kf _ (Scr_t hS hS') (by simp [*])
                | exact kf _ hS (by simp [*])
          · skip
            refine Wp.n (pc' := 41) 3 rfl ?_
            refine Wp.ecallV (len := 3) rfl rfl rfl (rfl) rfl (by decide) rfl (m_of τ w 2 (by omega)) ?_
            refine Wp.top (r0_walk hK.1 hw4 (j := 2) (by decide) (by omega)) ?_
            refine Wp.n (pc' := 45) 1 rfl ?_
            refine Wp.ic1 (tgt := 66) (len := 3) rfl (fun h45 => ?_) (fun h45 => ?_)
            · skip
              refine Wp.incN (x := w) (len := 3) rfl rfl ?_
              refine Wp.n (pc' := 5) 1 rfl ?_
              first
                | exact kt _ (Scr_13 (Scr_t hS hS')) (by simp [*])
                | exact kf _ (Scr_t hS hS') (by simp [*])
                | exact kf _ hS (by simp [*])
            · skip
              refine Wp.n (pc' := 51) 2 rfl ?_
              refine Wp.callV (len := 3) rfl rfl rfl (rfl) rfl (by decide) rfl (m_goesAs hK hw4) ?_
              rintro _ _ ⟨rfl, τ', rfl, hS', hG⟩
              refine Wp.ifb0 (tgt := 66) (len := 3) rfl (fun h54 => ?_) (fun h54 => ?_)
              · skip
                refine Wp.incN (x := w) (len := 3) rfl rfl ?_
                refine Wp.n (pc' := 5) 1 rfl ?_
                first
                  | exact kt _ (Scr_13 (Scr_t hS hS')) (by simp [*])
                  | exact kf _ (Scr_t hS hS') (by simp [*])
                  | exact kf _ hS (by simp [*])
              · skip
                refine Wp.n (pc' := 61) 3 rfl ?_
                refine Wp.callV (len := 3) rfl rfl rfl (rfl) rfl (by decide) rfl (m_dutyOf1 (MK_scr hK hS') hw4 rfl hG.1 (TRr_b ok hw4).1 hG.2) ?_
                rintro _ _ ⟨rfl, h', rfl⟩
                refine Wp.iaddN (x := s) (y := dutW K w) (len := 1) rfl ?_
                refine Wp.n (pc' := 66) 1 rfl ?_
                refine Wp.incN (x := w) (len := 3) rfl rfl ?_
                refine Wp.n (pc' := 5) 1 rfl ?_
                first
                  | exact kt _ (Scr_13 (Scr_t hS hS')) (by simp [*])
                  | exact kf _ (Scr_t hS hS') (by simp [*])
                  | exact kf _ hS (by simp [*])

theorem m_sumOf (hM : MK σ K) (who y : Int32) : Wp (d + 5) md_219 0 [some (.ref 287), some (.int who), some (.int y), none, none] [] (mset M σ) (fun v M' => v = some (.int (nI (fld (sumD K who y) (kh K 4) 0 0))) ∧ ∃ σ', M' = mset M σ' ∧ Scr σ σ') := by
  refine Wp.n (pc' := 5) 4 rfl ?_
  exact m_sumOf_l hM who y (kh K 4) 0 0 σ (by omega) Scr_r
def owesA (K : KD) (x : Int32) : Int32 := if 0 < kh K 0 ∧ isN 5 x = true then nI (fld (sumD K x (-1)) (kh K 4) 0 0) else -2
def takingsA (K : KD) (x : Int32) : Int32 := if 0 < kh K 0 ∧ (x = -1 ∨ isN (kh K 1) x = true) then nI (fld (sumD K (-1) x) (kh K 4) 0 0) else -2
theorem m_owes (hM : MK σ K) (x : Int32) : Wp (d + 6) md_218 0 [some (.ref 287), some (.int x)] [] (mset M σ) (RI M σ (owesA K x)) := by
  have ok := hM.2.1
  have hσ0 := hM.2.2.2
  have e5 : decide ((0 : Int64).toInt ≤ x.toInt64.toInt ∧ x.toInt64.toInt ≤ (4 : Int64).toInt) = isN 5 x := by
    unfold isN
    rw [il_toInt, show (0 : Int64).toInt = 0 from rfl, show (4 : Int64).toInt = 4 from rfl]
    by_cases c : 0 ≤ x.toInt ∧ x.toInt < ((5 : Nat) : Int)
    · rw [decide_eq_true c, decide_eq_true (by omega)]
    · rw [decide_eq_false c, decide_eq_false (by omega)]
  unfold owesA
  refine Wp.n (pc' := 2) 2 rfl ?_
  refine Wp.mput0 (len := 3) rfl hσ0 ?_
  refine Wp.n (pc' := 6) 1 rfl ?_
  refine Wp.ecallV (len := 3) rfl rfl rfl (rfl) rfl (by decide) rfl (m_isKingdom hM.1 ok) ?_
  refine Wp.ifb0 (tgt := 33) (len := 3) rfl (fun h9 => ?_) (fun h9 => ?_)
  · skip
    refine Wp.n (pc' := 35) 1 rfl ?_
    refine Wp.retI (len := 1) rfl rfl ?_
    first
      | (rw [if_pos ⟨of_decide_eq_true h9, h21⟩]; exact RI_s hS rfl)
      | (rw [if_neg (fun q => by rw [h21] at q; exact absurd q.2 (by decide))]; exact RI_r rfl)
      | (rw [if_neg (fun q => of_decide_eq_false h9 q.1)]; exact RI_r rfl)
  · skip
    refine Wp.n (pc' := 18) 4 rfl ?_
    refine Wp.ecallS (len := 3) rfl rfl rfl rfl (m_in _ _ _) ?_
    refine Wp.ifb0 (tgt := 33) (len := 3) rfl (fun h21 => ?_) (fun h21 => ?_)
    · rw [e5] at h21
      refine Wp.n (pc' := 35) 1 rfl ?_
      refine Wp.retI (len := 1) rfl rfl ?_
      first
        | (rw [if_pos ⟨of_decide_eq_true h9, h21⟩]; exact RI_s hS rfl)
        | (rw [if_neg (fun q => by rw [h21] at q; exact absurd q.2 (by decide))]; exact RI_r rfl)
        | (rw [if_neg (fun q => of_decide_eq_false h9 q.1)]; exact RI_r rfl)
    · rw [e5] at h21
      refine Wp.n (pc' := 27) 3 rfl ?_
      refine Wp.callV (len := 3) rfl rfl rfl (rfl) rfl (by decide) rfl (m_sumOf hM _ _) ?_
      rintro _ _ ⟨rfl, τ, rfl, hS⟩
      refine Wp.n (pc' := 35) 1 rfl ?_
      refine Wp.retI (len := 1) rfl rfl ?_
      first
        | (rw [if_pos ⟨of_decide_eq_true h9, h21⟩]; exact RI_s hS rfl)
        | (rw [if_neg (fun q => by rw [h21] at q; exact absurd q.2 (by decide))]; exact RI_r rfl)
        | (rw [if_neg (fun q => of_decide_eq_false h9 q.1)]; exact RI_r rfl)

theorem m_takings (hM : MK σ K) (x : Int32) : Wp (d + 6) md_220 0 [some (.ref 287), some (.int x)] [] (mset M σ) (RI M σ (takingsA K x)) := by
  have ok := hM.2.1
  have hσ0 := hM.2.2.2
  unfold takingsA
  refine Wp.n (pc' := 2) 2 rfl ?_
  refine Wp.mput0 (len := 3) rfl hσ0 ?_
  refine Wp.n (pc' := 6) 1 rfl ?_
  refine Wp.ecallV (len := 3) rfl rfl rfl (rfl) rfl (by decide) rfl (m_isKingdom hM.1 ok) ?_
  refine Wp.ifb0 (tgt := 34) (len := 3) rfl (fun h9 => ?_) (fun h9 => ?_)
  · skip
    refine Wp.n (pc' := 36) 1 rfl ?_
    refine Wp.retI (len := 1) rfl rfl ?_
    first
      | (rw [if_pos ⟨of_decide_eq_true h9, hcond⟩]; exact RI_s hS rfl)
      | (rw [if_neg (fun q => of_decide_eq_false h9 q.1)]; exact RI_r rfl)
      | (rw [if_neg (fun q => by rcases q.2 with p | p; exact h14 p; rw [h22] at p; exact absurd p (by decide))]; exact RI_r rfl)
  · skip
    refine Wp.n (pc' := 14) 2 rfl ?_
    refine Wp.ic0 (tgt := 25) (len := 3) rfl (fun h14 => ?_) (fun h14 => ?_)
    · have hcond : x = -1 ∨ isN (kh K 1) x = true := Or.inl h14
      refine Wp.n (pc' := 28) 3 rfl ?_
      refine Wp.callV (len := 3) rfl rfl rfl (rfl) rfl (by decide) rfl (m_sumOf hM _ _) ?_
      rintro _ _ ⟨rfl, τ, rfl, hS⟩
      refine Wp.n (pc' := 36) 1 rfl ?_
      refine Wp.retI (len := 1) rfl rfl ?_
      first
        | (rw [if_pos ⟨of_decide_eq_true h9, hcond⟩]; exact RI_s hS rfl)
        | (rw [if_neg (fun q => of_decide_eq_false h9 q.1)]; exact RI_r rfl)
        | (rw [if_neg (fun q => by rcases q.2 with p | p; exact h14 p; rw [h22] at p; exact absurd p (by decide))]; exact RI_r rfl)
    · skip
      refine Wp.n (pc' := 19) 2 rfl ?_
      refine Wp.ecallV (len := 3) rfl rfl rfl (rfl) rfl (by decide) rfl (m_isDayK hM.1 ok _) ?_
      refine Wp.ifb0 (tgt := 34) (len := 3) rfl (fun h22 => ?_) (fun h22 => ?_)
      · skip
        refine Wp.n (pc' := 36) 1 rfl ?_
        refine Wp.retI (len := 1) rfl rfl ?_
        first
          | (rw [if_pos ⟨of_decide_eq_true h9, hcond⟩]; exact RI_s hS rfl)
          | (rw [if_neg (fun q => of_decide_eq_false h9 q.1)]; exact RI_r rfl)
          | (rw [if_neg (fun q => by rcases q.2 with p | p; exact h14 p; rw [h22] at p; exact absurd p (by decide))]; exact RI_r rfl)
      · have hcond : x = -1 ∨ isN (kh K 1) x = true := Or.inr h22
        refine Wp.n (pc' := 28) 3 rfl ?_
        refine Wp.callV (len := 3) rfl rfl rfl (rfl) rfl (by decide) rfl (m_sumOf hM _ _) ?_
        rintro _ _ ⟨rfl, τ, rfl, hS⟩
        refine Wp.n (pc' := 36) 1 rfl ?_
        refine Wp.retI (len := 1) rfl rfl ?_
        first
          | (rw [if_pos ⟨of_decide_eq_true h9, hcond⟩]; exact RI_s hS rfl)
          | (rw [if_neg (fun q => of_decide_eq_false h9 q.1)]; exact RI_r rfl)
          | (rw [if_neg (fun q => by rcases q.2 with p | p; exact h14 p; rw [h22] at p; exact absurd p (by decide))]; exact RI_r rfl)

end WALKS
end
section
/-! RULES FOR LONGS that are naturals. -/
theorem l_div {a b : Nat} (ha : a < 2 ^ 63) (hb : b < 2 ^ 63) (h0 : 0 < b) : lN a / lN b = lN (a / b) := pk_lDiv ha h0 hb
theorem l_rem {a b : Nat} (ha : a < 2 ^ 63) (hb : b < 2 ^ 63) (h0 : 0 < b) : lN a - lN a / lN b * lN b = lN (a % b) := pk_lRem ha h0 hb
section LR
variable {d : Nat} {X : MD} {pc len : Nat} {l : AL} {st : List Value} {M : AM} {Q : Option Value → AM → Prop} {a b : Nat} {v : Value}
theorem Wp.laddM {x y : Nat} (hc : cdx X pc = some (.inr (.inl .ladd), len)) (k : Wp d X (pc + len) l (.long (lN (x + y)) :: st) M Q) : Wp d X pc l (.long (lN y) :: .long (lN x) :: st) M Q := by
  refine Wp.s (pc' := pc + len) (l' := l) (st' := .long (lN x + lN y) :: st) (M' := M) ?_ (Wp.topL (lN_add x y) k)
  unfold sstep
  rw [hc]
  rfl
theorem Wp.lmulM {x y : Nat} (hc : cdx X pc = some (.inr (.inl .lmul), len)) (k : Wp d X (pc + len) l (.long (lN (x * y)) :: st) M Q) : Wp d X pc l (.long (lN y) :: .long (lN x) :: st) M Q := by
  refine Wp.s (pc' := pc + len) (l' := l) (st' := .long (lN x * lN y) :: st) (M' := M) ?_ (Wp.topL (lN_mul x y) k)
  unfold sstep
  rw [hc]
  rfl
theorem Wp.lsubM {x y : Nat} (hc : cdx X pc = some (.inr (.inl .lsub), len)) (h : y ≤ x) (k : Wp d X (pc + len) l (.long (lN (x - y)) :: st) M Q) : Wp d X pc l (.long (lN y) :: .long (lN x) :: st) M Q := by
  refine Wp.s (pc' := pc + len) (l' := l) (st' := .long (lN x - lN y) :: st) (M' := M) ?_ (Wp.topL (lN_sub h) k)
  unfold sstep
  rw [hc]
  rfl
theorem l_ne0 {y : Nat} (h : 0 < y) (h2 : y < 2 ^ 63) : (lN y == 0) = false := by
  rw [beq_eq_false_iff_ne]
  intro q
  have := (l_inj (b := 0) h2 (by decide)).mp q
  omega
theorem Wp.ldivM {x y : Nat} (hc : cdx X pc = some (.inr (.inl .ldiv), len)) (hx : x < 2 ^ 63) (hy : y < 2 ^ 63) (h0 : 0 < y) (k : Wp d X (pc + len) l (.long (lN (x / y)) :: st) M Q) : Wp d X pc l (.long (lN y) :: .long (lN x) :: st) M Q := by
  refine Wp.s (pc' := pc + len) (l' := l) (st' := .long (lN x / lN y) :: st) (M' := M) ?_ (Wp.topL (l_div hx hy h0) k)
  unfold sstep
  rw [hc]
  simp only [pstep, l_ne0 h0 hy, cond_false]
theorem Wp.lremM {x y : Nat} (hc : cdx X pc = some (.inr (.inl .lrem), len)) (hx : x < 2 ^ 63) (hy : y < 2 ^ 63) (h0 : 0 < y) (k : Wp d X (pc + len) l (.long (lN (x % y)) :: st) M Q) : Wp d X pc l (.long (lN y) :: .long (lN x) :: st) M Q := by
  refine Wp.s (pc' := pc + len) (l' := l) (st' := .long (lN x - lN x / lN y * lN y) :: st) (M' := M) ?_ (Wp.topL (l_rem hx hy h0) k)
  unfold sstep
  rw [hc]
  simp only [pstep, l_ne0 h0 hy, cond_false]
theorem Wp.i2lM {x : Nat} (hc : cdx X pc = some (.inr (.inl .i2l), len)) (hx : x < 2 ^ 31) (k : Wp d X (pc + len) l (.long (lN x) :: st) M Q) : Wp d X pc l (.int (nI x) :: st) M Q := by
  refine Wp.s (pc' := pc + len) (l' := l) (st' := .long (nI x).toInt64 :: st) (M' := M) ?_ (Wp.topL (nI_l hx) k)
  unfold sstep
  rw [hc]
  rfl
theorem Wp.l2iM {x : Nat} (hc : cdx X pc = some (.inr (.inl .l2i), len)) (k : Wp d X (pc + len) l (.int (nI x) :: st) M Q) : Wp d X pc l (.long (lN x) :: st) M Q := by
  refine Wp.s (pc' := pc + len) (l' := l) (st' := .int (lN x).toInt32 :: st) (M' := M) ?_ (Wp.top (lN_i x) k)
  unfold sstep
  rw [hc]
  rfl
theorem Wp.cz0 {x y tgt : Nat} (hc : cdx X pc = some (.inr (.inr (20, tgt, b, v)), len)) (hx : x < 2 ^ 63) (hy : y < 2 ^ 63) (kt : x = y → Wp d X tgt l st M Q) (kf : x ≠ y → Wp d X (pc + len) l st M Q) : Wp d X pc l (.int (lg_cmp (lN x) (lN y)) :: st) M Q := Wp.if0 hc (fun h => kt ((l_inj hx hy).mp ((cmp_eq _ _).mp h))) (fun h => kf (fun q => h ((cmp_eq _ _).mpr (by rw [q]))))
theorem Wp.cz1 {x y tgt : Nat} (hc : cdx X pc = some (.inr (.inr (21, tgt, b, v)), len)) (hx : x < 2 ^ 63) (hy : y < 2 ^ 63) (kt : x ≠ y → Wp d X tgt l st M Q) (kf : x = y → Wp d X (pc + len) l st M Q) : Wp d X pc l (.int (lg_cmp (lN x) (lN y)) :: st) M Q := Wp.if1 hc (fun h => kt (fun q => h ((cmp_eq _ _).mpr (by rw [q])))) (fun h => kf ((l_inj hx hy).mp ((cmp_eq _ _).mp h)))
theorem cmp_ltM {x y : Nat} (hx : x < 2 ^ 63) (hy : y < 2 ^ 63) : lg_cmp (lN x) (lN y) < 0 ↔ x < y := by
  rw [cmp_lt, l_toInt hx, l_toInt hy]
  omega
theorem cmp_gtM {x y : Nat} (hx : x < 2 ^ 63) (hy : y < 2 ^ 63) : 0 < lg_cmp (lN x) (lN y) ↔ y < x := by
  rw [cmp_gt, l_toInt hx, l_toInt hy]
  omega
theorem Wp.cz2 {x y tgt : Nat} (hc : cdx X pc = some (.inr (.inr (22, tgt, b, v)), len)) (hx : x < 2 ^ 63) (hy : y < 2 ^ 63) (kt : x < y → Wp d X tgt l st M Q) (kf : y ≤ x → Wp d X (pc + len) l st M Q) : Wp d X pc l (.int (lg_cmp (lN x) (lN y)) :: st) M Q := Wp.if2 hc (fun h => kt ((cmp_ltM hx hy).mp h)) (fun h => kf (Nat.not_lt.mp (fun q => h ((cmp_ltM hx hy).mpr q))))
theorem Wp.cz3 {x y tgt : Nat} (hc : cdx X pc = some (.inr (.inr (23, tgt, b, v)), len)) (hx : x < 2 ^ 63) (hy : y < 2 ^ 63) (kt : y ≤ x → Wp d X tgt l st M Q) (kf : x < y → Wp d X (pc + len) l st M Q) : Wp d X pc l (.int (lg_cmp (lN x) (lN y)) :: st) M Q := by
  refine Wp.if3 hc (fun h => kt (Nat.not_lt.mp (fun q => ?_))) (fun h => kf ((cmp_ltM hx hy).mp ?_))
  · have h1 := (cmp_ltM hx hy).mpr q
    rw [i_le] at h
    rw [i_lt] at h1
    omega
  · rw [i_le] at h
    rw [i_lt]
    omega
theorem Wp.cz4 {x y tgt : Nat} (hc : cdx X pc = some (.inr (.inr (24, tgt, b, v)), len)) (hx : x < 2 ^ 63) (hy : y < 2 ^ 63) (kt : y < x → Wp d X tgt l st M Q) (kf : x ≤ y → Wp d X (pc + len) l st M Q) : Wp d X pc l (.int (lg_cmp (lN x) (lN y)) :: st) M Q := Wp.if4 hc (fun h => kt ((cmp_gtM hx hy).mp h)) (fun h => kf (Nat.not_lt.mp (fun q => h ((cmp_gtM hx hy).mpr q))))
theorem Wp.cz5 {x y tgt : Nat} (hc : cdx X pc = some (.inr (.inr (25, tgt, b, v)), len)) (hx : x < 2 ^ 63) (hy : y < 2 ^ 63) (kt : x ≤ y → Wp d X tgt l st M Q) (kf : y < x → Wp d X (pc + len) l st M Q) : Wp d X pc l (.int (lg_cmp (lN x) (lN y)) :: st) M Q := by
  refine Wp.if5 hc (fun h => kt (Nat.not_lt.mp (fun q => ?_))) (fun h => kf ((cmp_gtM hx hy).mp ?_))
  · have h1 := (cmp_gtM hx hy).mpr q
    rw [i_le] at h
    rw [i_lt] at h1
    omega
  · rw [i_le] at h
    rw [i_lt]
    omega
end LR
end
section
/-! CHANCE, HOPE, AND WHO IS SEEN: the reference. -/
def npr (ws : List Nat) : Nat → Nat
  | 0 => 1
  | i + 1 => npr ws i * (100 - ws.getD i 0)
theorem npr_le (ws : List Nat) : ∀ i, npr ws i ≤ 100 ^ i
  | 0 => Nat.le_refl _
  | i + 1 => by
    unfold npr
    rw [Nat.pow_succ]
    exact Nat.mul_le_mul (npr_le ws i) (Nat.sub_le _ _)
def tellK (ws : List Nat) (m what : Nat) : Nat := (if what = 0 then (100 ^ ws.length - npr ws ws.length) * m else 100 ^ ws.length) / Nat.gcd ((100 ^ ws.length - npr ws ws.length) * m) (100 ^ ws.length)
def lcg (x : Nat) : Nat := (1103515245 * x + 12345) % 2147483648
def seenL (ws : List Nat) : Nat → Nat → Nat → Bool → Bool
  | 0, _, _, b => b
  | n + 1, i, x, b => seenL ws n (i + 1) (lcg x) (decide (lcg x / 65536 % 100 < ws.getD i 0) || b)
def seenK (ws : List Nat) (x : Nat) : Bool := seenL ws ws.length 0 x false
def WS (σ : MS) (ws : List Nat) : Prop := σ.1 32 = nI ws.length ∧ (∀ i, i < ws.length → σ.2.2.1 15 i = nI (ws.getD i 0))
/-- a row of watches: at most six, none above a hundred -/
def WB (ws : List Nat) : Prop := ws.length ≤ 6 ∧ ∀ i, ws.getD i 0 ≤ 100
theorem wat_b {K : KD} (ok : KOK K) {ls : List Nat} (h6 : ls.length ≤ 6) (hls : ∀ l, l ∈ ls → LV K l) : WB (wat K ls) := by
  refine ⟨Nat.le_trans (wat_len ls) h6, fun i => ?_⟩
  rw [List.getD_eq_getElem?_getD]
  cases e : (wat K ls)[i]? with
  | none => exact Nat.zero_le _
  | some x =>
    have hx : x ∈ wat K ls := List.mem_of_getElem? e
    unfold wat at hx
    rw [List.mem_map] at hx
    obtain ⟨l, hl, rfl⟩ := hx
    have hl2 := (List.mem_filter.mp hl).1
    have := ok_lane ok (hls l hl2)
    show kl K l 6 ≤ 100
    omega
theorem pow6 {i : Nat} (h : i ≤ 6) : 100 ^ i ≤ 1000000000000 ∧ 1 ≤ 100 ^ i := by
  have h1 : 100 ^ i ≤ 100 ^ 6 := Nat.pow_le_pow_right (by decide) h
  have h2 : 100 ^ 0 ≤ 100 ^ i := Nat.pow_le_pow_right (by decide) (Nat.zero_le i)
  omega
section CHANCE
variable {d : Nat} {M : AM} {σ σ' : MS} {K : KD} {Q : Option Value → AM → Prop}
theorem m_common_l {a b : Nat} : ∀ (v u : Nat) (z8 z9 : Option Value), u < 2 ^ 63 → v < 2 ^ 63 → Wp d md_223 6 [some (.long (lN a)), none, some (.long (lN b)), none, some (.long (lN u)), none, some (.long (lN v)), none, z8, z9] [] M (IsR (some (.long (lN (Nat.gcd u v)))) M) := by
  intro v
  induction v using Nat.strongRecOn with
  | _ v ih =>
    intro u z8 z9 hu hv
    refine Wp.n (pc' := 10) 3 rfl ?_
    refine Wp.cz0 (x := v) (y := 0) (tgt := 31) (len := 3) rfl (by omega) (by omega) (fun h10 => ?_) (fun h10 => ?_)
    · subst h10
      refine Wp.n (pc' := 33) 1 rfl ?_
      refine Wp.retL (len := 1) rfl rfl ?_
      rw [Nat.gcd_zero_right]
      exact ⟨rfl, rfl⟩
    · skip
      refine Wp.n (pc' := 17) 2 rfl ?_
      refine Wp.lremM (x := u) (y := v) (len := 1) rfl (by omega) (by omega) (by omega) ?_
      refine Wp.n (pc' := 6) 6 rfl ?_
      have w := ih (u % v) (Nat.mod_lt _ (by omega)) v (some (.long (lN (u % v)))) none hv (by have := Nat.mod_lt u (show 0 < v by omega); omega)
      rw [Nat.gcd_comm v (u % v), ← Nat.gcd_rec v u, Nat.gcd_comm v u] at w
      exact w

theorem m_common {a b : Nat} (ha : a < 2 ^ 63) (hb : b < 2 ^ 63) : Ev d md_223 0 [some (.long (lN a)), none, some (.long (lN b)), none, none, none, none, none, none, none] [] M (some (.long (lN (Nat.gcd a b))), M) := by
  refine Wp.toEv ?_
  refine Wp.n (pc' := 6) 4 rfl ?_
  exact m_common_l b a _ _ ha hb
theorem m_told_l {ws : List Nat} (hW : WS σ ws) (hB : WB ws) {m what : Nat} : ∀ (n i : Nat) (z9 : Option Value), i + n = ws.length → (∀ z8 z9, Wp d md_222 49 [some (.ref 287), some (.long (lN m)), none, some (.int (nI what)), some (.long (lN (100 ^ ws.length))), none, some (.long (lN (npr ws ws.length))), none, z8, z9] [] (mset M σ) Q) → Wp d md_222 9 [some (.ref 287), some (.long (lN m)), none, some (.int (nI what)), some (.long (lN (100 ^ i))), none, some (.long (lN (npr ws i))), none, some (.int (nI i)), z9] [] (mset M σ) Q := by
  intro n
  obtain ⟨hB1, hB2⟩ := hB
  induction n with
  | zero =>
    intro i z9 hi k
    refine Wp.n (pc' := 15) 3 rfl ?_
    refine Wp.top hW.1 ?_
    refine Wp.nc3 (x := i) (y := ws.length) (tgt := 49) (len := 3) rfl (by omega) (by omega) (fun h15 => ?_) (fun h15 => ?_)
    · skip
      rw [show i = ws.length by omega]
      exact k _ _
    · omega
  | succ n ih =>
    intro i z9 hi k
    have g := hB2 i
    refine Wp.n (pc' := 15) 3 rfl ?_
    refine Wp.top hW.1 ?_
    refine Wp.nc3 (x := i) (y := ws.length) (tgt := 49) (len := 3) rfl (by omega) (by omega) (fun h15 => ?_) (fun h15 => ?_)
    · omega
    · skip
      refine Wp.n (pc' := 23) 2 rfl ?_
      refine Wp.lmulM (x := 100 ^ i) (y := 100) (len := 1) rfl ?_
      refine Wp.n (pc' := 37) 6 rfl ?_
      refine Wp.mialdN (j := i) (len := 1) rfl rfl rfl (by omega) ?_
      refine Wp.top (hW.2 i (by omega)) ?_
      refine Wp.i2lM (x := ws.getD i 0) (len := 1) rfl (by omega) ?_
      refine Wp.lsubM (x := 100) (y := ws.getD i 0) (len := 1) rfl (by omega) ?_
      refine Wp.lmulM (x := npr ws i) (y := 100 - (ws.getD i 0)) (len := 1) rfl ?_
      refine Wp.n (pc' := 43) 1 rfl ?_
      refine Wp.incN (x := i) (len := 3) rfl rfl ?_
      refine Wp.n (pc' := 9) 1 rfl ?_
      have w := ih (i + 1) z9 (by omega) k
      rw [Nat.pow_succ] at w
      exact w

theorem m_told {ws : List Nat} (hW : WS σ ws) (hB : WB ws) {m what : Nat} (hm : m ≤ 689634) (hwh : what ≤ 1) : Ev (d + 1) md_222 0 [some (.ref 287), some (.long (lN m)), none, some (.int (nI what)), none, none, none, none, none, none] [] (mset M σ) (some (.long (lN (tellK ws m what))), mset M σ) := by
  refine Wp.toEv ?_
  refine Wp.n (pc' := 9) 6 rfl ?_
  refine m_told_l hW hB ws.length 0 none (by omega) (fun z8 z9 => ?_)
  have p := pow6 hB.1
  have q := npr_le ws ws.length
  unfold tellK
  generalize hA : 100 ^ ws.length = A at p q ⊢
  generalize npr ws ws.length = B at q ⊢
  have hx : (A - B) * m ≤ 1000000000000 * 689634 := Nat.mul_le_mul (by omega) hm
  have hg : 0 < Nat.gcd ((A - B) * m) A := Nat.gcd_pos_of_pos_right _ (by omega)
  have hg2 : Nat.gcd ((A - B) * m) A ≤ A := Nat.gcd_le_right _ (by omega)
  refine Wp.n (pc' := 53) 2 rfl ?_
  refine Wp.lsubM (x := A) (y := B) (len := 1) rfl (by omega) ?_
  refine Wp.n (pc' := 55) 1 rfl ?_
  refine Wp.lmulM (x := A - B) (y := m) (len := 1) rfl ?_
  refine Wp.n (pc' := 59) 2 rfl ?_
  refine Wp.nz1 (x := what) (tgt := 67) (len := 3) rfl (by omega) (fun h59 => ?_) (fun h59 => ?_)
  · skip
    refine Wp.n (pc' := 73) 3 rfl ?_
    refine Wp.ecallS (len := 3) rfl rfl rfl rfl (m_common (by omega) (by omega)) ?_
    refine Wp.ldivM (x := A) (y := Nat.gcd ((A - B) * m) A) (len := 1) rfl (by omega) (by omega) (by omega) ?_
    refine Wp.retL (len := 1) rfl rfl ?_
    first | (rw [if_pos (by omega)]; exact ⟨rfl, rfl⟩) | (rw [if_neg (by omega)]; exact ⟨rfl, rfl⟩)
  · skip
    refine Wp.n (pc' := 73) 4 rfl ?_
    refine Wp.ecallS (len := 3) rfl rfl rfl rfl (m_common (by omega) (by omega)) ?_
    refine Wp.ldivM (x := (A - B) * m) (y := Nat.gcd ((A - B) * m) A) (len := 1) rfl (by omega) (by omega) (by omega) ?_
    refine Wp.retL (len := 1) rfl rfl ?_
    first | (rw [if_pos (by omega)]; exact ⟨rfl, rfl⟩) | (rw [if_neg (by omega)]; exact ⟨rfl, rfl⟩)

theorem lcg_lt (x : Nat) : lcg x < 2147483648 := Nat.mod_lt _ (by decide)
theorem m_seen_l {ws : List Nat} (hW : WS σ ws) (hB : WB ws) {x0 : Nat} : ∀ (n i x : Nat) (b : Bool), i + n = ws.length → x < 2147483648 → Wp d md_258 8 [some (.ref 287), some (.long (lN x0)), none, some (.long (lN x)), none, some (.int (bI b)), some (.int (nI i))] [] (mset M σ) (IsR (some (.int (bI (seenL ws n i x b)))) (mset M σ)) := by
  intro n
  obtain ⟨hB1, hB2⟩ := hB
  induction n with
  | zero =>
    intro i x b hi hx
    refine Wp.n (pc' := 14) 3 rfl ?_
    refine Wp.top hW.1 ?_
    refine Wp.nc3 (x := i) (y := ws.length) (tgt := 70) (len := 3) rfl (by omega) (by omega) (fun h14 => ?_) (fun h14 => ?_)
    · skip
      refine Wp.n (pc' := 72) 1 rfl ?_
      refine Wp.retZ (len := 1) (c := b) rfl rfl rfl ?_
      exact ⟨rfl, rfl⟩
    · omega
  | succ n ih =>
    intro i x b hi hx
    have g := hB2 i
    have hl := lcg_lt x
    have el : (1103515245 * x + 12345) % 2147483648 = lcg x := rfl
    have kk : ∀ c : Bool, c = (decide (lcg x / 65536 % 100 < ws.getD i 0) || b) → Wp d md_258 8 [some (.ref 287), some (.long (lN x0)), none, some (.long (lN (lcg x))), none, some (.int (bI c)), some (.int (nI (i + 1)))] [] (mset M σ) (IsR (some (.int (bI (seenL ws (n + 1) i x b)))) (mset M σ)) := by
      intro c hc
      rw [hc]
      exact ih (i + 1) (lcg x) _ (by omega) hl
    refine Wp.n (pc' := 14) 3 rfl ?_
    refine Wp.top hW.1 ?_
    refine Wp.nc3 (x := i) (y := ws.length) (tgt := 70) (len := 3) rfl (by omega) (by omega) (fun h14 => ?_) (fun h14 => ?_)
    · omega
    · skip
      refine Wp.n (pc' := 21) 2 rfl ?_
      refine Wp.lmulM (x := 1103515245) (y := x) (len := 1) rfl ?_
      refine Wp.n (pc' := 25) 1 rfl ?_
      refine Wp.laddM (x := 1103515245 * x) (y := 12345) (len := 1) rfl ?_
      refine Wp.n (pc' := 29) 1 rfl ?_
      refine Wp.lremM (x := (1103515245 * x) + 12345) (y := 2147483648) (len := 1) rfl (by omega) (by omega) (by omega) ?_
      refine Wp.topL rfl ?_
      refine Wp.n (pc' := 35) 3 rfl ?_
      refine Wp.ldivM (x := lcg x) (y := 65536) (len := 1) rfl (by omega) (by omega) (by omega) ?_
      refine Wp.n (pc' := 39) 1 rfl ?_
      refine Wp.lremM (x := (lcg x) / 65536) (y := 100) (len := 1) rfl (by omega) (by omega) (by omega) ?_
      refine Wp.n (pc' := 46) 3 rfl ?_
      refine Wp.mialdN (j := i) (len := 1) rfl rfl rfl (by omega) ?_
      refine Wp.top (hW.2 i (by omega)) ?_
      refine Wp.i2lM (x := ws.getD i 0) (len := 1) rfl (by omega) ?_
      refine Wp.n (pc' := 49) 1 rfl ?_
      refine Wp.cz2 (x := ((lcg x) / 65536) % 100) (y := ws.getD i 0) (tgt := 57) (len := 3) rfl (by omega) (by omega) (fun h49 => ?_) (fun h49 => ?_)
      · skip
        refine Wp.n (pc' := 64) 3 rfl ?_
        refine Wp.incN (x := i) (len := 3) rfl rfl ?_
        refine Wp.n (pc' := 8) 1 rfl ?_
        first
          | exact kk true (by rw [decide_eq_true (by omega)]; rfl)
          | exact kk true (by rw [h54, Bool.or_true])
          | exact kk false (by rw [decide_eq_false (by omega), h54]; rfl)
      · skip
        refine Wp.n (pc' := 54) 1 rfl ?_
        refine Wp.ifb0 (tgt := 61) (len := 3) rfl (fun h54 => ?_) (fun h54 => ?_)
        · skip
          refine Wp.n (pc' := 64) 2 rfl ?_
          refine Wp.incN (x := i) (len := 3) rfl rfl ?_
          refine Wp.n (pc' := 8) 1 rfl ?_
          first
            | exact kk true (by rw [decide_eq_true (by omega)]; rfl)
            | exact kk true (by rw [h54, Bool.or_true])
            | exact kk false (by rw [decide_eq_false (by omega), h54]; rfl)
        · skip
          refine Wp.n (pc' := 64) 3 rfl ?_
          refine Wp.incN (x := i) (len := 3) rfl rfl ?_
          refine Wp.n (pc' := 8) 1 rfl ?_
          first
            | exact kk true (by rw [decide_eq_true (by omega)]; rfl)
            | exact kk true (by rw [h54, Bool.or_true])
            | exact kk false (by rw [decide_eq_false (by omega), h54]; rfl)

theorem m_isSeenBy {ws : List Nat} (hW : WS σ ws) (hB : WB ws) {x : Nat} (hx : x < 2147483648) : Ev d md_258 0 [some (.ref 287), some (.long (lN x)), none, none, none, none, none] [] (mset M σ) (some (.int (bI (seenK ws x))), mset M σ) := by
  refine Wp.toEv ?_
  refine Wp.n (pc' := 8) 6 rfl ?_
  exact m_seen_l hW hB ws.length 0 x false (by omega) hx
theorem GA_ws (ok : KOK K) {w : Nat} (hw : w < kh K 4) (h : GA σ K w) : WS σ (wat K (TRr K w).2.2) ∧ WB (wat K (TRr K w).2.2) := ⟨⟨h.2.2.2.1, h.2.2.2.2⟩, wat_b ok (TRr_b ok hw).1.2.1 (TRr_b ok hw).1.2.2⟩
def chanceA (K : KD) (x y : Int32) : Int64 := if isN (kh K 4) x = true ∧ isN 2 y = true then (bif lawK K x.toNatClampNeg then lN (tellK (wat K (TRr K x.toNatClampNeg).2.2) 1 y.toNatClampNeg) else -1) else -2
def hopeA (K : KD) (x y : Int32) : Int64 := if isN (kh K 4) x = true ∧ isN 2 y = true then (bif lawK K x.toNatClampNeg then lN (tellK (wat K (TRr K x.toNatClampNeg).2.2) (dutW K x.toNatClampNeg) y.toNatClampNeg) else -1) else -2
theorem in_isN {x : Int32} {hi : Int64} {k : Nat} (h : hi.toInt + 1 = (k : Int)) : decide ((0 : Int64).toInt ≤ x.toInt64.toInt ∧ x.toInt64.toInt ≤ hi.toInt) = isN k x := by
  unfold isN
  rw [il_toInt, show (0 : Int64).toInt = 0 from rfl]
  by_cases c : 0 ≤ x.toInt ∧ x.toInt < (k : Int)
  · rw [decide_eq_true c, decide_eq_true (by omega)]
  · rw [decide_eq_false c, decide_eq_false (by omega)]
theorem dutW_b (ok : KOK K) {w : Nat} (hw : w < kh K 4) : dutW K w ≤ 689634 := by
  have t := ok_walk ok hw
  exact dutyS_b ok (savK_b ok (t.2.2.2.2.2.2.1 0 (by omega))) (by omega)
theorem m_chance (hM : MK σ K) (x y : Int32) : Wp (d + 5) md_221 0 [some (.ref 287), some (.int x), some (.int y)] [] (mset M σ) (RJ M σ (chanceA K x y)) := by
  have ok := hM.2.1
  have hσ0 := hM.2.2.2
  obtain ⟨b0, b1, b2, b3, b4, b5, b6, b7, b8, b9, b10, b11, b12⟩ := ok_h ok
  unfold chanceA
  refine Wp.n (pc' := 2) 2 rfl ?_
  refine Wp.mput0 (len := 3) rfl hσ0 ?_
  refine Wp.n (pc' := 7) 2 rfl ?_
  refine Wp.ecallV (len := 3) rfl rfl rfl (rfl) rfl (by decide) rfl (m_isWalkK hM.1 ok _) ?_
  refine Wp.ifb0 (tgt := 23) (len := 3) rfl (fun h10 => ?_) (fun h10 => ?_)
  · skip
    refine Wp.n (pc' := 49) 2 rfl ?_
    refine Wp.retL (len := 1) rfl rfl ?_
    first
      | exact RJ_s hS (by rw [h34]; rfl)
      | (rw [if_neg (fun q => by rw [h10] at q; exact absurd q.1 (by decide))]; exact RJ_s Scr_r rfl)
      | (rw [if_neg (fun q => by rw [h20] at q; exact absurd q.2 (by decide))]; exact RJ_s Scr_r rfl)
  · skip
    refine Wp.n (pc' := 17) 4 rfl ?_
    refine Wp.ecallS (len := 3) rfl rfl rfl rfl (m_in _ _ _) ?_
    refine Wp.ifb1 (tgt := 29) (len := 3) rfl (fun h20 => ?_) (fun h20 => ?_)
    · rw [in_isN (k := 2) (by decide)] at h20
      obtain ⟨w, hw, rfl⟩ := isN_of h10
      obtain ⟨v, hv, rfl⟩ := isN_of h20
      rw [if_pos ⟨h10, h20⟩, nI_clamp (by omega), nI_clamp (by omega)]
      refine Wp.n (pc' := 31) 2 rfl ?_
      refine Wp.callV (len := 3) rfl rfl rfl (rfl) rfl (by decide) rfl (m_goesAs hM hw) ?_
      rintro _ _ ⟨rfl, τ, rfl, hS, hG⟩
      have hws := GA_ws ok hw hG
      refine Wp.ifb0 (tgt := 46) (len := 3) rfl (fun h34 => ?_) (fun h34 => ?_)
      · skip
        refine Wp.n (pc' := 49) 1 rfl ?_
        refine Wp.retL (len := 1) rfl rfl ?_
        first
          | exact RJ_s hS (by rw [h34]; rfl)
          | (rw [if_neg (fun q => by rw [h10] at q; exact absurd q.1 (by decide))]; exact RJ_s Scr_r rfl)
          | (rw [if_neg (fun q => by rw [h20] at q; exact absurd q.2 (by decide))]; exact RJ_s Scr_r rfl)
      · skip
        refine Wp.n (pc' := 40) 3 rfl ?_
        refine Wp.ecallV (len := 3) rfl rfl rfl (rfl) rfl (by decide) rfl (m_told (m := 1) hws.1 hws.2 (by omega) (by omega)) ?_
        refine Wp.n (pc' := 49) 1 rfl ?_
        refine Wp.retL (len := 1) rfl rfl ?_
        first
          | exact RJ_s hS (by rw [h34]; rfl)
          | (rw [if_neg (fun q => by rw [h10] at q; exact absurd q.1 (by decide))]; exact RJ_s Scr_r rfl)
          | (rw [if_neg (fun q => by rw [h20] at q; exact absurd q.2 (by decide))]; exact RJ_s Scr_r rfl)
    · rw [in_isN (k := 2) (by decide)] at h20
      refine Wp.n (pc' := 49) 2 rfl ?_
      refine Wp.retL (len := 1) rfl rfl ?_
      first
        | exact RJ_s hS (by rw [h34]; rfl)
        | (rw [if_neg (fun q => by rw [h10] at q; exact absurd q.1 (by decide))]; exact RJ_s Scr_r rfl)
        | (rw [if_neg (fun q => by rw [h20] at q; exact absurd q.2 (by decide))]; exact RJ_s Scr_r rfl)

theorem m_hope (hM : MK σ K) (x y : Int32) : Wp (d + 5) md_224 0 [some (.ref 287), some (.int x), some (.int y)] [] (mset M σ) (RJ M σ (hopeA K x y)) := by
  have ok := hM.2.1
  have hσ0 := hM.2.2.2
  obtain ⟨b0, b1, b2, b3, b4, b5, b6, b7, b8, b9, b10, b11, b12⟩ := ok_h ok
  unfold hopeA
  refine Wp.n (pc' := 2) 2 rfl ?_
  refine Wp.mput0 (len := 3) rfl hσ0 ?_
  refine Wp.n (pc' := 7) 2 rfl ?_
  refine Wp.ecallV (len := 3) rfl rfl rfl (rfl) rfl (by decide) rfl (m_isWalkK hM.1 ok _) ?_
  refine Wp.ifb0 (tgt := 23) (len := 3) rfl (fun h10 => ?_) (fun h10 => ?_)
  · skip
    refine Wp.n (pc' := 26) 1 rfl ?_
    refine Wp.retL (len := 1) rfl rfl ?_
    first
      | exact RJ_s (Scr_13 hS) (by rw [h32]; rfl)
      | exact RJ_s hS (by rw [h32]; rfl)
      | (rw [if_neg (fun q => by rw [h10] at q; exact absurd q.1 (by decide))]; exact RJ_s Scr_r rfl)
      | (rw [if_neg (fun q => by rw [h20] at q; exact absurd q.2 (by decide))]; exact RJ_s Scr_r rfl)
  · skip
    refine Wp.n (pc' := 17) 4 rfl ?_
    refine Wp.ecallS (len := 3) rfl rfl rfl rfl (m_in _ _ _) ?_
    refine Wp.ifb1 (tgt := 27) (len := 3) rfl (fun h20 => ?_) (fun h20 => ?_)
    · rw [in_isN (k := 2) (by decide)] at h20
      obtain ⟨w, hw, rfl⟩ := isN_of h10
      obtain ⟨v, hv, rfl⟩ := isN_of h20
      rw [if_pos ⟨h10, h20⟩, nI_clamp (by omega), nI_clamp (by omega)]
      refine Wp.n (pc' := 29) 2 rfl ?_
      refine Wp.callV (len := 3) rfl rfl rfl (rfl) rfl (by decide) rfl (m_goesAs hM hw) ?_
      rintro _ _ ⟨rfl, τ, rfl, hS, hG⟩
      have hws := GA_ws ok hw hG
      have hdw := dutW_b ok hw
      refine Wp.ifb1 (tgt := 39) (len := 3) rfl (fun h32 => ?_) (fun h32 => ?_)
      · skip
        refine Wp.n (pc' := 42) 3 rfl ?_
        refine Wp.callV (len := 3) rfl rfl rfl (rfl) rfl (by decide) rfl (m_dutyOf1 (MK_scr hM hS) hw rfl hG.1 (TRr_b ok hw).1 hG.2) ?_
        rintro _ _ ⟨rfl, h, rfl⟩
        refine Wp.i2lM (x := dutW K w) (len := 1) rfl (by omega) ?_
        refine Wp.n (pc' := 47) 1 rfl ?_
        refine Wp.ecallV (len := 3) rfl rfl rfl (rfl) rfl (by decide) rfl (m_told (m := dutW K w) (show WS (aset τ 13 h) _ from hws.1) hws.2 hdw (by omega)) ?_
        refine Wp.retL (len := 1) rfl rfl ?_
        first
          | exact RJ_s (Scr_13 hS) (by rw [h32]; rfl)
          | exact RJ_s hS (by rw [h32]; rfl)
          | (rw [if_neg (fun q => by rw [h10] at q; exact absurd q.1 (by decide))]; exact RJ_s Scr_r rfl)
          | (rw [if_neg (fun q => by rw [h20] at q; exact absurd q.2 (by decide))]; exact RJ_s Scr_r rfl)
      · skip
        refine Wp.n (pc' := 38) 1 rfl ?_
        refine Wp.retL (len := 1) rfl rfl ?_
        first
          | exact RJ_s (Scr_13 hS) (by rw [h32]; rfl)
          | exact RJ_s hS (by rw [h32]; rfl)
          | (rw [if_neg (fun q => by rw [h10] at q; exact absurd q.1 (by decide))]; exact RJ_s Scr_r rfl)
          | (rw [if_neg (fun q => by rw [h20] at q; exact absurd q.2 (by decide))]; exact RJ_s Scr_r rfl)
    · rw [in_isN (k := 2) (by decide)] at h20
      refine Wp.n (pc' := 26) 1 rfl ?_
      refine Wp.retL (len := 1) rfl rfl ?_
      first
        | exact RJ_s (Scr_13 hS) (by rw [h32]; rfl)
        | exact RJ_s hS (by rw [h32]; rfl)
        | (rw [if_neg (fun q => by rw [h10] at q; exact absurd q.1 (by decide))]; exact RJ_s Scr_r rfl)
        | (rw [if_neg (fun q => by rw [h20] at q; exact absurd q.2 (by decide))]; exact RJ_s Scr_r rfl)

theorem m_isSeedN (x : Int32) : Ev (d + 1) md_257 0 [some (.int x)] [] M (some (.int (bI (isN 2000000001 x))), M) := by
  have w := m_isSeed (d := d) (M := M) x
  have e : decide (0 ≤ x.toInt ∧ x.toInt ≤ 2000000000) = isN 2000000001 x := by
    unfold isN
    by_cases c : 0 ≤ x.toInt ∧ x.toInt < ((2000000001 : Nat) : Int)
    · rw [decide_eq_true c, decide_eq_true (by omega)]
    · rw [decide_eq_false c, decide_eq_false (by omega)]
  rw [e] at w
  exact w
def seenA (K : KD) (x y : Int32) : Int32 := if isN 2000000001 x = true ∧ isN (kh K 4) y = true then (bif lawK K y.toNatClampNeg then bI (seenK (wat K (TRr K y.toNatClampNeg).2.2) x.toNatClampNeg) else -1) else -2
theorem m_seen (hM : MK σ K) (x y : Int32) : Wp (d + 5) md_256 0 [some (.ref 287), some (.int x), some (.int y)] [] (mset M σ) (RI M σ (seenA K x y)) := by
  have ok := hM.2.1
  have hσ0 := hM.2.2.2
  obtain ⟨b0, b1, b2, b3, b4, b5, b6, b7, b8, b9, b10, b11, b12⟩ := ok_h ok
  unfold seenA
  refine Wp.n (pc' := 2) 2 rfl ?_
  refine Wp.mput0 (len := 3) rfl hσ0 ?_
  refine Wp.n (pc' := 6) 1 rfl ?_
  refine Wp.ecallS (len := 3) rfl rfl rfl rfl (m_isSeedN _) ?_
  refine Wp.ifb0 (tgt := 20) (len := 3) rfl (fun h9 => ?_) (fun h9 => ?_)
  · skip
    refine Wp.n (pc' := 22) 1 rfl ?_
    refine Wp.retI (len := 1) rfl rfl ?_
    first
      | exact RI_s hS (by rw [h28, h41]; rfl)
      | exact RI_s hS (by rw [h28]; rfl)
      | (rw [if_neg (fun q => by rw [h9] at q; exact absurd q.1 (by decide))]; exact RI_r rfl)
      | (rw [if_neg (fun q => by rw [h17] at q; exact absurd q.2 (by decide))]; exact RI_r rfl)
  · skip
    refine Wp.n (pc' := 14) 2 rfl ?_
    refine Wp.ecallV (len := 3) rfl rfl rfl (rfl) rfl (by decide) rfl (m_isWalkK hM.1 ok _) ?_
    refine Wp.ifb1 (tgt := 23) (len := 3) rfl (fun h17 => ?_) (fun h17 => ?_)
    · skip
      obtain ⟨v, hv, rfl⟩ := isN_of h9
      obtain ⟨w, hw, rfl⟩ := isN_of h17
      rw [if_pos ⟨h9, h17⟩, nI_clamp (by omega), nI_clamp (by omega)]
      refine Wp.n (pc' := 25) 2 rfl ?_
      refine Wp.callV (len := 3) rfl rfl rfl (rfl) rfl (by decide) rfl (m_goesAs hM hw) ?_
      rintro _ _ ⟨rfl, τ, rfl, hS, hG⟩
      have hws := GA_ws ok hw hG
      refine Wp.ifb1 (tgt := 35) (len := 3) rfl (fun h28 => ?_) (fun h28 => ?_)
      · skip
        refine Wp.n (pc' := 37) 2 rfl ?_
        refine Wp.i2lM (x := v) (len := 1) rfl (by omega) ?_
        refine Wp.ecallV (len := 3) rfl rfl rfl (rfl) rfl (by decide) rfl (m_isSeenBy hws.1 hws.2 (by omega)) ?_
        refine Wp.ifb0 (tgt := 48) (len := 3) rfl (fun h41 => ?_) (fun h41 => ?_)
        · skip
          refine Wp.n (pc' := 49) 1 rfl ?_
          refine Wp.retI (len := 1) rfl rfl ?_
          first
            | exact RI_s hS (by rw [h28, h41]; rfl)
            | exact RI_s hS (by rw [h28]; rfl)
            | (rw [if_neg (fun q => by rw [h9] at q; exact absurd q.1 (by decide))]; exact RI_r rfl)
            | (rw [if_neg (fun q => by rw [h17] at q; exact absurd q.2 (by decide))]; exact RI_r rfl)
        · skip
          refine Wp.n (pc' := 49) 2 rfl ?_
          refine Wp.retI (len := 1) rfl rfl ?_
          first
            | exact RI_s hS (by rw [h28, h41]; rfl)
            | exact RI_s hS (by rw [h28]; rfl)
            | (rw [if_neg (fun q => by rw [h9] at q; exact absurd q.1 (by decide))]; exact RI_r rfl)
            | (rw [if_neg (fun q => by rw [h17] at q; exact absurd q.2 (by decide))]; exact RI_r rfl)
      · skip
        refine Wp.n (pc' := 49) 2 rfl ?_
        refine Wp.retI (len := 1) rfl rfl ?_
        first
          | exact RI_s hS (by rw [h28, h41]; rfl)
          | exact RI_s hS (by rw [h28]; rfl)
          | (rw [if_neg (fun q => by rw [h9] at q; exact absurd q.1 (by decide))]; exact RI_r rfl)
          | (rw [if_neg (fun q => by rw [h17] at q; exact absurd q.2 (by decide))]; exact RI_r rfl)
    · skip
      refine Wp.n (pc' := 22) 1 rfl ?_
      refine Wp.retI (len := 1) rfl rfl ?_
      first
        | exact RI_s hS (by rw [h28, h41]; rfl)
        | exact RI_s hS (by rw [h28]; rfl)
        | (rw [if_neg (fun q => by rw [h9] at q; exact absurd q.1 (by decide))]; exact RI_r rfl)
        | (rw [if_neg (fun q => by rw [h17] at q; exact absurd q.2 (by decide))]; exact RI_r rfl)

def ctI (K : KD) (seed w : Nat) (s k : Nat) : Nat := bif seenK (wat K (TRr K w).2.2) (seed + k) then s + dutW K w else s
def ctO (K : KD) (seed m : Nat) (s w : Nat) : Nat := bif lawK K w then fld (ctI K seed w) m 0 s else s
theorem m_ct_i (hM : MK σ K) {seed m w : Nat} (hs : seed < 2000000001) (hm : m ≤ 20) (hw : w < kh K 4) : ∀ (n k s : Nat) (τ : MS), k + n = m → Scr σ τ → GA τ K w → (∀ τ', Scr σ τ' → Wp (d + 5) md_259 103 [some (.ref 287), some (.int (nI seed)), some (.int (nI m)), some (.int (nI (fld (ctI K seed w) n k s))), some (.int (nI w)), some (.int (nI m))] [] (mset M τ') Q) → Wp (d + 5) md_259 65 [some (.ref 287), some (.int (nI seed)), some (.int (nI m)), some (.int (nI s)), some (.int (nI w)), some (.int (nI k))] [] (mset M τ) Q := by
  have ok := hM.2.1
  intro n
  obtain ⟨b0, b1, b2, b3, b4, b5, b6, b7, b8, b9, b10, b11, b12⟩ := ok_h ok
  induction n with
  | zero =>
    intro k s τ hk hS hG kk
    refine Wp.n (pc' := 68) 2 rfl ?_
    refine Wp.nc3 (x := k) (y := m) (tgt := 103) (len := 3) rfl (by omega) (by omega) (fun h68 => ?_) (fun h68 => ?_)
    · skip
      rw [show k = m by omega]
      exact kk τ hS
    · omega
  | succ n ih =>
    intro k s τ hk hS hG kk
    have hws := GA_ws ok hw hG
    refine Wp.n (pc' := 68) 2 rfl ?_
    refine Wp.nc3 (x := k) (y := m) (tgt := 103) (len := 3) rfl (by omega) (by omega) (fun h68 => ?_) (fun h68 => ?_)
    · omega
    · skip
      refine Wp.n (pc' := 74) 3 rfl ?_
      refine Wp.i2lM (x := seed) (len := 1) rfl (by omega) ?_
      refine Wp.n (pc' := 77) 1 rfl ?_
      refine Wp.i2lM (x := k) (len := 1) rfl (by omega) ?_
      refine Wp.laddM (x := seed) (y := k) (len := 1) rfl ?_
      refine Wp.ecallV (len := 3) rfl rfl rfl (rfl) rfl (by decide) rfl (m_isSeenBy hws.1 hws.2 (by omega)) ?_
      refine Wp.ifb0 (tgt := 94) (len := 3) rfl (fun h82 => ?_) (fun h82 => ?_)
      · skip
        refine Wp.n (pc' := 95) 1 rfl ?_
        refine Wp.iaddN (x := s) (y := 0) (len := 1) rfl ?_
        refine Wp.n (pc' := 97) 1 rfl ?_
        refine Wp.incN (x := k) (len := 3) rfl rfl ?_
        refine Wp.n (pc' := 65) 1 rfl ?_
        first
          | (refine ih (k + 1) (s + dutW K w) _ (by omega) (Scr_13 hS) hG ?_
             rw [show fld (ctI K seed w) (n + 1) k s = fld (ctI K seed w) n (k + 1) (ctI K seed w s k) from rfl, show ctI K seed w s k = s + dutW K w by unfold ctI; rw [h82]; rfl] at kk
             exact kk)
          | (refine ih (k + 1) s _ (by omega) hS hG ?_
             rw [show fld (ctI K seed w) (n + 1) k s = fld (ctI K seed w) n (k + 1) (ctI K seed w s k) from rfl, show ctI K seed w s k = s by unfold ctI; rw [h82]; rfl] at kk
             exact kk)
      · skip
        refine Wp.n (pc' := 88) 2 rfl ?_
        refine Wp.callV (len := 3) rfl rfl rfl (rfl) rfl (by decide) rfl (m_dutyOf1 (MK_scr hM hS) hw rfl hG.1 (TRr_b ok hw).1 hG.2) ?_
        rintro _ _ ⟨rfl, h, rfl⟩
        refine Wp.n (pc' := 95) 1 rfl ?_
        refine Wp.iaddN (x := s) (y := dutW K w) (len := 1) rfl ?_
        refine Wp.n (pc' := 97) 1 rfl ?_
        refine Wp.incN (x := k) (len := 3) rfl rfl ?_
        refine Wp.n (pc' := 65) 1 rfl ?_
        first
          | (refine ih (k + 1) (s + dutW K w) _ (by omega) (Scr_13 hS) hG ?_
             rw [show fld (ctI K seed w) (n + 1) k s = fld (ctI K seed w) n (k + 1) (ctI K seed w s k) from rfl, show ctI K seed w s k = s + dutW K w by unfold ctI; rw [h82]; rfl] at kk
             exact kk)
          | (refine ih (k + 1) s _ (by omega) hS hG ?_
             rw [show fld (ctI K seed w) (n + 1) k s = fld (ctI K seed w) n (k + 1) (ctI K seed w s k) from rfl, show ctI K seed w s k = s by unfold ctI; rw [h82]; rfl] at kk
             exact kk)

theorem m_ct_o (hM : MK σ K) {seed m : Nat} (hs : seed < 2000000001) (hm : m ≤ 20) : ∀ (n w s : Nat) (τ : MS) (z : Option Value), w + n = kh K 4 → Scr σ τ → Wp (d + 5) md_259 39 [some (.ref 287), some (.int (nI seed)), some (.int (nI m)), some (.int (nI s)), some (.int (nI w)), z] [] (mset M τ) (RI M σ (nI (fld (ctO K seed m) n w s))) := by
  have ok := hM.2.1
  intro n
  obtain ⟨b0, b1, b2, b3, b4, b5, b6, b7, b8, b9, b10, b11, b12⟩ := ok_h ok
  induction n with
  | zero =>
    intro w s τ z hw hS
    refine Wp.n (pc' := 46) 4 rfl ?_
    refine Wp.mialdN (j := 4) (len := 1) rfl rfl rfl (by omega) ?_
    refine Wp.top (r0_has (MK_scr hM hS).1 (by decide)) ?_
    refine Wp.nc3 (x := w) (y := kh K 4) (tgt := 109) (len := 3) rfl (by omega) (by omega) (fun h47 => ?_) (fun h47 => ?_)
    · skip
      refine Wp.n (pc' := 110) 1 rfl ?_
      refine Wp.retI (len := 1) rfl rfl ?_
      exact RI_s hS rfl
    · omega
  | succ n ih =>
    intro w s τ z hw hS
    have hK := MK_scr hM hS
    rw [show fld (ctO K seed m) (n + 1) w s = fld (ctO K seed m) n (w + 1) (ctO K seed m s w) from rfl]
    refine Wp.n (pc' := 46) 4 rfl ?_
    refine Wp.mialdN (j := 4) (len := 1) rfl rfl rfl (by omega) ?_
    refine Wp.top (r0_has hK.1 (by decide)) ?_
    refine Wp.nc3 (x := w) (y := kh K 4) (tgt := 109) (len := 3) rfl (by omega) (by omega) (fun h47 => ?_) (fun h47 => ?_)
    · omega
    · skip
      refine Wp.n (pc' := 53) 2 rfl ?_
      refine Wp.callV (len := 3) rfl rfl rfl (rfl) rfl (by decide) rfl (m_goesAs hK (by omega)) ?_
      rintro _ _ ⟨rfl, τ', rfl, hS', hG⟩
      refine Wp.ifb1 (tgt := 62) (len := 3) rfl (fun h56 => ?_) (fun h56 => ?_)
      · skip
        refine Wp.n (pc' := 65) 2 rfl ?_
        rw [show ctO K seed m s w = fld (ctI K seed w) m 0 s by unfold ctO; rw [h56]; rfl]
        refine m_ct_i hM hs hm (by omega) m 0 s τ' (by omega) (Scr_t hS hS') hG (fun τ2 hS2 => ?_)
        refine Wp.incN (x := w) (len := 3) rfl rfl ?_
        refine Wp.n (pc' := 39) 1 rfl ?_
        exact ih (w + 1) _ τ2 _ (by omega) hS2
        
      · skip
        refine Wp.n (pc' := 103) 1 rfl ?_
        refine Wp.incN (x := w) (len := 3) rfl rfl ?_
        refine Wp.n (pc' := 39) 1 rfl ?_
        rw [show ctO K seed m s w = s by unfold ctO; rw [h56]; rfl]
        exact ih (w + 1) s τ' _ (by omega) (Scr_t hS hS')

def caughtA (K : KD) (x y : Int32) : Int32 := if 0 < kh K 0 ∧ isN 2000000001 x = true ∧ (1 ≤ y.toInt ∧ y.toInt ≤ 20) then nI (fld (ctO K x.toNatClampNeg y.toNatClampNeg) (kh K 4) 0 0) else -2
theorem m_caught (hM : MK σ K) (x y : Int32) : Wp (d + 6) md_259 0 [some (.ref 287), some (.int x), some (.int y), none, none, none] [] (mset M σ) (RI M σ (caughtA K x y)) := by
  have ok := hM.2.1
  have hσ0 := hM.2.2.2
  obtain ⟨b0, b1, b2, b3, b4, b5, b6, b7, b8, b9, b10, b11, b12⟩ := ok_h ok
  unfold caughtA
  refine Wp.n (pc' := 2) 2 rfl ?_
  refine Wp.mput0 (len := 3) rfl hσ0 ?_
  refine Wp.n (pc' := 6) 1 rfl ?_
  refine Wp.ecallV (len := 3) rfl rfl rfl (rfl) rfl (by decide) rfl (m_isKingdom hM.1 ok) ?_
  refine Wp.ifb0 (tgt := 31) (len := 3) rfl (fun h9 => ?_) (fun h9 => ?_)
  · skip
    refine Wp.n (pc' := 33) 1 rfl ?_
    refine Wp.retI (len := 1) rfl rfl ?_
    first
      | (rw [if_neg (fun q => of_decide_eq_false h9 q.1)]; exact RI_r rfl)
      | (rw [if_neg (fun q => by rw [h16] at q; exact absurd q.2.1 (by decide))]; exact RI_r rfl)
      | (rw [if_neg (fun q => of_decide_eq_false h28 q.2.2)]; exact RI_r rfl)
  · skip
    refine Wp.n (pc' := 13) 1 rfl ?_
    refine Wp.ecallS (len := 3) rfl rfl rfl rfl (m_isSeedN _) ?_
    refine Wp.ifb0 (tgt := 31) (len := 3) rfl (fun h16 => ?_) (fun h16 => ?_)
    · skip
      refine Wp.n (pc' := 33) 1 rfl ?_
      refine Wp.retI (len := 1) rfl rfl ?_
      first
        | (rw [if_neg (fun q => of_decide_eq_false h9 q.1)]; exact RI_r rfl)
        | (rw [if_neg (fun q => by rw [h16] at q; exact absurd q.2.1 (by decide))]; exact RI_r rfl)
        | (rw [if_neg (fun q => of_decide_eq_false h28 q.2.2)]; exact RI_r rfl)
    · skip
      refine Wp.n (pc' := 25) 4 rfl ?_
      refine Wp.ecallS (len := 3) rfl rfl rfl rfl (m_in _ _ _) ?_
      refine Wp.ifb1 (tgt := 34) (len := 3) rfl (fun h28 => ?_) (fun h28 => ?_)
      · rw [il_toInt] at h28
        have hy := of_decide_eq_true h28
        obtain ⟨v, hv, rfl⟩ := isN_of h16
        obtain ⟨m, hm, rfl⟩ := nI_of (x := y) (by rw [i_lt]; intro q; have q' : y.toInt < 0 := q; have : (1 : Int) ≤ y.toInt := hy.1; omega)
        rw [if_pos ⟨of_decide_eq_true h9, h16, hy⟩, nI_clamp (by omega), nI_clamp hm]
        have hm20 : m ≤ 20 := by
          have := hy.2
          rw [nI_toInt hm] at this
          have : (m : Int) ≤ 20 := this
          omega
        refine Wp.n (pc' := 39) 4 rfl ?_
        exact m_ct_o hM hv hm20 (kh K 4) 0 0 σ none (by omega) Scr_r
      · rw [il_toInt] at h28
        refine Wp.n (pc' := 33) 1 rfl ?_
        refine Wp.retI (len := 1) rfl rfl ?_
        first
          | (rw [if_neg (fun q => of_decide_eq_false h9 q.1)]; exact RI_r rfl)
          | (rw [if_neg (fun q => by rw [h16] at q; exact absurd q.2.1 (by decide))]; exact RI_r rfl)
          | (rw [if_neg (fun q => of_decide_eq_false h28 q.2.2)]; exact RI_r rfl)

end CHANCE
end
section
/-! ALL WAYS, as a list, in the order in which both sides go. -/
def loopL {α : Type} (g : Nat → List α) : Nat → Nat → List α
  | 0, _ => []
  | n + 1, p => g p ++ loopL g n (p + 1)
def dfs (K : KD) (y t : Nat) : Nat → List Nat → Nat → Nat × List Nat → List (List Nat × Nat × List Nat)
  | 0, _, _, _ => []
  | f + 1, ps, q, s => if q = t then [(ps, s)] else loopL (fun p => if ps.contains p = true then [] else match joinK K q p y with
    | none => []
    | some j => dfs K y t f (ps ++ [p]) p (addJ K s j)) (kh K 0) 0
def PV (K : KD) (y : Nat) (ps : List Nat) (q : Nat) (s : Nat × List Nat) : Prop := 1 ≤ ps.length ∧ ps.getD (ps.length - 1) 0 = q ∧ ps.Nodup ∧ (∀ p, p ∈ ps → p < kh K 0) ∧ lookK K y (fun i => ps.getD i 0) (ps.length - 1) 0 (0, []) = (ps.length - 1, s)
theorem lookK_snoc {K : KD} {y : Nat} {P : Nat → Nat} {s : Nat × List Nat} : ∀ (n i : Nat) (s0 : Nat × List Nat), lookK K y P n i s0 = (i + n, s) → lookK K y P (n + 1) i s0 = match joinK K (P (i + n)) (P (i + n + 1)) y with
    | none => (i + n, s)
    | some j => (i + n + 1, addJ K s j)
  | 0, i, s0, h => by
    have h2 : s0 = s := by
      have := congrArg Prod.snd h
      exact this
    subst h2
    show (match joinK K (P i) (P (i + 1)) y with | none => (i, s0) | some j => lookK K y P 0 (i + 1) (addJ K s0 j)) = _
    cases joinK K (P i) (P (i + 1)) y with
    | none => rfl
    | some j => rfl
  | n + 1, i, s0, h => by
    have h1 : (match joinK K (P i) (P (i + 1)) y with | none => (i, s0) | some j => lookK K y P n (i + 1) (addJ K s0 j)) = (i + (n + 1), s) := h
    show (match joinK K (P i) (P (i + 1)) y with | none => (i, s0) | some j => lookK K y P (n + 1) (i + 1) (addJ K s0 j)) = _
    cases e : joinK K (P i) (P (i + 1)) y with
    | none =>
      rw [e] at h1
      have h2 : i = i + (n + 1) := congrArg Prod.fst h1
      omega
    | some j =>
      rw [e] at h1
      have h2 : lookK K y P n (i + 1) (addJ K s0 j) = (i + 1 + n, s) := by rw [show i + 1 + n = i + (n + 1) by omega]; exact h1
      have := lookK_snoc n (i + 1) (addJ K s0 j) h2
      rw [show i + 1 + n = i + (n + 1) by omega] at this
      exact this
theorem lookK_c {K : KD} {y : Nat} {P P' : Nat → Nat} : ∀ (n i : Nat) (s : Nat × List Nat), (∀ j, j ≤ i + n → P j = P' j) → lookK K y P n i s = lookK K y P' n i s
  | 0, _, _, _ => rfl
  | n + 1, i, s, h => by
    show (match joinK K (P i) (P (i + 1)) y with | none => (i, s) | some j => lookK K y P n (i + 1) (addJ K s j)) = (match joinK K (P' i) (P' (i + 1)) y with | none => (i, s) | some j => lookK K y P' n (i + 1) (addJ K s j))
    rw [h i (by omega), h (i + 1) (by omega)]
    cases joinK K (P' i) (P' (i + 1)) y with
    | none => rfl
    | some j => exact lookK_c n (i + 1) (addJ K s j) (fun j hj => h j (by omega))
theorem cn_one (x : Nat) : ∀ n, cn (fun q => decide (q = x)) n = if x < n then 1 else 0
  | 0 => by rw [if_neg (by omega)]; rfl
  | n + 1 => by
    unfold cn
    rw [cn_one x n]
    by_cases h : n = x
    · subst h
      rw [if_neg (by omega), if_pos (by omega), decide_eq_true rfl]
      rfl
    · rw [decide_eq_false h]
      by_cases c : x < n
      · rw [if_pos c, if_pos (by omega)]; rfl
      · rw [if_neg c, if_neg (by omega)]; rfl
theorem cn_or {P Q : Nat → Bool} : ∀ n, (∀ q, ¬ (P q = true ∧ Q q = true)) → cn (fun q => P q || Q q) n = cn P n + cn Q n
  | 0, _ => rfl
  | n + 1, h => by
    unfold cn
    rw [cn_or n h]
    have := h n
    cases hp : P n <;> cases hq : Q n
    · show _ + 0 = _; simp
    · show _ + 1 = _; show _ = _ + 0 + (_ + 1); omega
    · show _ + 1 = _; show _ = _ + 1 + (_ + 0); omega
    · exact absurd ⟨hp, hq⟩ this
theorem cn_list {n : Nat} : ∀ {ps : List Nat}, ps.Nodup → (∀ p, p ∈ ps → p < n) → cn (fun q => ps.contains q) n = ps.length
  | [], _, _ => by
    have : ∀ n, cn (fun q => ([] : List Nat).contains q) n = 0 := by
      intro n
      induction n with
      | zero => rfl
      | succ n ih => unfold cn; rw [ih]; rfl
    exact this n
  | x :: t, hn, hb => by
    have hn' := List.nodup_cons.mp hn
    have e : (fun q => (x :: t).contains q) = fun q => decide (q = x) || t.contains q := by
      funext q
      rw [List.contains_cons]
      congr 1
    rw [e, cn_or n, cn_one, if_pos (hb x List.mem_cons_self), cn_list hn'.2 (fun p hp => hb p (List.mem_cons_of_mem _ hp)), List.length_cons]
    · omega
    · intro q hq
      have h1 := of_decide_eq_true hq.1
      have h2 := List.contains_iff_mem.mp hq.2
      rw [h1] at h2
      exact hn'.1 h2
section PVS
variable {K : KD}
theorem PV_len {y q : Nat} {ps : List Nat} {s : Nat × List Nat} (ok : KOK K) (h : PV K y ps q s) : ps.length ≤ kh K 0 := by
  have h1 := cn_list h.2.2.1 h.2.2.2.1
  have h2 := cn_le (P := fun q => ps.contains q) (Q := fun _ => true) (kh K 0) (fun _ _ _ => rfl)
  rw [cn_all] at h2
  omega
/-- when all places are met, none is left -/
theorem PV_full {y q : Nat} {ps : List Nat} {s : Nat × List Nat} (h : PV K y ps q s) (hl : kh K 0 ≤ ps.length) {p : Nat} (hp : p < kh K 0) : ps.contains p = true := by
  cases e : ps.contains p with
  | true => rfl
  | false =>
    have h1 := cn_list h.2.2.1 h.2.2.2.1
    have h2 := cn_lt (P := fun q => ps.contains q) (Q := fun _ => true) (kh K 0) (fun _ _ _ => rfl) ⟨p, hp, e, rfl⟩
    rw [cn_all] at h2
    omega
theorem PV_1 {y a : Nat} (ha : a < kh K 0) : PV K y [a] a (0, []) := ⟨Nat.le_refl _, rfl, List.nodup_cons.mpr ⟨List.not_mem_nil, List.nodup_nil⟩, fun p hp => by rw [List.mem_singleton] at hp; omega, rfl⟩
theorem PV_q {y q : Nat} {ps : List Nat} {s : Nat × List Nat} (h : PV K y ps q s) : q < kh K 0 := by
  have h1 := h.1
  rw [← h.2.1, List.getD_eq_getElem?_getD, List.getElem?_eq_getElem (by omega)]
  exact h.2.2.2.1 _ (List.getElem_mem _)
theorem PV_s {y q p j : Nat} {ps : List Nat} {s : Nat × List Nat} (h : PV K y ps q s) (hp : p < kh K 0) (hc : ps.contains p = false) (hj : joinK K q p y = some j) : PV K y (ps ++ [p]) p (addJ K s j) := by
  obtain ⟨h1, h2, h3, h4, h5⟩ := h
  have hl : (ps ++ [p]).length = ps.length + 1 := by rw [List.length_append]; rfl
  refine ⟨by omega, ?_, ?_, ?_, ?_⟩
  · rw [hl, show ps.length + 1 - 1 = ps.length by omega, getD_end]
  · rw [List.nodup_append]
    refine ⟨h3, List.nodup_cons.mpr ⟨List.not_mem_nil, List.nodup_nil⟩, ?_⟩
    intro a ha b hb
    rw [List.mem_singleton] at hb
    rw [hb]
    intro e
    rw [e] at ha
    rw [List.contains_iff_mem.mpr ha] at hc
    cases hc
  · intro x hx
    rw [List.mem_append] at hx
    rcases hx with hx | hx
    · exact h4 x hx
    · rw [List.mem_singleton] at hx; omega
  · rw [hl, show ps.length + 1 - 1 = (ps.length - 1) + 1 by omega]
    have e1 : lookK K y (fun i => (ps ++ [p]).getD i 0) (ps.length - 1) 0 (0, []) = (0 + (ps.length - 1), s) := by
      rw [Nat.zero_add, ← h5]
      exact lookK_c _ _ _ (fun i hi => getD_app (by omega))
    rw [lookK_snoc _ _ _ e1]
    have e2 : (ps ++ [p]).getD (0 + (ps.length - 1)) 0 = q := by
      rw [Nat.zero_add, getD_app (by omega), h2]
    have e3 : (ps ++ [p]).getD (0 + (ps.length - 1) + 1) 0 = p := by
      rw [show 0 + (ps.length - 1) + 1 = ps.length by omega, getD_end]
    show (match joinK K ((ps ++ [p]).getD (0 + (ps.length - 1)) 0) ((ps ++ [p]).getD (0 + (ps.length - 1) + 1) 0) y with | none => (0 + (ps.length - 1), s) | some j => (0 + (ps.length - 1) + 1, addJ K s j)) = _
    rw [e2, e3, hj, Nat.zero_add]
theorem PV_sb (ok : KOK K) {y q : Nat} {ps : List Nat} {s : Nat × List Nat} (h : PV K y ps q s) : SB K 6 s := by
  obtain ⟨⟨a1, a2, a3⟩, _, _⟩ := lookK_b ok (y := y) (P := fun i => ps.getD i 0) (ps.length - 1) 0 (0, []) ⟨Nat.le_refl _, Nat.le_refl _, fun l hl => absurd hl List.not_mem_nil⟩
  rw [h.2.2.2.2] at a1 a2 a3
  have hl := PV_len ok h
  have h0 := (ok_h ok).1
  exact ⟨by show s.1 ≤ _; have : s.1 ≤ 129 * (0 + (ps.length - 1)) := a1; omega, by have : s.2.length ≤ 0 + (ps.length - 1) := a2; omega, a3⟩
end PVS
/-- what a way gives: ways, least cost, its length, lanes of all, the best with its duty -/
abbrev MT : Type := Nat × Nat × Nat × Option Nat × Option (Nat × List Nat)
def dW (K : KD) (a b y load : Nat) (s : Nat × List Nat) : Nat := dutyS K (boatK K s.2) (savK K a b s.1) y load
def cW (K : KD) (aim d : Nat) (s : Nat × List Nat) : Nat := if aim = 2 then kh K 8 * s.1 + d else 0
def meet (K : KD) (aim a b y load dn : Nat) (st : MT) (w : List Nat × Nat × List Nat) : MT :=
  if aim = 1 ∧ 0 < (wat K w.2.2).length then st
  else if aim = 3 ∨ aim = 4 then (if dW K a b y load w.2 = dn ∧ (aim = 4 → w.2.2.contains 8 = true) then (st.1 + 1, st.2.1, st.2.2.1, some (match st.2.2.2.1 with | none => bitsM w.2.2 | some c => c &&& bitsM w.2.2), st.2.2.2.2) else st)
  else if st.2.1 < cW K aim (dW K a b y load w.2) w.2 ∨ (cW K aim (dW K a b y load w.2) w.2 = st.2.1 ∧ st.2.2.1 ≤ w.2.1) then (st.1 + 1, st.2)
  else (st.1 + 1, cW K aim (dW K a b y load w.2) w.2, w.2.1, st.2.2.2.1, some (if aim = 2 then dW K a b y load w.2 else 0, w.1))
end
section
/-! meets, goesOn, seeks: the reference goes all ways. -/
abbrev MF : List Nat := [37, 38, 39, 40, 41, 42]
abbrev MA : List Nat := [13, 16]
def BR (τ : MS) (dq : Nat) (pq : List Nat) : Prop := τ.1 40 = nI dq ∧ τ.1 41 = nI pq.length ∧ ∀ i, i < pq.length → τ.2.2.1 16 i = nI (pq.getD i 0)
def MR (τ : MS) (st : MT) : Prop := τ.1 37 = nI st.1 ∧ τ.1 38 = nI st.2.1 ∧ τ.1 39 = nI st.2.2.1 ∧ τ.1 42 = oI st.2.2.2.1 ∧ (∀ dq pq, st.2.2.2.2 = some (dq, pq) → BR τ dq pq)
def MB (st : MT) : Prop := st.2.1 ≤ 100000000 ∧ st.2.2.1 ≤ 1000000
/-- what is sought -/
def SK (τ : MS) (aim y load dn : Nat) : Prop := τ.1 33 = nI aim ∧ τ.1 34 = nI y ∧ τ.1 35 = nI load ∧ (3 ≤ aim → τ.1 36 = nI dn)
theorem all_and {c : Option Nat} {b : Nat} : oI c &&& nI b = oI (some (match c with | none => b | some c => c &&& b)) := by
  cases c with
  | none =>
    show (-1 : Int32) &&& nI b = nI b
    apply Int32.toBitVec_inj.1
    show BitVec.allOnes 32 &&& _ = _
    exact BitVec.allOnes_and
  | some c => exact n_and c b
theorem cW_b {K : KD} (ok : KOK K) {aim dd : Nat} {s : Nat × List Nat} (hs : s.1 ≤ 774) (hd : dd ≤ 689634) : cW K aim dd s ≤ 100000000 := by
  have b8 := (ok_h ok).2.2.2.2.2.2.2.2.1
  unfold cW
  by_cases c : aim = 2
  · rw [if_pos c]
    have : kh K 8 * s.1 ≤ 99 * 774 := Nat.mul_le_mul b8 hs
    omega
  · rw [if_neg c]; omega
theorem meet_b {K : KD} (ok : KOK K) {aim a b y load dn : Nat} {st : MT} {w : List Nat × Nat × List Nat} (hs : w.2.1 ≤ 774) (ha : a < kh K 0) (hl : load ≤ 9) (h : MB st) : MB (meet K aim a b y load dn st w) := by
  have hd : dW K a b y load w.2 ≤ 689634 := dutyS_b ok (savK_b ok ha) hl
  have hc := cW_b (aim := aim) ok hs hd
  unfold meet
  split
  · exact h
  · split
    · split
      · exact h
      · exact h
    · split
      · exact h
      · exact ⟨hc, by show w.2.1 ≤ _; omega⟩
section MEETS
variable {d : Nat} {M : AM} {σ τ : MS} {K : KD} {Q : Option Value → AM → Prop}
theorem m_best_l {ps : List Nat} (h7 : ps.length ≤ 7) : ∀ (n i : Nat) (υ : MS) (z1 z2 : Option Value), i + n = ps.length → RW υ ps.length (fun i => ps.getD i 0) → (∀ j, j < i → υ.2.2.1 16 j = nI (ps.getD j 0)) → (∀ g, (∀ j, j < ps.length → g j = nI (ps.getD j 0)) → Q none (mset M (aset υ 16 g))) → Wp d md_229 213 [some (.ref 287), z1, z2, some (.int (nI i))] [] (mset M υ) Q := by
  intro n
  induction n with
  | zero =>
    intro i υ z1 z2 hi hW hb k
    refine Wp.n (pc' := 218) 3 rfl ?_
    refine Wp.top hW.1 ?_
    refine Wp.nc3 (x := i) (y := ps.length) (tgt := 239) (len := 3) rfl (by omega) (by omega) (fun h218 => ?_) (fun h218 => ?_)
    · skip
      refine Wp.retV (len := 1) rfl rfl ?_
      have q := k (υ.2.2.1 16) (fun j hj => hb j (by omega))
      rw [aset_same] at q
      exact q
    · omega
  | succ n ih =>
    intro i υ z1 z2 hi hW hb k
    refine Wp.n (pc' := 218) 3 rfl ?_
    refine Wp.top hW.1 ?_
    refine Wp.nc3 (x := i) (y := ps.length) (tgt := 239) (len := 3) rfl (by omega) (by omega) (fun h218 => ?_) (fun h218 => ?_)
    · omega
    · skip
      refine Wp.n (pc' := 231) 6 rfl ?_
      refine Wp.mialdN (j := i) (len := 1) rfl rfl rfl (by omega) ?_
      refine Wp.top (hW.2 i (by omega)) ?_
      refine Wp.miastN (j := i) (len := 1) rfl rfl rfl (by omega) ?_
      refine Wp.incN (x := i) (len := 3) rfl rfl ?_
      refine Wp.n (pc' := 213) 1 rfl ?_
      refine ih (i + 1) (aset υ 16 (upd (υ.2.2.1 16) i (nI (ps.getD i 0)))) _ _ (by omega) hW (fun j hj => ?_) (fun g hg => ?_)
      · show upd (υ.2.2.1 16) i _ j = _
        by_cases c : j = i
        · rw [c, pk_us]
        · rw [pk_un c]
          exact hb j (by omega)
      · rw [aset_aset]
        exact k g hg

theorem m_meets (hK : MK τ K) {aim a b y load dn : Nat} {ps : List Nat} {s : Nat × List Nat} {st : MT} (hA : SK τ aim y load dn) (haim : aim ≤ 4) (hy : y < 31) (hload : load ≤ 9) (hdn : dn < 2 ^ 31) (hW : RW τ ps.length (fun i => ps.getD i 0)) (h1 : 1 ≤ ps.length) (h7 : ps.length ≤ 7) (hP : ∀ i, i < ps.length → ps.getD i 0 < kh K 0) (ha : ps.getD 0 0 = a) (hb : ps.getD (ps.length - 1) 0 = b) (hL : LKs τ K s) (hS : SB K 6 s) (hR : MR τ st) (hB : MB st) : Wp (d + 4) md_229 0 [some (.ref 287), none, none, none] [] (mset M τ) (fun v M' => v = none ∧ ∃ τ', M' = mset M τ' ∧ Fr MF MA τ τ' ∧ MR τ' (meet K aim a b y load dn st (ps, s))) := by
  have ok := hK.2.1
  obtain ⟨b0, b1, b2, b3, b4, b5, b6, b7, b8, b9, b10, b11, b12⟩ := ok_h ok
  have ha0 : a < kh K 0 := by rw [← ha]; exact hP 0 (by omega)
  have hs1 : s.1 ≤ 774 := hS.1
  have hs2 : (wat K s.2).length ≤ 6 := Nat.le_trans (wat_len s.2) hS.2.1
  have hbt := SB_bits ok hS
  have hd : dW K a b y load s ≤ 689634 := dutyS_b ok (savK_b ok ha0) hload
  have hcw := cW_b (aim := aim) ok hs1 hd
  have hl2 : τ.2.2.1 7 2 = nI (kh K 8) := r0_law hK.1 (by omega) (j := 2) (by decide)
  have hlm : kh K 8 * s.1 ≤ 99 * 774 := Nat.mul_le_mul b8 hs1
  obtain ⟨hB1, hB2⟩ := hB
  obtain ⟨hR1, hR2, hR3, hR4, hR5⟩ := hR
  obtain ⟨hL1, hL2, hL3, hL4⟩ := hL
  have hdut : Wp (d + 3) md_215 0 [some (.ref 287), some (.int (nI y)), some (.int (nI load)), none] [] (mset M τ) (fun v M' => v = some (.int (nI (dW K a b y load s))) ∧ ∃ h, M' = mset M (aset τ 13 h)) := by
    have w := m_dutyOf (d := d) (M := M) (load := load) hK hW h1 h7 hP (by omega) hL1 hL2 hS.2.2 hy hload
    rw [ha, hb] at w
    exact w
  obtain ⟨g, hg⟩ : ∃ g, dW K a b y load s = g := ⟨_, rfl⟩
  rw [hg] at hdut hd
  unfold meet
  rw [show dW K a b y load (ps, s).2 = g from hg]
  obtain hk | hk | hk | hk | hk : aim = 0 ∨ aim = 1 ∨ aim = 2 ∨ aim = 3 ∨ aim = 4 := by omega
  · subst hk
    have ec : cW K 0 g s = 0 := rfl
    rw [if_neg (by omega), if_neg (by omega)]
    refine Wp.n (pc' := 4) 2 rfl ?_
    refine Wp.top hA.1 ?_
    refine Wp.n (pc' := 5) 1 rfl ?_
    refine Wp.nc1 (x := 0) (y := 1) (tgt := 16) (len := 3) rfl (by first | omega | (cases (bitsM s.2).testBit 8 <;> decide)) (by first | omega | (cases (bitsM s.2).testBit 8 <;> decide)) (fun h5 => ?_) (fun h5 => ?_)
    · skip
      refine Wp.n (pc' := 20) 2 rfl ?_
      refine Wp.top hA.1 ?_
      refine Wp.n (pc' := 21) 1 rfl ?_
      refine Wp.nc0 (x := 0) (y := 3) (tgt := 32) (len := 3) rfl (by first | omega | (cases (bitsM s.2).testBit 8 <;> decide)) (by first | omega | (cases (bitsM s.2).testBit 8 <;> decide)) (fun h21 => ?_) (fun h21 => ?_)
      · omega
      · skip
        refine Wp.n (pc' := 28) 2 rfl ?_
        refine Wp.top hA.1 ?_
        refine Wp.n (pc' := 29) 1 rfl ?_
        refine Wp.nc1 (x := 0) (y := 4) (tgt := 96) (len := 3) rfl (by first | omega | (cases (bitsM s.2).testBit 8 <;> decide)) (by first | omega | (cases (bitsM s.2).testBit 8 <;> decide)) (fun h29 => ?_) (fun h29 => ?_)
        · skip
          refine Wp.n (pc' := 101) 3 rfl ?_
          refine Wp.top hR1 ?_
          refine Wp.n (pc' := 102) 1 rfl ?_
          refine Wp.iaddN (x := st.1) (y := 1) (len := 1) rfl ?_
          refine Wp.mput (len := 3) rfl rfl ?_
          refine Wp.n (pc' := 110) 2 rfl ?_
          refine Wp.top hA.1 ?_
          refine Wp.n (pc' := 111) 1 rfl ?_
          refine Wp.nc1 (x := 0) (y := 2) (tgt := 129) (len := 3) rfl (by first | omega | (cases (bitsM s.2).testBit 8 <;> decide)) (by first | omega | (cases (bitsM s.2).testBit 8 <;> decide)) (fun h111 => ?_) (fun h111 => ?_)
          · skip
            refine Wp.n (pc' := 135) 4 rfl ?_
            refine Wp.top hA.1 ?_
            refine Wp.n (pc' := 136) 1 rfl ?_
            refine Wp.nc1 (x := 0) (y := 2) (tgt := 155) (len := 3) rfl (by first | omega | (cases (bitsM s.2).testBit 8 <;> decide)) (by first | omega | (cases (bitsM s.2).testBit 8 <;> decide)) (fun h136 => ?_) (fun h136 => ?_)
            · skip
              refine Wp.n (pc' := 162) 5 rfl ?_
              refine Wp.top hR2 ?_
              refine Wp.nc4 (x := 0) (y := st.2.1) (tgt := 184) (len := 3) rfl (by first | omega | (cases (bitsM s.2).testBit 8 <;> decide)) (by first | omega | (cases (bitsM s.2).testBit 8 <;> decide)) (fun h162 => ?_) (fun h162 => ?_)
              · skip
                refine Wp.retV (len := 1) rfl rfl ?_
                rw [if_pos (by show st.2.1 < cW K 0 g s ∨ (cW K 0 g s = st.2.1 ∧ st.2.2.1 ≤ s.1); omega)]
                exact ⟨rfl, _, rfl, (Fr.rfl'.fset rfl), rfl, hR2, hR3, hR4, hR5⟩
              · skip
                refine Wp.n (pc' := 170) 3 rfl ?_
                refine Wp.top hR2 ?_
                refine Wp.nc1 (x := 0) (y := st.2.1) (tgt := 185) (len := 3) rfl (by first | omega | (cases (bitsM s.2).testBit 8 <;> decide)) (by first | omega | (cases (bitsM s.2).testBit 8 <;> decide)) (fun h170 => ?_) (fun h170 => ?_)
                · skip
                  refine Wp.n (pc' := 187) 2 rfl ?_
                  refine Wp.mput (len := 3) rfl rfl ?_
                  refine Wp.n (pc' := 195) 3 rfl ?_
                  refine Wp.top hL1 ?_
                  refine Wp.mput (len := 3) rfl rfl ?_
                  refine Wp.n (pc' := 200) 2 rfl ?_
                  refine Wp.mput (len := 3) rfl rfl ?_
                  refine Wp.n (pc' := 208) 3 rfl ?_
                  refine Wp.top hW.1 ?_
                  refine Wp.mput (len := 3) rfl rfl ?_
                  refine Wp.n (pc' := 213) 2 rfl ?_
                  rw [if_neg (by show ¬ (st.2.1 < cW K 0 g s ∨ (cW K 0 g s = st.2.1 ∧ st.2.2.1 ≤ s.1)); omega)]
                  refine m_best_l h7 ps.length 0 _ _ _ (by omega) hW (fun j hj => absurd hj (Nat.not_lt_zero j)) (fun f hf => ?_)
                  refine ⟨rfl, _, rfl, (((((Fr.rfl'.fset rfl).fset rfl).fset rfl).fset rfl).fset rfl).aset rfl, rfl, rfl, rfl, hR4, fun dq pq hq => ?_⟩
                  cases hq
                  exact ⟨rfl, rfl, hf⟩
                · skip
                  refine Wp.n (pc' := 177) 2 rfl ?_
                  refine Wp.top hL1 ?_
                  refine Wp.n (pc' := 181) 2 rfl ?_
                  refine Wp.top hR3 ?_
                  refine Wp.nc2 (x := s.1) (y := st.2.2.1) (tgt := 185) (len := 3) rfl (by first | omega | (cases (bitsM s.2).testBit 8 <;> decide)) (by first | omega | (cases (bitsM s.2).testBit 8 <;> decide)) (fun h181 => ?_) (fun h181 => ?_)
                  · skip
                    refine Wp.n (pc' := 187) 2 rfl ?_
                    refine Wp.mput (len := 3) rfl rfl ?_
                    refine Wp.n (pc' := 195) 3 rfl ?_
                    refine Wp.top hL1 ?_
                    refine Wp.mput (len := 3) rfl rfl ?_
                    refine Wp.n (pc' := 200) 2 rfl ?_
                    refine Wp.mput (len := 3) rfl rfl ?_
                    refine Wp.n (pc' := 208) 3 rfl ?_
                    refine Wp.top hW.1 ?_
                    refine Wp.mput (len := 3) rfl rfl ?_
                    refine Wp.n (pc' := 213) 2 rfl ?_
                    rw [if_neg (by show ¬ (st.2.1 < cW K 0 g s ∨ (cW K 0 g s = st.2.1 ∧ st.2.2.1 ≤ s.1)); omega)]
                    refine m_best_l h7 ps.length 0 _ _ _ (by omega) hW (fun j hj => absurd hj (Nat.not_lt_zero j)) (fun f hf => ?_)
                    refine ⟨rfl, _, rfl, (((((Fr.rfl'.fset rfl).fset rfl).fset rfl).fset rfl).fset rfl).aset rfl, rfl, rfl, rfl, hR4, fun dq pq hq => ?_⟩
                    cases hq
                    exact ⟨rfl, rfl, hf⟩
                  · skip
                    refine Wp.retV (len := 1) rfl rfl ?_
                    rw [if_pos (by show st.2.1 < cW K 0 g s ∨ (cW K 0 g s = st.2.1 ∧ st.2.2.1 ≤ s.1); omega)]
                    exact ⟨rfl, _, rfl, (Fr.rfl'.fset rfl), rfl, hR2, hR3, hR4, hR5⟩
            · omega
          · omega
        · omega
    · omega
  · subst hk
    have ec : cW K 1 g s = 0 := rfl
    refine Wp.n (pc' := 4) 2 rfl ?_
    refine Wp.top hA.1 ?_
    refine Wp.n (pc' := 5) 1 rfl ?_
    refine Wp.nc1 (x := 1) (y := 1) (tgt := 16) (len := 3) rfl (by first | omega | (cases (bitsM s.2).testBit 8 <;> decide)) (by first | omega | (cases (bitsM s.2).testBit 8 <;> decide)) (fun h5 => ?_) (fun h5 => ?_)
    · omega
    · skip
      refine Wp.n (pc' := 12) 2 rfl ?_
      refine Wp.top hL3 ?_
      refine Wp.nz5 (x := (wat K s.2).length) (tgt := 16) (len := 3) rfl (by first | omega | (cases (bitsM s.2).testBit 8 <;> decide)) (fun h12 => ?_) (fun h12 => ?_)
      · skip
        refine Wp.n (pc' := 20) 2 rfl ?_
        refine Wp.top hA.1 ?_
        refine Wp.n (pc' := 21) 1 rfl ?_
        refine Wp.nc0 (x := 1) (y := 3) (tgt := 32) (len := 3) rfl (by first | omega | (cases (bitsM s.2).testBit 8 <;> decide)) (by first | omega | (cases (bitsM s.2).testBit 8 <;> decide)) (fun h21 => ?_) (fun h21 => ?_)
        · omega
        · skip
          refine Wp.n (pc' := 28) 2 rfl ?_
          refine Wp.top hA.1 ?_
          refine Wp.n (pc' := 29) 1 rfl ?_
          refine Wp.nc1 (x := 1) (y := 4) (tgt := 96) (len := 3) rfl (by first | omega | (cases (bitsM s.2).testBit 8 <;> decide)) (by first | omega | (cases (bitsM s.2).testBit 8 <;> decide)) (fun h29 => ?_) (fun h29 => ?_)
          · skip
            refine Wp.n (pc' := 101) 3 rfl ?_
            refine Wp.top hR1 ?_
            refine Wp.n (pc' := 102) 1 rfl ?_
            refine Wp.iaddN (x := st.1) (y := 1) (len := 1) rfl ?_
            refine Wp.mput (len := 3) rfl rfl ?_
            refine Wp.n (pc' := 110) 2 rfl ?_
            refine Wp.top hA.1 ?_
            refine Wp.n (pc' := 111) 1 rfl ?_
            refine Wp.nc1 (x := 1) (y := 2) (tgt := 129) (len := 3) rfl (by first | omega | (cases (bitsM s.2).testBit 8 <;> decide)) (by first | omega | (cases (bitsM s.2).testBit 8 <;> decide)) (fun h111 => ?_) (fun h111 => ?_)
            · skip
              refine Wp.n (pc' := 135) 4 rfl ?_
              refine Wp.top hA.1 ?_
              refine Wp.n (pc' := 136) 1 rfl ?_
              refine Wp.nc1 (x := 1) (y := 2) (tgt := 155) (len := 3) rfl (by first | omega | (cases (bitsM s.2).testBit 8 <;> decide)) (by first | omega | (cases (bitsM s.2).testBit 8 <;> decide)) (fun h136 => ?_) (fun h136 => ?_)
              · skip
                refine Wp.n (pc' := 162) 5 rfl ?_
                refine Wp.top hR2 ?_
                refine Wp.nc4 (x := 0) (y := st.2.1) (tgt := 184) (len := 3) rfl (by first | omega | (cases (bitsM s.2).testBit 8 <;> decide)) (by first | omega | (cases (bitsM s.2).testBit 8 <;> decide)) (fun h162 => ?_) (fun h162 => ?_)
                · skip
                  refine Wp.retV (len := 1) rfl rfl ?_
                  rw [if_neg (by rintro ⟨_, q⟩; have q2 : 0 < (wat K s.2).length := q; omega), if_neg (by omega)]
                  rw [if_pos (by show st.2.1 < cW K 1 g s ∨ (cW K 1 g s = st.2.1 ∧ st.2.2.1 ≤ s.1); omega)]
                  exact ⟨rfl, _, rfl, (Fr.rfl'.fset rfl), rfl, hR2, hR3, hR4, hR5⟩
                · skip
                  refine Wp.n (pc' := 170) 3 rfl ?_
                  refine Wp.top hR2 ?_
                  refine Wp.nc1 (x := 0) (y := st.2.1) (tgt := 185) (len := 3) rfl (by first | omega | (cases (bitsM s.2).testBit 8 <;> decide)) (by first | omega | (cases (bitsM s.2).testBit 8 <;> decide)) (fun h170 => ?_) (fun h170 => ?_)
                  · skip
                    refine Wp.n (pc' := 187) 2 rfl ?_
                    refine Wp.mput (len := 3) rfl rfl ?_
                    refine Wp.n (pc' := 195) 3 rfl ?_
                    refine Wp.top hL1 ?_
                    refine Wp.mput (len := 3) rfl rfl ?_
                    refine Wp.n (pc' := 200) 2 rfl ?_
                    refine Wp.mput (len := 3) rfl rfl ?_
                    refine Wp.n (pc' := 208) 3 rfl ?_
                    refine Wp.top hW.1 ?_
                    refine Wp.mput (len := 3) rfl rfl ?_
                    refine Wp.n (pc' := 213) 2 rfl ?_
                    rw [if_neg (by rintro ⟨_, q⟩; have q2 : 0 < (wat K s.2).length := q; omega), if_neg (by omega)]
                    rw [if_neg (by show ¬ (st.2.1 < cW K 1 g s ∨ (cW K 1 g s = st.2.1 ∧ st.2.2.1 ≤ s.1)); omega)]
                    refine m_best_l h7 ps.length 0 _ _ _ (by omega) hW (fun j hj => absurd hj (Nat.not_lt_zero j)) (fun f hf => ?_)
                    refine ⟨rfl, _, rfl, (((((Fr.rfl'.fset rfl).fset rfl).fset rfl).fset rfl).fset rfl).aset rfl, rfl, rfl, rfl, hR4, fun dq pq hq => ?_⟩
                    cases hq
                    exact ⟨rfl, rfl, hf⟩
                  · skip
                    refine Wp.n (pc' := 177) 2 rfl ?_
                    refine Wp.top hL1 ?_
                    refine Wp.n (pc' := 181) 2 rfl ?_
                    refine Wp.top hR3 ?_
                    refine Wp.nc2 (x := s.1) (y := st.2.2.1) (tgt := 185) (len := 3) rfl (by first | omega | (cases (bitsM s.2).testBit 8 <;> decide)) (by first | omega | (cases (bitsM s.2).testBit 8 <;> decide)) (fun h181 => ?_) (fun h181 => ?_)
                    · skip
                      refine Wp.n (pc' := 187) 2 rfl ?_
                      refine Wp.mput (len := 3) rfl rfl ?_
                      refine Wp.n (pc' := 195) 3 rfl ?_
                      refine Wp.top hL1 ?_
                      refine Wp.mput (len := 3) rfl rfl ?_
                      refine Wp.n (pc' := 200) 2 rfl ?_
                      refine Wp.mput (len := 3) rfl rfl ?_
                      refine Wp.n (pc' := 208) 3 rfl ?_
                      refine Wp.top hW.1 ?_
                      refine Wp.mput (len := 3) rfl rfl ?_
                      refine Wp.n (pc' := 213) 2 rfl ?_
                      rw [if_neg (by rintro ⟨_, q⟩; have q2 : 0 < (wat K s.2).length := q; omega), if_neg (by omega)]
                      rw [if_neg (by show ¬ (st.2.1 < cW K 1 g s ∨ (cW K 1 g s = st.2.1 ∧ st.2.2.1 ≤ s.1)); omega)]
                      refine m_best_l h7 ps.length 0 _ _ _ (by omega) hW (fun j hj => absurd hj (Nat.not_lt_zero j)) (fun f hf => ?_)
                      refine ⟨rfl, _, rfl, (((((Fr.rfl'.fset rfl).fset rfl).fset rfl).fset rfl).fset rfl).aset rfl, rfl, rfl, rfl, hR4, fun dq pq hq => ?_⟩
                      cases hq
                      exact ⟨rfl, rfl, hf⟩
                    · skip
                      refine Wp.retV (len := 1) rfl rfl ?_
                      rw [if_neg (by rintro ⟨_, q⟩; have q2 : 0 < (wat K s.2).length := q; omega), if_neg (by omega)]
                      rw [if_pos (by show st.2.1 < cW K 1 g s ∨ (cW K 1 g s = st.2.1 ∧ st.2.2.1 ≤ s.1); omega)]
                      exact ⟨rfl, _, rfl, (Fr.rfl'.fset rfl), rfl, hR2, hR3, hR4, hR5⟩
              · omega
            · omega
          · omega
      · skip
        refine Wp.retV (len := 1) rfl rfl ?_
        rw [if_pos ⟨rfl, by omega⟩]
        exact ⟨rfl, τ, rfl, Fr.rfl', hR1, hR2, hR3, hR4, hR5⟩
  · subst hk
    have hdut' : Wp (d + 3) md_215 0 [some (.ref 287), some (.int (nI y)), some (.int (nI load)), none] [] (mset M (fset τ 37 (nI (st.1 + 1)))) (fun v M' => v = some (.int (nI g)) ∧ ∃ h, M' = mset M (aset (fset τ 37 (nI (st.1 + 1))) 13 h)) := by
      have w := m_dutyOf (d := d) (M := M) (σ := fset τ 37 (nI (st.1 + 1))) (load := load) ⟨hK.1, hK.2.1, hK.2.2.1, hK.2.2.2⟩ hW h1 h7 hP (by omega) hL1 hL2 hS.2.2 hy hload
      rw [ha, hb] at w
      rw [show dutyS K (boatK K s.2) (savK K a b s.1) y load = g from hg] at w
      exact w
    have ec : cW K 2 g s = kh K 8 * s.1 + g := rfl
    rw [if_neg (by omega), if_neg (by omega)]
    refine Wp.n (pc' := 4) 2 rfl ?_
    refine Wp.top hA.1 ?_
    refine Wp.n (pc' := 5) 1 rfl ?_
    refine Wp.nc1 (x := 2) (y := 1) (tgt := 16) (len := 3) rfl (by first | omega | (cases (bitsM s.2).testBit 8 <;> decide)) (by first | omega | (cases (bitsM s.2).testBit 8 <;> decide)) (fun h5 => ?_) (fun h5 => ?_)
    · skip
      refine Wp.n (pc' := 20) 2 rfl ?_
      refine Wp.top hA.1 ?_
      refine Wp.n (pc' := 21) 1 rfl ?_
      refine Wp.nc0 (x := 2) (y := 3) (tgt := 32) (len := 3) rfl (by first | omega | (cases (bitsM s.2).testBit 8 <;> decide)) (by first | omega | (cases (bitsM s.2).testBit 8 <;> decide)) (fun h21 => ?_) (fun h21 => ?_)
      · omega
      · skip
        refine Wp.n (pc' := 28) 2 rfl ?_
        refine Wp.top hA.1 ?_
        refine Wp.n (pc' := 29) 1 rfl ?_
        refine Wp.nc1 (x := 2) (y := 4) (tgt := 96) (len := 3) rfl (by first | omega | (cases (bitsM s.2).testBit 8 <;> decide)) (by first | omega | (cases (bitsM s.2).testBit 8 <;> decide)) (fun h29 => ?_) (fun h29 => ?_)
        · skip
          refine Wp.n (pc' := 101) 3 rfl ?_
          refine Wp.top hR1 ?_
          refine Wp.n (pc' := 102) 1 rfl ?_
          refine Wp.iaddN (x := st.1) (y := 1) (len := 1) rfl ?_
          refine Wp.mput (len := 3) rfl rfl ?_
          refine Wp.n (pc' := 110) 2 rfl ?_
          refine Wp.top hA.1 ?_
          refine Wp.n (pc' := 111) 1 rfl ?_
          refine Wp.nc1 (x := 2) (y := 2) (tgt := 129) (len := 3) rfl (by first | omega | (cases (bitsM s.2).testBit 8 <;> decide)) (by first | omega | (cases (bitsM s.2).testBit 8 <;> decide)) (fun h111 => ?_) (fun h111 => ?_)
          · omega
          · skip
            refine Wp.n (pc' := 119) 3 rfl ?_
            refine Wp.top hA.2.1 ?_
            refine Wp.n (pc' := 123) 2 rfl ?_
            refine Wp.top hA.2.2.1 ?_
            refine Wp.callV (len := 3) rfl rfl rfl (rfl) rfl (by decide) rfl (hdut') ?_
            rintro _ _ ⟨rfl, h, rfl⟩
            refine Wp.n (pc' := 135) 4 rfl ?_
            refine Wp.top hA.1 ?_
            refine Wp.n (pc' := 136) 1 rfl ?_
            refine Wp.nc1 (x := 2) (y := 2) (tgt := 155) (len := 3) rfl (by first | omega | (cases (bitsM s.2).testBit 8 <;> decide)) (by first | omega | (cases (bitsM s.2).testBit 8 <;> decide)) (fun h136 => ?_) (fun h136 => ?_)
            · omega
            · skip
              refine Wp.n (pc' := 144) 3 rfl ?_
              refine Wp.mialdN (j := 2) (len := 1) rfl rfl rfl (by omega) ?_
              refine Wp.top hl2 ?_
              refine Wp.n (pc' := 149) 2 rfl ?_
              refine Wp.top hL1 ?_
              refine Wp.imulN (x := kh K 8) (y := s.1) (len := 1) rfl ?_
              refine Wp.n (pc' := 151) 1 rfl ?_
              refine Wp.iaddN (x := (kh K 8) * (s.1)) (y := g) (len := 1) rfl ?_
              refine Wp.n (pc' := 162) 5 rfl ?_
              refine Wp.top hR2 ?_
              refine Wp.nc4 (x := ((kh K 8) * (s.1)) + g) (y := st.2.1) (tgt := 184) (len := 3) rfl (by first | omega | (cases (bitsM s.2).testBit 8 <;> decide)) (by first | omega | (cases (bitsM s.2).testBit 8 <;> decide)) (fun h162 => ?_) (fun h162 => ?_)
              · skip
                refine Wp.retV (len := 1) rfl rfl ?_
                rw [if_pos (by show st.2.1 < cW K 2 g s ∨ (cW K 2 g s = st.2.1 ∧ st.2.2.1 ≤ s.1); omega)]
                exact ⟨rfl, _, rfl, ((Fr.rfl'.fset rfl).aset rfl), rfl, hR2, hR3, hR4, hR5⟩
              · skip
                refine Wp.n (pc' := 170) 3 rfl ?_
                refine Wp.top hR2 ?_
                refine Wp.nc1 (x := ((kh K 8) * (s.1)) + g) (y := st.2.1) (tgt := 185) (len := 3) rfl (by first | omega | (cases (bitsM s.2).testBit 8 <;> decide)) (by first | omega | (cases (bitsM s.2).testBit 8 <;> decide)) (fun h170 => ?_) (fun h170 => ?_)
                · skip
                  refine Wp.n (pc' := 187) 2 rfl ?_
                  refine Wp.mput (len := 3) rfl rfl ?_
                  refine Wp.n (pc' := 195) 3 rfl ?_
                  refine Wp.top hL1 ?_
                  refine Wp.mput (len := 3) rfl rfl ?_
                  refine Wp.n (pc' := 200) 2 rfl ?_
                  refine Wp.mput (len := 3) rfl rfl ?_
                  refine Wp.n (pc' := 208) 3 rfl ?_
                  refine Wp.top hW.1 ?_
                  refine Wp.mput (len := 3) rfl rfl ?_
                  refine Wp.n (pc' := 213) 2 rfl ?_
                  rw [if_neg (by show ¬ (st.2.1 < cW K 2 g s ∨ (cW K 2 g s = st.2.1 ∧ st.2.2.1 ≤ s.1)); omega)]
                  refine m_best_l h7 ps.length 0 _ _ _ (by omega) hW (fun j hj => absurd hj (Nat.not_lt_zero j)) (fun f hf => ?_)
                  refine ⟨rfl, _, rfl, ((((((Fr.rfl'.fset rfl).aset rfl).fset rfl).fset rfl).fset rfl).fset rfl).aset rfl, rfl, rfl, rfl, hR4, fun dq pq hq => ?_⟩
                  cases hq
                  exact ⟨rfl, rfl, hf⟩
                · skip
                  refine Wp.n (pc' := 177) 2 rfl ?_
                  refine Wp.top hL1 ?_
                  refine Wp.n (pc' := 181) 2 rfl ?_
                  refine Wp.top hR3 ?_
                  refine Wp.nc2 (x := s.1) (y := st.2.2.1) (tgt := 185) (len := 3) rfl (by first | omega | (cases (bitsM s.2).testBit 8 <;> decide)) (by first | omega | (cases (bitsM s.2).testBit 8 <;> decide)) (fun h181 => ?_) (fun h181 => ?_)
                  · skip
                    refine Wp.n (pc' := 187) 2 rfl ?_
                    refine Wp.mput (len := 3) rfl rfl ?_
                    refine Wp.n (pc' := 195) 3 rfl ?_
                    refine Wp.top hL1 ?_
                    refine Wp.mput (len := 3) rfl rfl ?_
                    refine Wp.n (pc' := 200) 2 rfl ?_
                    refine Wp.mput (len := 3) rfl rfl ?_
                    refine Wp.n (pc' := 208) 3 rfl ?_
                    refine Wp.top hW.1 ?_
                    refine Wp.mput (len := 3) rfl rfl ?_
                    refine Wp.n (pc' := 213) 2 rfl ?_
                    rw [if_neg (by show ¬ (st.2.1 < cW K 2 g s ∨ (cW K 2 g s = st.2.1 ∧ st.2.2.1 ≤ s.1)); omega)]
                    refine m_best_l h7 ps.length 0 _ _ _ (by omega) hW (fun j hj => absurd hj (Nat.not_lt_zero j)) (fun f hf => ?_)
                    refine ⟨rfl, _, rfl, ((((((Fr.rfl'.fset rfl).aset rfl).fset rfl).fset rfl).fset rfl).fset rfl).aset rfl, rfl, rfl, rfl, hR4, fun dq pq hq => ?_⟩
                    cases hq
                    exact ⟨rfl, rfl, hf⟩
                  · skip
                    refine Wp.retV (len := 1) rfl rfl ?_
                    rw [if_pos (by show st.2.1 < cW K 2 g s ∨ (cW K 2 g s = st.2.1 ∧ st.2.2.1 ≤ s.1); omega)]
                    exact ⟨rfl, _, rfl, ((Fr.rfl'.fset rfl).aset rfl), rfl, hR2, hR3, hR4, hR5⟩
        · omega
    · omega
  · subst hk
    rw [if_neg (by omega), if_pos (by omega)]
    refine Wp.n (pc' := 4) 2 rfl ?_
    refine Wp.top hA.1 ?_
    refine Wp.n (pc' := 5) 1 rfl ?_
    refine Wp.nc1 (x := 3) (y := 1) (tgt := 16) (len := 3) rfl (by first | omega | (cases (bitsM s.2).testBit 8 <;> decide)) (by first | omega | (cases (bitsM s.2).testBit 8 <;> decide)) (fun h5 => ?_) (fun h5 => ?_)
    · skip
      refine Wp.n (pc' := 20) 2 rfl ?_
      refine Wp.top hA.1 ?_
      refine Wp.n (pc' := 21) 1 rfl ?_
      refine Wp.nc0 (x := 3) (y := 3) (tgt := 32) (len := 3) rfl (by first | omega | (cases (bitsM s.2).testBit 8 <;> decide)) (by first | omega | (cases (bitsM s.2).testBit 8 <;> decide)) (fun h21 => ?_) (fun h21 => ?_)
      · skip
        refine Wp.n (pc' := 37) 3 rfl ?_
        refine Wp.top hA.2.1 ?_
        refine Wp.n (pc' := 41) 2 rfl ?_
        refine Wp.top hA.2.2.1 ?_
        refine Wp.callV (len := 3) rfl rfl rfl (rfl) rfl (by decide) rfl (hdut) ?_
        rintro _ _ ⟨rfl, h, rfl⟩
        refine Wp.n (pc' := 48) 2 rfl ?_
        refine Wp.top (hA.2.2.2 (by omega)) ?_
        refine Wp.nc1 (x := g) (y := dn) (tgt := 71) (len := 3) rfl (by first | omega | (cases (bitsM s.2).testBit 8 <;> decide)) (by first | omega | (cases (bitsM s.2).testBit 8 <;> decide)) (fun h48 => ?_) (fun h48 => ?_)
        · skip
          refine Wp.retV (len := 1) rfl rfl ?_
          first
            | (rw [if_neg (fun q => h48 q.1)]; exact ⟨rfl, _, rfl, Fr.rfl'.aset rfl, hR1, hR2, hR3, hR4, hR5⟩)
            | (rw [if_neg (fun q => by have q2 := q.2 rfl; rw [show (ps, s).2.2 = s.2 from rfl, ← bits_tb] at q2; rw [q2] at h68; exact absurd h68 (by decide))]; exact ⟨rfl, _, rfl, Fr.rfl'.aset rfl, hR1, hR2, hR3, hR4, hR5⟩)
        · skip
          refine Wp.n (pc' := 55) 2 rfl ?_
          refine Wp.top hA.1 ?_
          refine Wp.n (pc' := 56) 1 rfl ?_
          refine Wp.nc1 (x := 3) (y := 4) (tgt := 72) (len := 3) rfl (by first | omega | (cases (bitsM s.2).testBit 8 <;> decide)) (by first | omega | (cases (bitsM s.2).testBit 8 <;> decide)) (fun h56 => ?_) (fun h56 => ?_)
          · skip
            refine Wp.n (pc' := 77) 3 rfl ?_
            refine Wp.top hR4 ?_
            refine Wp.n (pc' := 81) 2 rfl ?_
            refine Wp.top hL2 ?_
            refine Wp.n (pc' := 82) 1 rfl ?_
            refine Wp.top all_and ?_
            refine Wp.mput (len := 3) rfl rfl ?_
            refine Wp.n (pc' := 90) 3 rfl ?_
            refine Wp.top hR1 ?_
            refine Wp.n (pc' := 91) 1 rfl ?_
            refine Wp.iaddN (x := st.1) (y := 1) (len := 1) rfl ?_
            refine Wp.mput (len := 3) rfl rfl ?_
            refine Wp.retV (len := 1) rfl rfl ?_
            rw [if_pos ⟨h48, fun q => by omega⟩]
            exact ⟨rfl, _, rfl, ((Fr.rfl'.aset rfl).fset rfl).fset rfl, rfl, hR2, hR3, rfl, hR5⟩
          · omega
      · omega
    · omega
  · subst hk
    rw [if_neg (by omega), if_pos (by omega)]
    refine Wp.n (pc' := 4) 2 rfl ?_
    refine Wp.top hA.1 ?_
    refine Wp.n (pc' := 5) 1 rfl ?_
    refine Wp.nc1 (x := 4) (y := 1) (tgt := 16) (len := 3) rfl (by first | omega | (cases (bitsM s.2).testBit 8 <;> decide)) (by first | omega | (cases (bitsM s.2).testBit 8 <;> decide)) (fun h5 => ?_) (fun h5 => ?_)
    · skip
      refine Wp.n (pc' := 20) 2 rfl ?_
      refine Wp.top hA.1 ?_
      refine Wp.n (pc' := 21) 1 rfl ?_
      refine Wp.nc0 (x := 4) (y := 3) (tgt := 32) (len := 3) rfl (by first | omega | (cases (bitsM s.2).testBit 8 <;> decide)) (by first | omega | (cases (bitsM s.2).testBit 8 <;> decide)) (fun h21 => ?_) (fun h21 => ?_)
      · omega
      · skip
        refine Wp.n (pc' := 28) 2 rfl ?_
        refine Wp.top hA.1 ?_
        refine Wp.n (pc' := 29) 1 rfl ?_
        refine Wp.nc1 (x := 4) (y := 4) (tgt := 96) (len := 3) rfl (by first | omega | (cases (bitsM s.2).testBit 8 <;> decide)) (by first | omega | (cases (bitsM s.2).testBit 8 <;> decide)) (fun h29 => ?_) (fun h29 => ?_)
        · omega
        · skip
          refine Wp.n (pc' := 37) 3 rfl ?_
          refine Wp.top hA.2.1 ?_
          refine Wp.n (pc' := 41) 2 rfl ?_
          refine Wp.top hA.2.2.1 ?_
          refine Wp.callV (len := 3) rfl rfl rfl (rfl) rfl (by decide) rfl (hdut) ?_
          rintro _ _ ⟨rfl, h, rfl⟩
          refine Wp.n (pc' := 48) 2 rfl ?_
          refine Wp.top (hA.2.2.2 (by omega)) ?_
          refine Wp.nc1 (x := g) (y := dn) (tgt := 71) (len := 3) rfl (by first | omega | (cases (bitsM s.2).testBit 8 <;> decide)) (by first | omega | (cases (bitsM s.2).testBit 8 <;> decide)) (fun h48 => ?_) (fun h48 => ?_)
          · skip
            refine Wp.retV (len := 1) rfl rfl ?_
            first
              | (rw [if_neg (fun q => h48 q.1)]; exact ⟨rfl, _, rfl, Fr.rfl'.aset rfl, hR1, hR2, hR3, hR4, hR5⟩)
              | (rw [if_neg (fun q => by have q2 := q.2 rfl; rw [show (ps, s).2.2 = s.2 from rfl, ← bits_tb] at q2; rw [q2] at h68; exact absurd h68 (by decide))]; exact ⟨rfl, _, rfl, Fr.rfl'.aset rfl, hR1, hR2, hR3, hR4, hR5⟩)
          · skip
            refine Wp.n (pc' := 55) 2 rfl ?_
            refine Wp.top hA.1 ?_
            refine Wp.n (pc' := 56) 1 rfl ?_
            refine Wp.nc1 (x := 4) (y := 4) (tgt := 72) (len := 3) rfl (by first | omega | (cases (bitsM s.2).testBit 8 <;> decide)) (by first | omega | (cases (bitsM s.2).testBit 8 <;> decide)) (fun h56 => ?_) (fun h56 => ?_)
            · omega
            · skip
              refine Wp.n (pc' := 63) 2 rfl ?_
              refine Wp.top hL2 ?_
              refine Wp.n (pc' := 68) 4 rfl ?_
              refine Wp.top (n_bitI (y := 8) (by omega) (by decide)) ?_
              refine Wp.nz1 (x := ((bitsM s.2).testBit 8).toNat) (tgt := 72) (len := 3) rfl (by first | omega | (cases (bitsM s.2).testBit 8 <;> decide)) (fun h68 => ?_) (fun h68 => ?_)
              · skip
                refine Wp.n (pc' := 77) 3 rfl ?_
                refine Wp.top hR4 ?_
                refine Wp.n (pc' := 81) 2 rfl ?_
                refine Wp.top hL2 ?_
                refine Wp.n (pc' := 82) 1 rfl ?_
                refine Wp.top all_and ?_
                refine Wp.mput (len := 3) rfl rfl ?_
                refine Wp.n (pc' := 90) 3 rfl ?_
                refine Wp.top hR1 ?_
                refine Wp.n (pc' := 91) 1 rfl ?_
                refine Wp.iaddN (x := st.1) (y := 1) (len := 1) rfl ?_
                refine Wp.mput (len := 3) rfl rfl ?_
                refine Wp.retV (len := 1) rfl rfl ?_
                rw [if_pos ⟨h48, fun _ => by rw [show (ps, s).2.2 = s.2 from rfl, ← bits_tb]; cases e : (bitsM s.2).testBit 8 with | true => rfl | false => rw [e] at h68; exact absurd rfl h68⟩]
                exact ⟨rfl, _, rfl, ((Fr.rfl'.aset rfl).fset rfl).fset rfl, rfl, hR2, hR3, rfl, hR5⟩
              · skip
                refine Wp.retV (len := 1) rfl rfl ?_
                first
                  | (rw [if_neg (fun q => h48 q.1)]; exact ⟨rfl, _, rfl, Fr.rfl'.aset rfl, hR1, hR2, hR3, hR4, hR5⟩)
                  | (rw [if_neg (fun q => by have q2 := q.2 rfl; rw [show (ps, s).2.2 = s.2 from rfl, ← bits_tb] at q2; rw [q2] at h68; exact absurd h68 (by decide))]; exact ⟨rfl, _, rfl, Fr.rfl'.aset rfl, hR1, hR2, hR3, hR4, hR5⟩)
    · omega

end MEETS
end
section
/-! goesOn, seeks. -/
def GO (σ τ : MS) (aim y load dn : Nat) (ps : List Nat) (st : MT) : Prop := Scr σ τ ∧ SK τ aim y load dn ∧ (∀ i, i < ps.length → τ.2.2.1 14 i = nI (ps.getD i 0)) ∧ MR τ st ∧ MB st
section GOES
theorem tb_t {b : Bool} (h : b.toNat = 1) : b = true := by cases b <;> first | rfl | cases h
theorem tb_f {b : Bool} (h : b.toNat ≠ 1) : b = false := by cases b <;> first | rfl | exact absurd rfl h
variable {d : Nat} {M : AM} {σ τ : MS} {K : KD} {Q : Option Value → AM → Prop}
theorem SK_fr {σ τ : MS} {F A : List Nat} {aim y load dn : Nat} (h : SK σ aim y load dn) (e : Fr F A σ τ) (h33 : List.elem 33 F = false) (h34 : List.elem 34 F = false) (h35 : List.elem 35 F = false) (h36 : List.elem 36 F = false) : SK τ aim y load dn := ⟨(e.1 33 h33).trans h.1, (e.1 34 h34).trans h.2.1, (e.1 35 h35).trans h.2.2.1, fun q => (e.1 36 h36).trans (h.2.2.2 q)⟩
theorem MR_fr {σ τ : MS} {F A : List Nat} {st : MT} (h : MR σ st) (e : Fr F A σ τ) (h37 : List.elem 37 F = false) (h38 : List.elem 38 F = false) (h39 : List.elem 39 F = false) (h40 : List.elem 40 F = false) (h41 : List.elem 41 F = false) (h42 : List.elem 42 F = false) (h16 : List.elem 16 A = false) : MR τ st := ⟨(e.1 37 h37).trans h.1, (e.1 38 h38).trans h.2.1, (e.1 39 h39).trans h.2.2.1, (e.1 42 h42).trans h.2.2.2.1, fun dq pq hq => by
  obtain ⟨q1, q2, q3⟩ := h.2.2.2.2 dq pq hq
  exact ⟨(e.1 40 h40).trans q1, (e.1 41 h41).trans q2, fun i hi => by rw [e.2.1 16 h16]; exact q3 i hi⟩⟩
theorem m_go_p {f : Nat} {aim a t y load dn : Nat} (haim : aim ≤ 4) (ht : t < kh K 0) (hy : y < 31) (hload : load ≤ 9) (hdn : dn < 2 ^ 31) (hM : MK σ K) {e0 : Nat} (hfe : f ≤ e0) (ih : ∀ (ps : List Nat) (q : Nat) (s : Nat × List Nat) (st : MT) (τ : MS) (e : Nat), f + 5 ≤ e → f + ps.length = 8 → PV K y ps q s → ps.getD 0 0 = a → GO σ τ aim y load dn ps st → Wp e md_228 0 [some (.ref 287), some (.int (nI t)), some (.int (nI (ps.length))), some (.int (nI (bitsM ps))), none] [] (mset M τ) (fun v M' => v = none ∧ ∃ τ', M' = mset M τ' ∧ GO σ τ' aim y load dn ps (List.foldl (meet K aim a t y load dn) st (dfs K y t f ps q s)))) {ps : List Nat} {q : Nat} {s : Nat × List Nat} (hf : f + 1 + ps.length = 8) (hP : PV K y ps q s) (ha : ps.getD 0 0 = a) : ∀ (n p : Nat) (st : MT) (τ : MS), p + n = kh K 0 → GO σ τ aim y load dn ps st → Wp (e0 + 6) md_228 34 [some (.ref 287), some (.int (nI t)), some (.int (nI (ps.length))), some (.int (nI (bitsM ps))), some (.int (nI p))] [] (mset M τ) (fun v M' => v = none ∧ ∃ τ', M' = mset M τ' ∧ GO σ τ' aim y load dn ps (List.foldl (meet K aim a t y load dn) st (loopL (fun p => if ps.contains p = true then [] else match joinK K q p y with | none => [] | some j => dfs K y t f (ps ++ [p]) p (addJ K s j)) n p))) := by
  have ok := hM.2.1
  obtain ⟨b0, b1, b2, b3, b4, b5, b6, b7, b8, b9, b10, b11, b12⟩ := ok_h ok
  have hl := PV_len ok hP
  have h1 := hP.1
  have hq := PV_q hP
  have hbt : bitsM ps < 2 ^ 9 := bits_lt (fun l hl => by have := hP.2.2.2.1 l hl; omega)
  intro n
  induction n with
  | zero =>
    intro p st τ hp hG
    have hK := MK_scr hM hG.1
    refine Wp.n (pc' := 41) 4 rfl ?_
    refine Wp.mialdN (j := 0) (len := 1) rfl rfl rfl (by omega) ?_
    refine Wp.top (r0_has hK.1 (by decide)) ?_
    refine Wp.nc3 (x := p) (y := kh K 0) (tgt := 108) (len := 3) rfl (by omega) (by omega) (fun h42 => ?_) (fun h42 => ?_)
    · skip
      refine Wp.retV (len := 1) rfl rfl ?_
      exact ⟨rfl, τ, rfl, hG⟩
    · omega
  | succ n ihn =>
    intro p st τ hp hG
    have hK := MK_scr hM hG.1
    have hr : τ.2.2.1 14 (ps.length - 1) = nI q := by rw [hG.2.2.1 _ (by omega), hP.2.1]
    have ht2 := bits_tb ps p
    have kf : (fun p => if ps.contains p = true then [] else match joinK K q p y with | none => [] | some j => dfs K y t f (ps ++ [p]) p (addJ K s j)) p = [] → Wp (e0 + 6) md_228 34 [some (.ref 287), some (.int (nI t)), some (.int (nI (ps.length))), some (.int (nI (bitsM ps))), some (.int (nI (p + 1)))] [] (mset M τ) (fun v M' => v = none ∧ ∃ τ', M' = mset M τ' ∧ GO σ τ' aim y load dn ps (List.foldl (meet K aim a t y load dn) st (loopL (fun p => if ps.contains p = true then [] else match joinK K q p y with | none => [] | some j => dfs K y t f (ps ++ [p]) p (addJ K s j)) (n + 1) p))) := by
      intro e
      rw [show loopL (fun p => if ps.contains p = true then [] else match joinK K q p y with | none => [] | some j => dfs K y t f (ps ++ [p]) p (addJ K s j)) (n + 1) p = (fun p => if ps.contains p = true then [] else match joinK K q p y with | none => [] | some j => dfs K y t f (ps ++ [p]) p (addJ K s j)) p ++ loopL (fun p => if ps.contains p = true then [] else match joinK K q p y with | none => [] | some j => dfs K y t f (ps ++ [p]) p (addJ K s j)) n (p + 1) from rfl, e, List.nil_append]
      exact ihn (p + 1) st τ (by omega) hG
    refine Wp.n (pc' := 41) 4 rfl ?_
    refine Wp.mialdN (j := 0) (len := 1) rfl rfl rfl (by omega) ?_
    refine Wp.top (r0_has hK.1 (by decide)) ?_
    refine Wp.nc3 (x := p) (y := kh K 0) (tgt := 108) (len := 3) rfl (by first | omega | (cases (bitsM ps).testBit p <;> decide)) (by first | omega | (cases (bitsM ps).testBit p <;> decide)) (fun h42 => ?_) (fun h42 => ?_)
    · omega
    · skip
      refine Wp.n (pc' := 51) 5 rfl ?_
      refine Wp.top (n_bitI (by omega) (by omega)) ?_
      refine Wp.n (pc' := 52) 1 rfl ?_
      refine Wp.nc0 (x := ((bitsM ps).testBit p).toNat) (y := 1) (tgt := 102) (len := 3) rfl (by first | omega | (cases (bitsM ps).testBit p <;> decide)) (by first | omega | (cases (bitsM ps).testBit p <;> decide)) (fun h52 => ?_) (fun h52 => ?_)
      · skip
        refine Wp.incN (x := p) (len := 3) rfl rfl ?_
        refine Wp.n (pc' := 34) 1 rfl ?_
        exact kf (if_pos (by rw [← ht2]; exact tb_t h52))
      · skip
        have hc : ps.contains p = false := by rw [← ht2]; exact tb_f h52
        refine Wp.n (pc' := 62) 5 rfl ?_
        refine Wp.isubN (x := ps.length) (y := 1) (len := 1) rfl (by omega) ?_
        refine Wp.mialdN (j := (ps.length) - 1) (len := 1) rfl rfl rfl (by omega) ?_
        refine Wp.top hr ?_
        refine Wp.n (pc' := 70) 3 rfl ?_
        refine Wp.top hG.2.1.2.1 ?_
        refine Wp.ecallV (len := 3) rfl rfl rfl (rfl) rfl (by decide) rfl (m_joined hK.1 hK.2.2.1 ok (by omega) (by omega) hy) ?_
        rcases hj : joinK K q p y with _ | j
        · skip
          refine Wp.n (pc' := 74) 1 rfl ?_
          refine Wp.ic1 (tgt := 80) (len := 3) rfl (fun h74 => ?_) (fun h74 => ?_)
          · exact absurd rfl h74
          · skip
            refine Wp.n (pc' := 102) 1 rfl ?_
            refine Wp.incN (x := p) (len := 3) rfl rfl ?_
            refine Wp.n (pc' := 34) 1 rfl ?_
            exact kf ((if_neg (by rw [hc]; decide)).trans (by rw [hj]))
        · have hjv := joinK_v ok hj
          have hjb : j < 29 := by
            rcases hjv with q | ⟨q1, q2⟩
            · omega
            · have := LV_8 ok q2; omega
          refine Wp.n (pc' := 74) 1 rfl ?_
          refine Wp.ic1 (tgt := 80) (len := 3) rfl (fun h74 => ?_) (fun h74 => ?_)
          · skip
            refine Wp.n (pc' := 87) 4 rfl ?_
            have hl3 : ps.length + 1 ≤ kh K 0 := by
              have q := PV_len ok (PV_s hP (by omega) hc hj)
              rw [List.length_append] at q
              exact q
            refine Wp.miastN (j := ps.length) (len := 1) rfl rfl rfl (by omega) ?_
            have hGp : GO σ (aset τ 14 (upd (τ.2.2.1 14) ps.length (nI p))) aim y load dn (ps ++ [p]) st := by
              refine ⟨hG.1.aset rfl, hG.2.1, fun i hi => ?_, hG.2.2.2.1, hG.2.2.2.2⟩
              have hi' : i < ps.length + 1 := by rw [List.length_append] at hi; exact hi
              show upd (τ.2.2.1 14) ps.length (nI p) i = _
              by_cases c : i = ps.length
              · rw [c, pk_us, getD_end]
              · rw [pk_un c, getD_app (by omega)]
                exact hG.2.2.1 i (by omega)
            refine Wp.n (pc' := 92) 4 rfl ?_
            refine Wp.iaddN (x := ps.length) (y := 1) (len := 1) rfl ?_
            refine Wp.n (pc' := 99) 5 rfl ?_
            refine Wp.top (by rw [n_sh1 _ (by omega), n_or]) ?_
            refine Wp.callV (len := 3) rfl rfl rfl (rfl) rfl (by decide) rfl (by
              have w := ih (ps ++ [p]) p (addJ K s j) st _ (e0 + 5) (by omega) (by rw [List.length_append]; show f + (ps.length + 1) = 8; omega) (PV_s hP (by omega) hc hj) (by rw [getD_app (by omega)]; exact ha) hGp
              rw [bitsM_app, List.length_append] at w
              exact w) ?_
            rintro _ _ ⟨rfl, τ2, rfl, hG2⟩
            refine Wp.incN (x := p) (len := 3) rfl rfl ?_
            refine Wp.n (pc' := 34) 1 rfl ?_
            have e : (fun p => if ps.contains p = true then [] else match joinK K q p y with | none => [] | some j => dfs K y t f (ps ++ [p]) p (addJ K s j)) p = dfs K y t f (ps ++ [p]) p (addJ K s j) := (if_neg (by rw [hc]; decide)).trans (by rw [hj])
            rw [show loopL (fun p => if ps.contains p = true then [] else match joinK K q p y with | none => [] | some j => dfs K y t f (ps ++ [p]) p (addJ K s j)) (n + 1) p = (fun p => if ps.contains p = true then [] else match joinK K q p y with | none => [] | some j => dfs K y t f (ps ++ [p]) p (addJ K s j)) p ++ loopL (fun p => if ps.contains p = true then [] else match joinK K q p y with | none => [] | some j => dfs K y t f (ps ++ [p]) p (addJ K s j)) n (p + 1) from rfl, e, List.foldl_append]
            exact ihn (p + 1) _ τ2 (by omega) ⟨hG2.1, hG2.2.1, fun i hi => by rw [hG2.2.2.1 i (by rw [List.length_append]; omega), getD_app hi], hG2.2.2.2⟩
          · exact absurd h74 (oI_ne (by omega))

theorem m_goesOn {aim a t y load dn : Nat} (haim : aim ≤ 4) (ht : t < kh K 0) (hy : y < 31) (hload : load ≤ 9) (hdn : dn < 2 ^ 31) (hM : MK σ K) : ∀ (f : Nat) (ps : List Nat) (q : Nat) (s : Nat × List Nat) (st : MT) (τ : MS) (e : Nat), f + 5 ≤ e → f + ps.length = 8 → PV K y ps q s → ps.getD 0 0 = a → GO σ τ aim y load dn ps st → Wp e md_228 0 [some (.ref 287), some (.int (nI t)), some (.int (nI (ps.length))), some (.int (nI (bitsM ps))), none] [] (mset M τ) (fun v M' => v = none ∧ ∃ τ', M' = mset M τ' ∧ GO σ τ' aim y load dn ps (List.foldl (meet K aim a t y load dn) st (dfs K y t f ps q s))) := by
  have ok := hM.2.1
  obtain ⟨b0, b1, b2, b3, b4, b5, b6, b7, b8, b9, b10, b11, b12⟩ := ok_h ok
  intro f
  induction f with
  | zero =>
    intro ps q s st τ e he hf hP ha hG
    have := PV_len ok hP
    omega
  | succ f ih =>
    intro ps q s st τ e he hf hP ha hG
    obtain ⟨e0, rfl⟩ : ∃ e0, e = e0 + 6 := ⟨e - 6, by omega⟩
    have hl := PV_len ok hP
    have h1 := hP.1
    have hq := PV_q hP
    have hK := MK_scr hM hG.1
    have hr : τ.2.2.1 14 (ps.length - 1) = nI q := by rw [hG.2.2.1 _ (by omega), hP.2.1]
    have hin : ∀ i, i < ps.length → ps.getD i 0 < kh K 0 := fun i hi => by
      rw [List.getD_eq_getElem?_getD, List.getElem?_eq_getElem hi]
      exact hP.2.2.2.1 _ (List.getElem_mem _)
    unfold dfs
    refine Wp.n (pc' := 6) 4 rfl ?_
    refine Wp.isubN (x := ps.length) (y := 1) (len := 1) rfl (by omega) ?_
    refine Wp.mialdN (j := (ps.length) - 1) (len := 1) rfl rfl rfl (by omega) ?_
    refine Wp.top hr ?_
    refine Wp.n (pc' := 9) 1 rfl ?_
    refine Wp.nc1 (x := q) (y := t) (tgt := 31) (len := 3) rfl (by omega) (by omega) (fun h9 => ?_) (fun h9 => ?_)
    · skip
      refine Wp.n (pc' := 34) 2 rfl ?_
      rw [if_neg h9]
      exact m_go_p haim ht hy hload hdn hM (by omega) ih (by omega) hP ha (kh K 0) 0 st τ (by omega) hG
    · skip
      rw [if_pos h9]
      refine Wp.n (pc' := 14) 2 rfl ?_
      refine Wp.mput (len := 3) rfl rfl ?_
      refine Wp.n (pc' := 22) 3 rfl ?_
      refine Wp.top hG.2.1.2.1 ?_
      refine Wp.callV (len := 3) rfl rfl rfl (rfl) rfl (by decide) rfl (m_looks (d := e0 + 2) (m := ps.length) (P := fun i => ps.getD i 0) (MK_scr hM (hG.1.fset rfl)) rfl h1 (by omega) hy (fun i hi => ⟨hG.2.2.1 i hi, by have := hin i hi; omega⟩)) ?_
      rintro _ _ ⟨τ2, rfl, rfl, hF2, hL2⟩
      rw [hP.2.2.2.2] at hL2
      have hS2 : Scr σ τ2 := Scr_t (hG.1.fset rfl) (Scr_L hF2)
      have hW2 : RW τ2 ps.length (fun i => ps.getD i 0) := ⟨hF2.1 27 rfl, fun i hi => by rw [hF2.2.1 14 rfl]; exact hG.2.2.1 i hi⟩
      refine Wp.n (pc' := 27) 2 rfl ?_
      refine Wp.callV (len := 3) rfl rfl rfl (rfl) rfl (by decide) rfl (m_meets (d := e0 + 1) (a := a) (b := t) (MK_scr hM hS2) (SK_fr (show SK (fset τ 27 (nI ps.length)) aim y load dn from hG.2.1) hF2 rfl rfl rfl rfl) haim hy hload hdn hW2 h1 (by omega) hin ha (by rw [hP.2.1]; exact h9) hL2 (PV_sb ok hP) (MR_fr (show MR (fset τ 27 (nI ps.length)) st from hG.2.2.2.1) hF2 rfl rfl rfl rfl rfl rfl rfl) hG.2.2.2.2) ?_
      rintro _ _ ⟨rfl, τ3, rfl, hF3, hR3⟩
      refine Wp.retV (len := 1) rfl rfl ?_
      refine ⟨rfl, τ3, rfl, Scr_t hS2 (Fr.mono hF3 rfl rfl), ?_, fun i hi => ?_, hR3, ?_⟩
      · exact SK_fr (SK_fr (show SK (fset τ 27 (nI ps.length)) aim y load dn from hG.2.1) hF2 rfl rfl rfl rfl) hF3 rfl rfl rfl rfl
      · rw [hF3.2.1 14 rfl]
        exact hW2.2 i hi
      · have hs := (PV_sb ok hP).1
        exact meet_b ok (by show s.1 ≤ 774; omega) (by rw [← ha]; exact hin 0 (by omega)) hload hG.2.2.2.2

def st0 : MT := (0, 100000000, 1000000, none, none)
/-- all ways from a to t on a day -/
def allW (K : KD) (y a t : Nat) : List (List Nat × Nat × List Nat) := dfs K y t 7 [a] a (0, [])
def fin (K : KD) (aim a t y load dn : Nat) : MT := List.foldl (meet K aim a t y load dn) st0 (allW K y a t)
theorem m_seeks {aim a t y load dn : Nat} (haim : aim ≤ 4) (ht : t < kh K 0) (hy : y < 31) (hload : load ≤ 9) (hdn : dn < 2 ^ 31) (ha : a < kh K 0) (hM : MK σ K) (h36 : 3 ≤ aim → σ.1 36 = nI dn) : Wp (d + 13) md_227 0 [some (.ref 287), some (.int (nI aim)), some (.int (nI a)), some (.int (nI t)), some (.int (nI y)), some (.int (nI load))] [] (mset M σ) (fun v M' => v = none ∧ ∃ τ, M' = mset M τ ∧ Scr σ τ ∧ MR τ (fin K aim a t y load dn)) := by
  have ok := hM.2.1
  obtain ⟨b0, b1, b2, b3, b4, b5, b6, b7, b8, b9, b10, b11, b12⟩ := ok_h ok
  refine Wp.n (pc' := 2) 2 rfl ?_
  refine Wp.mput (len := 3) rfl rfl ?_
  refine Wp.n (pc' := 8) 2 rfl ?_
  refine Wp.mput (len := 3) rfl rfl ?_
  refine Wp.n (pc' := 14) 2 rfl ?_
  refine Wp.mput (len := 3) rfl rfl ?_
  refine Wp.n (pc' := 19) 2 rfl ?_
  refine Wp.mput (len := 3) rfl rfl ?_
  refine Wp.n (pc' := 26) 2 rfl ?_
  refine Wp.mput (len := 3) rfl rfl ?_
  refine Wp.n (pc' := 32) 2 rfl ?_
  refine Wp.mput (len := 3) rfl rfl ?_
  refine Wp.n (pc' := 37) 2 rfl ?_
  refine Wp.mput (len := 3) rfl rfl ?_
  refine Wp.n (pc' := 46) 4 rfl ?_
  refine Wp.miastN (j := 0) (len := 1) rfl rfl rfl (by omega) ?_
  refine Wp.n (pc' := 53) 6 rfl ?_
  refine Wp.top (show _ = nI (bitsM [a]) from by rw [n_sh1 _ (by omega)]; rw [show bitsM [a] = 0 ||| 2 ^ a from rfl, Nat.zero_or]) ?_
  refine Wp.callV (len := 3) rfl rfl rfl (rfl) rfl (by decide) rfl (m_goesOn haim ht hy hload hdn hM 7 [a] a (0, []) st0 _ (d + 12) (by omega) rfl (PV_1 ha) rfl (by exact ⟨(((((((Scr_r.fset rfl).fset rfl).fset rfl).fset rfl).fset rfl).fset rfl).fset rfl).aset rfl, ⟨rfl, rfl, rfl, h36⟩, (fun i hi => by obtain rfl : i = 0 := Nat.lt_one_iff.mp hi; rfl), ⟨rfl, rfl, rfl, rfl, fun dq pq hq => by cases hq⟩, ⟨Nat.le_refl _, Nat.le_refl _⟩⟩)) ?_
  rintro _ _ ⟨rfl, τ, rfl, hG⟩
  refine Wp.retV (len := 1) rfl rfl ?_
  exact ⟨rfl, τ, rfl, hG.1, hG.2.2.2.1⟩

end GOES
end
section
/-! THE CLASS as a state: Tape (33), its bytes (34), Reader (35), kept (272), Ways (273 .. 279), Trip (280, 281), Slots (282 .. 285). The realms lie in M.
Slots of the state: 0 Tape, 1 bytes, 2 Reader, 3 kept, 4 Ways, 5 lengths, 6 laneBits, 7 sizes, 8 rows, 9 stepLengths, 10 stepLanes, 11 Trip, 12 watches, 13 Slots, 14 values, 15 sizes, 16 widths. -/
abbrev CS : Type := (Nat → Nat → Int32) × (Nat → Nat → Int32) × (Nat → Int64) × (Nat → Option Nat)
def ccell (κ : CS) (s : Nat) : AE := match s with
  | 0 => .inr (5, [.ref 34, .int (κ.1 0 1)])
  | 1 => .inl (2, 2000, .inl (κ.2.1 1))
  | 2 => .inr (2, [va_rf (κ.2.2.2 0), va_rf (κ.2.2.2 1), .int (κ.1 2 2), .int (κ.1 2 3), .int (κ.1 2 4), .int (κ.1 2 5), .int (κ.1 2 6), .int (κ.1 2 7)])
  | 3 => .inl (3, 3, .inl (κ.2.1 3))
  | 4 => .inr (8, [.ref 274, .ref 275, .ref 276, .ref 277, .int (κ.1 4 4), .ref 278, .ref 279, va_rf (κ.2.2.2 2), .int (κ.1 4 8), .int (κ.1 4 9), .int (κ.1 4 10), .int (κ.1 4 11), .int (κ.1 4 12)])
  | 5 => .inl (0, 326, .inl (κ.2.1 5))
  | 6 => .inl (0, 326, .inl (κ.2.1 6))
  | 7 => .inl (0, 326, .inl (κ.2.1 7))
  | 8 => .inl (0, 326, .inl (κ.2.1 8))
  | 9 => .inl (0, 49, .inl (κ.2.1 9))
  | 10 => .inl (0, 49, .inl (κ.2.1 10))
  | 11 => .inr (6, [.int (κ.1 11 0), .int (κ.1 11 1), .int (κ.1 11 2), .int (κ.1 11 3), .int (κ.1 11 4), .int (κ.1 11 5), .ref 281, .int (κ.1 11 7)])
  | 12 => .inl (0, 6, .inl (κ.2.1 12))
  | 13 => .inr (4, [.ref 283, .ref 284, .ref 285])
  | 14 => .inl (1, 240, .inr (.inl κ.2.2.1))
  | 15 => .inl (0, 4, .inl (κ.2.1 15))
  | 16 => .inl (0, 4, .inl (κ.2.1 16))
  | _ => .inr (99, [])
def cset (M : AM) (κ : CS) : AM := fun k => if k < 33 then M k else if k < 36 then ccell κ (k - 33) else if k < 272 then M k else if k < 286 then ccell κ (k - 269) else M k
def cad (s : Nat) : Nat := if s < 3 then 33 + s else 269 + s
def cf (κ : CS) (s j : Nat) (x : Int32) : CS := (va_up κ.1 s (upd (κ.1 s) j x), κ.2)
def ca (κ : CS) (s : Nat) (f : Nat → Int32) : CS := (κ.1, va_up κ.2.1 s f, κ.2.2)
def cq (κ : CS) (f : Nat → Int64) : CS := (κ.1, κ.2.1, f, κ.2.2.2)
def cr (κ : CS) (i : Nat) (o : Option Nat) : CS := (κ.1, κ.2.1, κ.2.2.1, va_up κ.2.2.2 i o)
section CSS
variable {M M' : AM} {κ κ' : CS} {r : Nat} {ρ : RC}
theorem cset_o {k : Nat} (h : k < 33 ∨ (36 ≤ k ∧ k < 272) ∨ 286 ≤ k) : cset M κ k = M k := by
  unfold cset
  by_cases h1 : k < 33
  · rw [if_pos h1]
  rw [if_neg h1, if_neg (by omega)]
  by_cases h2 : k < 272
  · rw [if_pos h2]
  rw [if_neg h2, if_neg (by omega)]
theorem cset_at {s : Nat} (h : s < 17) : cset M κ (cad s) = ccell κ s := by
  unfold cset cad
  by_cases h1 : s < 3
  · rw [if_pos h1, if_neg (by omega), if_pos (by omega), show 33 + s - 33 = s by omega]
  · rw [if_neg h1, if_neg (by omega), if_neg (by omega), if_neg (by omega), if_pos (by omega), show 269 + s - 269 = s by omega]
theorem cset_up {s : Nat} {e : AE} (hs : s < 17) (he : ccell κ' s = e) (ho : ∀ j, j ≠ s → ccell κ' j = ccell κ j) : va_up (cset M κ) (cad s) e = cset M κ' := by
  funext k
  by_cases hk : k = cad s
  · rw [hk, va_up_self, cset_at hs, he]
  · rw [va_up_ne _ _ hk]
    unfold cad at hk
    unfold cset
    by_cases h1 : k < 33
    · rw [if_pos h1, if_pos h1]
    rw [if_neg h1, if_neg h1]
    by_cases h2 : k < 36
    · rw [if_pos h2, if_pos h2, ho]
      by_cases c : s < 3
      · rw [if_pos c] at hk; omega
      · omega
    rw [if_neg h2, if_neg h2]
    by_cases h3 : k < 272
    · rw [if_pos h3, if_pos h3]
    rw [if_neg h3, if_neg h3]
    by_cases h4 : k < 286
    · rw [if_pos h4, if_pos h4, ho]
      by_cases c : s < 3
      · omega
      · rw [if_neg c] at hk; omega
    rw [if_neg h4, if_neg h4]
theorem cc_cf {s i j : Nat} {x : Int32} (h : i ≠ s) : ccell (cf κ s j x) i = ccell κ i := by
  have e : ∀ q, q ≠ s → va_up κ.1 s (upd (κ.1 s) j x) q = κ.1 q := fun q hq => va_up_ne _ _ hq
  unfold ccell cf
  dsimp only
  split <;> first | rfl | (rw [e _ h])
theorem cc_ca {s i : Nat} {f : Nat → Int32} (h : i ≠ s) : ccell (ca κ s f) i = ccell κ i := by
  have e : ∀ q, q ≠ s → va_up κ.2.1 s f q = κ.2.1 q := fun q hq => va_up_ne _ _ hq
  unfold ccell ca
  dsimp only
  split <;> first | rfl | (rw [e _ h])
theorem cc_cq {i : Nat} {f : Nat → Int64} (h : i ≠ 14) : ccell (cq κ f) i = ccell κ i := by
  unfold ccell cq
  dsimp only
  split <;> first | rfl | exact absurd rfl h
end CSS
section CRULE
variable {d : Nat} {X : MD} {pc len : Nat} {l : AL} {st : List Value} {M : AM} {Q : Option Value → AM → Prop} {κ : CS} {v : Value}
theorem cset_upf {s j : Nat} {x : Int32} {e : AE} (hs : s < 17) (he : ccell (cf κ s j x) s = e) : va_up (cset M κ) (cad s) e = cset M (cf κ s j x) := cset_up hs he (fun _ h => cc_cf h)
theorem cset_upa {s : Nat} {f : Nat → Int32} {e : AE} (hs : s < 17) (he : ccell (ca κ s f) s = e) : va_up (cset M κ) (cad s) e = cset M (ca κ s f) := cset_up hs he (fun _ h => cc_ca h)
theorem Wp.cput0 {x : Int32} (hc : cdx X pc = some (.inr (.inr (1, 5, 1, v)), len)) (h : Wp d X (pc + len) l st (cset M (cf κ 0 1 x)) Q) : Wp d X pc l (.int x :: .ref 33 :: st) (cset M κ) Q := by
  refine Wp.put hc rfl rfl ?_
  have e := cset_upf (M := M) (κ := κ) (s := 0) (j := 1) (x := x) (by decide) rfl
  rw [← e] at h
  exact h
theorem Wp.cput2 {x : Int32} (j : Nat) (hj : (Nat.ble 2 j && Nat.ble j 7) = true) (hc : cdx X pc = some (.inr (.inr (1, 2, j, v)), len)) (h : Wp d X (pc + len) l st (cset M (cf κ 2 j x)) Q) : Wp d X pc l (.int x :: .ref 35 :: st) (cset M κ) Q := by
  have hj' : j = 2 ∨ j = 3 ∨ j = 4 ∨ j = 5 ∨ j = 6 ∨ j = 7 := by
    rw [Bool.and_eq_true] at hj
    have h1 := Nat.le_of_ble_eq_true hj.1
    have h2 := Nat.le_of_ble_eq_true hj.2
    omega
  rcases hj' with rfl | rfl | rfl | rfl | rfl | rfl
  · exact Wp.put hc rfl rfl (by have e := cset_upf (M := M) (κ := κ) (s := 2) (j := 2) (x := x) (by decide) rfl; rw [← e] at h; exact h)
  · exact Wp.put hc rfl rfl (by have e := cset_upf (M := M) (κ := κ) (s := 2) (j := 3) (x := x) (by decide) rfl; rw [← e] at h; exact h)
  · exact Wp.put hc rfl rfl (by have e := cset_upf (M := M) (κ := κ) (s := 2) (j := 4) (x := x) (by decide) rfl; rw [← e] at h; exact h)
  · exact Wp.put hc rfl rfl (by have e := cset_upf (M := M) (κ := κ) (s := 2) (j := 5) (x := x) (by decide) rfl; rw [← e] at h; exact h)
  · exact Wp.put hc rfl rfl (by have e := cset_upf (M := M) (κ := κ) (s := 2) (j := 6) (x := x) (by decide) rfl; rw [← e] at h; exact h)
  · exact Wp.put hc rfl rfl (by have e := cset_upf (M := M) (κ := κ) (s := 2) (j := 7) (x := x) (by decide) rfl; rw [← e] at h; exact h)
theorem Wp.cput4 {x : Int32} (j : Nat) (hj : (Nat.beq j 4 || (Nat.ble 8 j && Nat.ble j 12)) = true) (hc : cdx X pc = some (.inr (.inr (1, 8, j, v)), len)) (h : Wp d X (pc + len) l st (cset M (cf κ 4 j x)) Q) : Wp d X pc l (.int x :: .ref 273 :: st) (cset M κ) Q := by
  have hj' : j = 4 ∨ j = 8 ∨ j = 9 ∨ j = 10 ∨ j = 11 ∨ j = 12 := by
    rw [Bool.or_eq_true, Bool.and_eq_true] at hj
    rcases hj with q | q
    · exact Or.inl (Nat.eq_of_beq_eq_true q)
    · have h1 := Nat.le_of_ble_eq_true q.1
      have h2 := Nat.le_of_ble_eq_true q.2
      omega
  rcases hj' with rfl | rfl | rfl | rfl | rfl | rfl
  · exact Wp.put hc rfl rfl (by have e := cset_upf (M := M) (κ := κ) (s := 4) (j := 4) (x := x) (by decide) rfl; rw [← e] at h; exact h)
  · exact Wp.put hc rfl rfl (by have e := cset_upf (M := M) (κ := κ) (s := 4) (j := 8) (x := x) (by decide) rfl; rw [← e] at h; exact h)
  · exact Wp.put hc rfl rfl (by have e := cset_upf (M := M) (κ := κ) (s := 4) (j := 9) (x := x) (by decide) rfl; rw [← e] at h; exact h)
  · exact Wp.put hc rfl rfl (by have e := cset_upf (M := M) (κ := κ) (s := 4) (j := 10) (x := x) (by decide) rfl; rw [← e] at h; exact h)
  · exact Wp.put hc rfl rfl (by have e := cset_upf (M := M) (κ := κ) (s := 4) (j := 11) (x := x) (by decide) rfl; rw [← e] at h; exact h)
  · exact Wp.put hc rfl rfl (by have e := cset_upf (M := M) (κ := κ) (s := 4) (j := 12) (x := x) (by decide) rfl; rw [← e] at h; exact h)
theorem Wp.cput11 {x : Int32} (j : Nat) (hj : (Nat.ble j 5 && !(Nat.beq j 1) || Nat.beq j 7) = true) (hc : cdx X pc = some (.inr (.inr (1, 6, j, v)), len)) (h : Wp d X (pc + len) l st (cset M (cf κ 11 j x)) Q) : Wp d X pc l (.int x :: .ref 280 :: st) (cset M κ) Q := by
  have hj' : j = 0 ∨ j = 2 ∨ j = 3 ∨ j = 4 ∨ j = 5 ∨ j = 7 := by
    rw [Bool.or_eq_true, Bool.and_eq_true] at hj
    rcases hj with q | q
    · have h1 := Nat.le_of_ble_eq_true q.1
      have h2 : j ≠ 1 := fun e => by rw [e] at q; exact absurd q.2 (by decide)
      omega
    · have := Nat.eq_of_beq_eq_true q; omega
  rcases hj' with rfl | rfl | rfl | rfl | rfl | rfl
  · exact Wp.put hc rfl rfl (by have e := cset_upf (M := M) (κ := κ) (s := 11) (j := 0) (x := x) (by decide) rfl; rw [← e] at h; exact h)
  · exact Wp.put hc rfl rfl (by have e := cset_upf (M := M) (κ := κ) (s := 11) (j := 2) (x := x) (by decide) rfl; rw [← e] at h; exact h)
  · exact Wp.put hc rfl rfl (by have e := cset_upf (M := M) (κ := κ) (s := 11) (j := 3) (x := x) (by decide) rfl; rw [← e] at h; exact h)
  · exact Wp.put hc rfl rfl (by have e := cset_upf (M := M) (κ := κ) (s := 11) (j := 4) (x := x) (by decide) rfl; rw [← e] at h; exact h)
  · exact Wp.put hc rfl rfl (by have e := cset_upf (M := M) (κ := κ) (s := 11) (j := 5) (x := x) (by decide) rfl; rw [← e] at h; exact h)
  · exact Wp.put hc rfl rfl (by have e := cset_upf (M := M) (κ := κ) (s := 11) (j := 7) (x := x) (by decide) rfl; rw [← e] at h; exact h)
theorem Wp.cput11Z {x : Int32} (hc : cdx X pc = some (.inr (.inr (1, 6, 1, v)), len)) (hx : (x == 0 || x == 1) = true) (h : Wp d X (pc + len) l st (cset M (cf κ 11 1 x)) Q) : Wp d X pc l (.int x :: .ref 280 :: st) (cset M κ) Q := by
  refine Wp.put hc rfl ?_ ?_
  · show (true && (x == 0 || x == 1) && true) = true
    rw [hx]; rfl
  · have e := cset_upf (M := M) (κ := κ) (s := 11) (j := 1) (x := x) (by decide) rfl
    rw [← e] at h
    exact h
/-- the realm of the ways -/
theorem Wp.cputR {k : Nat} (hc : cdx X pc = some (.inr (.inr (1, 8, 7, v)), len)) (h : Wp d X (pc + len) l st (cset M (cr κ 2 (some k))) Q) : Wp d X pc l (.ref k :: .ref 273 :: st) (cset M κ) Q := by
  refine Wp.put hc rfl rfl ?_
  have e := cset_up (M := M) (κ := κ) (κ' := cr κ 2 (some k)) (s := 4) (by decide) rfl (fun j hj => by
    unfold ccell cr
    dsimp only
    split <;> first | rfl | exact absurd rfl hj)
  rw [← e] at h
  exact h
theorem Wp.cputS {k : Nat} (hc : cdx X pc = some (.inr (.inr (1, 2, 0, v)), len)) (h : Wp d X (pc + len) l st (cset M (cr κ 0 (some k))) Q) : Wp d X pc l (.ref k :: .ref 35 :: st) (cset M κ) Q := by
  refine Wp.put hc rfl rfl ?_
  have e := cset_up (M := M) (κ := κ) (κ' := cr κ 0 (some k)) (s := 2) (by decide) rfl (fun j hj => by
    unfold ccell cr
    dsimp only
    split <;> first | rfl | exact absurd rfl hj)
  rw [← e] at h
  exact h
theorem Wp.cputT {k : Nat} (hc : cdx X pc = some (.inr (.inr (1, 2, 1, v)), len)) (h : Wp d X (pc + len) l st (cset M (cr κ 1 (some k))) Q) : Wp d X pc l (.ref k :: .ref 35 :: st) (cset M κ) Q := by
  refine Wp.put hc rfl rfl ?_
  have e := cset_up (M := M) (κ := κ) (κ' := cr κ 1 (some k)) (s := 2) (by decide) rfl (fun j hj => by
    unfold ccell cr
    dsimp only
    split <;> first | rfl | exact absurd rfl hj)
  rw [← e] at h
  exact h
/-- rows of ints -/
def cai (s : Nat) : Nat := match s with
  | 5 => 326 | 6 => 326 | 7 => 326 | 8 => 326 | 9 => 49 | 10 => 49 | 12 => 6 | 15 => 4 | 16 => 4 | _ => 0
theorem cai_c {s n : Nat} (h : cai s = n) (hn : Nat.blt 0 n = true) : s < 17 ∧ n < 2 ^ 31 ∧ ∀ κ : CS, ccell κ s = .inl (0, n, .inl (κ.2.1 s)) := by
  unfold cai at h
  split at h <;> first | (subst h; exact ⟨by decide, by decide, fun _ => rfl⟩) | (subst h; cases hn)
theorem Wp.ciastN {s k n j : Nat} {x : Int32} (hc : cdx X pc = some (.inr (.inl .iastore), len)) (hk : cad s = k) (hs : cai s = n) (hn : Nat.blt 0 n = true) (hj : j < n) (h : Wp d X (pc + len) l st (cset M (ca κ s (upd (κ.2.1 s) j x))) Q) : Wp d X pc l (.int x :: .int (nI j) :: .ref k :: st) (cset M κ) Q := by
  subst hk
  obtain ⟨h1, h2, h3⟩ := cai_c hs hn
  refine Wp.iastN hc ((cset_at h1).trans (h3 κ)) hj h2 ?_
  rw [cset_upa (κ := κ) (s := s) (f := upd (κ.2.1 s) j x) h1 ?_]
  · exact h
  · rw [h3]
    rw [show (ca κ s (upd (κ.2.1 s) j x)).2.1 s = upd (κ.2.1 s) j x from va_up_self _ _ _]
end CRULE
theorem ca_get {κ : CS} {s : Nat} {f : Nat → Int32} : (ca κ s f).2.1 s = f := va_up_self _ _ _
theorem ca_ne {κ : CS} {s i : Nat} {f : Nat → Int32} (h : i ≠ s) : (ca κ s f).2.1 i = κ.2.1 i := va_up_ne _ _ h
theorem cf_get {κ : CS} {s j : Nat} {x : Int32} : (cf κ s j x).1 s = upd (κ.1 s) j x := va_up_self _ _ _
theorem cf_ne {κ : CS} {s i j : Nat} {x : Int32} (h : i ≠ s) : (cf κ s j x).1 i = κ.1 i := va_up_ne _ _ h
/-- only slots of F (fields) and A (rows) may differ; G: references -/
def Fc (F A G : List Nat) (κ κ' : CS) : Prop := (∀ s, List.elem s F = false → κ'.1 s = κ.1 s) ∧ (∀ s, List.elem s A = false → κ'.2.1 s = κ.2.1 s) ∧ (∀ s, List.elem s G = false → κ'.2.2.2 s = κ.2.2.2 s) ∧ κ'.2.2.1 = κ.2.2.1
section FC
variable {F A G : List Nat} {κ κ' κ'' : CS}
theorem Fc.r : Fc F A G κ κ := ⟨fun _ _ => rfl, fun _ _ => rfl, fun _ _ => rfl, rfl⟩
theorem Fc.t (h : Fc F A G κ κ') (h' : Fc F A G κ' κ'') : Fc F A G κ κ'' := ⟨fun j hj => (h'.1 j hj).trans (h.1 j hj), fun j hj => (h'.2.1 j hj).trans (h.2.1 j hj), fun j hj => (h'.2.2.1 j hj).trans (h.2.2.1 j hj), h'.2.2.2.trans h.2.2.2⟩
theorem Fc.f {s j : Nat} {x : Int32} (h : Fc F A G κ κ') (hs : List.elem s F = true) : Fc F A G κ (cf κ' s j x) := ⟨fun i hi => (va_up_ne _ _ (fun e => by rw [e, hs] at hi; cases hi)).trans (h.1 i hi), h.2⟩
theorem Fc.a {s : Nat} {f : Nat → Int32} (h : Fc F A G κ κ') (hs : List.elem s A = true) : Fc F A G κ (ca κ' s f) := ⟨h.1, fun i hi => (va_up_ne _ _ (fun e => by rw [e, hs] at hi; cases hi)).trans (h.2.1 i hi), h.2.2⟩
theorem Fc.g {s : Nat} {o : Option Nat} (h : Fc F A G κ κ') (hs : List.elem s G = true) : Fc F A G κ (cr κ' s o) := ⟨h.1, h.2.1, fun i hi => (va_up_ne _ _ (fun e => by rw [e, hs] at hi; cases hi)).trans (h.2.2.1 i hi), h.2.2.2⟩
theorem elem_sub {F F' : List Nat} (hF : F.all (fun j => List.elem j F') = true) {j : Nat} (hj : List.elem j F' = false) : List.elem j F = false := by
  cases e : List.elem j F with
  | false => rfl
  | true =>
    have h1 := List.all_eq_true.mp hF j (List.elem_iff.mp e)
    rw [hj] at h1
    cases h1
theorem Fc.mono {F' A' G' : List Nat} (h : Fc F A G κ κ') (hF : F.all (fun j => List.elem j F') = true) (hA : A.all (fun j => List.elem j A') = true) (hG : G.all (fun j => List.elem j G') = true) : Fc F' A' G' κ κ' := ⟨fun j hj => h.1 j (elem_sub hF hj), fun j hj => h.2.1 j (elem_sub hA hj), fun j hj => h.2.2.1 j (elem_sub hG hj), h.2.2.2⟩
end FC
/-- two memories agree off lo .. hi -/
def Of (lo hi : Nat) (M M' : AM) : Prop := ∀ k, k < lo ∨ hi ≤ k → M' k = M k
theorem RA_of {M M' : AM} {r : Nat} {ρ : RC} (h : RA M r ρ) (e : ∀ k, r ≤ k → k < r + 47 → M' k = M k) : RA M' r ρ := by
  show rset M' r ρ = M'
  funext k
  by_cases hk : r ≤ k ∧ k < r + 47
  · rw [e k hk.1 hk.2]
    have h1 := congrFun (show rset M r ρ = M from h) k
    rw [← h1]
    unfold rset
    rw [if_pos hk, if_pos hk]
  · exact rset_ne (by omega)
theorem RA_c {M : AM} {κ : CS} {r : Nat} {ρ : RC} (h : RA M r ρ) (h1 : 36 ≤ r) (h2 : r + 47 ≤ 272) : RA (cset M κ) r ρ := RA_of h (fun k a b => cset_o (by omega))
theorem rset_c {M : AM} {κ : CS} {r : Nat} {ρ : RC} (h1 : 36 ≤ r) (h2 : r + 47 ≤ 272) : rset (cset M κ) r ρ = cset (rset M r ρ) κ := by
  funext k
  by_cases hk : r ≤ k ∧ k < r + 47
  · rw [cset_o (by omega)]
    unfold rset
    rw [if_pos hk, if_pos hk]
  · rw [rset_ne (by omega)]
    unfold cset
    rw [rset_ne (M := M) (r := r) (ρ := ρ) (q := k) (by omega)]
/-- a realm of the class holds K, with its lengths by road -/
def RK (M : AM) (r : Nat) (K : KD) : Prop := ∃ ρ, RA M r ρ ∧ RepC ρ K ∧ DC (rds ρ) K (distK K) ∧ KOK K ∧ 36 ≤ r ∧ r + 47 ≤ 272
theorem RK_c {M : AM} {κ : CS} {r : Nat} {K : KD} (h : RK M r K) : RK (cset M κ) r K := by
  obtain ⟨ρ, h1, h2, h3, h4, h5, h6⟩ := h
  exact ⟨ρ, RA_c h1 h5 h6, h2, h3, h4, h5, h6⟩
theorem RK_of {M M' : AM} {r : Nat} {K : KD} (h : RK M r K) (e : ∀ k, r ≤ k → k < r + 47 → M' k = M k) : RK M' r K := by
  obtain ⟨ρ, h1, h2, h3, h4, h5, h6⟩ := h
  exact ⟨ρ, RA_of h1 e, h2, h3, h4, h5, h6⟩
end
section
/-! BITS OF LANES in the class, boats, watched lanes, laneBit; what is spared and owed. -/
def bitsC (K : KD) (ls : List Nat) : Nat := bitsM (ls.map (phL K))
def pbits (p : Nat → Bool) (n : Nat) : Nat := fld (fun b i => if p i = true then b ||| 2 ^ i else b) n 0 0
theorem pbits_tb (p : Nat → Bool) (i : Nat) : ∀ n, (pbits p n).testBit i = (decide (i < n) && p i)
  | 0 => by simp [pbits, fld]
  | n + 1 => by
    have ih := pbits_tb p i n
    unfold pbits at ih ⊢
    rw [fld_s, Nat.zero_add]
    by_cases hp : p n = true
    · rw [if_pos hp, Nat.testBit_or, ih, Nat.testBit_two_pow]
      by_cases e : n = i
      · subst e; simp [hp]
      · by_cases c : i < n
        · simp [e, c, show i < n + 1 by omega]
        · simp [e, c, show ¬ i < n + 1 by omega]
    · rw [if_neg hp, ih]
      by_cases e : n = i
      · subst e; simp [hp]
      · by_cases c : i < n
        · simp [c, show i < n + 1 by omega]
        · simp [c, show ¬ i < n + 1 by omega]
theorem pbits_lt (p : Nat → Bool) {n : Nat} (h : n ≤ 9) : pbits p n < 2 ^ 9 := by
  apply Nat.lt_pow_two_of_testBit
  intro i hi
  rw [pbits_tb]
  simp [show ¬ i < n by omega]
theorem and_zero_iff (a b : Nat) : a &&& b = 0 ↔ ∀ i, ¬ (a.testBit i = true ∧ b.testBit i = true) := by
  constructor
  · intro h i ⟨h1, h2⟩
    have e := congrArg (fun x => x.testBit i) h
    simp only [Nat.testBit_and, Nat.zero_testBit, h1, h2] at e
    cases e
  · intro h
    apply Nat.eq_of_testBit_eq
    intro i
    rw [Nat.testBit_and, Nat.zero_testBit]
    have := h i
    cases h1 : a.testBit i <;> cases h2 : b.testBit i <;> simp_all
theorem ph_lgl {K : KD} (ok : KOK K) {l : Nat} (hl : LV K l) : lgl K (phL K l) = l := by
  have b3 := (ok_h ok).2.2.2.1
  unfold LV at hl
  unfold lgl phL
  by_cases h : l = 8
  · rw [if_pos h, if_neg (by omega)]; exact h.symm
  · rw [if_neg h, if_pos (by omega)]
theorem bitsC_app (K : KD) (ls : List Nat) (l : Nat) : bitsC K (ls ++ [l]) = bitsC K ls ||| 2 ^ phL K l := by
  unfold bitsC
  rw [List.map_append, List.map_cons, List.map_nil, bitsM_app]
theorem bitsC_lt {K : KD} (ok : KOK K) {ls : List Nat} (h : ∀ l, l ∈ ls → LV K l) : bitsC K ls < 2 ^ 9 := by
  refine bits_lt (fun l hl => ?_)
  obtain ⟨x, hx, rfl⟩ := List.mem_map.mp hl
  exact (LV_ph ok (h x hx)).1
theorem bitsC_tb {K : KD} {ls : List Nat} {i : Nat} : (bitsC K ls).testBit i = true ↔ ∃ l, l ∈ ls ∧ phL K l = i := by
  unfold bitsC
  rw [bits_tb, List.contains_iff_mem, List.mem_map]
/-- the class's test of lanes with p, and the mathematical one -/
theorem bitsC_and {K : KD} (ok : KOK K) {ls : List Nat} (h : ∀ l, l ∈ ls → LV K l) (p : Nat → Bool) : bitsC K ls &&& pbits (fun i => p (lgl K i)) (kh K 3 + kh K 11) = 0 ↔ ls.any p = false := by
  rw [and_zero_iff]
  constructor
  · intro q
    cases e : ls.any p with
    | false => rfl
    | true =>
      obtain ⟨l, hl, hp⟩ := List.any_eq_true.mp e
      refine absurd ⟨bitsC_tb.mpr ⟨l, hl, rfl⟩, ?_⟩ (q (phL K l))
      rw [pbits_tb, ph_lgl ok (h l hl), hp, decide_eq_true (LV_ph ok (h l hl)).2]
      rfl
  · intro q i ⟨h1, h2⟩
    obtain ⟨l, hl, rfl⟩ := bitsC_tb.mp h1
    rw [pbits_tb, ph_lgl ok (h l hl), Bool.and_eq_true] at h2
    have : ls.any p = true := List.any_eq_true.mpr ⟨l, hl, h2.2⟩
    rw [q] at this
    cases this
def boatP (K : KD) (l : Nat) : Bool := decide (kl K l 5 = 2)
def watP (K : KD) (l : Nat) : Bool := decide (0 < kl K l 6)
def boatC (K : KD) : Nat := pbits (fun i => boatP K (lgl K i)) (kh K 3 + kh K 11)
def watC (K : KD) : Nat := pbits (fun i => watP K (lgl K i)) (kh K 3 + kh K 11)
theorem boatC_and {K : KD} (ok : KOK K) {ls : List Nat} (h : ∀ l, l ∈ ls → LV K l) : bitsC K ls &&& boatC K = 0 ↔ boatK K ls = false := bitsC_and ok h (boatP K)
theorem watC_and {K : KD} (ok : KOK K) {ls : List Nat} (h : ∀ l, l ∈ ls → LV K l) : bitsC K ls &&& watC K = 0 ↔ ls.any (watP K) = false := bitsC_and ok h (watP K)
section TRIP
variable {d : Nat} {M : AM} {r : Nat} {ρ : RC} {K : KD} {κ κ' : CS} {Q : Option Value → AM → Prop}

theorem k_boatLanes_l (hR : RA M r ρ) (hK : RepC ρ K) (ok : KOK K) : ∀ (n i b : Nat), i + n = kh K 3 + kh K 11 → Wp d md_44 4 [some (.ref r), some (.int (nI b)), some (.int (nI i))] [] M (IsR (some (.int (nI (fld (fun b i => if boatP K (lgl K i) = true then b ||| 2 ^ i else b) n i b)))) M) := by
  intro n
  obtain ⟨b0, b1, b2, b3, b4, b5, b6, b7, b8, b9, b10, b11, b12⟩ := ok_h ok
  induction n with
  | zero =>
    intro i b hi
    refine Wp.n (pc' := 6) 2 rfl ?_
    refine Wp.get (len := 3) rfl (ra_obj hR) rfl ?_
    refine Wp.top (rc_la hK) ?_
    refine Wp.nc3 (x := i) (y := kh K 3 + kh K 11) (tgt := 41) (len := 3) rfl (by omega) (by omega) (fun h9 => ?_) (fun h9 => ?_)
    · skip
      refine Wp.n (pc' := 42) 1 rfl ?_
      refine Wp.retI (len := 1) rfl rfl ?_
      exact ⟨rfl, rfl⟩
    · omega
  | succ n ih =>
    intro i b hi
    obtain ⟨hl, hph⟩ := lgl_v ok (i := i) (by omega)
    have q := rc_lane hK hl
    rw [hph] at q
    have t := ok_lane ok hl
    show Wp _ _ _ _ _ _ (IsR (some (.int (nI (fld (fun b i => if boatP K (lgl K i) = true then b ||| 2 ^ i else b) n (i + 1) (if boatP K (lgl K i) = true then b ||| 2 ^ i else b))))) M)
    refine Wp.n (pc' := 6) 2 rfl ?_
    refine Wp.get (len := 3) rfl (ra_obj hR) rfl ?_
    refine Wp.top (rc_la hK) ?_
    refine Wp.nc3 (x := i) (y := kh K 3 + kh K 11) (tgt := 41) (len := 3) rfl (by omega) (by omega) (fun h9 => ?_) (fun h9 => ?_)
    · omega
    · skip
      refine Wp.n (pc' := 14) 2 rfl ?_
      refine Wp.get (len := 3) rfl (ra_obj hR) rfl ?_
      refine Wp.n (pc' := 18) 1 rfl ?_
      refine Wp.aaldN (j := i) (len := 1) rfl (ra_lanes hR) rfl (by omega) (by decide) (if_pos (by omega)) ?_
      refine Wp.get (len := 3) rfl (ra_lane hR (by omega)) rfl ?_
      refine Wp.top q.1 ?_
      refine Wp.n (pc' := 23) 1 rfl ?_
      refine Wp.nc1 (x := kl K (lgl K i) 5 + 1) (y := 3) (tgt := 32) (len := 3) rfl (by omega) (by omega) (fun h23 => ?_) (fun h23 => ?_)
      · skip
        refine Wp.n (pc' := 34) 2 rfl ?_
        refine Wp.top (n_or _ _) ?_
        refine Wp.n (pc' := 35) 1 rfl ?_
        refine Wp.incN (x := i) (len := 3) rfl rfl ?_
        refine Wp.n (pc' := 4) 1 rfl ?_
        first
          | (have e : boatP K (lgl K i) = true := decide_eq_true (by omega)
             rw [if_pos e]
             exact ih (i + 1) _ (by omega))
          | (have e : ¬ boatP K (lgl K i) = true := fun e => by have := of_decide_eq_true e; omega
             rw [if_neg e]
             have w := ih (i + 1) (b ||| 0) (by omega)
             rw [Nat.or_zero] at w ⊢
             exact w)
      · skip
        refine Wp.n (pc' := 29) 3 rfl ?_
        refine Wp.top (n_sh1 i (by omega)) ?_
        refine Wp.n (pc' := 34) 2 rfl ?_
        refine Wp.top (n_or _ _) ?_
        refine Wp.n (pc' := 35) 1 rfl ?_
        refine Wp.incN (x := i) (len := 3) rfl rfl ?_
        refine Wp.n (pc' := 4) 1 rfl ?_
        first
          | (have e : boatP K (lgl K i) = true := decide_eq_true (by omega)
             rw [if_pos e]
             exact ih (i + 1) _ (by omega))
          | (have e : ¬ boatP K (lgl K i) = true := fun e => by have := of_decide_eq_true e; omega
             rw [if_neg e]
             have w := ih (i + 1) (b ||| 0) (by omega)
             rw [Nat.or_zero] at w ⊢
             exact w)

theorem k_boatLanes (hR : RA M r ρ) (hK : RepC ρ K) (ok : KOK K) : Ev d md_44 0 [some (.ref r), none, none] [] M (some (.int (nI (boatC K))), M) := by
  refine Wp.toEv ?_
  refine Wp.n (pc' := 4) 4 rfl ?_
  exact k_boatLanes_l hR hK ok _ 0 0 (by omega)

theorem k_watchedLanes_l (hR : RA M r ρ) (hK : RepC ρ K) (ok : KOK K) : ∀ (n i b : Nat), i + n = kh K 3 + kh K 11 → Wp d md_45 4 [some (.ref r), some (.int (nI b)), some (.int (nI i))] [] M (IsR (some (.int (nI (fld (fun b i => if watP K (lgl K i) = true then b ||| 2 ^ i else b) n i b)))) M) := by
  intro n
  obtain ⟨b0, b1, b2, b3, b4, b5, b6, b7, b8, b9, b10, b11, b12⟩ := ok_h ok
  induction n with
  | zero =>
    intro i b hi
    refine Wp.n (pc' := 6) 2 rfl ?_
    refine Wp.get (len := 3) rfl (ra_obj hR) rfl ?_
    refine Wp.top (rc_la hK) ?_
    refine Wp.nc3 (x := i) (y := kh K 3 + kh K 11) (tgt := 40) (len := 3) rfl (by omega) (by omega) (fun h9 => ?_) (fun h9 => ?_)
    · skip
      refine Wp.n (pc' := 41) 1 rfl ?_
      refine Wp.retI (len := 1) rfl rfl ?_
      exact ⟨rfl, rfl⟩
    · omega
  | succ n ih =>
    intro i b hi
    obtain ⟨hl, hph⟩ := lgl_v ok (i := i) (by omega)
    have q := rc_lane hK hl
    rw [hph] at q
    have t := ok_lane ok hl
    show Wp _ _ _ _ _ _ (IsR (some (.int (nI (fld (fun b i => if watP K (lgl K i) = true then b ||| 2 ^ i else b) n (i + 1) (if watP K (lgl K i) = true then b ||| 2 ^ i else b))))) M)
    refine Wp.n (pc' := 6) 2 rfl ?_
    refine Wp.get (len := 3) rfl (ra_obj hR) rfl ?_
    refine Wp.top (rc_la hK) ?_
    refine Wp.nc3 (x := i) (y := kh K 3 + kh K 11) (tgt := 40) (len := 3) rfl (by omega) (by omega) (fun h9 => ?_) (fun h9 => ?_)
    · omega
    · skip
      refine Wp.n (pc' := 14) 2 rfl ?_
      refine Wp.get (len := 3) rfl (ra_obj hR) rfl ?_
      refine Wp.n (pc' := 18) 1 rfl ?_
      refine Wp.aaldN (j := i) (len := 1) rfl (ra_lanes hR) rfl (by omega) (by decide) (if_pos (by omega)) ?_
      refine Wp.get (len := 3) rfl (ra_lane hR (by omega)) rfl ?_
      refine Wp.top q.2.2.2.2.2 ?_
      refine Wp.nz5 (x := kl K (lgl K i) 6) (tgt := 31) (len := 3) rfl (by omega) (fun h22 => ?_) (fun h22 => ?_)
      · skip
        refine Wp.n (pc' := 33) 2 rfl ?_
        refine Wp.top (n_or _ _) ?_
        refine Wp.n (pc' := 34) 1 rfl ?_
        refine Wp.incN (x := i) (len := 3) rfl rfl ?_
        refine Wp.n (pc' := 4) 1 rfl ?_
        first
          | (have e : watP K (lgl K i) = true := decide_eq_true (by omega)
             rw [if_pos e]
             exact ih (i + 1) _ (by omega))
          | (have e : ¬ watP K (lgl K i) = true := fun e => by have := of_decide_eq_true e; omega
             rw [if_neg e]
             have w := ih (i + 1) (b ||| 0) (by omega)
             rw [Nat.or_zero] at w ⊢
             exact w)
      · skip
        refine Wp.n (pc' := 28) 3 rfl ?_
        refine Wp.top (n_sh1 i (by omega)) ?_
        refine Wp.n (pc' := 33) 2 rfl ?_
        refine Wp.top (n_or _ _) ?_
        refine Wp.n (pc' := 34) 1 rfl ?_
        refine Wp.incN (x := i) (len := 3) rfl rfl ?_
        refine Wp.n (pc' := 4) 1 rfl ?_
        first
          | (have e : watP K (lgl K i) = true := decide_eq_true (by omega)
             rw [if_pos e]
             exact ih (i + 1) _ (by omega))
          | (have e : ¬ watP K (lgl K i) = true := fun e => by have := of_decide_eq_true e; omega
             rw [if_neg e]
             have w := ih (i + 1) (b ||| 0) (by omega)
             rw [Nat.or_zero] at w ⊢
             exact w)

theorem k_watchedLanes (hR : RA M r ρ) (hK : RepC ρ K) (ok : KOK K) : Ev d md_45 0 [some (.ref r), none, none] [] M (some (.int (nI (watC K))), M) := by
  refine Wp.toEv ?_
  refine Wp.n (pc' := 4) 4 rfl ?_
  exact k_watchedLanes_l hR hK ok _ 0 0 (by omega)

/-- the lane's bit of what joins -/
def bitJ (K : KD) (j : Nat) : Nat := if j < 20 then 0 else 2 ^ phL K (j - 20)
theorem k_laneBit (hR : RA M r ρ) (hK : RepC ρ K) (ok : KOK K) {j : Nat} (hj : JV K j) : Ev d md_8 0 [some (.ref (jad K r j))] [] M (some (.int (nI (bitJ K j))), M) := by
  obtain ⟨b0, b1, b2, b3, b4, b5, b6, b7, b8, b9, b10, b11, b12⟩ := ok_h ok
  unfold jad bitJ
  rcases hj with h | ⟨h, h2⟩
  · have q := rc_road hK h
    rw [if_pos (by omega), if_pos (by omega)]
    have w := ra_ev hR (c_laneBit_road (d := d) (M := M) (ρ := ρ) (r := r) (i := j) (by omega))
    rw [if_pos q.1] at w
    exact w
  · have q := rc_lane hK h2
    have p := LV_ph ok h2
    have t := ok_lane ok h2
    rw [if_neg (by omega), if_neg (by omega)]
    have w := ra_ev hR (c_laneBit_lane (d := d) (M := M) (ρ := ρ) (r := r) (i := phL K (j - 20)) (by omega))
    rw [if_neg (by rw [q.1]; exact fun e => by have := (nI_eq (a := kl K (j - 20) 5 + 1) (b := 0) (by omega) (by decide)).mp e; omega), n_sh1 _ (by omega)] at w
    exact w
theorem jad_32 (h32 : 32 ≤ r) {j : Nat} : 32 ≤ jad K r j := by
  unfold jad
  by_cases h : j < 20
  · rw [if_pos h]; omega
  · rw [if_neg h]; omega
theorem k_first (hR : RA M r ρ) (hK : RepC ρ K) (ok : KOK K) (h32 : 32 ≤ r) {w : Nat} (hw : w < kh K 4) : Ev (d + 1) md_71 0 [some (.ref (r + 26 + 2 * w))] [] M (some (.int (nI (kw K w 4))), M) := by
  obtain ⟨b0, b1, b2, b3, b4, b5, b6, b7, b8, b9, b10, b11, b12⟩ := ok_h ok
  have t := ok_walk ok hw
  have e := ra_ev hR (c_first (d := d) (M := M) (ρ := ρ) (r := r) (i := w) h32 (by omega))
  rw [(rc_walk hK hw).2.2.2.2 0 (by omega)] at e
  exact e
theorem k_last (hR : RA M r ρ) (hK : RepC ρ K) (ok : KOK K) (h32 : 32 ≤ r) {w : Nat} (hw : w < kh K 4) : Ev (d + 1) md_72 0 [some (.ref (r + 26 + 2 * w))] [] M (some (.int (nI (kw K w (3 + kw K w 3)))), M) := by
  obtain ⟨b0, b1, b2, b3, b4, b5, b6, b7, b8, b9, b10, b11, b12⟩ := ok_h ok
  have t := ok_walk ok hw
  have q := rc_walk hK hw
  have e := ra_ev hR (c_last (d := d) (M := M) (ρ := ρ) (r := r) (i := w) h32 (by omega))
  rw [q.2.2.2.1, nI_toInt (by omega), if_pos (by omega), nI_clamp (by omega), q.2.2.2.2 _ (by omega), show 4 + (kw K w 3 - 1) = 3 + kw K w 3 by omega] at e
  exact e
theorem k_stopAt (hR : RA M r ρ) (hK : RepC ρ K) (ok : KOK K) {w i : Nat} (hw : w < kh K 4) (hi : i < kw K w 3) : Ev d md_69 0 [some (.ref (r + 26 + 2 * w)), some (.int (nI i))] [] M (some (.int (nI (kw K w (4 + i)))), M) := by
  obtain ⟨b0, b1, b2, b3, b4, b5, b6, b7, b8, b9, b10, b11, b12⟩ := ok_h ok
  have t := ok_walk ok hw
  have q := rc_walk hK hw
  have e := ra_ev hR (c_stopAt (d := d) (M := M) (ρ := ρ) (r := r) (i := w) (by omega) (nI i))
  rw [nI_toInt (by omega), if_pos (by omega), nI_clamp (by omega), q.2.2.2.2 _ hi] at e
  exact e
theorem k_sparedOf (ok : KOK K) {a b len : Nat} (ha : a < kh K 0) (hlen : len ≤ 2000) : Ev (d + 8) md_43 0 [some (.int (dI (distK K a b))), some (.int (nI len))] [] M (some (.int (nI (savK K a b len))), M) := by
  have e := c_sparedOf (d := d) (M := M) (dI (distK K a b)) (nI len)
  have hx : (if dI (distK K a b) = -1 then (0 : Int32) else if (0 : Int32) < dI (distK K a b) - nI len then dI (distK K a b) - nI len else 0) = nI (savK K a b len) := by
    unfold savK dI
    by_cases h : distK K a b < 1000000
    · have h7 := dist_774 ok ha h
      rw [if_pos h, if_neg (oI_ne (by omega)), if_pos h]
      by_cases c : len < distK K a b
      · rw [n_sub (by omega), if_pos (show (0 : Int32) < nI (distK K a b - len) from (nI_ltI (a := 0) (b := distK K a b - len) (by decide) (by omega)).mpr (by omega))]
      · rw [if_neg (n_subneg (by omega) (by omega) (by omega)), show distK K a b - len = 0 by omega]
        rfl
    · rw [if_neg h, if_pos rfl, if_neg h]
      rfl
  rw [hx] at e
  exact e
theorem k_dutyOn (hR : RA M r ρ) (hK : RepC ρ K) (ok : KOK K) (h0 : 0 < kh K 0) {s load y : Nat} (hs : s ≤ 774) (hl : load ≤ 9) (hy : y < 31) : Ev d md_3 0 [some (.ref (r + 1)), some (.int (nI s)), some (.int (nI load)), some (.int (nI y)), none] [] M (some (.int (nI (dutyS K false s y load))), M) := by
  obtain ⟨b0, b1, b2, b3, b4, b5, b6, b7, b8, b9, b10, b11, b12⟩ := ok_h ok
  have e := ra_ev hR (c_dutyOn (d := d) (M := M) (ρ := ρ) (r := r) (nI s) (nI load) (nI y))
  have l0 : rlw ρ 0 = nI (kh K 6) := rc_law hK h0 (j := 0) (by decide)
  have l1 : rlw ρ 1 = nI (kh K 7) := rc_law hK h0 (j := 1) (by decide)
  have l3 : rlw ρ 3 = nI (kh K 9) := rc_law hK h0 (j := 3) (by decide)
  have l4 : rlw ρ 4 = nI (kh K 10) := rc_law hK h0 (j := 4) (by decide)
  have hr : nI y - nI y / 7 * 7 = nI (y % 7) := pk_rem (by omega) (by decide) (by decide)
  rw [l0, l1, l3, l4, hr, nI_toInt (by omega), nI_toInt (by omega)] at e
  have hx : (if (s : Int) ≤ (kh K 7 : Int) ∨ (nI (y % 7) = 6 ∧ nI (kh K 9) = 0) then (0 : Int32) else (nI s - nI (kh K 7)) * nI (kh K 6) * (if nI (kh K 10) = 1 then nI load else 1)) = nI (dutyS K false s y load) := by
    have e6 : nI (y % 7) = 6 ↔ y % 7 = 6 := nI_eq (b := 6) (by omega) (by decide)
    have e9 : nI (kh K 9) = 0 ↔ kh K 9 = 0 := nI_eq (b := 0) (by omega) (by decide)
    have e10 : nI (kh K 10) = 1 ↔ kh K 10 = 1 := nI_eq (b := 1) (by omega) (by decide)
    simp only [e6, e9]
    unfold dutyS
    by_cases c1 : kh K 9 = 0 ∧ y % 7 = 6
    · rw [if_pos (Or.inr ⟨c1.2, c1.1⟩), if_pos (Or.inr c1)]
      rfl
    · rw [if_neg (c := false = true ∨ _) (by rintro (q | q); cases q; exact c1 q)]
      by_cases c2 : s ≤ kh K 7
      · rw [if_pos (Or.inl (by omega)), show s - kh K 7 = 0 by omega, Nat.zero_mul, Nat.zero_mul]
        rfl
      · rw [if_neg (by rintro (q | q); omega; exact c1 ⟨q.2, q.1⟩), n_sub (by omega)]
        by_cases c3 : kh K 10 = 1
        · rw [if_pos (e10.mpr c3), if_pos c3, pk_mul, pk_mul]
        · rw [if_neg (fun q => c3 (e10.mp q)), if_neg c3, pk_mul, show (1 : Int32) = nI 1 from rfl, pk_mul]
  rw [hx] at e
  exact e
end TRIP
end
section
/-! A TRIP: a told walk, followed by the class. -/
def TS (κ : CS) (K : KD) (i : Nat) (s : Nat × List Nat) : Prop := κ.1 11 0 = nI i ∧ κ.1 11 2 = nI s.1 ∧ κ.1 11 3 = nI (bitsC K s.2) ∧ κ.1 11 7 = nI (wat K s.2).length ∧ (∀ i, i < (wat K s.2).length → κ.2.1 12 i = nI ((wat K s.2).getD i 0))
theorem bitsC_add {K : KD} {s : Nat × List Nat} {j : Nat} : bitsC K (addJ K s j).2 = bitsC K s.2 ||| bitJ K j := by
  unfold addJ bitJ
  by_cases c : j < 20
  · show bitsC K (if j < 20 then s.2 else s.2 ++ [j - 20]) = _
    rw [if_pos c, if_pos c, Nat.or_zero]
  · show bitsC K (if j < 20 then s.2 else s.2 ++ [j - 20]) = _
    rw [if_neg c, if_neg c, bitsC_app]
/-- by how much what joins is watched -/
def watJ (K : KD) (j : Nat) : Nat := if j < 20 then 0 else kl K (j - 20) 6
theorem wat_add {K : KD} {s : Nat × List Nat} {j : Nat} : wat K (addJ K s j).2 = if 0 < watJ K j then wat K s.2 ++ [watJ K j] else wat K s.2 := by
  unfold addJ watJ
  by_cases c : j < 20
  · show wat K (if j < 20 then s.2 else s.2 ++ [j - 20]) = _
    rw [if_pos c, if_pos c, if_neg (by omega)]
  · show wat K (if j < 20 then s.2 else s.2 ++ [j - 20]) = _
    rw [if_neg c, if_neg c, wat_app]
    by_cases q : 0 < kl K (j - 20) 6
    · rw [if_pos q, if_pos q]
    · rw [if_neg q, if_neg q, List.append_nil]
section TRIP
variable {d : Nat} {M : AM} {r : Nat} {ρ : RC} {K : KD} {κ κ' : CS} {Q : Option Value → AM → Prop}
theorem j_objW (hR : RA M r ρ) (hK : RepC ρ K) (ok : KOK K) {j : Nat} (hj : JV K j) : ∃ n f, M (jad K r j) = .inr (1, kfs n f) ∧ f 3 = nI (spanJ K j) ∧ f 6 = nI (watJ K j) ∧ watJ K j ≤ 100 := by
  obtain ⟨b0, b1, b2, b3, b4, b5, b6, b7, b8, b9, b10, b11, b12⟩ := ok_h ok
  obtain ⟨n, f, h1, h2, h3, h4⟩ := j_obj hR hK ok hj
  refine ⟨n, f, h1, h2, ?_⟩
  unfold watJ
  rcases hj with h | ⟨h, h5⟩
  · rw [if_pos (by omega)]
    exact ⟨(h3 (by omega)).2.2, by omega⟩
  · rw [if_neg (by omega)]
    have t := ok_lane ok h5
    exact ⟨(h4 h).2.2, by omega⟩
theorem t_goBy (hR : RA M r ρ) (hK : RepC ρ K) (ok : KOK K) (h1 : 36 ≤ r) (h2 : r + 47 ≤ 272) {i j : Nat} {s : Nat × List Nat} (hT : TS κ K i s) (hS : SB K i s) (hi : i < 6) (hj : JV K j) : Wp (d + 1) md_64 0 [some (.ref 280), some (.ref (jad K r j))] [] (cset M κ) (fun v M' => v = none ∧ ∃ κ', M' = cset M κ' ∧ Fc [11] [12] [] κ κ' ∧ κ'.1 11 1 = κ.1 11 1 ∧ TS κ' K (i + 1) (addJ K s j)) := by
  obtain ⟨b0, b1, b2, b3, b4, b5, b6, b7, b8, b9, b10, b11, b12⟩ := ok_h ok
  have hRc : ∀ κ : CS, RA (cset M κ) r ρ := fun κ => RA_c hR h1 h2
  have hob : ∃ f n, f 3 = nI (spanJ K j) ∧ f 6 = nI (watJ K j) ∧ watJ K j ≤ 100 ∧ ∀ κ : CS, cset M κ (jad K r j) = .inr (1, kfs n f) := by
    obtain ⟨n, f, q1, q2, q3, q4⟩ := j_objW hR hK ok hj
    refine ⟨f, n, q2, q3, q4, fun κ => ?_⟩
    rw [← q1]
    refine cset_o (Or.inr (Or.inl ?_))
    unfold jad
    rcases hj with h | ⟨h, h5⟩
    · rw [if_pos (by omega)]; omega
    · have := LV_ph ok h5
      rw [if_neg (by omega)]; omega
  obtain ⟨f, n0, hf3, hf6, hw, hM⟩ := hob
  have hwl : (wat K s.2).length ≤ i := Nat.le_trans (wat_len s.2) hS.2.1
  have hbl := bitsC_lt ok hS.2.2
  obtain ⟨t0, t2, t3, t7, ta⟩ := hT
  refine Wp.n (pc' := 2) 2 rfl ?_
  refine Wp.get (len := 3) rfl (rfl) rfl ?_
  refine Wp.top t0 ?_
  refine Wp.n (pc' := 6) 1 rfl ?_
  refine Wp.iaddN (x := i) (y := 1) (len := 1) rfl ?_
  refine Wp.cput11 0 rfl (len := 3) rfl ?_
  refine Wp.n (pc' := 12) 2 rfl ?_
  refine Wp.get (len := 3) rfl (rfl) rfl ?_
  refine Wp.top t2 ?_
  refine Wp.n (pc' := 16) 1 rfl ?_
  refine Wp.get (len := 3) rfl (hM _) rfl ?_
  refine Wp.top hf3 ?_
  refine Wp.iaddN (x := s.1) (y := spanJ K j) (len := 1) rfl ?_
  refine Wp.cput11 2 rfl (len := 3) rfl ?_
  refine Wp.n (pc' := 25) 2 rfl ?_
  refine Wp.get (len := 3) rfl (rfl) rfl ?_
  refine Wp.top t3 ?_
  refine Wp.n (pc' := 29) 1 rfl ?_
  refine Wp.ecallV (len := 3) rfl rfl rfl (hM _) rfl (jad_32 (by omega)) rfl (k_laneBit (hRc _) hK ok hj) ?_
  refine Wp.n (pc' := 33) 1 rfl ?_
  refine Wp.top (n_or _ _) ?_
  refine Wp.cput11 3 rfl (len := 3) rfl ?_
  refine Wp.n (pc' := 37) 1 rfl ?_
  refine Wp.get (len := 3) rfl (hM _) rfl ?_
  refine Wp.top hf6 ?_
  refine Wp.nz5 (x := watJ K j) (tgt := 75) (len := 3) rfl (by omega) (fun h40 => ?_) (fun h40 => ?_)
  · skip
    refine Wp.retV (len := 1) rfl rfl ?_
    first
      | (have e : wat K (addJ K s j).2 = wat K s.2 := by rw [wat_add, if_neg (by omega)]
         refine ⟨rfl, _, rfl, ((Fc.r.f rfl).f rfl).f rfl, rfl, rfl, rfl, ?_, ?_, ?_⟩
         · rw [bitsC_add]; rfl
         · rw [e]; exact t7
         · rw [e]; exact ta)
      | (have e : wat K (addJ K s j).2 = wat K s.2 ++ [watJ K j] := by rw [wat_add, if_pos (by omega)]
         refine ⟨rfl, _, rfl, ((((Fc.r.f rfl).f rfl).f rfl).a rfl).f rfl, rfl, rfl, rfl, ?_, ?_, ?_⟩
         · rw [bitsC_add]; rfl
         · rw [e, List.length_append]; rfl
         · rw [e, List.length_append]
           intro q hq
           have hq' : q < (wat K s.2).length + 1 := hq
           show upd (κ.2.1 12) (wat K s.2).length (nI (watJ K j)) q = _
           by_cases c : q = (wat K s.2).length
           · rw [c, pk_us, getD_end]
           · rw [pk_un c, getD_app (by omega)]
             exact ta q (by omega))
  · skip
    refine Wp.n (pc' := 44) 1 rfl ?_
    refine Wp.get (len := 3) rfl (rfl) rfl ?_
    refine Wp.top t7 ?_
    refine Wp.n (pc' := 49) 1 rfl ?_
    refine Wp.nc3 (x := (wat K s.2).length) (y := 6) (tgt := 75) (len := 3) rfl (by omega) (by omega) (fun h49 => ?_) (fun h49 => ?_)
    · omega
    · skip
      refine Wp.n (pc' := 53) 1 rfl ?_
      refine Wp.get (len := 3) rfl (rfl) rfl ?_
      refine Wp.n (pc' := 57) 1 rfl ?_
      refine Wp.get (len := 3) rfl (rfl) rfl ?_
      refine Wp.top t7 ?_
      refine Wp.n (pc' := 61) 1 rfl ?_
      refine Wp.get (len := 3) rfl (hM _) rfl ?_
      refine Wp.top hf6 ?_
      refine Wp.ciastN (s := 12) (n := 6) (j := (wat K s.2).length) (len := 1) rfl rfl rfl rfl (by omega) ?_
      refine Wp.n (pc' := 67) 2 rfl ?_
      refine Wp.get (len := 3) rfl (rfl) rfl ?_
      refine Wp.top t7 ?_
      refine Wp.n (pc' := 71) 1 rfl ?_
      refine Wp.iaddN (x := (wat K s.2).length) (y := 1) (len := 1) rfl ?_
      refine Wp.cput11 7 rfl (len := 3) rfl ?_
      refine Wp.retV (len := 1) rfl rfl ?_
      first
        | (have e : wat K (addJ K s j).2 = wat K s.2 := by rw [wat_add, if_neg (by omega)]
           refine ⟨rfl, _, rfl, ((Fc.r.f rfl).f rfl).f rfl, rfl, rfl, rfl, ?_, ?_, ?_⟩
           · rw [bitsC_add]; rfl
           · rw [e]; exact t7
           · rw [e]; exact ta)
        | (have e : wat K (addJ K s j).2 = wat K s.2 ++ [watJ K j] := by rw [wat_add, if_pos (by omega)]
           refine ⟨rfl, _, rfl, ((((Fc.r.f rfl).f rfl).f rfl).a rfl).f rfl, rfl, rfl, rfl, ?_, ?_, ?_⟩
           · rw [bitsC_add]; rfl
           · rw [e, List.length_append]; rfl
           · rw [e, List.length_append]
             intro q hq
             have hq' : q < (wat K s.2).length + 1 := hq
             show upd (κ.2.1 12) (wat K s.2).length (nI (watJ K j)) q = _
             by_cases c : q = (wat K s.2).length
             · rw [c, pk_us, getD_end]
             · rw [pk_un c, getD_app (by omega)]
               exact ta q (by omega))


theorem t_follow_l (hR : RA M r ρ) (hK : RepC ρ K) (ok : KOK K) (h1 : 36 ≤ r) (h2 : r + 47 ≤ 272) {w : Nat} (hw : w < kh K 4) : ∀ (n i : Nat) (s : Nat × List Nat) (κ1 : CS) (z5 : Option Value), i + n = kw K w 3 - 1 → Fc [11] [12] [] κ κ1 → κ1.1 11 1 = 1 → TS κ1 K i s → SB K i s → (∀ κ2 z4' z5', Fc [11] [12] [] κ κ2 → κ2.1 11 1 = bI (decide ((lookK K (kw K w 2) (fun i => kw K w (4 + i)) n i s).1 = kw K w 3 - 1)) → TS κ2 K (lookK K (kw K w 2) (fun i => kw K w (4 + i)) n i s).1 (lookK K (kw K w 2) (fun i => kw K w (4 + i)) n i s).2 → Wp (d + 9) md_63 106 [some (.ref 280), some (.ref r), some (.int (nI w)), some (.ref (r + 26 + 2 * w)), z4', z5'] [] (cset M κ2) Q) → Wp (d + 9) md_63 35 [some (.ref 280), some (.ref r), some (.int (nI w)), some (.ref (r + 26 + 2 * w)), some (.int (nI i)), z5] [] (cset M κ1) Q := by
  intro n
  obtain ⟨b0, b1, b2, b3, b4, b5, b6, b7, b8, b9, b10, b11, b12⟩ := ok_h ok
  have t := ok_walk ok hw
  have q := rc_walk hK hw
  have hRc : ∀ κ : CS, RA (cset M κ) r ρ := fun κ => RA_c hR h1 h2
  have hwk : ∀ κ : CS, cset M κ (r + 26 + 2 * w) = .inr (7, wfs (rwk ρ w) (r + 27 + 2 * w)) := fun κ => ra_walk (hRc κ) (by omega)
  induction n with
  | zero =>
    intro i s κ1 z5 hi hF hl hT hS k
    refine Wp.n (pc' := 38) 2 rfl ?_
    refine Wp.get (len := 3) rfl (hwk _) rfl ?_
    refine Wp.top q.2.2.2.1 ?_
    refine Wp.nc3 (x := i) (y := kw K w 3 - 1) (tgt := 106) (len := 3) rfl (by omega) (by omega) (fun h41 => ?_) (fun h41 => ?_)
    · skip
      refine k κ1 _ _ hF ?_ hT
      rw [hl, decide_eq_true (by show i = _; omega)]
      rfl
    · omega
  | succ n ih =>
    intro i s κ1 z5 hi hF hl hT hS k
    have p0 := t.2.2.2.2.2.2.1 i (by omega)
    have p1 := t.2.2.2.2.2.2.1 (i + 1) (by omega)
    unfold lookK at k
    refine Wp.n (pc' := 38) 2 rfl ?_
    refine Wp.get (len := 3) rfl (hwk _) rfl ?_
    refine Wp.top q.2.2.2.1 ?_
    refine Wp.nc3 (x := i) (y := kw K w 3 - 1) (tgt := 106) (len := 3) rfl (by omega) (by omega) (fun h41 => ?_) (fun h41 => ?_)
    · omega
    · skip
      refine Wp.n (pc' := 45) 1 rfl ?_
      refine Wp.get (len := 3) rfl (rfl) rfl ?_
      refine Wp.top (show _ = nI 1 from hl) ?_
      refine Wp.nz0 (x := 1) (tgt := 106) (len := 3) rfl (by omega) (fun h48 => ?_) (fun h48 => ?_)
      · omega
      · skip
        refine Wp.n (pc' := 55) 3 rfl ?_
        refine Wp.ecallV (len := 3) rfl rfl rfl (hwk _) rfl (by omega) rfl (k_stopAt (hRc _) hK ok hw (i := i) (by omega)) ?_
        refine Wp.n (pc' := 62) 3 rfl ?_
        refine Wp.iaddN (x := i) (y := 1) (len := 1) rfl ?_
        refine Wp.ecallV (len := 3) rfl rfl rfl (hwk _) rfl (by omega) rfl (k_stopAt (hRc _) hK ok hw (i := i + 1) (by omega)) ?_
        refine Wp.n (pc' := 67) 1 rfl ?_
        refine Wp.get (len := 3) rfl (hwk _) rfl ?_
        refine Wp.top q.2.2.1 ?_
        refine Wp.ecallV (len := 3) rfl rfl rfl (ra_obj (hRc _)) rfl (by omega) rfl (k_linkOf (hRc _) hK ok (by omega) (by omega) (by omega) (by omega)) ?_
        rcases hj : joinK K (kw K w (4 + i)) (kw K w (4 + (i + 1))) (kw K w 2) with _ | j
        · rw [show joinK K (kw K w (4 + i)) (kw K w (4 + (i + 1))) (kw K w 2) = none from hj] at k
          refine Wp.n (pc' := 78) 3 rfl ?_
          refine Wp.s (pc' := 85) rfl ?_
          refine Wp.n (pc' := 86) 1 rfl ?_
          refine Wp.cput11Z (len := 3) rfl rfl ?_
          refine Wp.n (pc' := 91) 1 rfl ?_
          refine Wp.s (pc' := 100) rfl ?_
          refine Wp.incN (x := i) (len := 3) rfl rfl ?_
          refine Wp.n (pc' := 35) 1 rfl ?_
          refine Wp.n (pc' := 38) 2 rfl ?_
          refine Wp.get (len := 3) rfl (hwk _) rfl ?_
          refine Wp.top q.2.2.2.1 ?_
          refine Wp.nc3 (x := i + 1) (y := kw K w 3 - 1) (tgt := 106) (len := 3) rfl (by omega) (by omega) (fun h41 => ?_) (fun h41 => ?_)
          · skip
            refine k (cf κ1 11 1 0) _ _ (hF.f rfl) ?_ hT
            rw [decide_eq_false (by show ¬ i = _; omega)]
            rfl
          · skip
            refine Wp.n (pc' := 45) 1 rfl ?_
            refine Wp.get (len := 3) rfl (rfl) rfl ?_
            refine Wp.top (show _ = nI 0 from rfl) ?_
            refine Wp.nz0 (x := 0) (tgt := 106) (len := 3) rfl (by omega) (fun h48 => ?_) (fun h48 => ?_)
            · skip
              refine k (cf κ1 11 1 0) _ _ (hF.f rfl) ?_ hT
              rw [decide_eq_false (by show ¬ i = _; omega)]
              rfl
            · omega
        · rw [show joinK K (kw K w (4 + i)) (kw K w (4 + (i + 1))) (kw K w 2) = some j from hj] at k
          refine Wp.n (pc' := 78) 3 rfl ?_
          refine Wp.s (pc' := 81) rfl ?_
          refine Wp.n (pc' := 86) 2 rfl ?_
          refine Wp.cput11Z (len := 3) rfl rfl ?_
          refine Wp.n (pc' := 91) 1 rfl ?_
          refine Wp.s (pc' := 94) rfl ?_
          refine Wp.n (pc' := 97) 2 rfl ?_
          refine Wp.callV (len := 3) rfl rfl rfl (rfl) rfl (by omega) rfl (t_goBy (d := d + 7) hR hK ok h1 h2 (κ := cf κ1 11 1 1) hT hS (by omega) (joinK_v ok hj)) ?_
          rintro _ _ ⟨rfl, κ2, rfl, hF2, hl2, hT2⟩
          refine Wp.incN (x := i) (len := 3) rfl rfl ?_
          refine Wp.n (pc' := 35) 1 rfl ?_
          exact ih (i + 1) (addJ K s j) κ2 _ (by omega) ((hF.f rfl).t hF2) hl2 hT2 (SB_s ok hS (joinK_v ok hj)) k

/-- the trip's fields after a walk was followed -/
def TW (κ : CS) (K : KD) (w : Nat) : Prop := TS κ K (TRr K w).1 (TRr K w).2 ∧ κ.1 11 1 = bI (lawK K w) ∧ κ.1 11 4 = nI (savW K w) ∧ κ.1 11 5 = nI (dutW K w)
theorem t_follow (hk : RK M r K) {w : Nat} (hw : w < kh K 4) : Wp (d + 9) md_63 0 [some (.ref 280), some (.ref r), some (.int (nI w)), none, none, none] [] (cset M κ) (fun v M' => v = none ∧ ∃ κ', M' = cset M κ' ∧ Fc [11] [12] [] κ κ' ∧ TW κ' K w) := by
  obtain ⟨ρ, hR, hK, hD, ok, h1, h2⟩ := hk
  obtain ⟨b0, b1, b2, b3, b4, b5, b6, b7, b8, b9, b10, b11, b12⟩ := ok_h ok
  have t := ok_walk ok hw
  have q := rc_walk hK hw
  have hRc : ∀ κ : CS, RA (cset M κ) r ρ := fun κ => RA_c hR h1 h2
  have hwk : ∀ κ : CS, cset M κ (r + 26 + 2 * w) = .inr (7, wfs (rwk ρ w) (r + 27 + 2 * w)) := fun κ => ra_walk (hRc κ) (by omega)
  have p0 := t.2.2.2.2.2.2.1 0 (by omega)
  have p1 := t.2.2.2.2.2.2.1 (kw K w 3 - 1) (by omega)
  rw [show 4 + (kw K w 3 - 1) = 3 + kw K w 3 by omega] at p1
  have tb := (TRr_b ok hw).1
  have tl : (TRr K w).2.1 ≤ 774 := tb.1
  have hbl := bitsC_lt ok tb.2.2
  have hsb : savW K w ≤ 774 := savK_b ok p0
  refine Wp.n (pc' := 1) 1 rfl ?_
  refine Wp.get (len := 3) rfl (ra_obj (hRc _)) rfl ?_
  refine Wp.n (pc' := 5) 1 rfl ?_
  refine Wp.aaldN (j := w) (len := 1) rfl (ra_walks (hRc _)) rfl (by omega) (by decide) (if_pos (by omega)) ?_
  refine Wp.n (pc' := 9) 3 rfl ?_
  refine Wp.cput11 0 rfl (len := 3) rfl ?_
  refine Wp.n (pc' := 14) 2 rfl ?_
  refine Wp.cput11Z (len := 3) rfl rfl ?_
  refine Wp.n (pc' := 19) 2 rfl ?_
  refine Wp.cput11 2 rfl (len := 3) rfl ?_
  refine Wp.n (pc' := 24) 2 rfl ?_
  refine Wp.cput11 3 rfl (len := 3) rfl ?_
  refine Wp.n (pc' := 29) 2 rfl ?_
  refine Wp.cput11 7 rfl (len := 3) rfl ?_
  refine Wp.n (pc' := 35) 2 rfl ?_
  refine t_follow_l (d := d) (κ := κ) hR hK ok h1 h2 hw (kw K w 3 - 1) 0 (0, []) _ _ (by omega) (((((Fc.r.f rfl).f rfl).f rfl).f rfl).f rfl) rfl ⟨rfl, rfl, rfl, rfl, fun i hi => absurd hi (Nat.not_lt_zero i)⟩ ⟨Nat.le_refl _, Nat.le_refl _, fun l hl => absurd hl List.not_mem_nil⟩ (fun κ2 z4 z5 hF2 hl2 hT2 => ?_)
  obtain ⟨t0, t2, t3, t7, ta⟩ := id hT2
  refine Wp.n (pc' := 109) 3 rfl ?_
  refine Wp.ecallV (len := 3) rfl rfl rfl (hwk _) rfl (by omega) rfl (k_first (hRc _) hK ok (by omega) hw) ?_
  refine Wp.n (pc' := 113) 1 rfl ?_
  refine Wp.ecallV (len := 3) rfl rfl rfl (hwk _) rfl (by omega) rfl (k_last (hRc _) hK ok (by omega) hw) ?_
  refine Wp.ecallV (len := 3) rfl rfl rfl (ra_obj (hRc _)) rfl (by omega) rfl (k_byRoad (hRc _) hD ok p0 p1) ?_
  refine Wp.n (pc' := 120) 1 rfl ?_
  refine Wp.get (len := 3) rfl (rfl) rfl ?_
  refine Wp.top t2 ?_
  refine Wp.ecallS (len := 3) rfl rfl rfl rfl (k_sparedOf ok p0 (show (TRr K w).2.1 ≤ 2000 by omega)) ?_
  refine Wp.cput11 4 rfl (len := 3) rfl ?_
  refine Wp.n (pc' := 130) 1 rfl ?_
  refine Wp.get (len := 3) rfl (rfl) rfl ?_
  refine Wp.top t3 ?_
  refine Wp.n (pc' := 134) 1 rfl ?_
  refine Wp.ecallV (len := 3) rfl rfl rfl (ra_obj (hRc _)) rfl (by omega) rfl (k_boatLanes (hRc _) hK ok) ?_
  refine Wp.n (pc' := 138) 1 rfl ?_
  refine Wp.top (n_and _ _) ?_
  refine Wp.nz0 (x := bitsC K (TRr K w).2.2 &&& boatC K) (tgt := 145) (len := 3) rfl (Nat.lt_of_le_of_lt Nat.and_le_left (by omega)) (fun h138 => ?_) (fun h138 => ?_)
  · have hbt : boatK K (TRr K w).2.2 = false := (boatC_and ok tb.2.2).mp h138
    refine Wp.n (pc' := 151) 4 rfl ?_
    refine Wp.nz0 (x := 0) (tgt := 158) (len := 3) rfl (by omega) (fun h151 => ?_) (fun h151 => ?_)
    · skip
      refine Wp.n (pc' := 159) 1 rfl ?_
      refine Wp.get (len := 3) rfl (ra_obj (hRc _)) rfl ?_
      refine Wp.n (pc' := 163) 1 rfl ?_
      refine Wp.get (len := 3) rfl (rfl) rfl ?_
      refine Wp.top (show _ = nI (savW K w) from rfl) ?_
      refine Wp.n (pc' := 167) 1 rfl ?_
      refine Wp.get (len := 3) rfl (hwk _) rfl ?_
      refine Wp.top q.2.1 ?_
      refine Wp.n (pc' := 171) 1 rfl ?_
      refine Wp.get (len := 3) rfl (hwk _) rfl ?_
      refine Wp.top q.2.2.1 ?_
      refine Wp.ecallV (len := 3) rfl rfl rfl (ra_law (hRc _)) rfl (by omega) rfl (k_dutyOn (hRc _) hK ok (by omega) hsb (by omega) (by omega)) ?_
      refine Wp.cput11 5 rfl (len := 3) rfl ?_
      refine Wp.retV (len := 1) rfl rfl ?_
      refine ⟨rfl, _, rfl, (hF2.f rfl).f rfl, hT2, hl2, rfl, ?_⟩
      show _ = nI (dutyS K (boatK K (TRr K w).2.2) (savW K w) (kw K w 2) (kw K w 1))
      rw [hbt]
      first
        | rfl
        | (unfold dutyS; rw [if_pos (Or.inl rfl)]; rfl)
    · omega
  · have hbt : boatK K (TRr K w).2.2 = true := by
      cases e : boatK K (TRr K w).2.2 with
      | true => rfl
      | false => exact absurd ((boatC_and ok tb.2.2).mpr e) h138
    refine Wp.n (pc' := 151) 5 rfl ?_
    refine Wp.nz0 (x := 1) (tgt := 158) (len := 3) rfl (by omega) (fun h151 => ?_) (fun h151 => ?_)
    · omega
    · skip
      refine Wp.n (pc' := 177) 2 rfl ?_
      refine Wp.cput11 5 rfl (len := 3) rfl ?_
      refine Wp.retV (len := 1) rfl rfl ?_
      refine ⟨rfl, _, rfl, (hF2.f rfl).f rfl, hT2, hl2, rfl, ?_⟩
      show _ = nI (dutyS K (boatK K (TRr K w).2.2) (savW K w) (kw K w 2) (kw K w 1))
      rw [hbt]
      first
        | rfl
        | (unfold dutyS; rw [if_pos (Or.inl rfl)]; rfl)

end TRIP
end
section
/-! ALL WAYS: what each is, how many there are at most; what the best is. -/
theorem loopL_mem {α : Type} {g : Nat → List α} {w : α} : ∀ {n p : Nat}, w ∈ loopL g n p → ∃ q, p ≤ q ∧ q < p + n ∧ w ∈ g q
  | 0, _, h => by cases h
  | n + 1, p, h => by
    unfold loopL at h
    rcases List.mem_append.mp h with h | h
    · exact ⟨p, Nat.le_refl _, by omega, h⟩
    · obtain ⟨q, h1, h2, h3⟩ := loopL_mem h
      exact ⟨q, by omega, by omega, h3⟩
theorem dfs_pv {K : KD} {y t : Nat} : ∀ (f : Nat) (ps : List Nat) (q : Nat) (s : Nat × List Nat), PV K y ps q s → ∀ w, w ∈ dfs K y t f ps q s → PV K y w.1 t w.2 ∧ w.1.getD 0 0 = ps.getD 0 0
  | 0, _, _, _, _, _, hw => by cases hw
  | f + 1, ps, q, s, hP, w, hw => by
    unfold dfs at hw
    by_cases hq : q = t
    · rw [if_pos hq, List.mem_singleton] at hw
      subst hw
      subst hq
      exact ⟨hP, rfl⟩
    · rw [if_neg hq] at hw
      obtain ⟨p, h1, h2, h3⟩ := loopL_mem hw
      by_cases hc : ps.contains p = true
      · rw [if_pos hc] at h3
        cases h3
      · rw [if_neg hc] at h3
        cases hj : joinK K q p y with
        | none => rw [hj] at h3; cases h3
        | some j =>
          rw [hj] at h3
          obtain ⟨a1, a2⟩ := dfs_pv f (ps ++ [p]) p (addJ K s j) (PV_s hP (by omega) (by cases e : ps.contains p with | false => rfl | true => exact absurd e hc) hj) w h3
          refine ⟨a1, a2.trans (getD_app ?_)⟩
          have := hP.1
          omega
theorem allW_pv {K : KD} {y t a : Nat} (ha : a < kh K 0) {w : List Nat × Nat × List Nat} (hw : w ∈ allW K y a t) : PV K y w.1 t w.2 ∧ w.1.getD 0 0 = a := by
  have h := dfs_pv 7 [a] a (0, []) (PV_1 ha) w hw
  exact ⟨h.1, h.2⟩
def nb : Nat → Nat
  | 0 => 1
  | m + 1 => 1 + (m + 1) * nb m
theorem loopL_len {α : Type} {g : Nat → List α} {P Q : Nat → Bool} {B : Nat} : ∀ (n p : Nat), (∀ q, p ≤ q → q < p + n → (g q).length ≤ (bif P q then 1 else 0) + (bif Q q then B else 0)) → (loopL g n p).length ≤ fld (fun c q => c + (bif P q then 1 else 0)) n p 0 + fld (fun c q => c + (bif Q q then 1 else 0)) n p 0 * B
  | 0, p, _ => by show 0 ≤ _; omega
  | n + 1, p, h => by
    have ih := loopL_len (g := g) (P := P) (Q := Q) (B := B) n (p + 1) (fun q h1 h2 => h q (by omega) (by omega))
    have hp := h p (Nat.le_refl _) (by omega)
    have sh : ∀ (R : Nat → Bool) (m i c : Nat), fld (fun c q => c + (bif R q then 1 else 0)) m i c = c + fld (fun c q => c + (bif R q then 1 else 0)) m i 0 := by
      intro R m
      induction m with
      | zero => intro i c; rfl
      | succ m ihm =>
        intro i c
        show fld _ m (i + 1) (c + _) = c + fld _ m (i + 1) (0 + _)
        rw [ihm (i + 1) (c + _), ihm (i + 1) (0 + _)]
        omega
    show (g p ++ loopL g n (p + 1)).length ≤ fld _ n (p + 1) (0 + (bif P p then 1 else 0)) + fld _ n (p + 1) (0 + (bif Q p then 1 else 0)) * B
    rw [List.length_append, sh P n (p + 1) (0 + _), sh Q n (p + 1) (0 + _), Nat.add_mul]
    have e : (0 + (bif Q p then 1 else 0)) * B = bif Q p then B else 0 := by cases Q p <;> simp
    rw [e]
    omega
theorem fld_cn (P : Nat → Bool) : ∀ n, fld (fun c q => c + (bif P q then 1 else 0)) n 0 0 = cn P n
  | 0 => rfl
  | n + 1 => by
    rw [fld_s, fld_cn P n, Nat.zero_add]
    show cn P n + _ = cn P n + (P n).toNat
    cases h : P n <;> rfl
theorem nb_mono : ∀ {a b : Nat}, a ≤ b → nb a ≤ nb b
  | a, 0, h => by rw [Nat.le_zero.mp h]; exact Nat.le_refl _
  | a, b + 1, h => by
    by_cases e : a = b + 1
    · rw [e]; exact Nat.le_refl _
    · have h1 := nb_mono (a := a) (b := b) (by omega)
      have h2 : nb b ≤ nb (b + 1) := by
        show nb b ≤ 1 + (b + 1) * nb b
        rw [Nat.add_mul]
        omega
      exact Nat.le_trans h1 h2
/-- places that are not yet met, the goal aside -/
def lft (K : KD) (ps : List Nat) (t : Nat) : Nat := cn (fun p => !(ps.contains p) && !(decide (p = t))) (kh K 0)
theorem dfs_len {K : KD} {y t : Nat} : ∀ (f : Nat) (ps : List Nat) (q : Nat) (s : Nat × List Nat), (dfs K y t f ps q s).length ≤ nb (lft K ps t)
  | 0, _, _, _ => Nat.zero_le _
  | f + 1, ps, q, s => by
    unfold dfs
    by_cases hq : q = t
    · rw [if_pos hq]
      exact nb_mono (a := 0) (Nat.zero_le _)
    · rw [if_neg hq]
      have hl : ∀ p, p < kh K 0 → ps.contains p = false → p ≠ t → lft K (ps ++ [p]) t + 1 ≤ lft K ps t := by
        intro p hp hc ht
        refine cn_lt (kh K 0) (fun r hr h => ?_) ⟨p, hp, ?_, ?_⟩
        · simp only [List.contains_append, Bool.not_or, Bool.and_eq_true] at h ⊢
          exact ⟨h.1.1, h.2⟩
        · simp
        · rw [hc]; simp [ht]
      obtain ⟨m, hm⟩ : ∃ m, lft K ps t = m := ⟨_, rfl⟩
      refine Nat.le_trans (loopL_len (P := fun p => decide (p = t)) (Q := fun p => !(ps.contains p) && !(decide (p = t))) (B := nb (m - 1)) (kh K 0) 0 (fun p h1 h2 => ?_)) ?_
      · skip
        by_cases hc : ps.contains p = true
        · rw [if_pos hc]; exact Nat.zero_le _
        · rw [if_neg hc]
          have hc' : ps.contains p = false := by cases e : ps.contains p with | false => rfl | true => exact absurd e hc
          cases hj : joinK K q p y with
          | none => exact Nat.zero_le _
          | some j =>
            dsimp only
            by_cases ht : p = t
            · rw [decide_eq_true ht]
              have : (dfs K y t f (ps ++ [p]) p (addJ K s j)).length ≤ 1 := by
                cases f with
                | zero => exact Nat.zero_le _
                | succ f => unfold dfs; rw [if_pos ht]; exact Nat.le_refl _
              show _ ≤ 1 + _
              omega
            · rw [decide_eq_false ht, hc']
              have := dfs_len (K := K) (y := y) (t := t) f (ps ++ [p]) p (addJ K s j)
              have := hl p (by omega) hc' ht
              have := nb_mono (a := lft K (ps ++ [p]) t) (b := m - 1) (by omega)
              show _ ≤ 0 + nb (m - 1)
              omega
      rw [fld_cn, fld_cn]
      have e1 : cn (fun p => decide (p = t)) (kh K 0) ≤ 1 := by
        rw [cn_one]
        split <;> omega
      have e2 : cn (fun p => !(ps.contains p) && !(decide (p = t))) (kh K 0) = m := hm
      rw [e2, hm]
      cases m with
      | zero =>
        rw [Nat.zero_mul]
        show _ ≤ 1
        omega
      | succ m =>
        show _ ≤ 1 + (m + 1) * nb m
        rw [show m + 1 - 1 = m from rfl]
        omega
theorem allW_len {K : KD} (ok : KOK K) {y t a : Nat} (ha : a < kh K 0) (ht : t < kh K 0) : (allW K y a t).length ≤ 326 := by
  by_cases e : a = t
  · unfold allW dfs
    rw [if_pos e]
    show 1 ≤ 326
    decide
  · refine Nat.le_trans (dfs_len 7 [a] a (0, [])) ?_
    have h0 := (ok_h ok).1
    have h1 : lft K [a] t + 2 ≤ kh K 0 := by
      have c1 := cn_or (P := fun p => !([a].contains p) && !(decide (p = t))) (Q := fun p => decide (p = a) || decide (p = t)) (kh K 0) (fun q h => by
        obtain ⟨h2, h3⟩ := h
        simp at h2 h3
        omega)
      have c2 := cn_or (P := fun p => decide (p = a)) (Q := fun p => decide (p = t)) (kh K 0) (fun q h => by
        obtain ⟨h2, h3⟩ := h
        simp at h2 h3
        omega)
      rw [cn_one, cn_one, if_pos ha, if_pos ht] at c2
      have c3 := cn_le (P := fun q => (!([a].contains q) && !(decide (q = t))) || (decide (q = a) || decide (q = t))) (Q := fun _ => true) (kh K 0) (fun _ _ _ => rfl)
      rw [cn_all] at c3
      have c4 : lft K [a] t = cn (fun p => !([a].contains p) && !(decide (p = t))) (kh K 0) := rfl
      omega
    exact nb_mono (a := lft K [a] t) (b := 5) (by omega)
section FIN
variable {K : KD}
/-- what a run of meets keeps -/
def FI (aim k : Nat) (st : MT) : Prop := MB st ∧ st.1 ≤ k ∧ (aim ≤ 2 → 0 < st.1 → st.2.1 ≤ 766260 ∧ st.2.2.1 ≤ 774 ∧ ∃ dq pq, st.2.2.2.2 = some (dq, pq) ∧ dq ≤ 689634 ∧ 1 ≤ pq.length ∧ pq.length ≤ 7 ∧ ∀ p, p ∈ pq → p < kh K 0)
theorem cW_b2 (ok : KOK K) {aim dd : Nat} {s : Nat × List Nat} (hs : s.1 ≤ 774) (hd : dd ≤ 689634) : cW K aim dd s ≤ 766260 := by
  unfold cW
  have b8 := (ok_h ok).2.2.2.2.2.2.2.2.1
  split
  · have := Nat.mul_le_mul b8 hs
    omega
  · omega
theorem FI_s (ok : KOK K) {aim a b y load dn k : Nat} {st : MT} {w : List Nat × Nat × List Nat} (ha : a < kh K 0) (hl : load ≤ 9) (hw : PV K y w.1 b w.2) (h : FI (K := K) aim k st) (hb : st.1 = 0 → st = st0) : FI (K := K) aim (k + 1) (meet K aim a b y load dn st w) ∧ ((meet K aim a b y load dn st w).1 = 0 → meet K aim a b y load dn st w = st0) := by
  have hs : w.2.1 ≤ 774 := (PV_sb ok hw).1
  have hlen := PV_len ok hw
  have h0 := (ok_h ok).1
  have hd : dW K a b y load w.2 ≤ 689634 := dutyS_b ok (savK_b ok ha) hl
  have hc := cW_b2 (aim := aim) ok hs hd
  have hm := meet_b (aim := aim) (b := b) (y := y) (dn := dn) (w := w) ok hs ha hl h.1
  obtain ⟨h1, h2, h3⟩ := h
  refine ⟨⟨hm, ?_, ?_⟩, ?_⟩
  · unfold meet
    split
    · omega
    · split
      · split
        · show st.1 + 1 ≤ _; omega
        · omega
      · split
        · show st.1 + 1 ≤ _; omega
        · show st.1 + 1 ≤ _; omega
  · intro haim
    unfold meet
    split
    · exact h3 haim
    · rw [if_neg (by omega)]
      split
      · rename_i hcc
        intro _
        by_cases e : 0 < st.1
        · exact h3 haim e
        · exfalso
          rw [hb (by omega)] at hcc
          unfold st0 at hcc
          rcases hcc with q | q
          · have q' : 100000000 < cW K aim (dW K a b y load w.2) w.2 := q
            omega
          · have q' : cW K aim (dW K a b y load w.2) w.2 = 100000000 := q.1
            omega
      · intro _
        refine ⟨hc, hs, _, _, rfl, ?_, hw.1, by omega, hw.2.2.2.1⟩
        split
        · exact hd
        · omega
  · unfold meet
    split
    · exact hb
    · split
      · split
        · intro q; exact absurd q (Nat.succ_ne_zero _)
        · exact hb
      · split
        · intro q; exact absurd q (Nat.succ_ne_zero _)
        · intro q; exact absurd q (Nat.succ_ne_zero _)
theorem FI_all (ok : KOK K) {aim a b y load dn : Nat} (ha : a < kh K 0) (hl : load ≤ 9) : ∀ (ws : List (List Nat × Nat × List Nat)) (st : MT) (k : Nat), (∀ w, w ∈ ws → PV K y w.1 b w.2) → FI (K := K) aim k st → (st.1 = 0 → st = st0) → FI (K := K) aim (k + ws.length) (List.foldl (meet K aim a b y load dn) st ws)
  | [], st, k, _, h, _ => h
  | w :: ws, st, k, hw, h, hb => by
    obtain ⟨h1, h2⟩ := FI_s (dn := dn) ok ha hl (hw w List.mem_cons_self) h hb
    have := FI_all ok (dn := dn) ha hl ws _ (k + 1) (fun v hv => hw v (List.mem_cons_of_mem _ hv)) h1 h2
    rw [show k + 1 + ws.length = k + (w :: ws).length by rw [List.length_cons]; omega] at this
    exact this
theorem fin_i (ok : KOK K) {aim a t y load dn : Nat} (ha : a < kh K 0) (ht : t < kh K 0) (hl : load ≤ 9) : FI (K := K) aim 326 (fin K aim a t y load dn) := by
  have h := FI_all ok (aim := aim) (b := t) (y := y) (dn := dn) ha hl (allW K y a t) st0 0 (fun w hw => (allW_pv ha hw).1) ⟨⟨Nat.le_refl _, Nat.le_refl _⟩, Nat.le_refl _, fun _ q => absurd q (Nat.lt_irrefl 0)⟩ (fun _ => rfl)
  have := allW_len ok (y := y) ha ht
  exact ⟨h.1, Nat.le_trans h.2.1 (by omega), h.2.2⟩
end FIN
def bD (f : MT) : Nat := match f.2.2.2.2 with | none => 0 | some b => b.1
def bP (f : MT) : List Nat := match f.2.2.2.2 with | none => [] | some b => b.2
end
section
/-! THE REFERENCE'S QUESTIONS: roads, lanes, what joins, a walk's facts; all that seeks. -/
theorem isT_of {K : KD} {x y z : Int32} (h : isT K x y z = true) : ∃ a t v : Nat, a < kh K 0 ∧ t < kh K 0 ∧ v < kh K 1 ∧ a ≠ t ∧ x = nI a ∧ y = nI t ∧ z = nI v := by
  unfold isT areT at h
  simp only [Bool.and_eq_true, Bool.not_eq_true', decide_eq_false_iff_not] at h
  obtain ⟨⟨⟨h1, h2⟩, h3⟩, h4⟩ := h
  obtain ⟨a, ha, rfl⟩ := isN_of h1
  obtain ⟨t, ht, rfl⟩ := isN_of h2
  obtain ⟨v, hv, rfl⟩ := isN_of h4
  exact ⟨a, t, v, ha, ht, hv, fun e => h3 (by rw [e]), rfl, rfl, rfl⟩
theorem areT_of {K : KD} {x y : Int32} (h : areT K x y = true) : ∃ a t : Nat, a < kh K 0 ∧ t < kh K 0 ∧ a ≠ t ∧ x = nI a ∧ y = nI t := by
  unfold areT at h
  simp only [Bool.and_eq_true, Bool.not_eq_true', decide_eq_false_iff_not] at h
  obtain ⟨⟨h1, h2⟩, h3⟩ := h
  obtain ⟨a, ha, rfl⟩ := isN_of h1
  obtain ⟨t, ht, rfl⟩ := isN_of h2
  exact ⟨a, t, ha, ht, fun e => h3 (by rw [e]), rfl, rfl⟩
/-- a number from lo to hi -/
def isR (lo hi : Nat) (x : Int32) : Bool := decide ((lo : Int) ≤ x.toInt ∧ x.toInt ≤ (hi : Int))
theorem isR_of {lo hi : Nat} {x : Int32} (h : isR lo hi x = true) : ∃ m : Nat, lo ≤ m ∧ m ≤ hi ∧ m < 2 ^ 31 ∧ x = nI m := by
  have h1 := of_decide_eq_true h
  obtain ⟨a, ha, rfl⟩ := nI_of (x := x) (by rw [i_lt]; intro q; have : x.toInt < 0 := q; omega)
  rw [nI_toInt ha] at h1
  exact ⟨a, by omega, by omega, ha, rfl⟩
def roadA (K : KD) (x y : Int32) : Int32 := if (isN (kh K 0) x && isN (kh K 0) y) = true then dI (distK K x.toNatClampNeg y.toNatClampNeg) else -2
def wayQ (K : KD) (x y i : Int32) : Int32 := if (isN (kh K 0) x && isN (kh K 0) y) = true then wayA K x.toNatClampNeg y.toNatClampNeg i else -2
def openA (K : KD) (x y : Int32) : Int32 := if isN (kh K 3) x = true ∧ isN (kh K 1) y = true then bI (openK K x.toNatClampNeg y.toNatClampNeg) else -2
def joinsA (K : KD) (x y z : Int32) : Int32 := if isT K x y z = true then oI (joinK K x.toNatClampNeg y.toNatClampNeg z.toNatClampNeg) else -2
def walkQ (K : KD) (w k : Nat) : Nat := if k < 3 then kw K w k else if k = 3 then kw K w 4 else if k = 4 then kw K w (3 + kw K w 3) else kw K w 3 - 1
def walkA (K : KD) (x y : Int32) : Int32 := if isN (kh K 4) x = true ∧ isN 6 y = true then nI (walkQ K x.toNatClampNeg y.toNatClampNeg) else -2
def shortW (f : MT) : Int32 := if f.1 = 0 then -1 else nI f.2.2.1
def bestW (f : MT) (k : Nat) : Int32 := if f.1 = 0 then -1 else if k = 0 then nI f.2.1 else if k = 1 then nI f.2.2.1 else if k = 2 then nI (bD f) else nI (bP f).length
def goesW (f : MT) (i : Int32) : Int32 := if 0 < f.1 ∧ isN (bP f).length i = true then nI ((bP f).getD i.toNatClampNeg 0) else -1
def shortestA (K : KD) (x y z : Int32) : Int32 := if isT K x y z = true then shortW (fin K 0 x.toNatClampNeg y.toNatClampNeg z.toNatClampNeg 1 0) else -2
def hiddenA (K : KD) (x y z : Int32) : Int32 := if isT K x y z = true then shortW (fin K 1 x.toNatClampNeg y.toNatClampNeg z.toNatClampNeg 1 0) else -2
def waysA (K : KD) (x y z : Int32) : Int32 := if isT K x y z = true then nI (fin K 0 x.toNatClampNeg y.toNatClampNeg z.toNatClampNeg 1 0).1 else -2
def bestA (K : KD) (x y z l k : Int32) : Int32 := if isT K x y z = true ∧ isR 1 9 l = true ∧ isN 4 k = true then bestW (fin K 2 x.toNatClampNeg y.toNatClampNeg z.toNatClampNeg l.toNatClampNeg 0) k.toNatClampNeg else -2
def goesA (K : KD) (x y z l i : Int32) : Int32 := if isT K x y z = true ∧ isR 1 9 l = true then goesW (fin K 2 x.toNatClampNeg y.toNatClampNeg z.toNatClampNeg l.toNatClampNeg 0) i else -2
section RQ2
variable {d : Nat} {M : AM} {σ σ' : MS} {K : KD} {Q : Option Value → AM → Prop}

theorem m_road (hM : MK σ K) (x y : Int32) : Wp (d + 2) md_186 0 [some (.ref 287), some (.int x), some (.int y)] [] (mset M σ) (RI M σ (roadA K x y)) := by
  have ok := hM.2.1
  have hσ0 := hM.2.2.2
  obtain ⟨b0, b1, b2, b3, b4, b5, b6, b7, b8, b9, b10, b11, b12⟩ := ok_h ok
  unfold roadA
  refine Wp.n (pc' := 2) 2 rfl ?_
  refine Wp.mput0 (len := 3) rfl hσ0 ?_
  refine Wp.n (pc' := 7) 2 rfl ?_
  refine Wp.ecallV (len := 3) rfl rfl rfl (rfl) rfl (by decide) rfl (m_isPlaceK hM.1 ok _) ?_
  refine Wp.ifb0 (tgt := 30) (len := 3) rfl (fun h10 => ?_) (fun h10 => ?_)
  · skip
    refine Wp.n (pc' := 32) 1 rfl ?_
    refine Wp.retI (len := 1) rfl rfl ?_
    first
      | exact RI_s (Scr_13 Scr_r) rfl
      | (rw [if_neg (by rw [h10, Bool.false_and]; decide)]; exact RI_r rfl)
      | (rw [if_neg (by rw [h18, Bool.and_false]; decide)]; exact RI_r rfl)
  · skip
    refine Wp.n (pc' := 15) 2 rfl ?_
    refine Wp.ecallV (len := 3) rfl rfl rfl (rfl) rfl (by decide) rfl (m_isPlaceK hM.1 ok _) ?_
    refine Wp.ifb0 (tgt := 30) (len := 3) rfl (fun h18 => ?_) (fun h18 => ?_)
    · skip
      refine Wp.n (pc' := 32) 1 rfl ?_
      refine Wp.retI (len := 1) rfl rfl ?_
      first
        | exact RI_s (Scr_13 Scr_r) rfl
        | (rw [if_neg (by rw [h10, Bool.false_and]; decide)]; exact RI_r rfl)
        | (rw [if_neg (by rw [h18, Bool.and_false]; decide)]; exact RI_r rfl)
    · skip
      obtain ⟨a, ha, rfl⟩ := isN_of h10
      obtain ⟨t, ht, rfl⟩ := isN_of h18
      rw [if_pos (by rw [h10, h18]; rfl), nI_clamp (by omega), nI_clamp (by omega)]
      refine Wp.n (pc' := 24) 3 rfl ?_
      refine Wp.callV (len := 3) rfl rfl rfl (rfl) rfl (by decide) rfl (m_byRoad hM.1 ok ha (by omega)) ?_
      rintro _ _ ⟨rfl, h, rfl, hh⟩
      refine Wp.n (pc' := 32) 1 rfl ?_
      refine Wp.retI (len := 1) rfl rfl ?_
      first
        | exact RI_s (Scr_13 Scr_r) rfl
        | (rw [if_neg (by rw [h10, Bool.false_and]; decide)]; exact RI_r rfl)
        | (rw [if_neg (by rw [h18, Bool.and_false]; decide)]; exact RI_r rfl)

theorem m_wayQ (hM : MK σ K) (x y i : Int32) : Wp (d + 3) md_190 0 [some (.ref 287), some (.int x), some (.int y), some (.int i), none, none, none, none] [] (mset M σ) (RI M σ (wayQ K x y i)) := by
  refine Wp.mono (m_way hM.1 hM.2.1 hM.2.2.2 x y i) ?_
  rintro _ _ ⟨rfl, h, rfl⟩
  exact RI_s (Scr_13 Scr_r) rfl
theorem m_open (hM : MK σ K) (x y : Int32) : Wp (d + 2) md_192 0 [some (.ref 287), some (.int x), some (.int y)] [] (mset M σ) (RI M σ (openA K x y)) := by
  have ok := hM.2.1
  have hσ0 := hM.2.2.2
  obtain ⟨b0, b1, b2, b3, b4, b5, b6, b7, b8, b9, b10, b11, b12⟩ := ok_h ok
  unfold openA
  refine Wp.n (pc' := 2) 2 rfl ?_
  refine Wp.mput0 (len := 3) rfl hσ0 ?_
  refine Wp.n (pc' := 13) 6 rfl ?_
  refine Wp.mialdN (j := 3) (len := 1) rfl rfl rfl (by omega) ?_
  refine Wp.n (pc' := 17) 3 rfl ?_
  refine Wp.ecallS (len := 3) rfl rfl rfl rfl (m_in _ _ _) ?_
  refine Wp.ifb0 (tgt := 48) (len := 3) rfl (fun h20 => ?_) (fun h20 => ?_)
  · rw [show (0 : Int64).toInt = 0 from rfl, il_toInt, il_toInt, isN_le (n := kh K 3) (by omega) (r0_has hM.1 (by decide))] at h20
    refine Wp.n (pc' := 50) 1 rfl ?_
    refine Wp.retI (len := 1) rfl rfl ?_
    first
      | exact RI_s Scr_r (by rw [h37]; rfl)
      | (rw [if_neg (fun q => by rw [h20] at q; exact absurd q.1 (by decide))]; exact RI_r rfl)
      | (rw [if_neg (fun q => by rw [h28] at q; exact absurd q.2 (by decide))]; exact RI_r rfl)
  · rw [show (0 : Int64).toInt = 0 from rfl, il_toInt, il_toInt, isN_le (n := kh K 3) (by omega) (r0_has hM.1 (by decide))] at h20
    refine Wp.n (pc' := 25) 2 rfl ?_
    refine Wp.ecallV (len := 3) rfl rfl rfl (rfl) rfl (by decide) rfl (m_isDayK hM.1 ok _) ?_
    refine Wp.ifb0 (tgt := 48) (len := 3) rfl (fun h28 => ?_) (fun h28 => ?_)
    · skip
      refine Wp.n (pc' := 50) 1 rfl ?_
      refine Wp.retI (len := 1) rfl rfl ?_
      first
        | exact RI_s Scr_r (by rw [h37]; rfl)
        | (rw [if_neg (fun q => by rw [h20] at q; exact absurd q.1 (by decide))]; exact RI_r rfl)
        | (rw [if_neg (fun q => by rw [h28] at q; exact absurd q.2 (by decide))]; exact RI_r rfl)
    · skip
      obtain ⟨l, hl, rfl⟩ := isN_of h20
      obtain ⟨v, hv, rfl⟩ := isN_of h28
      rw [if_pos ⟨h20, h28⟩, nI_clamp (by omega), nI_clamp (by omega)]
      refine Wp.n (pc' := 34) 3 rfl ?_
      refine Wp.ecallV (len := 3) rfl rfl rfl (rfl) rfl (by decide) rfl (m_isOpen hM.1 ok (l := l) (y := v) (Or.inl hl) (by omega)) ?_
      refine Wp.ifb0 (tgt := 44) (len := 3) rfl (fun h37 => ?_) (fun h37 => ?_)
      · skip
        refine Wp.n (pc' := 50) 2 rfl ?_
        refine Wp.retI (len := 1) rfl rfl ?_
        first
          | exact RI_s Scr_r (by rw [h37]; rfl)
          | (rw [if_neg (fun q => by rw [h20] at q; exact absurd q.1 (by decide))]; exact RI_r rfl)
          | (rw [if_neg (fun q => by rw [h28] at q; exact absurd q.2 (by decide))]; exact RI_r rfl)
      · skip
        refine Wp.n (pc' := 50) 2 rfl ?_
        refine Wp.retI (len := 1) rfl rfl ?_
        first
          | exact RI_s Scr_r (by rw [h37]; rfl)
          | (rw [if_neg (fun q => by rw [h20] at q; exact absurd q.1 (by decide))]; exact RI_r rfl)
          | (rw [if_neg (fun q => by rw [h28] at q; exact absurd q.2 (by decide))]; exact RI_r rfl)

theorem m_joins (hM : MK σ K) (x y z : Int32) : Wp (d + 3) md_195 0 [some (.ref 287), some (.int x), some (.int y), some (.int z)] [] (mset M σ) (RI M σ (joinsA K x y z)) := by
  have ok := hM.2.1
  have hσ0 := hM.2.2.2
  obtain ⟨b0, b1, b2, b3, b4, b5, b6, b7, b8, b9, b10, b11, b12⟩ := ok_h ok
  unfold joinsA
  refine Wp.n (pc' := 2) 2 rfl ?_
  refine Wp.mput0 (len := 3) rfl hσ0 ?_
  refine Wp.n (pc' := 8) 3 rfl ?_
  refine Wp.ecallV (len := 3) rfl rfl rfl (rfl) rfl (by decide) rfl (m_areTwo hM.1 ok _ _) ?_
  refine Wp.ifb0 (tgt := 32) (len := 3) rfl (fun h11 => ?_) (fun h11 => ?_)
  · skip
    refine Wp.n (pc' := 34) 1 rfl ?_
    refine Wp.retI (len := 1) rfl rfl ?_
    first
      | exact RI_s Scr_r rfl
      | (rw [if_neg (by unfold isT; rw [h11, Bool.false_and]; decide)]; exact RI_r rfl)
      | (rw [if_neg (by unfold isT; rw [h19, Bool.and_false]; decide)]; exact RI_r rfl)
  · skip
    refine Wp.n (pc' := 16) 2 rfl ?_
    refine Wp.ecallV (len := 3) rfl rfl rfl (rfl) rfl (by decide) rfl (m_isDayK hM.1 ok _) ?_
    refine Wp.ifb0 (tgt := 32) (len := 3) rfl (fun h19 => ?_) (fun h19 => ?_)
    · skip
      refine Wp.n (pc' := 34) 1 rfl ?_
      refine Wp.retI (len := 1) rfl rfl ?_
      first
        | exact RI_s Scr_r rfl
        | (rw [if_neg (by unfold isT; rw [h11, Bool.false_and]; decide)]; exact RI_r rfl)
        | (rw [if_neg (by unfold isT; rw [h19, Bool.and_false]; decide)]; exact RI_r rfl)
    · skip
      have hT : isT K x y z = true := by unfold isT; rw [h11, h19]; rfl
      obtain ⟨a, t, v, ha, ht, hv, hat, rfl, rfl, rfl⟩ := isT_of hT
      rw [if_pos hT, nI_clamp (by omega), nI_clamp (by omega), nI_clamp (by omega)]
      refine Wp.n (pc' := 26) 4 rfl ?_
      refine Wp.ecallV (len := 3) rfl rfl rfl (rfl) rfl (by decide) rfl (m_joined hM.1 hM.2.2.1 ok (a := a) (b := t) (y := v) (by omega) (by omega) (by omega)) ?_
      refine Wp.n (pc' := 34) 1 rfl ?_
      refine Wp.retI (len := 1) rfl rfl ?_
      first
        | exact RI_s Scr_r rfl
        | (rw [if_neg (by unfold isT; rw [h11, Bool.false_and]; decide)]; exact RI_r rfl)
        | (rw [if_neg (by unfold isT; rw [h19, Bool.and_false]; decide)]; exact RI_r rfl)

theorem m_walk (hM : MK σ K) (x y : Int32) : Wp (d + 3) md_198 0 [some (.ref 287), some (.int x), some (.int y)] [] (mset M σ) (RI M σ (walkA K x y)) := by
  have ok := hM.2.1
  have hσ0 := hM.2.2.2
  obtain ⟨b0, b1, b2, b3, b4, b5, b6, b7, b8, b9, b10, b11, b12⟩ := ok_h ok
  unfold walkA
  refine Wp.n (pc' := 2) 2 rfl ?_
  refine Wp.mput0 (len := 3) rfl hσ0 ?_
  refine Wp.n (pc' := 7) 2 rfl ?_
  refine Wp.ecallV (len := 3) rfl rfl rfl (rfl) rfl (by decide) rfl (m_isWalkK hM.1 ok _) ?_
  refine Wp.ifb0 (tgt := 25) (len := 3) rfl (fun h10 => ?_) (fun h10 => ?_)
  · skip
    refine Wp.n (pc' := 27) 1 rfl ?_
    refine Wp.retI (len := 1) rfl rfl ?_
    first
      | exact RI_s Scr_r (by rw [if_pos h30])
      | exact RI_s Scr_r (by rw [if_neg (by omega), if_pos h44])
      | exact RI_s Scr_r (by rw [if_neg (by omega), if_neg (by omega), if_pos h57])
      | exact RI_s Scr_r (by rw [if_neg (by omega), if_neg (by omega), if_neg (by omega)])
      | (rw [if_neg (fun q => by rw [h10] at q; exact absurd q.1 (by decide))]; exact RI_r rfl)
      | (rw [if_neg (fun q => by rw [h22] at q; exact absurd q.2 (by decide))]; exact RI_r rfl)
  · skip
    refine Wp.n (pc' := 19) 4 rfl ?_
    refine Wp.ecallS (len := 3) rfl rfl rfl rfl (m_in _ _ _) ?_
    refine Wp.ifb1 (tgt := 28) (len := 3) rfl (fun h22 => ?_) (fun h22 => ?_)
    · rw [in_isN (k := 6) (by decide)] at h22
      obtain ⟨w, hw, rfl⟩ := isN_of h10
      obtain ⟨k, hk, rfl⟩ := isN_of h22
      have tw := ok_walk ok hw
      rw [if_pos ⟨h10, h22⟩, nI_clamp (by omega), nI_clamp (by omega)]
      unfold walkQ
      refine Wp.n (pc' := 30) 2 rfl ?_
      refine Wp.nc3 (x := k) (y := 3) (tgt := 42) (len := 3) rfl (by omega) (by omega) (fun h30 => ?_) (fun h30 => ?_)
      · skip
        refine Wp.n (pc' := 44) 2 rfl ?_
        refine Wp.nc1 (x := k) (y := 3) (tgt := 55) (len := 3) rfl (by omega) (by omega) (fun h44 => ?_) (fun h44 => ?_)
        · skip
          refine Wp.n (pc' := 57) 2 rfl ?_
          refine Wp.nc1 (x := k) (y := 4) (tgt := 68) (len := 3) rfl (by omega) (by omega) (fun h57 => ?_) (fun h57 => ?_)
          · skip
            refine Wp.n (pc' := 70) 2 rfl ?_
            refine Wp.ecallV (len := 3) rfl rfl rfl (rfl) rfl (by decide) rfl (m_many0 hM.1 ok hw) ?_
            refine Wp.n (pc' := 74) 1 rfl ?_
            refine Wp.isubN (x := kw K w 3) (y := 1) (len := 1) rfl (by omega) ?_
            refine Wp.retI (len := 1) rfl rfl ?_
            first
              | exact RI_s Scr_r (by rw [if_pos h30])
              | exact RI_s Scr_r (by rw [if_neg (by omega), if_pos h44])
              | exact RI_s Scr_r (by rw [if_neg (by omega), if_neg (by omega), if_pos h57])
              | exact RI_s Scr_r (by rw [if_neg (by omega), if_neg (by omega), if_neg (by omega)])
              | (rw [if_neg (fun q => by rw [h10] at q; exact absurd q.1 (by decide))]; exact RI_r rfl)
              | (rw [if_neg (fun q => by rw [h22] at q; exact absurd q.2 (by decide))]; exact RI_r rfl)
          · skip
            refine Wp.n (pc' := 62) 2 rfl ?_
            refine Wp.ecallV (len := 3) rfl rfl rfl (rfl) rfl (by decide) rfl (m_to hM.1 ok hw) ?_
            refine Wp.n (pc' := 75) 1 rfl ?_
            refine Wp.retI (len := 1) rfl rfl ?_
            first
              | exact RI_s Scr_r (by rw [if_pos h30])
              | exact RI_s Scr_r (by rw [if_neg (by omega), if_pos h44])
              | exact RI_s Scr_r (by rw [if_neg (by omega), if_neg (by omega), if_pos h57])
              | exact RI_s Scr_r (by rw [if_neg (by omega), if_neg (by omega), if_neg (by omega)])
              | (rw [if_neg (fun q => by rw [h10] at q; exact absurd q.1 (by decide))]; exact RI_r rfl)
              | (rw [if_neg (fun q => by rw [h22] at q; exact absurd q.2 (by decide))]; exact RI_r rfl)
        · skip
          refine Wp.n (pc' := 49) 2 rfl ?_
          refine Wp.ecallV (len := 3) rfl rfl rfl (rfl) rfl (by decide) rfl (m_from hM.1 ok hw) ?_
          refine Wp.n (pc' := 75) 1 rfl ?_
          refine Wp.retI (len := 1) rfl rfl ?_
          first
            | exact RI_s Scr_r (by rw [if_pos h30])
            | exact RI_s Scr_r (by rw [if_neg (by omega), if_pos h44])
            | exact RI_s Scr_r (by rw [if_neg (by omega), if_neg (by omega), if_pos h57])
            | exact RI_s Scr_r (by rw [if_neg (by omega), if_neg (by omega), if_neg (by omega)])
            | (rw [if_neg (fun q => by rw [h10] at q; exact absurd q.1 (by decide))]; exact RI_r rfl)
            | (rw [if_neg (fun q => by rw [h22] at q; exact absurd q.2 (by decide))]; exact RI_r rfl)
      · skip
        refine Wp.n (pc' := 36) 3 rfl ?_
        refine Wp.ecallV (len := 3) rfl rfl rfl (rfl) rfl (by decide) rfl (m_of σ w k (by omega)) ?_
        refine Wp.top (r0_walk hM.1 hw (by omega) rfl) ?_
        refine Wp.n (pc' := 75) 1 rfl ?_
        refine Wp.retI (len := 1) rfl rfl ?_
        first
          | exact RI_s Scr_r (by rw [if_pos h30])
          | exact RI_s Scr_r (by rw [if_neg (by omega), if_pos h44])
          | exact RI_s Scr_r (by rw [if_neg (by omega), if_neg (by omega), if_pos h57])
          | exact RI_s Scr_r (by rw [if_neg (by omega), if_neg (by omega), if_neg (by omega)])
          | (rw [if_neg (fun q => by rw [h10] at q; exact absurd q.1 (by decide))]; exact RI_r rfl)
          | (rw [if_neg (fun q => by rw [h22] at q; exact absurd q.2 (by decide))]; exact RI_r rfl)
    · rw [in_isN (k := 6) (by decide)] at h22
      refine Wp.n (pc' := 27) 1 rfl ?_
      refine Wp.retI (len := 1) rfl rfl ?_
      first
        | exact RI_s Scr_r (by rw [if_pos h30])
        | exact RI_s Scr_r (by rw [if_neg (by omega), if_pos h44])
        | exact RI_s Scr_r (by rw [if_neg (by omega), if_neg (by omega), if_pos h57])
        | exact RI_s Scr_r (by rw [if_neg (by omega), if_neg (by omega), if_neg (by omega)])
        | (rw [if_neg (fun q => by rw [h10] at q; exact absurd q.1 (by decide))]; exact RI_r rfl)
        | (rw [if_neg (fun q => by rw [h22] at q; exact absurd q.2 (by decide))]; exact RI_r rfl)


theorem m_shortest (hM : MK σ K) (x y z : Int32) : Wp (d + 14) md_225 0 [some (.ref 287), some (.int x), some (.int y), some (.int z)] [] (mset M σ) (RI M σ (shortestA K x y z)) := by
  have ok := hM.2.1
  have hσ0 := hM.2.2.2
  obtain ⟨b0, b1, b2, b3, b4, b5, b6, b7, b8, b9, b10, b11, b12⟩ := ok_h ok
  unfold shortestA
  refine Wp.n (pc' := 2) 2 rfl ?_
  refine Wp.mput0 (len := 3) rfl hσ0 ?_
  refine Wp.n (pc' := 9) 4 rfl ?_
  refine Wp.ecallV (len := 3) rfl rfl rfl (rfl) rfl (by decide) rfl (m_isTrip hM.1 ok _ _ _) ?_
  refine Wp.ifb1 (tgt := 18) (len := 3) rfl (fun h12 => ?_) (fun h12 => ?_)
  · skip
    obtain ⟨a, t, v, ha, ht, hv, hat, rfl, rfl, rfl⟩ := isT_of h12
    rw [if_pos h12, nI_clamp (by omega), nI_clamp (by omega), nI_clamp (by omega)]
    obtain ⟨hf1, hf2, hf3⟩ := fin_i ok (aim := 0) (y := v) (load := 1) (dn := 0) ha ht (by omega)
    refine Wp.n (pc' := 24) 6 rfl ?_
    refine Wp.callV (len := 3) rfl rfl rfl (rfl) rfl (by decide) rfl (m_seeks (aim := 0) (load := 1) (dn := 0) (by omega) ht (by omega) (by omega) (by omega) ha hM (fun q => by omega)) ?_
    rintro _ _ ⟨rfl, τ, rfl, hS, hR⟩
    refine Wp.n (pc' := 31) 2 rfl ?_
    refine Wp.top hR.1 ?_
    refine Wp.nz1 (x := (fin K 0 a t v 1 0).1) (tgt := 38) (len := 3) rfl (by omega) (fun h31 => ?_) (fun h31 => ?_)
    · skip
      refine Wp.n (pc' := 42) 2 rfl ?_
      refine Wp.top hR.2.2.1 ?_
      refine Wp.retI (len := 1) rfl rfl ?_
      first
        | exact RI_s hS rfl
        | exact RI_s hS (by unfold shortW; rw [if_pos h31])
        | exact RI_s hS (by unfold shortW; rw [if_neg h31])
        | (rw [if_neg (by rw [h12]; decide)]; exact RI_r rfl)
    · skip
      refine Wp.n (pc' := 42) 2 rfl ?_
      refine Wp.retI (len := 1) rfl rfl ?_
      first
        | exact RI_s hS rfl
        | exact RI_s hS (by unfold shortW; rw [if_pos h31])
        | exact RI_s hS (by unfold shortW; rw [if_neg h31])
        | (rw [if_neg (by rw [h12]; decide)]; exact RI_r rfl)
  · skip
    refine Wp.n (pc' := 17) 1 rfl ?_
    refine Wp.retI (len := 1) rfl rfl ?_
    first
      | exact RI_s hS rfl
      | exact RI_s hS (by unfold shortW; rw [if_pos h31])
      | exact RI_s hS (by unfold shortW; rw [if_neg h31])
      | (rw [if_neg (by rw [h12]; decide)]; exact RI_r rfl)


theorem m_hidden (hM : MK σ K) (x y z : Int32) : Wp (d + 14) md_230 0 [some (.ref 287), some (.int x), some (.int y), some (.int z)] [] (mset M σ) (RI M σ (hiddenA K x y z)) := by
  have ok := hM.2.1
  have hσ0 := hM.2.2.2
  obtain ⟨b0, b1, b2, b3, b4, b5, b6, b7, b8, b9, b10, b11, b12⟩ := ok_h ok
  unfold hiddenA
  refine Wp.n (pc' := 2) 2 rfl ?_
  refine Wp.mput0 (len := 3) rfl hσ0 ?_
  refine Wp.n (pc' := 9) 4 rfl ?_
  refine Wp.ecallV (len := 3) rfl rfl rfl (rfl) rfl (by decide) rfl (m_isTrip hM.1 ok _ _ _) ?_
  refine Wp.ifb1 (tgt := 18) (len := 3) rfl (fun h12 => ?_) (fun h12 => ?_)
  · skip
    obtain ⟨a, t, v, ha, ht, hv, hat, rfl, rfl, rfl⟩ := isT_of h12
    rw [if_pos h12, nI_clamp (by omega), nI_clamp (by omega), nI_clamp (by omega)]
    obtain ⟨hf1, hf2, hf3⟩ := fin_i ok (aim := 1) (y := v) (load := 1) (dn := 0) ha ht (by omega)
    refine Wp.n (pc' := 24) 6 rfl ?_
    refine Wp.callV (len := 3) rfl rfl rfl (rfl) rfl (by decide) rfl (m_seeks (aim := 1) (load := 1) (dn := 0) (by omega) ht (by omega) (by omega) (by omega) ha hM (fun q => by omega)) ?_
    rintro _ _ ⟨rfl, τ, rfl, hS, hR⟩
    refine Wp.n (pc' := 31) 2 rfl ?_
    refine Wp.top hR.1 ?_
    refine Wp.nz1 (x := (fin K 1 a t v 1 0).1) (tgt := 38) (len := 3) rfl (by omega) (fun h31 => ?_) (fun h31 => ?_)
    · skip
      refine Wp.n (pc' := 42) 2 rfl ?_
      refine Wp.top hR.2.2.1 ?_
      refine Wp.retI (len := 1) rfl rfl ?_
      first
        | exact RI_s hS rfl
        | exact RI_s hS (by unfold shortW; rw [if_pos h31])
        | exact RI_s hS (by unfold shortW; rw [if_neg h31])
        | (rw [if_neg (by rw [h12]; decide)]; exact RI_r rfl)
    · skip
      refine Wp.n (pc' := 42) 2 rfl ?_
      refine Wp.retI (len := 1) rfl rfl ?_
      first
        | exact RI_s hS rfl
        | exact RI_s hS (by unfold shortW; rw [if_pos h31])
        | exact RI_s hS (by unfold shortW; rw [if_neg h31])
        | (rw [if_neg (by rw [h12]; decide)]; exact RI_r rfl)
  · skip
    refine Wp.n (pc' := 17) 1 rfl ?_
    refine Wp.retI (len := 1) rfl rfl ?_
    first
      | exact RI_s hS rfl
      | exact RI_s hS (by unfold shortW; rw [if_pos h31])
      | exact RI_s hS (by unfold shortW; rw [if_neg h31])
      | (rw [if_neg (by rw [h12]; decide)]; exact RI_r rfl)


theorem m_ways (hM : MK σ K) (x y z : Int32) : Wp (d + 14) md_234 0 [some (.ref 287), some (.int x), some (.int y), some (.int z)] [] (mset M σ) (RI M σ (waysA K x y z)) := by
  have ok := hM.2.1
  have hσ0 := hM.2.2.2
  obtain ⟨b0, b1, b2, b3, b4, b5, b6, b7, b8, b9, b10, b11, b12⟩ := ok_h ok
  unfold waysA
  refine Wp.n (pc' := 2) 2 rfl ?_
  refine Wp.mput0 (len := 3) rfl hσ0 ?_
  refine Wp.n (pc' := 9) 4 rfl ?_
  refine Wp.ecallV (len := 3) rfl rfl rfl (rfl) rfl (by decide) rfl (m_isTrip hM.1 ok _ _ _) ?_
  refine Wp.ifb1 (tgt := 18) (len := 3) rfl (fun h12 => ?_) (fun h12 => ?_)
  · skip
    obtain ⟨a, t, v, ha, ht, hv, hat, rfl, rfl, rfl⟩ := isT_of h12
    rw [if_pos h12, nI_clamp (by omega), nI_clamp (by omega), nI_clamp (by omega)]
    obtain ⟨hf1, hf2, hf3⟩ := fin_i ok (aim := 0) (y := v) (load := 1) (dn := 0) ha ht (by omega)
    refine Wp.n (pc' := 24) 6 rfl ?_
    refine Wp.callV (len := 3) rfl rfl rfl (rfl) rfl (by decide) rfl (m_seeks (aim := 0) (load := 1) (dn := 0) (by omega) ht (by omega) (by omega) (by omega) ha hM (fun q => by omega)) ?_
    rintro _ _ ⟨rfl, τ, rfl, hS, hR⟩
    refine Wp.n (pc' := 31) 2 rfl ?_
    refine Wp.top hR.1 ?_
    refine Wp.retI (len := 1) rfl rfl ?_
    first
      | exact RI_s hS rfl
      | exact RI_s hS (by unfold shortW; rw [if_pos h31])
      | exact RI_s hS (by unfold shortW; rw [if_neg h31])
      | (rw [if_neg (by rw [h12]; decide)]; exact RI_r rfl)
  · skip
    refine Wp.n (pc' := 17) 1 rfl ?_
    refine Wp.retI (len := 1) rfl rfl ?_
    first
      | exact RI_s hS rfl
      | exact RI_s hS (by unfold shortW; rw [if_pos h31])
      | exact RI_s hS (by unfold shortW; rw [if_neg h31])
      | (rw [if_neg (by rw [h12]; decide)]; exact RI_r rfl)


theorem m_best (hM : MK σ K) (x y z l k : Int32) : Wp (d + 14) md_231 0 [some (.ref 287), some (.int x), some (.int y), some (.int z), some (.int l), some (.int k)] [] (mset M σ) (RI M σ (bestA K x y z l k)) := by
  have ok := hM.2.1
  have hσ0 := hM.2.2.2
  obtain ⟨b0, b1, b2, b3, b4, b5, b6, b7, b8, b9, b10, b11, b12⟩ := ok_h ok
  unfold bestA
  refine Wp.n (pc' := 2) 2 rfl ?_
  refine Wp.mput0 (len := 3) rfl hσ0 ?_
  refine Wp.n (pc' := 9) 4 rfl ?_
  refine Wp.ecallV (len := 3) rfl rfl rfl (rfl) rfl (by decide) rfl (m_isTrip hM.1 ok _ _ _) ?_
  refine Wp.ifb0 (tgt := 36) (len := 3) rfl (fun h12 => ?_) (fun h12 => ?_)
  · skip
    refine Wp.n (pc' := 38) 1 rfl ?_
    refine Wp.retI (len := 1) rfl rfl ?_
    first
      | exact RI_s hS (by rw [if_pos h53])
      | exact RI_s hS (by rw [if_pos h60])
      | exact RI_s hS (by rw [if_neg h60, if_pos h73])
      | exact RI_s hS (by rw [if_neg h60, if_neg h73, if_pos h86])
      | exact RI_s hS (by rw [if_neg h60, if_neg h73, if_neg h86])
      | (rw [if_neg (fun q => by rw [h12] at q; exact absurd q.1 (by decide))]; exact RI_r rfl)
      | (rw [if_neg (fun q => by rw [show isR 1 9 l = false from h20] at q; exact absurd q.2.1 (by decide))]; exact RI_r rfl)
      | (rw [if_neg (fun q => by rw [h33] at q; exact absurd q.2.2 (by decide))]; exact RI_r rfl)
  · skip
    refine Wp.n (pc' := 17) 1 rfl ?_
    refine Wp.ecallS (len := 3) rfl rfl rfl rfl (m_isLoad _) ?_
    refine Wp.ifb0 (tgt := 36) (len := 3) rfl (fun h20 => ?_) (fun h20 => ?_)
    · skip
      refine Wp.n (pc' := 38) 1 rfl ?_
      refine Wp.retI (len := 1) rfl rfl ?_
      first
        | exact RI_s hS (by rw [if_pos h53])
        | exact RI_s hS (by rw [if_pos h60])
        | exact RI_s hS (by rw [if_neg h60, if_pos h73])
        | exact RI_s hS (by rw [if_neg h60, if_neg h73, if_pos h86])
        | exact RI_s hS (by rw [if_neg h60, if_neg h73, if_neg h86])
        | (rw [if_neg (fun q => by rw [h12] at q; exact absurd q.1 (by decide))]; exact RI_r rfl)
        | (rw [if_neg (fun q => by rw [show isR 1 9 l = false from h20] at q; exact absurd q.2.1 (by decide))]; exact RI_r rfl)
        | (rw [if_neg (fun q => by rw [h33] at q; exact absurd q.2.2 (by decide))]; exact RI_r rfl)
    · skip
      refine Wp.n (pc' := 30) 4 rfl ?_
      refine Wp.ecallS (len := 3) rfl rfl rfl rfl (m_in _ _ _) ?_
      refine Wp.ifb1 (tgt := 39) (len := 3) rfl (fun h33 => ?_) (fun h33 => ?_)
      · rw [in_isN (k := 4) (by decide)] at h33
        obtain ⟨a, t, v, ha, ht, hv, hat, rfl, rfl, rfl⟩ := isT_of h12
        obtain ⟨l, hl1, hl9, hl, rfl⟩ := isR_of (lo := 1) (hi := 9) h20
        obtain ⟨hf1, hf2, hf3⟩ := fin_i ok (aim := 2) (y := v) (load := l) (dn := 0) ha ht (by omega)
        obtain ⟨k, hk, rfl⟩ := isN_of h33
        rw [if_pos ⟨h12, h20, h33⟩, nI_clamp (by omega), nI_clamp (by omega), nI_clamp (by omega), nI_clamp hl, nI_clamp (by omega)]
        unfold bestW
        refine Wp.n (pc' := 46) 6 rfl ?_
        refine Wp.callV (len := 3) rfl rfl rfl (rfl) rfl (by decide) rfl (m_seeks (aim := 2) (dn := 0) (by omega) ht (by omega) (by omega) (by omega) ha hM (fun q => by omega)) ?_
        rintro _ _ ⟨rfl, τ, rfl, hS, hR⟩
        refine Wp.n (pc' := 53) 2 rfl ?_
        refine Wp.top hR.1 ?_
        refine Wp.nz1 (x := (fin K 2 a t v l 0).1) (tgt := 58) (len := 3) rfl (by omega) (fun h53 => ?_) (fun h53 => ?_)
        · skip
          obtain ⟨hc1, hc2, dq, pq, he, hdq, hp1, hp7, hpb⟩ := hf3 (by decide) (by omega)
          obtain ⟨q1, q2, q3⟩ := hR.2.2.2.2 dq pq he
          have eD : bD (fin K 2 a t v l 0) = dq := by unfold bD; rw [he]
          have eP : bP (fin K 2 a t v l 0) = pq := by unfold bP; rw [he]
          rw [if_neg h53, eD, eP]
          refine Wp.n (pc' := 60) 1 rfl ?_
          refine Wp.nz1 (x := k) (tgt := 70) (len := 3) rfl (by omega) (fun h60 => ?_) (fun h60 => ?_)
          · skip
            refine Wp.n (pc' := 73) 2 rfl ?_
            refine Wp.nc1 (x := k) (y := 1) (tgt := 83) (len := 3) rfl (by omega) (by omega) (fun h73 => ?_) (fun h73 => ?_)
            · skip
              refine Wp.n (pc' := 86) 2 rfl ?_
              refine Wp.nc1 (x := k) (y := 2) (tgt := 96) (len := 3) rfl (by omega) (by omega) (fun h86 => ?_) (fun h86 => ?_)
              · skip
                refine Wp.n (pc' := 100) 2 rfl ?_
                refine Wp.top q2 ?_
                refine Wp.retI (len := 1) rfl rfl ?_
                first
                  | exact RI_s hS (by rw [if_pos h53])
                  | exact RI_s hS (by rw [if_pos h60])
                  | exact RI_s hS (by rw [if_neg h60, if_pos h73])
                  | exact RI_s hS (by rw [if_neg h60, if_neg h73, if_pos h86])
                  | exact RI_s hS (by rw [if_neg h60, if_neg h73, if_neg h86])
                  | (rw [if_neg (fun q => by rw [h12] at q; exact absurd q.1 (by decide))]; exact RI_r rfl)
                  | (rw [if_neg (fun q => by rw [show isR 1 9 l = false from h20] at q; exact absurd q.2.1 (by decide))]; exact RI_r rfl)
                  | (rw [if_neg (fun q => by rw [h33] at q; exact absurd q.2.2 (by decide))]; exact RI_r rfl)
              · skip
                refine Wp.n (pc' := 93) 2 rfl ?_
                refine Wp.top q1 ?_
                refine Wp.n (pc' := 100) 1 rfl ?_
                refine Wp.retI (len := 1) rfl rfl ?_
                first
                  | exact RI_s hS (by rw [if_pos h53])
                  | exact RI_s hS (by rw [if_pos h60])
                  | exact RI_s hS (by rw [if_neg h60, if_pos h73])
                  | exact RI_s hS (by rw [if_neg h60, if_neg h73, if_pos h86])
                  | exact RI_s hS (by rw [if_neg h60, if_neg h73, if_neg h86])
                  | (rw [if_neg (fun q => by rw [h12] at q; exact absurd q.1 (by decide))]; exact RI_r rfl)
                  | (rw [if_neg (fun q => by rw [show isR 1 9 l = false from h20] at q; exact absurd q.2.1 (by decide))]; exact RI_r rfl)
                  | (rw [if_neg (fun q => by rw [h33] at q; exact absurd q.2.2 (by decide))]; exact RI_r rfl)
            · skip
              refine Wp.n (pc' := 80) 2 rfl ?_
              refine Wp.top hR.2.2.1 ?_
              refine Wp.n (pc' := 100) 1 rfl ?_
              refine Wp.retI (len := 1) rfl rfl ?_
              first
                | exact RI_s hS (by rw [if_pos h53])
                | exact RI_s hS (by rw [if_pos h60])
                | exact RI_s hS (by rw [if_neg h60, if_pos h73])
                | exact RI_s hS (by rw [if_neg h60, if_neg h73, if_pos h86])
                | exact RI_s hS (by rw [if_neg h60, if_neg h73, if_neg h86])
                | (rw [if_neg (fun q => by rw [h12] at q; exact absurd q.1 (by decide))]; exact RI_r rfl)
                | (rw [if_neg (fun q => by rw [show isR 1 9 l = false from h20] at q; exact absurd q.2.1 (by decide))]; exact RI_r rfl)
                | (rw [if_neg (fun q => by rw [h33] at q; exact absurd q.2.2 (by decide))]; exact RI_r rfl)
          · skip
            refine Wp.n (pc' := 67) 2 rfl ?_
            refine Wp.top hR.2.1 ?_
            refine Wp.n (pc' := 100) 1 rfl ?_
            refine Wp.retI (len := 1) rfl rfl ?_
            first
              | exact RI_s hS (by rw [if_pos h53])
              | exact RI_s hS (by rw [if_pos h60])
              | exact RI_s hS (by rw [if_neg h60, if_pos h73])
              | exact RI_s hS (by rw [if_neg h60, if_neg h73, if_pos h86])
              | exact RI_s hS (by rw [if_neg h60, if_neg h73, if_neg h86])
              | (rw [if_neg (fun q => by rw [h12] at q; exact absurd q.1 (by decide))]; exact RI_r rfl)
              | (rw [if_neg (fun q => by rw [show isR 1 9 l = false from h20] at q; exact absurd q.2.1 (by decide))]; exact RI_r rfl)
              | (rw [if_neg (fun q => by rw [h33] at q; exact absurd q.2.2 (by decide))]; exact RI_r rfl)
        · skip
          refine Wp.n (pc' := 57) 1 rfl ?_
          refine Wp.retI (len := 1) rfl rfl ?_
          first
            | exact RI_s hS (by rw [if_pos h53])
            | exact RI_s hS (by rw [if_pos h60])
            | exact RI_s hS (by rw [if_neg h60, if_pos h73])
            | exact RI_s hS (by rw [if_neg h60, if_neg h73, if_pos h86])
            | exact RI_s hS (by rw [if_neg h60, if_neg h73, if_neg h86])
            | (rw [if_neg (fun q => by rw [h12] at q; exact absurd q.1 (by decide))]; exact RI_r rfl)
            | (rw [if_neg (fun q => by rw [show isR 1 9 l = false from h20] at q; exact absurd q.2.1 (by decide))]; exact RI_r rfl)
            | (rw [if_neg (fun q => by rw [h33] at q; exact absurd q.2.2 (by decide))]; exact RI_r rfl)
      · rw [in_isN (k := 4) (by decide)] at h33
        refine Wp.n (pc' := 38) 1 rfl ?_
        refine Wp.retI (len := 1) rfl rfl ?_
        first
          | exact RI_s hS (by rw [if_pos h53])
          | exact RI_s hS (by rw [if_pos h60])
          | exact RI_s hS (by rw [if_neg h60, if_pos h73])
          | exact RI_s hS (by rw [if_neg h60, if_neg h73, if_pos h86])
          | exact RI_s hS (by rw [if_neg h60, if_neg h73, if_neg h86])
          | (rw [if_neg (fun q => by rw [h12] at q; exact absurd q.1 (by decide))]; exact RI_r rfl)
          | (rw [if_neg (fun q => by rw [show isR 1 9 l = false from h20] at q; exact absurd q.2.1 (by decide))]; exact RI_r rfl)
          | (rw [if_neg (fun q => by rw [h33] at q; exact absurd q.2.2 (by decide))]; exact RI_r rfl)

theorem m_goes (hM : MK σ K) (x y z l i : Int32) : Wp (d + 14) md_233 0 [some (.ref 287), some (.int x), some (.int y), some (.int z), some (.int l), some (.int i)] [] (mset M σ) (RI M σ (goesA K x y z l i)) := by
  have ok := hM.2.1
  have hσ0 := hM.2.2.2
  obtain ⟨b0, b1, b2, b3, b4, b5, b6, b7, b8, b9, b10, b11, b12⟩ := ok_h ok
  unfold goesA
  refine Wp.n (pc' := 2) 2 rfl ?_
  refine Wp.mput0 (len := 3) rfl hσ0 ?_
  refine Wp.n (pc' := 9) 4 rfl ?_
  refine Wp.ecallV (len := 3) rfl rfl rfl (rfl) rfl (by decide) rfl (m_isTrip hM.1 ok _ _ _) ?_
  refine Wp.ifb0 (tgt := 23) (len := 3) rfl (fun h12 => ?_) (fun h12 => ?_)
  · skip
    refine Wp.n (pc' := 25) 1 rfl ?_
    refine Wp.retI (len := 1) rfl rfl ?_
    first
      | exact RI_s hS rfl
      | exact RI_s hS (by rw [if_neg (fun q => by omega)])
      | exact RI_s hS (by rw [if_neg (fun q => by rw [h57] at q; exact absurd q.2 (by decide))])
      | (rw [if_neg (fun q => by rw [h12] at q; exact absurd q.1 (by decide))]; exact RI_r rfl)
      | (rw [if_neg (fun q => by rw [show isR 1 9 l = false from h20] at q; exact absurd q.2 (by decide))]; exact RI_r rfl)
  · skip
    refine Wp.n (pc' := 17) 1 rfl ?_
    refine Wp.ecallS (len := 3) rfl rfl rfl rfl (m_isLoad _) ?_
    refine Wp.ifb1 (tgt := 26) (len := 3) rfl (fun h20 => ?_) (fun h20 => ?_)
    · skip
      obtain ⟨a, t, v, ha, ht, hv, hat, rfl, rfl, rfl⟩ := isT_of h12
      obtain ⟨l, hl1, hl9, hl, rfl⟩ := isR_of (lo := 1) (hi := 9) h20
      obtain ⟨hf1, hf2, hf3⟩ := fin_i ok (aim := 2) (y := v) (load := l) (dn := 0) ha ht (by omega)
      rw [if_pos ⟨h12, h20⟩, nI_clamp (by omega), nI_clamp (by omega), nI_clamp (by omega), nI_clamp hl]
      unfold goesW
      refine Wp.n (pc' := 33) 6 rfl ?_
      refine Wp.callV (len := 3) rfl rfl rfl (rfl) rfl (by decide) rfl (m_seeks (aim := 2) (dn := 0) (by omega) ht (by omega) (by omega) (by omega) ha hM (fun q => by omega)) ?_
      rintro _ _ ⟨rfl, τ, rfl, hS, hR⟩
      refine Wp.n (pc' := 40) 2 rfl ?_
      refine Wp.top hR.1 ?_
      refine Wp.nz5 (x := (fin K 2 a t v l 0).1) (tgt := 70) (len := 3) rfl (by omega) (fun h40 => ?_) (fun h40 => ?_)
      · skip
        refine Wp.n (pc' := 71) 1 rfl ?_
        refine Wp.retI (len := 1) rfl rfl ?_
        first
          | exact RI_s hS rfl
          | exact RI_s hS (by rw [if_neg (fun q => by omega)])
          | exact RI_s hS (by rw [if_neg (fun q => by rw [h57] at q; exact absurd q.2 (by decide))])
          | (rw [if_neg (fun q => by rw [h12] at q; exact absurd q.1 (by decide))]; exact RI_r rfl)
          | (rw [if_neg (fun q => by rw [show isR 1 9 l = false from h20] at q; exact absurd q.2 (by decide))]; exact RI_r rfl)
      · skip
        obtain ⟨hc1, hc2, dq, pq, he, hdq, hp1, hp7, hpb⟩ := hf3 (by decide) (by omega)
        obtain ⟨q1, q2, q3⟩ := hR.2.2.2.2 dq pq he
        have eD : bD (fin K 2 a t v l 0) = dq := by unfold bD; rw [he]
        have eP : bP (fin K 2 a t v l 0) = pq := by unfold bP; rw [he]
        rw [eP]
        refine Wp.n (pc' := 51) 5 rfl ?_
        refine Wp.top q2 ?_
        refine Wp.n (pc' := 52) 1 rfl ?_
        refine Wp.isubN (x := pq.length) (y := 1) (len := 1) rfl (by omega) ?_
        refine Wp.i2lM (x := (pq.length) - 1) (len := 1) rfl (by omega) ?_
        refine Wp.ecallS (len := 3) rfl rfl rfl rfl (m_in _ _ _) ?_
        refine Wp.ifb0 (tgt := 70) (len := 3) rfl (fun h57 => ?_) (fun h57 => ?_)
        · rw [in_isN (k := pq.length) (by rw [l_toInt (by omega)]; omega)] at h57
          refine Wp.n (pc' := 71) 1 rfl ?_
          refine Wp.retI (len := 1) rfl rfl ?_
          first
            | exact RI_s hS rfl
            | exact RI_s hS (by rw [if_neg (fun q => by omega)])
            | exact RI_s hS (by rw [if_neg (fun q => by rw [h57] at q; exact absurd q.2 (by decide))])
            | (rw [if_neg (fun q => by rw [h12] at q; exact absurd q.1 (by decide))]; exact RI_r rfl)
            | (rw [if_neg (fun q => by rw [show isR 1 9 l = false from h20] at q; exact absurd q.2 (by decide))]; exact RI_r rfl)
        · rw [in_isN (k := pq.length) (by rw [l_toInt (by omega)]; omega)] at h57
          obtain ⟨j, hj, rfl⟩ := isN_of h57
          rw [if_pos ⟨h40, h57⟩, nI_clamp (by omega)]
          refine Wp.n (pc' := 66) 3 rfl ?_
          refine Wp.mialdN (j := j) (len := 1) rfl rfl rfl (by omega) ?_
          refine Wp.top (q3 j hj) ?_
          refine Wp.n (pc' := 71) 1 rfl ?_
          refine Wp.retI (len := 1) rfl rfl ?_
          first
            | exact RI_s hS rfl
            | exact RI_s hS (by rw [if_neg (fun q => by omega)])
            | exact RI_s hS (by rw [if_neg (fun q => by rw [h57] at q; exact absurd q.2 (by decide))])
            | (rw [if_neg (fun q => by rw [h12] at q; exact absurd q.1 (by decide))]; exact RI_r rfl)
            | (rw [if_neg (fun q => by rw [show isR 1 9 l = false from h20] at q; exact absurd q.2 (by decide))]; exact RI_r rfl)
    · skip
      refine Wp.n (pc' := 25) 1 rfl ?_
      refine Wp.retI (len := 1) rfl rfl ?_
      first
        | exact RI_s hS rfl
        | exact RI_s hS (by rw [if_neg (fun q => by omega)])
        | exact RI_s hS (by rw [if_neg (fun q => by rw [h57] at q; exact absurd q.2 (by decide))])
        | (rw [if_neg (fun q => by rw [h12] at q; exact absurd q.1 (by decide))]; exact RI_r rfl)
        | (rw [if_neg (fun q => by rw [show isR 1 9 l = false from h20] at q; exact absurd q.2 (by decide))]; exact RI_r rfl)


def finW (K : KD) (w : Nat) : MT := fin K 2 (kw K w 4) (kw K w (3 + kw K w 3)) (kw K w 2) (kw K w 1) 0
def shareK (K : KD) (k w : Nat) : Nat := if (finW K w).1 = 0 then (if k = 3 then 1 else 0) else if k = 0 then bD (finW K w) else if k = 1 then (finW K w).2.1 else if k = 2 then (finW K w).2.2.1 else 0
def allK (K : KD) (k : Nat) : Nat := fld (fun s w => s + shareK K k w) (kh K 4) 0 0
theorem m_allOf_l (hM : MK σ K) {k : Nat} (hk : k < 4) : ∀ (n w s : Nat) (τ : MS), w + n = kh K 4 → Scr σ τ → Wp (d + 14) md_236 4 [some (.ref 287), some (.int (nI k)), some (.int (nI s)), some (.int (nI w))] [] (mset M τ) (RI M σ (nI (fld (fun s w => s + shareK K k w) n w s))) := by
  have ok := hM.2.1
  have hσ0 := hM.2.2.2
  obtain ⟨b0, b1, b2, b3, b4, b5, b6, b7, b8, b9, b10, b11, b12⟩ := ok_h ok
  intro n
  induction n with
  | zero =>
    intro w s τ hw hS
    have hK := MK_scr hM hS
    refine Wp.n (pc' := 10) 4 rfl ?_
    refine Wp.mialdN (j := 4) (len := 1) rfl rfl rfl (by omega) ?_
    refine Wp.top (r0_has hK.1 (by decide)) ?_
    refine Wp.nc3 (x := w) (y := kh K 4) (tgt := 109) (len := 3) rfl (by omega) (by omega) (fun h11 => ?_) (fun h11 => ?_)
    · skip
      refine Wp.n (pc' := 110) 1 rfl ?_
      refine Wp.retI (len := 1) rfl rfl ?_
      exact RI_s hS rfl
    · omega
  | succ n ih =>
    intro w s τ hw hS
    have hK := MK_scr hM hS
    have tw := ok_walk ok (i := w) (by omega)
    have p0 := tw.2.2.2.2.2.2.1 0 (by omega)
    have p1 := tw.2.2.2.2.2.2.1 (kw K w 3 - 1) (by omega)
    rw [show 4 + (kw K w 3 - 1) = 3 + kw K w 3 by omega] at p1
    obtain ⟨hf1, hf2, hf3⟩ := fin_i ok (aim := 2) (y := kw K w 2) (load := kw K w 1) (dn := 0) p0 p1 (by omega)
    replace hf2 : (finW K w).1 ≤ 326 := hf2
    rw [show fld (fun s w => s + shareK K k w) (n + 1) w s = fld (fun s w => s + shareK K k w) n (w + 1) (s + shareK K k w) from rfl]
    refine Wp.n (pc' := 10) 4 rfl ?_
    refine Wp.mialdN (j := 4) (len := 1) rfl rfl rfl (by omega) ?_
    refine Wp.top (r0_has hK.1 (by decide)) ?_
    refine Wp.nc3 (x := w) (y := kh K 4) (tgt := 109) (len := 3) rfl (by omega) (by omega) (fun h11 => ?_) (fun h11 => ?_)
    · omega
    · skip
      refine Wp.n (pc' := 18) 4 rfl ?_
      refine Wp.ecallV (len := 3) rfl rfl rfl (rfl) rfl (by decide) rfl (m_from hK.1 ok (w := w) (by omega)) ?_
      refine Wp.n (pc' := 23) 2 rfl ?_
      refine Wp.ecallV (len := 3) rfl rfl rfl (rfl) rfl (by decide) rfl (m_to hK.1 ok (w := w) (by omega)) ?_
      refine Wp.n (pc' := 29) 3 rfl ?_
      refine Wp.ecallV (len := 3) rfl rfl rfl (rfl) rfl (by decide) rfl (m_of τ w 2 (by omega)) ?_
      refine Wp.top (r0_walk hK.1 (i := w) (by omega) (by decide) rfl) ?_
      refine Wp.n (pc' := 35) 3 rfl ?_
      refine Wp.ecallV (len := 3) rfl rfl rfl (rfl) rfl (by decide) rfl (m_of τ w 1 (by omega)) ?_
      refine Wp.top (r0_walk hK.1 (i := w) (by omega) (by decide) rfl) ?_
      refine Wp.callV (len := 3) rfl rfl rfl (rfl) rfl (by decide) rfl (m_seeks (aim := 2) (dn := 0) (by omega) p1 (by omega) (by omega) (by omega) p0 hK (fun q => by omega)) ?_
      rintro _ _ ⟨rfl, τ2, rfl, hS2, hR⟩
      replace hR : MR τ2 (finW K w) := hR
      refine Wp.n (pc' := 45) 2 rfl ?_
      refine Wp.top hR.1 ?_
      refine Wp.nz1 (x := (finW K w).1) (tgt := 64) (len := 3) rfl (by omega) (fun h45 => ?_) (fun h45 => ?_)
      · skip
        obtain ⟨hc1, hc2, dq, pq, he, hdq, hp1, hp7, hpb⟩ := hf3 (by decide) (Nat.pos_of_ne_zero h45)
        obtain ⟨q1, q2, q3⟩ := hR.2.2.2.2 dq pq he
        have eD : bD (finW K w) = dq := by unfold bD; rw [show (finW K w).2.2.2.2 = some (dq, pq) from he]
        refine Wp.n (pc' := 66) 2 rfl ?_
        refine Wp.nz1 (x := k) (tgt := 76) (len := 3) rfl (by omega) (fun h66 => ?_) (fun h66 => ?_)
        · skip
          refine Wp.n (pc' := 78) 2 rfl ?_
          refine Wp.nc1 (x := k) (y := 1) (tgt := 88) (len := 3) rfl (by omega) (by omega) (fun h78 => ?_) (fun h78 => ?_)
          · skip
            refine Wp.n (pc' := 90) 2 rfl ?_
            refine Wp.nc1 (x := k) (y := 2) (tgt := 100) (len := 3) rfl (by omega) (by omega) (fun h90 => ?_) (fun h90 => ?_)
            · skip
              refine Wp.n (pc' := 101) 1 rfl ?_
              refine Wp.iaddN (x := s) (y := 0) (len := 1) rfl ?_
              refine Wp.n (pc' := 103) 1 rfl ?_
              refine Wp.incN (x := w) (len := 3) rfl rfl ?_
              refine Wp.n (pc' := 4) 1 rfl ?_
              have ih2 := ih (w + 1) (s + shareK K k w) τ2 (by omega) (Scr_t hS hS2)
              unfold shareK at ih2 ⊢
              first
                | (rw [if_pos h45, if_pos h51] at ih2 ⊢; exact ih2)
                | (rw [if_pos h45, if_neg h51] at ih2 ⊢; exact ih2)
                | (rw [if_neg h45, if_pos h66, eD] at ih2 ⊢; exact ih2)
                | (rw [if_neg h45, if_neg h66, if_pos h78] at ih2 ⊢; exact ih2)
                | (rw [if_neg h45, if_neg h66, if_neg h78, if_pos h90] at ih2 ⊢; exact ih2)
                | (rw [if_neg h45, if_neg h66, if_neg h78, if_neg h90] at ih2 ⊢; exact ih2)
            · skip
              refine Wp.n (pc' := 97) 2 rfl ?_
              refine Wp.top hR.2.2.1 ?_
              refine Wp.n (pc' := 101) 1 rfl ?_
              refine Wp.iaddN (x := s) (y := (finW K w).2.2.1) (len := 1) rfl ?_
              refine Wp.n (pc' := 103) 1 rfl ?_
              refine Wp.incN (x := w) (len := 3) rfl rfl ?_
              refine Wp.n (pc' := 4) 1 rfl ?_
              have ih2 := ih (w + 1) (s + shareK K k w) τ2 (by omega) (Scr_t hS hS2)
              unfold shareK at ih2 ⊢
              first
                | (rw [if_pos h45, if_pos h51] at ih2 ⊢; exact ih2)
                | (rw [if_pos h45, if_neg h51] at ih2 ⊢; exact ih2)
                | (rw [if_neg h45, if_pos h66, eD] at ih2 ⊢; exact ih2)
                | (rw [if_neg h45, if_neg h66, if_pos h78] at ih2 ⊢; exact ih2)
                | (rw [if_neg h45, if_neg h66, if_neg h78, if_pos h90] at ih2 ⊢; exact ih2)
                | (rw [if_neg h45, if_neg h66, if_neg h78, if_neg h90] at ih2 ⊢; exact ih2)
          · skip
            refine Wp.n (pc' := 85) 2 rfl ?_
            refine Wp.top hR.2.1 ?_
            refine Wp.n (pc' := 101) 1 rfl ?_
            refine Wp.iaddN (x := s) (y := (finW K w).2.1) (len := 1) rfl ?_
            refine Wp.n (pc' := 103) 1 rfl ?_
            refine Wp.incN (x := w) (len := 3) rfl rfl ?_
            refine Wp.n (pc' := 4) 1 rfl ?_
            have ih2 := ih (w + 1) (s + shareK K k w) τ2 (by omega) (Scr_t hS hS2)
            unfold shareK at ih2 ⊢
            first
              | (rw [if_pos h45, if_pos h51] at ih2 ⊢; exact ih2)
              | (rw [if_pos h45, if_neg h51] at ih2 ⊢; exact ih2)
              | (rw [if_neg h45, if_pos h66, eD] at ih2 ⊢; exact ih2)
              | (rw [if_neg h45, if_neg h66, if_pos h78] at ih2 ⊢; exact ih2)
              | (rw [if_neg h45, if_neg h66, if_neg h78, if_pos h90] at ih2 ⊢; exact ih2)
              | (rw [if_neg h45, if_neg h66, if_neg h78, if_neg h90] at ih2 ⊢; exact ih2)
        · skip
          refine Wp.n (pc' := 73) 2 rfl ?_
          refine Wp.top q1 ?_
          refine Wp.n (pc' := 101) 1 rfl ?_
          refine Wp.iaddN (x := s) (y := dq) (len := 1) rfl ?_
          refine Wp.n (pc' := 103) 1 rfl ?_
          refine Wp.incN (x := w) (len := 3) rfl rfl ?_
          refine Wp.n (pc' := 4) 1 rfl ?_
          have ih2 := ih (w + 1) (s + shareK K k w) τ2 (by omega) (Scr_t hS hS2)
          unfold shareK at ih2 ⊢
          first
            | (rw [if_pos h45, if_pos h51] at ih2 ⊢; exact ih2)
            | (rw [if_pos h45, if_neg h51] at ih2 ⊢; exact ih2)
            | (rw [if_neg h45, if_pos h66, eD] at ih2 ⊢; exact ih2)
            | (rw [if_neg h45, if_neg h66, if_pos h78] at ih2 ⊢; exact ih2)
            | (rw [if_neg h45, if_neg h66, if_neg h78, if_pos h90] at ih2 ⊢; exact ih2)
            | (rw [if_neg h45, if_neg h66, if_neg h78, if_neg h90] at ih2 ⊢; exact ih2)
      · skip
        refine Wp.n (pc' := 51) 3 rfl ?_
        refine Wp.nc1 (x := k) (y := 3) (tgt := 58) (len := 3) rfl (by omega) (by omega) (fun h51 => ?_) (fun h51 => ?_)
        · skip
          refine Wp.n (pc' := 59) 1 rfl ?_
          refine Wp.iaddN (x := s) (y := 0) (len := 1) rfl ?_
          refine Wp.n (pc' := 103) 2 rfl ?_
          refine Wp.incN (x := w) (len := 3) rfl rfl ?_
          refine Wp.n (pc' := 4) 1 rfl ?_
          have ih2 := ih (w + 1) (s + shareK K k w) τ2 (by omega) (Scr_t hS hS2)
          unfold shareK at ih2 ⊢
          first
            | (rw [if_pos h45, if_pos h51] at ih2 ⊢; exact ih2)
            | (rw [if_pos h45, if_neg h51] at ih2 ⊢; exact ih2)
            | (rw [if_neg h45, if_pos h66, eD] at ih2 ⊢; exact ih2)
            | (rw [if_neg h45, if_neg h66, if_pos h78] at ih2 ⊢; exact ih2)
            | (rw [if_neg h45, if_neg h66, if_neg h78, if_pos h90] at ih2 ⊢; exact ih2)
            | (rw [if_neg h45, if_neg h66, if_neg h78, if_neg h90] at ih2 ⊢; exact ih2)
        · skip
          refine Wp.n (pc' := 59) 2 rfl ?_
          refine Wp.iaddN (x := s) (y := 1) (len := 1) rfl ?_
          refine Wp.n (pc' := 103) 2 rfl ?_
          refine Wp.incN (x := w) (len := 3) rfl rfl ?_
          refine Wp.n (pc' := 4) 1 rfl ?_
          have ih2 := ih (w + 1) (s + shareK K k w) τ2 (by omega) (Scr_t hS hS2)
          unfold shareK at ih2 ⊢
          first
            | (rw [if_pos h45, if_pos h51] at ih2 ⊢; exact ih2)
            | (rw [if_pos h45, if_neg h51] at ih2 ⊢; exact ih2)
            | (rw [if_neg h45, if_pos h66, eD] at ih2 ⊢; exact ih2)
            | (rw [if_neg h45, if_neg h66, if_pos h78] at ih2 ⊢; exact ih2)
            | (rw [if_neg h45, if_neg h66, if_neg h78, if_pos h90] at ih2 ⊢; exact ih2)
            | (rw [if_neg h45, if_neg h66, if_neg h78, if_neg h90] at ih2 ⊢; exact ih2)

theorem m_allOf (hM : MK σ K) {k : Nat} (hk : k < 4) : Wp (d + 14) md_236 0 [some (.ref 287), some (.int (nI k)), none, none] [] (mset M σ) (RI M σ (nI (allK K k))) := by
  refine Wp.n (pc' := 4) 4 rfl ?_
  exact m_allOf_l hM hk (kh K 4) 0 0 σ (by omega) Scr_r
def allA (K : KD) (x : Int32) : Int32 := if 0 < kh K 0 ∧ isN 4 x = true then nI (allK K x.toNatClampNeg) else -2
theorem m_all (hM : MK σ K) (x : Int32) : Wp (d + 15) md_235 0 [some (.ref 287), some (.int x)] [] (mset M σ) (RI M σ (allA K x)) := by
  have ok := hM.2.1
  have hσ0 := hM.2.2.2
  obtain ⟨b0, b1, b2, b3, b4, b5, b6, b7, b8, b9, b10, b11, b12⟩ := ok_h ok
  unfold allA
  refine Wp.n (pc' := 2) 2 rfl ?_
  refine Wp.mput0 (len := 3) rfl hσ0 ?_
  refine Wp.n (pc' := 6) 1 rfl ?_
  refine Wp.ecallV (len := 3) rfl rfl rfl (rfl) rfl (by decide) rfl (m_isKingdom hM.1 ok) ?_
  refine Wp.ifb0 (tgt := 32) (len := 3) rfl (fun h9 => ?_) (fun h9 => ?_)
  · skip
    refine Wp.n (pc' := 34) 1 rfl ?_
    refine Wp.retI (len := 1) rfl rfl ?_
    first
      | exact RI_s hS rfl
      | (rw [if_neg (fun q => of_decide_eq_false h9 q.1)]; exact RI_r rfl)
      | (rw [if_neg (fun q => by rw [h21] at q; exact absurd q.2 (by decide))]; exact RI_r rfl)
  · skip
    refine Wp.n (pc' := 18) 4 rfl ?_
    refine Wp.ecallS (len := 3) rfl rfl rfl rfl (m_in _ _ _) ?_
    refine Wp.ifb0 (tgt := 32) (len := 3) rfl (fun h21 => ?_) (fun h21 => ?_)
    · rw [in_isN (k := 4) (by decide)] at h21
      refine Wp.n (pc' := 34) 1 rfl ?_
      refine Wp.retI (len := 1) rfl rfl ?_
      first
        | exact RI_s hS rfl
        | (rw [if_neg (fun q => of_decide_eq_false h9 q.1)]; exact RI_r rfl)
        | (rw [if_neg (fun q => by rw [h21] at q; exact absurd q.2 (by decide))]; exact RI_r rfl)
    · rw [in_isN (k := 4) (by decide)] at h21
      obtain ⟨k, hk, rfl⟩ := isN_of h21
      rw [if_pos ⟨of_decide_eq_true h9, h21⟩, nI_clamp (by omega)]
      refine Wp.n (pc' := 26) 2 rfl ?_
      refine Wp.callV (len := 3) rfl rfl rfl (rfl) rfl (by decide) rfl (m_allOf hM hk) ?_
      rintro _ _ ⟨rfl, τ, rfl, hS⟩
      refine Wp.n (pc' := 34) 1 rfl ?_
      refine Wp.retI (len := 1) rfl rfl ?_
      first
        | exact RI_s hS rfl
        | (rw [if_neg (fun q => of_decide_eq_false h9 q.1)]; exact RI_r rfl)
        | (rw [if_neg (fun q => by rw [h21] at q; exact absurd q.2 (by decide))]; exact RI_r rfl)

end RQ2
end
section
/-! WHAT IS THOUGHT OF: a new lane, a bent road, another law; the reference. -/
def laneK (K : KD) (a b n e : Nat) : KD := (fun i => if i = 11 then 1 else kh K i, kr K, fun i => if i = 8 then (fun j => if j = 0 then a else if j = 1 then b else if j = 2 then n else if j = 4 then e else 0) else kl K i, kw K)
def bentK (K : KD) (k n : Nat) : KD := (kh K, fun i => if i = k then (fun j => if j = 2 then kr K k 2 + n else kr K k j) else kr K i, kl K, kw K)
def lawsK (K : KD) (r f : Nat) : KD := (fun i => if i = 6 then r else if i = 7 then f else kh K i, kr K, kl K, kw K)
theorem laneK_ok {K : KD} (ok : KOK K) {a b n e : Nat} (ha : a < kh K 0) (hb : b < kh K 0) (hab : a ≠ b) (h1 : 1 ≤ n) (h2 : n ≤ 99) (he : e ≤ 30) : KOK (laneK K a b n e) := by
  obtain ⟨c0, c1, c2, c3, c4, c5, c6, c7, c8, c9, c10, c11, c12, c13, c14, c15, c16, c17⟩ := id ok
  refine ⟨c0, c1, c2, c3, c4, c5, c6, c7, c8, c9, c10, Nat.le_refl 1, c12, c13, c14, fun i hi => ?_, c16, c17⟩
  by_cases e8 : i = 8
  · subst e8
    exact ⟨ha, hb, hab, h1, h2, Nat.zero_le _, he, Nat.zero_le _, Nat.zero_le _⟩
  · have hk : kl (laneK K a b n e) i = kl K i := if_neg e8
    rw [hk]
    refine c15 i (Or.inl ?_)
    rcases hi with q | q
    · exact q
    · exact absurd q.1 e8
theorem bentK_ok {K : KD} (ok : KOK K) {k n : Nat} (hk : k < kh K 2) (h30 : ∀ i, i < kh K 2 → kr K i 2 ≤ 30) (h2 : n ≤ 99) : KOK (bentK K k n) := by
  obtain ⟨c0, c1, c2, c3, c4, c5, c6, c7, c8, c9, c10, c11, c12, c13, c14, c15, c16, c17⟩ := id ok
  have e : ∀ i j, j ≠ 2 → kr (bentK K k n) i j = kr K i j := fun i j hj => by
    show (if i = k then (fun j => if j = 2 then kr K k 2 + n else kr K k j) else kr K i) j = kr K i j
    by_cases c : i = k
    · rw [if_pos c, c]
      exact if_neg hj
    · rw [if_neg c]
  have e2 : ∀ i, i < kh K 2 → 1 ≤ kr (bentK K k n) i 2 ∧ kr (bentK K k n) i 2 ≤ 129 := fun i hi => by
    show 1 ≤ (if i = k then (fun j => if j = 2 then kr K k 2 + n else kr K k j) else kr K i) 2 ∧ (if i = k then (fun j => if j = 2 then kr K k 2 + n else kr K k j) else kr K i) 2 ≤ 129
    have h3 := h30 i hi
    have h4 := (c14 i hi).2.2.2.1
    by_cases c : i = k
    · rw [if_pos c]
      show 1 ≤ kr K k 2 + n ∧ kr K k 2 + n ≤ 129
      rw [c] at h3 h4
      omega
    · rw [if_neg c]
      omega
  refine ⟨c0, c1, c2, c3, c4, c5, c6, c7, c8, c9, c10, c11, c12, c13, fun i hi => ?_, c15, c16, fun i j hi hj hb => ?_⟩
  · obtain ⟨p1, p2⟩ := e2 i hi
    obtain ⟨q1, q2, q3, q4, q5⟩ := c14 i hi
    rw [e i 0 (by decide), e i 1 (by decide)]
    exact ⟨q1, q2, q3, p1, p2⟩
  · rw [e i 0 (by decide), e i 1 (by decide), e j 0 (by decide), e j 1 (by decide)] at hb
    exact c17 i j hi hj hb
theorem lawsK_ok {K : KD} (ok : KOK K) {r f : Nat} (hr : r ≤ 99) (hf : f ≤ 99) : KOK (lawsK K r f) := by
  obtain ⟨c0, c1, c2, c3, c4, c5, c6, c7, c8, c9, c10, c11, c12, c13, c14, c15, c16, c17⟩ := id ok
  exact ⟨c0, c1, c2, c3, c4, c5, hr, hf, c8, c9, c10, c11, c12, c13, c14, c15, c16, c17⟩
/-- scratch, and the lane that is thought of -/
def Scl (σ σ' : MS) : Prop := ∃ g, (∀ q, q < 56 ∨ 63 ≤ q → g q = σ.2.2.1 10 q) ∧ Scr (aset σ 10 g) σ'
section SCL
variable {M : AM} {σ σ' σ'' : MS} {K : KD}
theorem Scl_of (h : Scr σ σ') : Scl σ σ' := ⟨σ.2.2.1 10, fun _ _ => rfl, by rw [aset_same]; exact h⟩
theorem Scl_r : Scl σ σ := Scl_of Scr_r
theorem Scl_t (h : Scl σ σ') (h' : Scl σ' σ'') : Scl σ σ'' := by
  obtain ⟨g, hg, hs⟩ := h
  obtain ⟨g', hg', hs'⟩ := h'
  have e : σ'.2.2.1 10 = g := (hs.2.1 10 rfl).trans aset_get
  refine ⟨g', fun q hq => (hg' q hq).trans (by rw [e]; exact hg q hq), ?_⟩
  refine Scr_t (σ' := aset σ' 10 g') ⟨hs.1, fun k hk => ?_, hs.2.2.1, hs.2.2.2⟩ hs'
  by_cases c : k = 10
  · subst c; rw [aset_get, aset_get]
  · show va_up σ'.2.2.1 10 g' k = va_up σ.2.2.1 10 g' k
    rw [va_up_ne _ _ c, va_up_ne _ _ c]
    exact (hs.2.1 k hk).trans (va_up_ne _ _ c)
theorem RepM_scl {s : Nat} (h : RepM σ s K) (h11 : s = 0 → kh K 11 = 0) (h3 : kh K 3 ≤ 8) (e : Scl σ σ') : RepM σ' s K := by
  obtain ⟨g, hg, hs⟩ := e
  refine RepM_scr (σ := aset σ 10 g) ?_ hs
  refine ⟨h.1, h.2.1, h.2.2.1, h.2.2.2.1, h.2.2.2.2.1, fun i hi j hj => ?_, h.2.2.2.2.2.2⟩
  rw [← h.2.2.2.2.2.1 i hi j hj, aset_get]
  refine hg _ ?_
  by_cases c : s = 0
  · have := h11 c
    subst c
    omega
  · omega
theorem MK_scl (h : MK σ K) (h11 : kh K 11 = 0) (e : Scl σ σ') : MK σ' K := by
  refine ⟨RepM_scl h.1 (fun _ => h11) (ok_h h.2.1).2.2.2.1 e, h.2.1, ?_, ?_⟩
  · obtain ⟨g, hg, hs⟩ := e
    exact (hs.1 25 rfl).trans h.2.2.1
  · obtain ⟨g, hg, hs⟩ := e
    exact (hs.1 0 rfl).trans h.2.2.2
theorem Scr_25 {x y : Int32} (h : Scr (fset σ 25 x) σ') (e : σ.1 25 = y) : Scr σ (fset σ' 25 y) := by
  refine ⟨fun j hj => ?_, h.2.1, h.2.2.1, h.2.2.2⟩
  show upd σ'.1 25 y j = σ.1 j
  by_cases c : j = 25
  · rw [c, pk_us, e]
  · rw [pk_un c, h.1 j hj]
    exact pk_un c
def RI2 (M : AM) (σ : MS) (a : Int32) : Option Value → AM → Prop := fun v M' => v = some (.int a) ∧ ∃ σ', M' = mset M σ' ∧ Scl σ σ'
theorem RI2_s {a b : Int32} (e : Scl σ σ') (h : a = b) : RI2 M σ b (some (.int a)) (mset M σ') := ⟨by rw [h], σ', rfl, e⟩
theorem RI2_of {a : Int32} {v : Option Value} {M' : AM} (h : RI M σ a v M') : RI2 M σ a v M' := by
  obtain ⟨h1, σ', h2, h3⟩ := h
  exact ⟨h1, σ', h2, Scl_of h3⟩
theorem laneK_rep (h : RepM σ 0 K) {a b n e : Nat} {g : Nat → Int32} (h3 : kh K 3 ≤ 8) (hg : ∀ q, q < 56 ∨ 63 ≤ q → g q = σ.2.2.1 10 q) (g0 : g 56 = nI a) (g1 : g 57 = nI b) (g2 : g 58 = nI n) (g3 : g 59 = 0) (g4 : g 60 = nI e) (g5 : g 61 = 0) (g6 : g 62 = 0) {x : Int32} : RepM (fset (aset σ 10 g) 25 x) 0 (laneK K a b n e) := by
  refine ⟨fun j hj => ?_, fun h0 j hj => ?_, h.2.2.1, h.2.2.2.1, h.2.2.2.2.1, fun i hi j hj => ?_, h.2.2.2.2.2.2⟩
  · rw [show kh (laneK K a b n e) j = kh K j from if_neg (by omega)]
    exact h.1 j hj
  · rw [show kh (laneK K a b n e) (6 + j) = kh K (6 + j) from if_neg (by omega)]
    exact h.2.1 h0 j hj
  · show (aset σ 10 g).2.2.1 10 (63 * 0 + 7 * i + j) = _
    rw [aset_get]
    by_cases c : i = 8
    · subst c
      match j, hj with
      | 0, _ => exact g0
      | 1, _ => exact g1
      | 2, _ => exact g2
      | 3, _ => exact g3
      | 4, _ => exact g4
      | 5, _ => exact g5
      | 6, _ => exact g6
    · rw [show kl (laneK K a b n e) i = kl K i from if_neg c]
      have hi' : i < kh K 3 := by
        rcases hi with q | q
        · exact q
        · exact absurd q.1 c
      rw [hg _ (by omega)]
      exact h.2.2.2.2.2.1 i (Or.inl hi') j hj
theorem shareK_b (ok : KOK K) {k w : Nat} (hw : w < kh K 4) : shareK K k w ≤ 766260 := by
  have tw := ok_walk ok hw
  have p0 := tw.2.2.2.2.2.2.1 0 (by omega)
  have p1 := tw.2.2.2.2.2.2.1 (kw K w 3 - 1) (by omega)
  rw [show 4 + (kw K w 3 - 1) = 3 + kw K w 3 by omega] at p1
  obtain ⟨hf1, hf2, hf3⟩ := fin_i ok (aim := 2) (y := kw K w 2) (load := kw K w 1) (dn := 0) p0 p1 (by omega)
  unfold shareK
  by_cases c : (finW K w).1 = 0
  · rw [if_pos c]
    split <;> omega
  · rw [if_neg c]
    obtain ⟨hc1, hc2, dq, pq, he, hdq, hp1, hp7, hpb⟩ := hf3 (by decide) (Nat.pos_of_ne_zero c)
    have eD : bD (finW K w) = dq := by unfold bD; rw [show (finW K w).2.2.2.2 = some (dq, pq) from he]
    split
    · omega
    · split
      · exact hc1
      · split
        · exact Nat.le_trans hc2 (by decide)
        · omega
theorem sum_b {f : Nat → Nat} {B : Nat} : ∀ (n i s : Nat), (∀ j, i ≤ j → j < i + n → f j ≤ B) → fld (fun s w => s + f w) n i s ≤ s + n * B
  | 0, _, _, _ => by show _ ≤ _; rw [Nat.zero_mul]; exact Nat.le_refl _
  | n + 1, i, s, h => by
    have := sum_b n (i + 1) (s + f i) (fun j h1 h2 => h j (by omega) (by omega))
    have h0 := h i (Nat.le_refl _) (by omega)
    show fld (fun s w => s + f w) n (i + 1) (s + f i) ≤ _
    rw [Nat.add_mul]
    omega
theorem allK_b (ok : KOK K) {k : Nat} : allK K k ≤ 7662600 := by
  have h := sum_b (f := shareK K k) (B := 766260) (kh K 4) 0 0 (fun j _ h2 => shareK_b ok (by omega))
  have b4 := (ok_h ok).2.2.2.2.1
  have := Nat.mul_le_mul_right 766260 b4
  unfold allK
  omega
end SCL
section THINK
variable {d : Nat} {M : AM} {σ σ' : MS} {K : KD} {Q : Option Value → AM → Prop}
theorem m_thinks {a b m : Nat} : Wp d md_240 0 [some (.ref 287), some (.int (nI a)), some (.int (nI b)), some (.int (nI m)), none] [] (mset M σ) (fun v M' => v = none ∧ ∃ g, M' = mset M (fset (aset σ 10 g) 25 1) ∧ (∀ q, q < 56 ∨ 63 ≤ q → g q = σ.2.2.1 10 q) ∧ g 56 = nI a ∧ g 57 = nI b ∧ g 58 = nI m ∧ g 59 = 0 ∧ g 60 = nI 30 ∧ g 61 = 0 ∧ g 62 = 0) := by
  refine Wp.n (pc' := 11) 6 rfl ?_
  refine Wp.miastN (j := 56) (len := 1) rfl rfl rfl (by omega) ?_
  refine Wp.n (pc' := 19) 4 rfl ?_
  refine Wp.iaddN (x := 56) (y := 1) (len := 1) rfl ?_
  refine Wp.n (pc' := 21) 1 rfl ?_
  refine Wp.miastN (j := 56 + 1) (len := 1) rfl rfl rfl (by omega) ?_
  refine Wp.n (pc' := 29) 4 rfl ?_
  refine Wp.iaddN (x := 56) (y := 2) (len := 1) rfl ?_
  refine Wp.n (pc' := 31) 1 rfl ?_
  refine Wp.miastN (j := 56 + 2) (len := 1) rfl rfl rfl (by omega) ?_
  refine Wp.n (pc' := 39) 4 rfl ?_
  refine Wp.iaddN (x := 56) (y := 3) (len := 1) rfl ?_
  refine Wp.n (pc' := 41) 1 rfl ?_
  refine Wp.miastN (j := 56 + 3) (len := 1) rfl rfl rfl (by omega) ?_
  refine Wp.n (pc' := 49) 4 rfl ?_
  refine Wp.iaddN (x := 56) (y := 4) (len := 1) rfl ?_
  refine Wp.n (pc' := 52) 1 rfl ?_
  refine Wp.miastN (j := 56 + 4) (len := 1) rfl rfl rfl (by omega) ?_
  refine Wp.n (pc' := 60) 4 rfl ?_
  refine Wp.iaddN (x := 56) (y := 5) (len := 1) rfl ?_
  refine Wp.n (pc' := 62) 1 rfl ?_
  refine Wp.miastN (j := 56 + 5) (len := 1) rfl rfl rfl (by omega) ?_
  refine Wp.n (pc' := 71) 4 rfl ?_
  refine Wp.iaddN (x := 56) (y := 6) (len := 1) rfl ?_
  refine Wp.n (pc' := 73) 1 rfl ?_
  refine Wp.miastN (j := 56 + 6) (len := 1) rfl rfl rfl (by omega) ?_
  refine Wp.n (pc' := 76) 2 rfl ?_
  refine Wp.mputZ (len := 3) rfl rfl rfl ?_
  refine Wp.retV (len := 1) rfl rfl ?_
  refine ⟨rfl, upd (upd (upd (upd (upd (upd (upd (σ.2.2.1 10) 56 (nI a)) 57 (nI b)) 58 (nI m)) 59 0) 60 30) 61 0) 62 0, ?_, fun q hq => ?_, rfl, rfl, rfl, rfl, rfl, rfl, rfl⟩
  · simp only [aset_get, aset_aset]
  · rw [pk_un (by omega), pk_un (by omega), pk_un (by omega), pk_un (by omega), pk_un (by omega), pk_un (by omega), pk_un (by omega)]

theorem m_allWith (hM : MK σ K) (h11 : kh K 11 = 0) {a b m k : Nat} (ha : a < kh K 0) (hb : b < kh K 0) (hab : a ≠ b) (h1 : 1 ≤ m) (h2 : m ≤ 99) (hk : k < 4) : Wp (d + 15) md_239 0 [some (.ref 287), some (.int (nI a)), some (.int (nI b)), some (.int (nI m)), some (.int (nI k)), none] [] (mset M σ) (RI2 M σ (nI (allK (laneK K a b m 30) k))) := by
  have ok := hM.2.1
  have hσ0 := hM.2.2.2
  obtain ⟨b0, b1, b2, b3, b4, b5, b6, b7, b8, b9, b10, b11, b12⟩ := ok_h ok
  refine Wp.n (pc' := 4) 4 rfl ?_
  refine Wp.callV (len := 3) rfl rfl rfl (rfl) rfl (by decide) rfl (m_thinks (d := d + 14) (M := M) (σ := σ) (a := a) (b := b) (m := m)) ?_
  rintro _ _ ⟨rfl, g, rfl, hg, g0, g1, g2, g3, g4, g5, g6⟩
  have hM2 : MK (fset (aset σ 10 g) 25 1) (laneK K a b m 30) := ⟨laneK_rep hM.1 b3 hg g0 g1 g2 g3 g4 g5 g6, laneK_ok ok ha hb hab h1 h2 (Nat.le_refl _), rfl, hσ0⟩
  refine Wp.n (pc' := 10) 2 rfl ?_
  refine Wp.callV (len := 3) rfl rfl rfl (rfl) rfl (by decide) rfl (m_allOf hM2 hk) ?_
  rintro _ _ ⟨rfl, τ, rfl, hS⟩
  refine Wp.n (pc' := 17) 3 rfl ?_
  refine Wp.mputZ (len := 3) rfl rfl rfl ?_
  refine Wp.n (pc' := 22) 1 rfl ?_
  refine Wp.retI (len := 1) rfl rfl ?_
  exact RI2_s ⟨g, hg, Scr_25 hS (show σ.1 25 = 0 from by rw [hM.2.2.1, h11]; rfl)⟩ rfl

def laneA (K : KD) (x y m k : Int32) : Int32 := if areT K x y = true ∧ isR 1 99 m = true ∧ isN 4 k = true then nI (allK (laneK K x.toNatClampNeg y.toNatClampNeg m.toNatClampNeg 30) k.toNatClampNeg) - nI (allK K k.toNatClampNeg) else -2000000
theorem m_lane (hM : MK σ K) (h11 : kh K 11 = 0) (x y m k : Int32) : Wp (d + 16) md_237 0 [some (.ref 287), some (.int x), some (.int y), some (.int m), some (.int k)] [] (mset M σ) (RI2 M σ (laneA K x y m k)) := by
  have ok := hM.2.1
  have hσ0 := hM.2.2.2
  obtain ⟨b0, b1, b2, b3, b4, b5, b6, b7, b8, b9, b10, b11, b12⟩ := ok_h ok
  unfold laneA
  refine Wp.n (pc' := 2) 2 rfl ?_
  refine Wp.mput0 (len := 3) rfl hσ0 ?_
  refine Wp.n (pc' := 8) 3 rfl ?_
  refine Wp.ecallV (len := 3) rfl rfl rfl (rfl) rfl (by decide) rfl (m_areTwo hM.1 ok _ _) ?_
  refine Wp.ifb0 (tgt := 53) (len := 3) rfl (fun h11_ => ?_) (fun h11_ => ?_)
  · skip
    refine Wp.n (pc' := 56) 1 rfl ?_
    refine Wp.retI (len := 1) rfl rfl ?_
    first
      | exact RI2_s (Scl_t hS (Scl_of hS2)) rfl
      | (rw [if_neg (fun q => by rw [h11_] at q; exact absurd q.1 (by decide))]; exact RI2_s Scl_r rfl)
      | (rw [if_neg (fun q => by rw [show isR 1 99 m = false from h18] at q; exact absurd q.2.1 (by decide))]; exact RI2_s Scl_r rfl)
      | (rw [if_neg (fun q => by rw [h31] at q; exact absurd q.2.2 (by decide))]; exact RI2_s Scl_r rfl)
  · skip
    refine Wp.n (pc' := 15) 1 rfl ?_
    refine Wp.ecallS (len := 3) rfl rfl rfl rfl (m_isMore _) ?_
    refine Wp.ifb0 (tgt := 53) (len := 3) rfl (fun h18 => ?_) (fun h18 => ?_)
    · skip
      refine Wp.n (pc' := 56) 1 rfl ?_
      refine Wp.retI (len := 1) rfl rfl ?_
      first
        | exact RI2_s (Scl_t hS (Scl_of hS2)) rfl
        | (rw [if_neg (fun q => by rw [h11_] at q; exact absurd q.1 (by decide))]; exact RI2_s Scl_r rfl)
        | (rw [if_neg (fun q => by rw [show isR 1 99 m = false from h18] at q; exact absurd q.2.1 (by decide))]; exact RI2_s Scl_r rfl)
        | (rw [if_neg (fun q => by rw [h31] at q; exact absurd q.2.2 (by decide))]; exact RI2_s Scl_r rfl)
    · skip
      refine Wp.n (pc' := 28) 4 rfl ?_
      refine Wp.ecallS (len := 3) rfl rfl rfl rfl (m_in _ _ _) ?_
      refine Wp.ifb0 (tgt := 53) (len := 3) rfl (fun h31 => ?_) (fun h31 => ?_)
      · rw [in_isN (k := 4) (by decide)] at h31
        refine Wp.n (pc' := 56) 1 rfl ?_
        refine Wp.retI (len := 1) rfl rfl ?_
        first
          | exact RI2_s (Scl_t hS (Scl_of hS2)) rfl
          | (rw [if_neg (fun q => by rw [h11_] at q; exact absurd q.1 (by decide))]; exact RI2_s Scl_r rfl)
          | (rw [if_neg (fun q => by rw [show isR 1 99 m = false from h18] at q; exact absurd q.2.1 (by decide))]; exact RI2_s Scl_r rfl)
          | (rw [if_neg (fun q => by rw [h31] at q; exact absurd q.2.2 (by decide))]; exact RI2_s Scl_r rfl)
      · rw [in_isN (k := 4) (by decide)] at h31
        obtain ⟨a, t, ha, ht, hat, rfl, rfl⟩ := areT_of h11_
        obtain ⟨m, hm1, hm9, hm, rfl⟩ := isR_of (lo := 1) (hi := 99) h18
        obtain ⟨k, hk, rfl⟩ := isN_of h31
        rw [if_pos ⟨h11_, h18, h31⟩, nI_clamp (by omega), nI_clamp (by omega), nI_clamp hm, nI_clamp (by omega)]
        refine Wp.n (pc' := 40) 5 rfl ?_
        refine Wp.callV (len := 3) rfl rfl rfl (rfl) rfl (by decide) rfl (m_allWith hM h11 ha ht hat hm1 hm9 hk) ?_
        rintro _ _ ⟨rfl, τ, rfl, hS⟩
        refine Wp.n (pc' := 46) 2 rfl ?_
        refine Wp.callV (len := 3) rfl rfl rfl (rfl) rfl (by decide) rfl (m_allOf (MK_scl hM h11 hS) hk) ?_
        rintro _ _ ⟨rfl, τ2, rfl, hS2⟩
        refine Wp.n (pc' := 56) 2 rfl ?_
        refine Wp.retI (len := 1) rfl rfl ?_
        first
          | exact RI2_s (Scl_t hS (Scl_of hS2)) rfl
          | (rw [if_neg (fun q => by rw [h11_] at q; exact absurd q.1 (by decide))]; exact RI2_s Scl_r rfl)
          | (rw [if_neg (fun q => by rw [show isR 1 99 m = false from h18] at q; exact absurd q.2.1 (by decide))]; exact RI2_s Scl_r rfl)
          | (rw [if_neg (fun q => by rw [h31] at q; exact absurd q.2.2 (by decide))]; exact RI2_s Scl_r rfl)

/-- the search for the best new lane -/
def hst (K : KD) (m a : Nat) (st : Nat × Option Nat) (b : Nat) : Nat × Option Nat := if allK (laneK K a b m 30) 1 < st.1 then (allK (laneK K a b m 30) 1, some (10 * a + b)) else st
def hstA (K : KD) (m : Nat) (st : Nat × Option Nat) (a : Nat) : Nat × Option Nat := fld (hst K m a) (kh K 0 - (a + 1)) (a + 1) st
def helpK (K : KD) (m : Nat) : Option Nat := (fld (hstA K m) (kh K 0) 0 (allK K 1, none)).2
def helpA (K : KD) (x : Int32) : Int32 := if 0 < kh K 0 ∧ isR 1 99 x = true then oI (helpK K x.toNatClampNeg) else -2
theorem hst_b {m a b : Nat} {st : Nat × Option Nat} (h : st.1 ≤ 7662600) : (hst K m a st b).1 ≤ 7662600 := by
  unfold hst
  split
  · rename_i q
    show allK _ 1 ≤ _
    omega
  · exact h
theorem m_help_b (hM : MK σ K) (h11 : kh K 11 = 0) {m a : Nat} (h1 : 1 ≤ m) (h2 : m ≤ 99) (ha : a < kh K 0) : ∀ (n b : Nat) (st : Nat × Option Nat) (τ : MS) (z6 : Option Value), b + n = kh K 0 → a < b → Scl σ τ → st.1 ≤ 7662600 → (∀ τ' z6' st', st' = fld (hst K m a) n b st → st'.1 ≤ 7662600 → Scl σ τ' → Wp (d + 16) md_241 100 [some (.ref 287), some (.int (nI m)), some (.int (nI (st'.1))), some (.int (oI st'.2)), some (.int (nI a)), some (.int (nI (kh K 0))), z6'] [] (mset M τ') Q) → Wp (d + 16) md_241 50 [some (.ref 287), some (.int (nI m)), some (.int (nI (st.1))), some (.int (oI st.2)), some (.int (nI a)), some (.int (nI b)), z6] [] (mset M τ) Q := by
  have ok := hM.2.1
  have hσ0 := hM.2.2.2
  obtain ⟨b0, b1, b2, b3, b4, b5, b6, b7, b8, b9, b10, b11, b12⟩ := ok_h ok
  intro n
  induction n with
  | zero =>
    intro b st τ z6 hb hab hS hs7 kk
    have hK := MK_scl hM h11 hS
    refine Wp.n (pc' := 57) 4 rfl ?_
    refine Wp.mialdN (j := 0) (len := 1) rfl rfl rfl (by omega) ?_
    refine Wp.top (r0_has hK.1 (by decide)) ?_
    refine Wp.nc3 (x := b) (y := kh K 0) (tgt := 100) (len := 3) rfl (by omega) (by omega) (fun h58 => ?_) (fun h58 => ?_)
    · skip
      rw [show b = kh K 0 by omega]
      exact kk τ _ st rfl hs7 hS
    · omega
  | succ n ih =>
    intro b st τ z6 hb hab hS hs7 kk
    have hK := MK_scl hM h11 hS
    have hab2 := allK_b (K := laneK K a b m 30) (k := 1) (laneK_ok ok ha (by omega) (by omega) h1 h2 (Nat.le_refl _))
    have hb2 := hst_b (K := K) (m := m) (a := a) (b := b) hs7
    refine Wp.n (pc' := 57) 4 rfl ?_
    refine Wp.mialdN (j := 0) (len := 1) rfl rfl rfl (by omega) ?_
    refine Wp.top (r0_has hK.1 (by decide)) ?_
    refine Wp.nc3 (x := b) (y := kh K 0) (tgt := 100) (len := 3) rfl (by omega) (by omega) (fun h58 => ?_) (fun h58 => ?_)
    · omega
    · skip
      refine Wp.n (pc' := 68) 5 rfl ?_
      refine Wp.callV (len := 3) rfl rfl rfl (rfl) rfl (by decide) rfl (m_allWith hK h11 ha (by omega) (by omega) h1 h2 (by decide)) ?_
      rintro _ _ ⟨rfl, τ2, rfl, hS2⟩
      refine Wp.n (pc' := 76) 3 rfl ?_
      refine Wp.nc2 (x := allK (laneK K a b m 30) 1) (y := st.1) (tgt := 82) (len := 3) rfl (by omega) (by omega) (fun h76 => ?_) (fun h76 => ?_)
      · skip
        refine Wp.n (pc' := 89) 4 rfl ?_
        refine Wp.imulN (x := 10) (y := a) (len := 1) rfl ?_
        refine Wp.n (pc' := 92) 1 rfl ?_
        refine Wp.iaddN (x := 10 * a) (y := b) (len := 1) rfl ?_
        refine Wp.n (pc' := 94) 1 rfl ?_
        refine Wp.incN (x := b) (len := 3) rfl rfl ?_
        refine Wp.n (pc' := 50) 1 rfl ?_
        have ihh := ih (b + 1) (hst K m a st b) τ2
        first
          | (have e : hst K m a st b = (allK (laneK K a b m 30) 1, some (10 * a + b)) := if_pos (by omega)
             rw [e] at ihh
             exact ihh _ (by omega) (by omega) (Scl_t hS hS2) hab2 (fun τ3 z3 st3 e3 => kk τ3 z3 st3 (by rw [e3, ← e]; rfl)))
          | (have e : hst K m a st b = st := if_neg (by omega)
             rw [e] at ihh
             exact ihh _ (by omega) (by omega) (Scl_t hS hS2) hs7 (fun τ3 z3 st3 e3 => kk τ3 z3 st3 (e3.trans (congrArg (fld (hst K m a) n (b + 1)) e.symm))))
      · skip
        refine Wp.n (pc' := 94) 1 rfl ?_
        refine Wp.incN (x := b) (len := 3) rfl rfl ?_
        refine Wp.n (pc' := 50) 1 rfl ?_
        have ihh := ih (b + 1) (hst K m a st b) τ2
        first
          | (have e : hst K m a st b = (allK (laneK K a b m 30) 1, some (10 * a + b)) := if_pos (by omega)
             rw [e] at ihh
             exact ihh _ (by omega) (by omega) (Scl_t hS hS2) hab2 (fun τ3 z3 st3 e3 => kk τ3 z3 st3 (by rw [e3, ← e]; rfl)))
          | (have e : hst K m a st b = st := if_neg (by omega)
             rw [e] at ihh
             exact ihh _ (by omega) (by omega) (Scl_t hS hS2) hs7 (fun τ3 z3 st3 e3 => kk τ3 z3 st3 (e3.trans (congrArg (fld (hst K m a) n (b + 1)) e.symm))))

theorem m_help_a (hM : MK σ K) (h11 : kh K 11 = 0) {m : Nat} (h1 : 1 ≤ m) (h2 : m ≤ 99) : ∀ (n a : Nat) (st : Nat × Option Nat) (τ : MS) (z5 z6 : Option Value), a + n = kh K 0 → Scl σ τ → st.1 ≤ 7662600 → Wp (d + 16) md_241 33 [some (.ref 287), some (.int (nI m)), some (.int (nI (st.1))), some (.int (oI st.2)), some (.int (nI a)), z5, z6] [] (mset M τ) (RI2 M σ (oI (fld (hstA K m) n a st).2)) := by
  have ok := hM.2.1
  have hσ0 := hM.2.2.2
  obtain ⟨b0, b1, b2, b3, b4, b5, b6, b7, b8, b9, b10, b11, b12⟩ := ok_h ok
  intro n
  induction n with
  | zero =>
    intro a st τ z5 z6 ha hS hs7
    have hK := MK_scl hM h11 hS
    refine Wp.n (pc' := 40) 4 rfl ?_
    refine Wp.mialdN (j := 0) (len := 1) rfl rfl rfl (by omega) ?_
    refine Wp.top (r0_has hK.1 (by decide)) ?_
    refine Wp.nc3 (x := a) (y := kh K 0) (tgt := 106) (len := 3) rfl (by omega) (by omega) (fun h41 => ?_) (fun h41 => ?_)
    · skip
      refine Wp.n (pc' := 107) 1 rfl ?_
      refine Wp.retI (len := 1) rfl rfl ?_
      exact RI2_s hS rfl
    · omega
  | succ n ih =>
    intro a st τ z5 z6 ha hS hs7
    have hK := MK_scl hM h11 hS
    refine Wp.n (pc' := 40) 4 rfl ?_
    refine Wp.mialdN (j := 0) (len := 1) rfl rfl rfl (by omega) ?_
    refine Wp.top (r0_has hK.1 (by decide)) ?_
    refine Wp.nc3 (x := a) (y := kh K 0) (tgt := 106) (len := 3) rfl (by omega) (by omega) (fun h41 => ?_) (fun h41 => ?_)
    · omega
    · skip
      refine Wp.n (pc' := 47) 2 rfl ?_
      refine Wp.iaddN (x := a) (y := 1) (len := 1) rfl ?_
      refine Wp.n (pc' := 50) 1 rfl ?_
      refine m_help_b hM h11 h1 h2 (by omega) (kh K 0 - (a + 1)) (a + 1) st τ _ (by omega) (by omega) hS hs7 (fun τ2 z2 st2 e2 hs2 hS2 => ?_)
      refine Wp.incN (x := a) (len := 3) rfl rfl ?_
      refine Wp.n (pc' := 33) 1 rfl ?_
      subst e2
      exact ih (a + 1) _ τ2 _ _ (by omega) hS2 hs2
      

theorem m_help (hM : MK σ K) (h11 : kh K 11 = 0) (x : Int32) : Wp (d + 16) md_241 0 [some (.ref 287), some (.int x), none, none, none, none, none] [] (mset M σ) (RI2 M σ (helpA K x)) := by
  have ok := hM.2.1
  have hσ0 := hM.2.2.2
  obtain ⟨b0, b1, b2, b3, b4, b5, b6, b7, b8, b9, b10, b11, b12⟩ := ok_h ok
  unfold helpA
  refine Wp.n (pc' := 2) 2 rfl ?_
  refine Wp.mput0 (len := 3) rfl hσ0 ?_
  refine Wp.n (pc' := 6) 1 rfl ?_
  refine Wp.ecallV (len := 3) rfl rfl rfl (rfl) rfl (by decide) rfl (m_isKingdom hM.1 ok) ?_
  refine Wp.ifb0 (tgt := 19) (len := 3) rfl (fun h9 => ?_) (fun h9 => ?_)
  · skip
    refine Wp.n (pc' := 21) 1 rfl ?_
    refine Wp.retI (len := 1) rfl rfl ?_
    first
      | (rw [if_neg (fun q => of_decide_eq_false h9 q.1)]; exact RI2_s Scl_r rfl)
      | (rw [if_neg (fun q => by rw [show isR 1 99 x = false from h16] at q; exact absurd q.2 (by decide))]; exact RI2_s Scl_r rfl)
  · skip
    refine Wp.n (pc' := 13) 1 rfl ?_
    refine Wp.ecallS (len := 3) rfl rfl rfl rfl (m_isMore _) ?_
    refine Wp.ifb1 (tgt := 22) (len := 3) rfl (fun h16 => ?_) (fun h16 => ?_)
    · skip
      obtain ⟨m, hm1, hm9, hm, rfl⟩ := isR_of (lo := 1) (hi := 99) h16
      rw [if_pos ⟨of_decide_eq_true h9, h16⟩, nI_clamp hm]
      refine Wp.n (pc' := 24) 2 rfl ?_
      refine Wp.callV (len := 3) rfl rfl rfl (rfl) rfl (by decide) rfl (m_allOf hM (by decide)) ?_
      rintro _ _ ⟨rfl, τ, rfl, hS⟩
      refine Wp.n (pc' := 33) 5 rfl ?_
      exact m_help_a hM h11 hm1 hm9 (kh K 0) 0 (allK K 1, none) τ _ _ (by omega) (Scl_of hS) (allK_b ok)
    · skip
      refine Wp.n (pc' := 21) 1 rfl ?_
      refine Wp.retI (len := 1) rfl rfl ?_
      first
        | (rw [if_neg (fun q => of_decide_eq_false h9 q.1)]; exact RI2_s Scl_r rfl)
        | (rw [if_neg (fun q => by rw [show isR 1 99 x = false from h16] at q; exact absurd q.2 (by decide))]; exact RI2_s Scl_r rfl)

/-- roads as they were told: none is bent -/
def R30 (K : KD) : Prop := ∀ i, i < kh K 2 → kr K i 2 ≤ 30
theorem bent_rep (h : RepM σ 0 K) {k m : Nat} (h2 : kh K 2 ≤ 12) : RepM (aset σ 9 (upd (σ.2.2.1 9) (3 * k + 2) (nI (kr K k 2 + m)))) 0 (bentK K k m) := by
  refine ⟨h.1, h.2.1, h.2.2.1, h.2.2.2.1, fun i hi j hj => ?_, h.2.2.2.2.2.1, h.2.2.2.2.2.2⟩
  rw [aset_get]
  show upd (σ.2.2.1 9) (3 * k + 2) _ (36 * 0 + 3 * i + j) = nI ((if i = k then (fun j => if j = 2 then kr K k 2 + m else kr K k j) else kr K i) j)
  by_cases c : i = k
  · subst c
    rw [if_pos rfl]
    by_cases c2 : j = 2
    · subst c2
      rw [show 36 * 0 + 3 * i + 2 = 3 * i + 2 by omega, pk_us]
      rfl
    · rw [pk_un (by omega), h.2.2.2.2.1 i hi j hj]
      exact congrArg nI (if_neg c2).symm
  · rw [if_neg c, pk_un (by omega)]
    exact h.2.2.2.2.1 i hi j hj
theorem Scr_9 {g : Nat → Int32} (h : Scr (aset σ 9 g) σ') : Scr σ (aset σ' 9 (σ.2.2.1 9)) := by
  refine ⟨h.1, fun k hk => ?_, h.2.2.1, h.2.2.2⟩
  by_cases c : k = 9
  · subst c; rw [aset_get]
  · show va_up σ'.2.2.1 9 _ k = _
    rw [va_up_ne _ _ c, h.2.1 k hk]
    exact va_up_ne _ _ c
theorem m_allBent (hM : MK σ K) (h30 : R30 K) {k m q : Nat} (hk : k < kh K 2) (h2 : m ≤ 99) (hq : q < 4) : Wp (d + 15) md_243 0 [some (.ref 287), some (.int (nI k)), some (.int (nI m)), some (.int (nI q)), none] [] (mset M σ) (RI M σ (nI (allK (bentK K k m) q))) := by
  have ok := hM.2.1
  have hσ0 := hM.2.2.2
  obtain ⟨b0, b1, b2, b3, b4, b5, b6, b7, b8, b9, b10, b11, b12⟩ := ok_h ok
  have h30k := h30 k hk
  refine Wp.n (pc' := 6) 4 rfl ?_
  refine Wp.imulN (x := 3) (y := k) (len := 1) rfl ?_
  refine Wp.n (pc' := 8) 1 rfl ?_
  refine Wp.iaddN (x := 3 * k) (y := 2) (len := 1) rfl ?_
  refine Wp.n (pc' := 10) 1 rfl ?_
  refine Wp.mialdN (j := (3 * k) + 2) (len := 1) rfl rfl rfl (by omega) ?_
  refine Wp.top (r0_road hM.1 hk (by decide) rfl) ?_
  refine Wp.n (pc' := 12) 1 rfl ?_
  refine Wp.iaddN (x := kr K k 2) (y := m) (len := 1) rfl ?_
  refine Wp.miastN (j := (3 * k) + 2) (len := 1) rfl rfl rfl (by omega) ?_
  refine Wp.n (pc' := 16) 2 rfl ?_
  refine Wp.callV (len := 3) rfl rfl rfl (rfl) rfl (by decide) rfl (m_allOf (σ := aset σ 9 (upd (σ.2.2.1 9) (3 * k + 2) (nI (kr K k 2 + m)))) (K := bentK K k m) ⟨bent_rep hM.1 b2, bentK_ok ok hk h30 h2, hM.2.2.1, hσ0⟩ hq) ?_
  rintro _ _ ⟨rfl, τ, rfl, hS⟩
  refine Wp.n (pc' := 27) 5 rfl ?_
  refine Wp.imulN (x := 3) (y := k) (len := 1) rfl ?_
  refine Wp.n (pc' := 29) 1 rfl ?_
  refine Wp.iaddN (x := 3 * k) (y := 2) (len := 1) rfl ?_
  refine Wp.n (pc' := 31) 1 rfl ?_
  refine Wp.mialdN (j := (3 * k) + 2) (len := 1) rfl rfl rfl (by omega) ?_
  refine Wp.top (show _ = nI (kr K k 2 + m) from by rw [hS.2.1 9 rfl, aset_get, pk_us]) ?_
  refine Wp.n (pc' := 33) 1 rfl ?_
  refine Wp.isubN (x := kr K k 2 + m) (y := m) (len := 1) rfl (by omega) ?_
  refine Wp.miastN (j := (3 * k) + 2) (len := 1) rfl rfl rfl (by omega) ?_
  refine Wp.n (pc' := 37) 1 rfl ?_
  refine Wp.retI (len := 1) rfl rfl ?_
  have e : upd (τ.2.2.1 9) (3 * k + 2) (nI (kr K k 2 + m - m)) = σ.2.2.1 9 := by
    rw [hS.2.1 9 rfl, aset_get, Nat.add_sub_cancel]
    funext j
    by_cases c : j = 3 * k + 2
    · rw [c, pk_us, r0_road hM.1 hk (by decide) rfl]
    · rw [pk_un c, pk_un c]
  exact RI_s (by rw [e]; exact Scr_9 hS) rfl

def bendA (K : KD) (x m k : Int32) : Int32 := if isN (kh K 2) x = true ∧ isR 1 99 m = true ∧ isN 4 k = true then nI (allK (bentK K x.toNatClampNeg m.toNatClampNeg) k.toNatClampNeg) - nI (allK K k.toNatClampNeg) else -2000000
theorem m_bend (hM : MK σ K) (h30 : R30 K) (x m k : Int32) : Wp (d + 16) md_242 0 [some (.ref 287), some (.int x), some (.int m), some (.int k)] [] (mset M σ) (RI M σ (bendA K x m k)) := by
  have ok := hM.2.1
  have hσ0 := hM.2.2.2
  obtain ⟨b0, b1, b2, b3, b4, b5, b6, b7, b8, b9, b10, b11, b12⟩ := ok_h ok
  unfold bendA
  refine Wp.n (pc' := 2) 2 rfl ?_
  refine Wp.mput0 (len := 3) rfl hσ0 ?_
  refine Wp.n (pc' := 13) 6 rfl ?_
  refine Wp.mialdN (j := 2) (len := 1) rfl rfl rfl (by omega) ?_
  refine Wp.n (pc' := 17) 3 rfl ?_
  refine Wp.ecallS (len := 3) rfl rfl rfl rfl (m_in _ _ _) ?_
  refine Wp.ifb0 (tgt := 58) (len := 3) rfl (fun h20 => ?_) (fun h20 => ?_)
  · rw [show (0 : Int64).toInt = 0 from rfl, il_toInt, il_toInt, isN_le (n := kh K 2) (by omega) (r0_has hM.1 (by decide))] at h20
    refine Wp.n (pc' := 61) 1 rfl ?_
    refine Wp.retI (len := 1) rfl rfl ?_
    first
      | exact RI_s (Scr_t hS hS2) rfl
      | (rw [if_neg (fun q => by rw [h20] at q; exact absurd q.1 (by decide))]; exact RI_r rfl)
      | (rw [if_neg (fun q => by rw [show isR 1 99 m = false from h27] at q; exact absurd q.2.1 (by decide))]; exact RI_r rfl)
      | (rw [if_neg (fun q => by rw [h39] at q; exact absurd q.2.2 (by decide))]; exact RI_r rfl)
  · rw [show (0 : Int64).toInt = 0 from rfl, il_toInt, il_toInt, isN_le (n := kh K 2) (by omega) (r0_has hM.1 (by decide))] at h20
    refine Wp.n (pc' := 24) 1 rfl ?_
    refine Wp.ecallS (len := 3) rfl rfl rfl rfl (m_isMore _) ?_
    refine Wp.ifb0 (tgt := 58) (len := 3) rfl (fun h27 => ?_) (fun h27 => ?_)
    · skip
      refine Wp.n (pc' := 61) 1 rfl ?_
      refine Wp.retI (len := 1) rfl rfl ?_
      first
        | exact RI_s (Scr_t hS hS2) rfl
        | (rw [if_neg (fun q => by rw [h20] at q; exact absurd q.1 (by decide))]; exact RI_r rfl)
        | (rw [if_neg (fun q => by rw [show isR 1 99 m = false from h27] at q; exact absurd q.2.1 (by decide))]; exact RI_r rfl)
        | (rw [if_neg (fun q => by rw [h39] at q; exact absurd q.2.2 (by decide))]; exact RI_r rfl)
    · skip
      refine Wp.n (pc' := 36) 4 rfl ?_
      refine Wp.ecallS (len := 3) rfl rfl rfl rfl (m_in _ _ _) ?_
      refine Wp.ifb0 (tgt := 58) (len := 3) rfl (fun h39 => ?_) (fun h39 => ?_)
      · rw [in_isN (k := 4) (by decide)] at h39
        refine Wp.n (pc' := 61) 1 rfl ?_
        refine Wp.retI (len := 1) rfl rfl ?_
        first
          | exact RI_s (Scr_t hS hS2) rfl
          | (rw [if_neg (fun q => by rw [h20] at q; exact absurd q.1 (by decide))]; exact RI_r rfl)
          | (rw [if_neg (fun q => by rw [show isR 1 99 m = false from h27] at q; exact absurd q.2.1 (by decide))]; exact RI_r rfl)
          | (rw [if_neg (fun q => by rw [h39] at q; exact absurd q.2.2 (by decide))]; exact RI_r rfl)
      · rw [in_isN (k := 4) (by decide)] at h39
        obtain ⟨r, hr, rfl⟩ := isN_of h20
        obtain ⟨m, hm1, hm9, hm, rfl⟩ := isR_of (lo := 1) (hi := 99) h27
        obtain ⟨k, hk, rfl⟩ := isN_of h39
        rw [if_pos ⟨h20, h27, h39⟩, nI_clamp (by omega), nI_clamp hm, nI_clamp (by omega)]
        refine Wp.n (pc' := 46) 4 rfl ?_
        refine Wp.callV (len := 3) rfl rfl rfl (rfl) rfl (by decide) rfl (m_allBent hM h30 hr hm9 hk) ?_
        rintro _ _ ⟨rfl, τ, rfl, hS⟩
        refine Wp.n (pc' := 51) 2 rfl ?_
        refine Wp.callV (len := 3) rfl rfl rfl (rfl) rfl (by decide) rfl (m_allOf (MK_scr hM hS) hk) ?_
        rintro _ _ ⟨rfl, τ2, rfl, hS2⟩
        refine Wp.n (pc' := 61) 2 rfl ?_
        refine Wp.retI (len := 1) rfl rfl ?_
        first
          | exact RI_s (Scr_t hS hS2) rfl
          | (rw [if_neg (fun q => by rw [h20] at q; exact absurd q.1 (by decide))]; exact RI_r rfl)
          | (rw [if_neg (fun q => by rw [show isR 1 99 m = false from h27] at q; exact absurd q.2.1 (by decide))]; exact RI_r rfl)
          | (rw [if_neg (fun q => by rw [h39] at q; exact absurd q.2.2 (by decide))]; exact RI_r rfl)

def dst (K : KD) (m : Nat) (st : Nat × Option Nat) (k : Nat) : Nat × Option Nat := if st.1 < allK (bentK K k m) 0 then (allK (bentK K k m) 0, some k) else st
def dukeK (K : KD) (m : Nat) : Option Nat := (fld (dst K m) (kh K 2) 0 (allK K 0, none)).2
def dukeA (K : KD) (x : Int32) : Int32 := if 0 < kh K 0 ∧ isR 1 99 x = true then oI (dukeK K x.toNatClampNeg) else -2
theorem m_duke_l (hM : MK σ K) (h30 : R30 K) {m : Nat} (h2 : m ≤ 99) : ∀ (n k : Nat) (st : Nat × Option Nat) (τ : MS) (z5 : Option Value), k + n = kh K 2 → Scr σ τ → st.1 ≤ 7662600 → Wp (d + 16) md_244 33 [some (.ref 287), some (.int (nI m)), some (.int (nI (st.1))), some (.int (oI st.2)), some (.int (nI k)), z5] [] (mset M τ) (RI M σ (oI (fld (dst K m) n k st).2)) := by
  have ok := hM.2.1
  have hσ0 := hM.2.2.2
  obtain ⟨b0, b1, b2, b3, b4, b5, b6, b7, b8, b9, b10, b11, b12⟩ := ok_h ok
  intro n
  induction n with
  | zero =>
    intro k st τ z5 hk hS hs7
    have hK := MK_scr hM hS
    refine Wp.n (pc' := 40) 4 rfl ?_
    refine Wp.mialdN (j := 2) (len := 1) rfl rfl rfl (by omega) ?_
    refine Wp.top (r0_has hK.1 (by decide)) ?_
    refine Wp.nc3 (x := k) (y := kh K 2) (tgt := 75) (len := 3) rfl (by omega) (by omega) (fun h41 => ?_) (fun h41 => ?_)
    · skip
      refine Wp.n (pc' := 76) 1 rfl ?_
      refine Wp.retI (len := 1) rfl rfl ?_
      exact RI_s hS rfl
    · omega
  | succ n ih =>
    intro k st τ z5 hk hS hs7
    have hK := MK_scr hM hS
    have hab2 := allK_b (K := bentK K k m) (k := 0) (bentK_ok ok (by omega) h30 h2)
    refine Wp.n (pc' := 40) 4 rfl ?_
    refine Wp.mialdN (j := 2) (len := 1) rfl rfl rfl (by omega) ?_
    refine Wp.top (r0_has hK.1 (by decide)) ?_
    refine Wp.nc3 (x := k) (y := kh K 2) (tgt := 75) (len := 3) rfl (by omega) (by omega) (fun h41 => ?_) (fun h41 => ?_)
    · omega
    · skip
      refine Wp.n (pc' := 49) 4 rfl ?_
      refine Wp.callV (len := 3) rfl rfl rfl (rfl) rfl (by decide) rfl (m_allBent hK h30 (by omega) h2 (by decide)) ?_
      rintro _ _ ⟨rfl, τ2, rfl, hS2⟩
      refine Wp.n (pc' := 57) 3 rfl ?_
      refine Wp.nc4 (x := allK (bentK K k m) 0) (y := st.1) (tgt := 63) (len := 3) rfl (by omega) (by omega) (fun h57 => ?_) (fun h57 => ?_)
      · skip
        refine Wp.n (pc' := 69) 4 rfl ?_
        refine Wp.incN (x := k) (len := 3) rfl rfl ?_
        refine Wp.n (pc' := 33) 1 rfl ?_
        rw [show fld (dst K m) (n + 1) k st = fld (dst K m) n (k + 1) (dst K m st k) from rfl]
        first
          | (have e : dst K m st k = (allK (bentK K k m) 0, some k) := if_pos (by omega)
             rw [e]
             exact ih (k + 1) (allK (bentK K k m) 0, some k) τ2 _ (by omega) (Scr_t hS hS2) hab2)
          | (have e : dst K m st k = st := if_neg (by omega)
             rw [e]
             exact ih (k + 1) st τ2 _ (by omega) (Scr_t hS hS2) hs7)
      · skip
        refine Wp.n (pc' := 69) 1 rfl ?_
        refine Wp.incN (x := k) (len := 3) rfl rfl ?_
        refine Wp.n (pc' := 33) 1 rfl ?_
        rw [show fld (dst K m) (n + 1) k st = fld (dst K m) n (k + 1) (dst K m st k) from rfl]
        first
          | (have e : dst K m st k = (allK (bentK K k m) 0, some k) := if_pos (by omega)
             rw [e]
             exact ih (k + 1) (allK (bentK K k m) 0, some k) τ2 _ (by omega) (Scr_t hS hS2) hab2)
          | (have e : dst K m st k = st := if_neg (by omega)
             rw [e]
             exact ih (k + 1) st τ2 _ (by omega) (Scr_t hS hS2) hs7)

theorem m_duke (hM : MK σ K) (h30 : R30 K) (x : Int32) : Wp (d + 16) md_244 0 [some (.ref 287), some (.int x), none, none, none, none] [] (mset M σ) (RI M σ (dukeA K x)) := by
  have ok := hM.2.1
  have hσ0 := hM.2.2.2
  obtain ⟨b0, b1, b2, b3, b4, b5, b6, b7, b8, b9, b10, b11, b12⟩ := ok_h ok
  unfold dukeA
  refine Wp.n (pc' := 2) 2 rfl ?_
  refine Wp.mput0 (len := 3) rfl hσ0 ?_
  refine Wp.n (pc' := 6) 1 rfl ?_
  refine Wp.ecallV (len := 3) rfl rfl rfl (rfl) rfl (by decide) rfl (m_isKingdom hM.1 ok) ?_
  refine Wp.ifb0 (tgt := 19) (len := 3) rfl (fun h9 => ?_) (fun h9 => ?_)
  · skip
    refine Wp.n (pc' := 21) 1 rfl ?_
    refine Wp.retI (len := 1) rfl rfl ?_
    first
      | (rw [if_neg (fun q => of_decide_eq_false h9 q.1)]; exact RI_s Scr_r rfl)
      | (rw [if_neg (fun q => by rw [show isR 1 99 x = false from h16] at q; exact absurd q.2 (by decide))]; exact RI_s Scr_r rfl)
  · skip
    refine Wp.n (pc' := 13) 1 rfl ?_
    refine Wp.ecallS (len := 3) rfl rfl rfl rfl (m_isMore _) ?_
    refine Wp.ifb1 (tgt := 22) (len := 3) rfl (fun h16 => ?_) (fun h16 => ?_)
    · skip
      obtain ⟨m, hm1, hm9, hm, rfl⟩ := isR_of (lo := 1) (hi := 99) h16
      rw [if_pos ⟨of_decide_eq_true h9, h16⟩, nI_clamp hm]
      refine Wp.n (pc' := 24) 2 rfl ?_
      refine Wp.callV (len := 3) rfl rfl rfl (rfl) rfl (by decide) rfl (m_allOf hM (by decide)) ?_
      rintro _ _ ⟨rfl, τ, rfl, hS⟩
      refine Wp.n (pc' := 33) 5 rfl ?_
      exact m_duke_l hM h30 hm9 (kh K 2) 0 (allK K 0, none) τ _ (by omega) hS (allK_b ok)
    · skip
      refine Wp.n (pc' := 21) 1 rfl ?_
      refine Wp.retI (len := 1) rfl rfl ?_
      first
        | (rw [if_neg (fun q => of_decide_eq_false h9 q.1)]; exact RI_s Scr_r rfl)
        | (rw [if_neg (fun q => by rw [show isR 1 99 x = false from h16] at q; exact absurd q.2 (by decide))]; exact RI_s Scr_r rfl)

end THINK
end
