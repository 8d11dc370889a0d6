/-! A ROW OF PLACES: its length and lanes. -/
def addJ (K : KD) (s : Nat × List Nat) (j : Nat) : Nat × List Nat := (s.1 + spanJ K j, if j < 20 then s.2 else s.2 ++ [j - 20])
def lookK (K : KD) (y : Nat) (P : Nat → Nat) : Nat → Nat → Nat × List Nat → Nat × Nat × List Nat
  | 0, i, s => (i, s)
  | n + 1, i, s => match joinK K (P i) (P (i + 1)) y with
    | none => (i, s)
    | some j => lookK K y P n (i + 1) (addJ K s j)
def bitsM (ls : List Nat) : Nat := ls.foldl (fun b l => b ||| 2 ^ l) 0
def wat (K : KD) (ls : List Nat) : List Nat := (ls.filter (fun l => decide (0 < kl K l 6))).map (fun l => kl K l 6)
theorem bitsM_app (ls : List Nat) (l : Nat) : bitsM (ls ++ [l]) = bitsM ls ||| 2 ^ l := by
  unfold bitsM
  rw [List.foldl_append]
  rfl
theorem bitsM_tb (l : Nat) : ∀ (ls : List Nat) (b : Nat), (ls.foldl (fun b l => b ||| 2 ^ l) b).testBit l = (b.testBit l || ls.contains l)
  | [], b => by simp
  | x :: t, b => by
    rw [List.foldl_cons, bitsM_tb l t, Nat.testBit_or, Nat.testBit_two_pow, List.contains_cons, Bool.or_assoc]
    congr 2
    by_cases e : x = l
    · subst e; simp
    · simp [e, Ne.symm e]
theorem bits_tb (ls : List Nat) (l : Nat) : (bitsM ls).testBit l = ls.contains l := by
  unfold bitsM
  rw [bitsM_tb, Nat.zero_testBit, Bool.false_or]
theorem bits_lt {ls : List Nat} (h : ∀ l, l ∈ ls → l ≤ 8) : bitsM ls < 2 ^ 9 := by
  apply Nat.lt_pow_two_of_testBit
  intro i hi
  rw [bits_tb]
  cases e : ls.contains i with
  | false => rfl
  | true =>
    have := h i (List.contains_iff_mem.mp e)
    omega
theorem wat_app (K : KD) (ls : List Nat) (l : Nat) : wat K (ls ++ [l]) = wat K ls ++ (if 0 < kl K l 6 then [kl K l 6] else []) := by
  unfold wat
  rw [List.filter_append, List.map_append]
  congr 1
  by_cases h : 0 < kl K l 6
  · rw [if_pos h, List.filter_cons_of_pos (by exact decide_eq_true h)]
    rfl
  · rw [if_neg h, List.filter_cons_of_neg (by rw [decide_eq_false h]; decide)]
    rfl
theorem getD_app {ls : List Nat} {x i : Nat} (h : i < ls.length) : (ls ++ [x]).getD i 0 = ls.getD i 0 := by
  simp [List.getD_eq_getElem?_getD, List.getElem?_append_left h]
theorem getD_end {ls : List Nat} {x : Nat} : (ls ++ [x]).getD ls.length 0 = x := by
  simp [List.getD_eq_getElem?_getD]
/-- sound so far: i steps -/
def SB (K : KD) (i : Nat) (s : Nat × List Nat) : Prop := s.1 ≤ 129 * i ∧ s.2.length ≤ i ∧ ∀ l, l ∈ s.2 → LV K l
theorem SB_s {K : KD} (ok : KOK K) {i j : Nat} {s : Nat × List Nat} (h : SB K i s) (hj : JV K j) : SB K (i + 1) (addJ K s j) := by
  obtain ⟨h1, h2, h3⟩ := h
  have hs := spanJ_b ok hj
  unfold addJ
  refine ⟨by show s.1 + spanJ K j ≤ _; omega, ?_, ?_⟩
  · show (if j < 20 then s.2 else s.2 ++ [j - 20]).length ≤ i + 1
    by_cases c : j < 20
    · rw [if_pos c]; omega
    · rw [if_neg c, List.length_append]; show s.2.length + 1 ≤ _; omega
  · intro l hl
    have hl' : l ∈ (if j < 20 then s.2 else s.2 ++ [j - 20]) := hl
    by_cases c : j < 20
    · rw [if_pos c] at hl'; exact h3 l hl'
    · rw [if_neg c, List.mem_append] at hl'
      rcases hl' with q | q
      · exact h3 l q
      · rw [List.mem_singleton] at q
        rw [q]
        have b2 := (ok_h ok).2.2.1
        rcases hj with p | p
        · omega
        · exact p.2
theorem LV_8 {K : KD} (ok : KOK K) {l : Nat} (h : LV K l) : l ≤ 8 := by
  have := (ok_h ok).2.2.2.1
  unfold LV at h
  omega
theorem SB_bits {K : KD} (ok : KOK K) {i : Nat} {s : Nat × List Nat} (h : SB K i s) : bitsM s.2 < 2 ^ 9 := bits_lt (fun l hl => LV_8 ok (h.2.2 l hl))
theorem wat_len {K : KD} (ls : List Nat) : (wat K ls).length ≤ ls.length := by
  unfold wat
  rw [List.length_map]
  exact List.length_filter_le _ _
theorem joinK_v {K : KD} (ok : KOK K) {a b y j : Nat} (h : joinK K a b y = some j) : JV K j := by
  rw [← joinK_m ok] at h
  have : ∀ (n i : Nat) (c : Option Nat), (∀ j, c = some j → JV K j) → ∀ j, fld (jstep K a b y) n i c = some j → JV K j := by
    intro n
    induction n with
    | zero => intro i c hc; exact hc
    | succ n ih =>
      intro i c hc
      refine ih (i + 1) (jstep K a b y c i) ?_
      unfold jstep
      by_cases q : i < kh K 3 ∨ (i = 8 ∧ kh K 11 = 1)
      · rw [if_pos q]; exact joinStep_v q hc
      · rw [if_neg q]; exact hc
  exact this 9 0 (roadK K a b) (fun j hj => Or.inl (roadK_v hj).1) j h
theorem lookK_b {K : KD} (ok : KOK K) {y : Nat} {P : Nat → Nat} : ∀ (n i : Nat) (s : Nat × List Nat), SB K i s → SB K (i + n) (lookK K y P n i s).2 ∧ (lookK K y P n i s).1 ≤ i + n ∧ i ≤ (lookK K y P n i s).1
  | 0, i, s, h => ⟨h, by show i ≤ _; omega, by show i ≤ i; omega⟩
  | n + 1, i, s, h => by
    unfold lookK
    cases hj : joinK K (P i) (P (i + 1)) y with
    | none =>
      refine ⟨?_, by show i ≤ _; omega, by show i ≤ i; omega⟩
      obtain ⟨h1, h2, h3⟩ := h
      exact ⟨by show s.1 ≤ _; omega, by show s.2.length ≤ _; omega, h3⟩
    | some j =>
      obtain ⟨a1, a2, a3⟩ := lookK_b ok n (i + 1) (addJ K s j) (SB_s ok h (joinK_v ok hj))
      rw [show i + 1 + n = i + (n + 1) by omega] at a1 a2
      exact ⟨a1, a2, by show i ≤ (lookK K y P n (i + 1) (addJ K s j)).1; omega⟩
section LOOK
variable {d : Nat} {M : AM} {σ σ' : MS} {K : KD} {Q : Option Value → AM → Prop}
def LKs (σ : MS) (K : KD) (s : Nat × List Nat) : Prop := σ.1 28 = nI s.1 ∧ σ.1 29 = nI (bitsM s.2) ∧ σ.1 32 = nI (wat K s.2).length ∧ (∀ i, i < (wat K s.2).length → σ.2.2.1 15 i = nI ((wat K s.2).getD i 0))
theorem LKs_road {s : Nat × List Nat} {j : Nat} (h : LKs σ K s) (hj : j < 20) : LKs (fset σ 28 (nI (s.1 + spanJ K j))) K (addJ K s j) := by
  have e : addJ K s j = (s.1 + spanJ K j, s.2) := by unfold addJ; rw [if_pos hj]
  rw [e]
  exact ⟨rfl, h.2.1, h.2.2.1, h.2.2.2⟩
theorem LKs_un {s : Nat × List Nat} {j : Nat} (h : LKs σ K s) (hj : 20 ≤ j) (hw : kl K (j - 20) 6 = 0) : LKs (fset (fset σ 28 (nI (s.1 + spanJ K j))) 29 (nI (bitsM s.2 ||| 2 ^ (j - 20)))) K (addJ K s j) := by
  have e : addJ K s j = (s.1 + spanJ K j, s.2 ++ [j - 20]) := by unfold addJ; rw [if_neg (by omega)]
  have e2 : wat K (s.2 ++ [j - 20]) = wat K s.2 := by rw [wat_app, if_neg (by omega), List.append_nil]
  rw [e]
  refine ⟨rfl, ?_, ?_, ?_⟩
  · show _ = nI (bitsM (s.2 ++ [j - 20]))
    rw [bitsM_app]
    rfl
  · show _ = nI (wat K (s.2 ++ [j - 20])).length
    rw [e2]
    exact h.2.2.1
  · show ∀ i, i < (wat K (s.2 ++ [j - 20])).length → _ = nI ((wat K (s.2 ++ [j - 20])).getD i 0)
    rw [e2]
    exact h.2.2.2
theorem LKs_w {s : Nat × List Nat} {j : Nat} (h : LKs σ K s) (hj : 20 ≤ j) (hw : kl K (j - 20) 6 ≠ 0) : LKs (fset (aset (fset (fset σ 28 (nI (s.1 + spanJ K j))) 29 (nI (bitsM s.2 ||| 2 ^ (j - 20)))) 15 (upd (σ.2.2.1 15) (wat K s.2).length (nI (kl K (j - 20) 6)))) 32 (nI ((wat K s.2).length + 1))) K (addJ K s j) := by
  have e : addJ K s j = (s.1 + spanJ K j, s.2 ++ [j - 20]) := by unfold addJ; rw [if_neg (by omega)]
  have e2 : wat K (s.2 ++ [j - 20]) = wat K s.2 ++ [kl K (j - 20) 6] := by rw [wat_app, if_pos (by omega)]
  rw [e]
  refine ⟨rfl, ?_, ?_, ?_⟩
  · show _ = nI (bitsM (s.2 ++ [j - 20]))
    rw [bitsM_app]
    rfl
  · show _ = nI (wat K (s.2 ++ [j - 20])).length
    rw [e2, List.length_append]
    rfl
  · show ∀ i, i < (wat K (s.2 ++ [j - 20])).length → upd (σ.2.2.1 15) (wat K s.2).length (nI (kl K (j - 20) 6)) i = nI ((wat K (s.2 ++ [j - 20])).getD i 0)
    rw [e2, List.length_append]
    intro i hi
    have hi' : i < (wat K s.2).length + 1 := hi
    by_cases c : i = (wat K s.2).length
    · rw [c, pk_us, getD_end]
    · rw [pk_un c, getD_app (by omega)]
      exact h.2.2.2 i (by omega)
abbrev LF : List Nat := [28, 29, 32]
abbrev LA : List Nat := [15]
theorem Scr_L (h : Fr LF LA σ σ') : Scr σ σ' := Fr.mono h rfl rfl
theorem m_looks_l (hM : MK σ K) {m y : Nat} {P : Nat → Nat} (hm : σ.1 27 = nI m) (hm7 : m ≤ 7) (hy : y < 31) (hr : ∀ i, i < m → σ.2.2.1 14 i = nI (P i) ∧ P i < 7) : ∀ (n i : Nat) (s : Nat × List Nat) (τ : MS) (z : Option Value), i + n + 1 = m → Fr LF LA σ τ → LKs τ K s → SB K i s → Wp (d + 3) md_207 17 [some (.ref 287), some (.int (nI y)), some (.int (nI i)), z] [] (mset M τ) (fun v M' => ∃ τ', v = some (.int (nI (lookK K y P n i s).1)) ∧ M' = mset M τ' ∧ Fr LF LA σ τ' ∧ LKs τ' K (lookK K y P n i s).2) := by
  have ok := hM.2.1
  intro n
  obtain ⟨b0, b1, b2, b3, b4, b5, b6, b7, b8, b9, b10, b11, b12⟩ := ok_h ok
  induction n with
  | zero =>
    intro i s τ z hi hF hL hB
    have hm' : τ.1 27 = nI m := (hF.1 27 rfl).trans hm
    refine Wp.n (pc' := 19) 2 rfl ?_
    refine Wp.iaddN (x := i) (y := 1) (len := 1) rfl ?_
    refine Wp.n (pc' := 24) 2 rfl ?_
    refine Wp.top hm' ?_
    refine Wp.nc3 (x := i + 1) (y := m) (tgt := 153) (len := 3) rfl (by omega) (by omega) (fun h24 => ?_) (fun h24 => ?_)
    · skip
      refine Wp.n (pc' := 157) 2 rfl ?_
      refine Wp.top hm' ?_
      refine Wp.n (pc' := 158) 1 rfl ?_
      refine Wp.isubN (x := m) (y := 1) (len := 1) rfl (by omega) ?_
      refine Wp.retI (len := 1) rfl rfl ?_
      rw [show m - 1 = i by omega]
      exact ⟨τ, rfl, rfl, hF, hL⟩
    · omega
  | succ n ih =>
    intro i s τ z hi hF hL hB
    have hm' : τ.1 27 = nI m := (hF.1 27 rfl).trans hm
    have hK := MK_scr hM (Scr_L hF)
    have h14 : τ.2.2.1 14 = σ.2.2.1 14 := hF.2.1 14 rfl
    have r1 : τ.2.2.1 14 i = nI (P i) := by rw [h14]; exact (hr i (by omega)).1
    have r2 : τ.2.2.1 14 (i + 1) = nI (P (i + 1)) := by rw [h14]; exact (hr (i + 1) (by omega)).1
    have p1 := (hr i (by omega)).2
    have p2 := (hr (i + 1) (by omega)).2
    have hw := wat_len (K := K) s.2
    have hb := SB_bits ok hB
    obtain ⟨hB1, hB2, hB3⟩ := hB
    unfold lookK
    refine Wp.n (pc' := 19) 2 rfl ?_
    refine Wp.iaddN (x := i) (y := 1) (len := 1) rfl ?_
    refine Wp.n (pc' := 24) 2 rfl ?_
    refine Wp.top hm' ?_
    refine Wp.nc3 (x := i + 1) (y := m) (tgt := 153) (len := 3) rfl (by omega) (by omega) (fun h24 => ?_) (fun h24 => ?_)
    · omega
    · skip
      refine Wp.n (pc' := 33) 4 rfl ?_
      refine Wp.mialdN (j := i) (len := 1) rfl rfl rfl (by omega) ?_
      refine Wp.top r1 ?_
      refine Wp.n (pc' := 40) 4 rfl ?_
      refine Wp.iaddN (x := i) (y := 1) (len := 1) rfl ?_
      refine Wp.mialdN (j := i + 1) (len := 1) rfl rfl rfl (by omega) ?_
      refine Wp.top r2 ?_
      refine Wp.n (pc' := 43) 1 rfl ?_
      refine Wp.ecallV (len := 3) rfl rfl rfl (rfl) rfl (by decide) rfl (m_joined hK.1 hK.2.2.1 ok p1 p2 hy) ?_
      rcases hj : joinK K (P i) (P (i + 1)) y with _ | j
      · skip
        refine Wp.n (pc' := 49) 3 rfl ?_
        refine Wp.ic1 (tgt := 54) (len := 3) rfl (fun h49 => ?_) (fun h49 => ?_)
        · exact absurd rfl h49
        · skip
          refine Wp.n (pc' := 53) 1 rfl ?_
          refine Wp.retI (len := 1) rfl rfl ?_
          exact ⟨τ, rfl, rfl, hF, hL⟩
      · have hjv := joinK_v ok hj
        have hjb : j < 29 := by
          rcases hjv with q | ⟨q1, q2⟩
          · omega
          · have := LV_8 ok q2; omega
        have hsj := spanJ_b ok hjv
        have hB' := SB_s ok (show SB K i s from ⟨hB1, hB2, hB3⟩) hjv
        refine Wp.n (pc' := 49) 3 rfl ?_
        refine Wp.ic1 (tgt := 54) (len := 3) rfl (fun h49 => ?_) (fun h49 => ?_)
        · skip
          refine Wp.n (pc' := 59) 3 rfl ?_
          refine Wp.top hL.1 ?_
          refine Wp.n (pc' := 61) 2 rfl ?_
          refine Wp.ecallV (len := 3) rfl rfl rfl (rfl) rfl (by decide) rfl (m_longOf hK.1 ok hjv) ?_
          refine Wp.iaddN (x := s.1) (y := spanJ K j) (len := 1) rfl ?_
          refine Wp.mput (len := 3) rfl rfl ?_
          refine Wp.n (pc' := 71) 2 rfl ?_
          refine Wp.nc3 (x := j) (y := 20) (tgt := 77) (len := 3) rfl (by omega) (by omega) (fun h71 => ?_) (fun h71 => ?_)
          · skip
            have hjl : LV K (j - 20) := by
              rcases hjv with q | q
              · omega
              · exact q.2
            have hlb := ok_lane ok hjl
            have hj8 := LV_8 ok hjl
            refine Wp.n (pc' := 82) 3 rfl ?_
            refine Wp.top hL.2.1 ?_
            refine Wp.n (pc' := 86) 3 rfl ?_
            refine Wp.isubN (x := j) (y := 20) (len := 1) rfl (by omega) ?_
            refine Wp.n (pc' := 89) 2 rfl ?_
            refine Wp.top (by rw [n_sh1 _ (by omega), n_or]) ?_
            refine Wp.mput (len := 3) rfl rfl ?_
            refine Wp.n (pc' := 101) 5 rfl ?_
            refine Wp.isubN (x := j) (y := 20) (len := 1) rfl (by omega) ?_
            refine Wp.imulN (x := 7) (y := j - 20) (len := 1) rfl ?_
            refine Wp.n (pc' := 105) 1 rfl ?_
            refine Wp.iaddN (x := 7 * (j - 20)) (y := 6) (len := 1) rfl ?_
            refine Wp.mialdN (j := (7 * (j - 20)) + 6) (len := 1) rfl rfl rfl (by omega) ?_
            refine Wp.top (r0_lane hK.1 hjl (j := 6) (by decide) (by omega)) ?_
            refine Wp.nz1 (x := kl K (j - 20) 6) (tgt := 113) (len := 3) rfl (by omega) (fun h107 => ?_) (fun h107 => ?_)
            · skip
              refine Wp.n (pc' := 121) 4 rfl ?_
              refine Wp.top hL.2.2.1 ?_
              refine Wp.n (pc' := 130) 5 rfl ?_
              refine Wp.isubN (x := j) (y := 20) (len := 1) rfl (by omega) ?_
              refine Wp.imulN (x := 7) (y := j - 20) (len := 1) rfl ?_
              refine Wp.n (pc' := 134) 1 rfl ?_
              refine Wp.iaddN (x := 7 * (j - 20)) (y := 6) (len := 1) rfl ?_
              refine Wp.mialdN (j := (7 * (j - 20)) + 6) (len := 1) rfl rfl rfl (by omega) ?_
              refine Wp.top (r0_lane hK.1 hjl (j := 6) (by decide) (by omega)) ?_
              refine Wp.miastN (j := (wat K s.2).length) (len := 1) rfl rfl rfl (by omega) ?_
              refine Wp.n (pc' := 142) 3 rfl ?_
              refine Wp.top hL.2.2.1 ?_
              refine Wp.n (pc' := 143) 1 rfl ?_
              refine Wp.iaddN (x := (wat K s.2).length) (y := 1) (len := 1) rfl ?_
              refine Wp.mput (len := 3) rfl rfl ?_
              refine Wp.incN (x := i) (len := 3) rfl rfl ?_
              refine Wp.n (pc' := 17) 1 rfl ?_
              first
                | exact ih (i + 1) (addJ K s j) _ _ (by omega) (hF.fset rfl) (LKs_road hL (by omega)) hB'
                | exact ih (i + 1) (addJ K s j) _ _ (by omega) ((hF.fset rfl).fset rfl) (LKs_un hL (by omega) (by omega)) hB'
                | exact ih (i + 1) (addJ K s j) _ _ (by omega) ((((hF.fset rfl).fset rfl).aset rfl).fset rfl) (LKs_w hL (by omega) (by omega)) hB'
            · skip
              refine Wp.n (pc' := 147) 1 rfl ?_
              refine Wp.incN (x := i) (len := 3) rfl rfl ?_
              refine Wp.n (pc' := 17) 1 rfl ?_
              first
                | exact ih (i + 1) (addJ K s j) _ _ (by omega) (hF.fset rfl) (LKs_road hL (by omega)) hB'
                | exact ih (i + 1) (addJ K s j) _ _ (by omega) ((hF.fset rfl).fset rfl) (LKs_un hL (by omega) (by omega)) hB'
                | exact ih (i + 1) (addJ K s j) _ _ (by omega) ((((hF.fset rfl).fset rfl).aset rfl).fset rfl) (LKs_w hL (by omega) (by omega)) hB'
          · skip
            refine Wp.n (pc' := 147) 1 rfl ?_
            refine Wp.incN (x := i) (len := 3) rfl rfl ?_
            refine Wp.n (pc' := 17) 1 rfl ?_
            first
              | exact ih (i + 1) (addJ K s j) _ _ (by omega) (hF.fset rfl) (LKs_road hL (by omega)) hB'
              | exact ih (i + 1) (addJ K s j) _ _ (by omega) ((hF.fset rfl).fset rfl) (LKs_un hL (by omega) (by omega)) hB'
              | exact ih (i + 1) (addJ K s j) _ _ (by omega) ((((hF.fset rfl).fset rfl).aset rfl).fset rfl) (LKs_w hL (by omega) (by omega)) hB'
        · exact absurd h49 (oI_ne (by omega))

theorem m_looks (hM : MK σ K) {m y : Nat} {P : Nat → Nat} (hm : σ.1 27 = nI m) (hm1 : 1 ≤ m) (hm7 : m ≤ 7) (hy : y < 31) (hr : ∀ i, i < m → σ.2.2.1 14 i = nI (P i) ∧ P i < 7) : Wp (d + 3) md_207 0 [some (.ref 287), some (.int (nI y)), none, none] [] (mset M σ) (fun v M' => ∃ τ', v = some (.int (nI (lookK K y P (m - 1) 0 (0, [])).1)) ∧ M' = mset M τ' ∧ Fr LF LA σ τ' ∧ LKs τ' K (lookK K y P (m - 1) 0 (0, [])).2) := by
  refine Wp.n (pc' := 2) 2 rfl ?_
  refine Wp.mput (len := 3) rfl rfl ?_
  refine Wp.n (pc' := 7) 2 rfl ?_
  refine Wp.mput (len := 3) rfl rfl ?_
  refine Wp.n (pc' := 12) 2 rfl ?_
  refine Wp.mput (len := 3) rfl rfl ?_
  refine Wp.n (pc' := 17) 2 rfl ?_
  exact m_looks_l hM hm hm7 hy hr (m - 1) 0 (0, []) _ _ (by omega) (((Fr.rfl'.fset rfl).fset rfl).fset rfl) ⟨rfl, rfl, rfl, fun i hi => absurd hi (Nat.not_lt_zero i)⟩ ⟨Nat.le_refl _, Nat.le_refl _, fun l hl => absurd hl (List.not_mem_nil)⟩

end LOOK
