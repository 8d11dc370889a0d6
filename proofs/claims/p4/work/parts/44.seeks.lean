/-! goesOn, seeks. -/
def GO (σ τ : MS) (aim y load dn : Nat) (ps : List Nat) (st : MT) : Prop := Scr σ τ ∧ SK τ aim y load dn ∧ (∀ i, i < ps.length → τ.2.2.1 14 i = nI (ps.getD i 0)) ∧ MR τ st ∧ MB st
section GOES
theorem tb_t {b : Bool} (h : b.toNat = 1) : b = true := by cases b <;> first | rfl | cases h
theorem tb_f {b : Bool} (h : b.toNat ≠ 1) : b = false := by cases b <;> first | rfl | exact absurd rfl h
variable {d : Nat} {M : AM} {σ τ : MS} {K : KD} {Q : Option Value → AM → Prop}
theorem SK_fr {σ τ : MS} {F A : List Nat} {aim y load dn : Nat} (h : SK σ aim y load dn) (e : Fr F A σ τ) (h33 : List.elem 33 F = false) (h34 : List.elem 34 F = false) (h35 : List.elem 35 F = false) (h36 : List.elem 36 F = false) : SK τ aim y load dn := ⟨(e.1 33 h33).trans h.1, (e.1 34 h34).trans h.2.1, (e.1 35 h35).trans h.2.2.1, fun q => (e.1 36 h36).trans (h.2.2.2 q)⟩
theorem MR_fr {σ τ : MS} {F A : List Nat} {st : MT} (h : MR σ st) (e : Fr F A σ τ) (h37 : List.elem 37 F = false) (h38 : List.elem 38 F = false) (h39 : List.elem 39 F = false) (h40 : List.elem 40 F = false) (h41 : List.elem 41 F = false) (h42 : List.elem 42 F = false) (h16 : List.elem 16 A = false) : MR τ st := ⟨(e.1 37 h37).trans h.1, (e.1 38 h38).trans h.2.1, (e.1 39 h39).trans h.2.2.1, (e.1 42 h42).trans h.2.2.2.1, fun dq pq hq => by
  obtain ⟨q1, q2, q3⟩ := h.2.2.2.2 dq pq hq
  exact ⟨(e.1 40 h40).trans q1, (e.1 41 h41).trans q2, fun i hi => by rw [e.2.1 16 h16]; exact q3 i hi⟩⟩
theorem m_go_p {f : Nat} {aim a t y load dn : Nat} (haim : aim ≤ 4) (ht : t < kh K 0) (hy : y < 31) (hload : load ≤ 9) (hdn : dn < 2 ^ 31) (hM : MK σ K) {e0 : Nat} (hfe : f ≤ e0) (ih : ∀ (ps : List Nat) (q : Nat) (s : Nat × List Nat) (st : MT) (τ : MS) (e : Nat), f + 5 ≤ e → f + ps.length = 8 → PV K y ps q s → ps.getD 0 0 = a → GO σ τ aim y load dn ps st → Wp e md_228 0 [some (.ref 287), some (.int (nI t)), some (.int (nI (ps.length))), some (.int (nI (bitsM ps))), none] [] (mset M τ) (fun v M' => v = none ∧ ∃ τ', M' = mset M τ' ∧ GO σ τ' aim y load dn ps (List.foldl (meet K aim a t y load dn) st (dfs K y t f ps q s)))) {ps : List Nat} {q : Nat} {s : Nat × List Nat} (hf : f + 1 + ps.length = 8) (hP : PV K y ps q s) (ha : ps.getD 0 0 = a) : ∀ (n p : Nat) (st : MT) (τ : MS), p + n = kh K 0 → GO σ τ aim y load dn ps st → Wp (e0 + 6) md_228 34 [some (.ref 287), some (.int (nI t)), some (.int (nI (ps.length))), some (.int (nI (bitsM ps))), some (.int (nI p))] [] (mset M τ) (fun v M' => v = none ∧ ∃ τ', M' = mset M τ' ∧ GO σ τ' aim y load dn ps (List.foldl (meet K aim a t y load dn) st (loopL (fun p => if ps.contains p = true then [] else match joinK K q p y with | none => [] | some j => dfs K y t f (ps ++ [p]) p (addJ K s j)) n p))) := by
  have ok := hM.2.1
  obtain ⟨b0, b1, b2, b3, b4, b5, b6, b7, b8, b9, b10, b11, b12⟩ := ok_h ok
  have hl := PV_len ok hP
  have h1 := hP.1
  have hq := PV_q hP
  have hbt : bitsM ps < 2 ^ 9 := bits_lt (fun l hl => by have := hP.2.2.2.1 l hl; omega)
  intro n
  induction n with
  | zero =>
    intro p st τ hp hG
    have hK := MK_scr hM hG.1
    refine Wp.n (pc' := 41) 4 rfl ?_
    refine Wp.mialdN (j := 0) (len := 1) rfl rfl rfl (by omega) ?_
    refine Wp.top (r0_has hK.1 (by decide)) ?_
    refine Wp.nc3 (x := p) (y := kh K 0) (tgt := 108) (len := 3) rfl (by omega) (by omega) (fun h42 => ?_) (fun h42 => ?_)
    · skip
      refine Wp.retV (len := 1) rfl rfl ?_
      exact ⟨rfl, τ, rfl, hG⟩
    · omega
  | succ n ihn =>
    intro p st τ hp hG
    have hK := MK_scr hM hG.1
    have hr : τ.2.2.1 14 (ps.length - 1) = nI q := by rw [hG.2.2.1 _ (by omega), hP.2.1]
    have ht2 := bits_tb ps p
    have kf : (fun p => if ps.contains p = true then [] else match joinK K q p y with | none => [] | some j => dfs K y t f (ps ++ [p]) p (addJ K s j)) p = [] → Wp (e0 + 6) md_228 34 [some (.ref 287), some (.int (nI t)), some (.int (nI (ps.length))), some (.int (nI (bitsM ps))), some (.int (nI (p + 1)))] [] (mset M τ) (fun v M' => v = none ∧ ∃ τ', M' = mset M τ' ∧ GO σ τ' aim y load dn ps (List.foldl (meet K aim a t y load dn) st (loopL (fun p => if ps.contains p = true then [] else match joinK K q p y with | none => [] | some j => dfs K y t f (ps ++ [p]) p (addJ K s j)) (n + 1) p))) := by
      intro e
      rw [show loopL (fun p => if ps.contains p = true then [] else match joinK K q p y with | none => [] | some j => dfs K y t f (ps ++ [p]) p (addJ K s j)) (n + 1) p = (fun p => if ps.contains p = true then [] else match joinK K q p y with | none => [] | some j => dfs K y t f (ps ++ [p]) p (addJ K s j)) p ++ loopL (fun p => if ps.contains p = true then [] else match joinK K q p y with | none => [] | some j => dfs K y t f (ps ++ [p]) p (addJ K s j)) n (p + 1) from rfl, e, List.nil_append]
      exact ihn (p + 1) st τ (by omega) hG
    refine Wp.n (pc' := 41) 4 rfl ?_
    refine Wp.mialdN (j := 0) (len := 1) rfl rfl rfl (by omega) ?_
    refine Wp.top (r0_has hK.1 (by decide)) ?_
    refine Wp.nc3 (x := p) (y := kh K 0) (tgt := 108) (len := 3) rfl (by first | omega | (cases (bitsM ps).testBit p <;> decide)) (by first | omega | (cases (bitsM ps).testBit p <;> decide)) (fun h42 => ?_) (fun h42 => ?_)
    · omega
    · skip
      refine Wp.n (pc' := 51) 5 rfl ?_
      refine Wp.top (n_bitI (by omega) (by omega)) ?_
      refine Wp.n (pc' := 52) 1 rfl ?_
      refine Wp.nc0 (x := ((bitsM ps).testBit p).toNat) (y := 1) (tgt := 102) (len := 3) rfl (by first | omega | (cases (bitsM ps).testBit p <;> decide)) (by first | omega | (cases (bitsM ps).testBit p <;> decide)) (fun h52 => ?_) (fun h52 => ?_)
      · skip
        refine Wp.incN (x := p) (len := 3) rfl rfl ?_
        refine Wp.n (pc' := 34) 1 rfl ?_
        exact kf (if_pos (by rw [← ht2]; exact tb_t h52))
      · skip
        have hc : ps.contains p = false := by rw [← ht2]; exact tb_f h52
        refine Wp.n (pc' := 62) 5 rfl ?_
        refine Wp.isubN (x := ps.length) (y := 1) (len := 1) rfl (by omega) ?_
        refine Wp.mialdN (j := (ps.length) - 1) (len := 1) rfl rfl rfl (by omega) ?_
        refine Wp.top hr ?_
        refine Wp.n (pc' := 70) 3 rfl ?_
        refine Wp.top hG.2.1.2.1 ?_
        refine Wp.ecallV (len := 3) rfl rfl rfl (rfl) rfl (by decide) rfl (m_joined hK.1 hK.2.2.1 ok (by omega) (by omega) hy) ?_
        rcases hj : joinK K q p y with _ | j
        · skip
          refine Wp.n (pc' := 74) 1 rfl ?_
          refine Wp.ic1 (tgt := 80) (len := 3) rfl (fun h74 => ?_) (fun h74 => ?_)
          · exact absurd rfl h74
          · skip
            refine Wp.n (pc' := 102) 1 rfl ?_
            refine Wp.incN (x := p) (len := 3) rfl rfl ?_
            refine Wp.n (pc' := 34) 1 rfl ?_
            exact kf ((if_neg (by rw [hc]; decide)).trans (by rw [hj]))
        · have hjv := joinK_v ok hj
          have hjb : j < 29 := by
            rcases hjv with q | ⟨q1, q2⟩
            · omega
            · have := LV_8 ok q2; omega
          refine Wp.n (pc' := 74) 1 rfl ?_
          refine Wp.ic1 (tgt := 80) (len := 3) rfl (fun h74 => ?_) (fun h74 => ?_)
          · skip
            refine Wp.n (pc' := 87) 4 rfl ?_
            have hl3 : ps.length + 1 ≤ kh K 0 := by
              have q := PV_len ok (PV_s hP (by omega) hc hj)
              rw [List.length_append] at q
              exact q
            refine Wp.miastN (j := ps.length) (len := 1) rfl rfl rfl (by omega) ?_
            have hGp : GO σ (aset τ 14 (upd (τ.2.2.1 14) ps.length (nI p))) aim y load dn (ps ++ [p]) st := by
              refine ⟨hG.1.aset rfl, hG.2.1, fun i hi => ?_, hG.2.2.2.1, hG.2.2.2.2⟩
              have hi' : i < ps.length + 1 := by rw [List.length_append] at hi; exact hi
              show upd (τ.2.2.1 14) ps.length (nI p) i = _
              by_cases c : i = ps.length
              · rw [c, pk_us, getD_end]
              · rw [pk_un c, getD_app (by omega)]
                exact hG.2.2.1 i (by omega)
            refine Wp.n (pc' := 92) 4 rfl ?_
            refine Wp.iaddN (x := ps.length) (y := 1) (len := 1) rfl ?_
            refine Wp.n (pc' := 99) 5 rfl ?_
            refine Wp.top (by rw [n_sh1 _ (by omega), n_or]) ?_
            refine Wp.callV (len := 3) rfl rfl rfl (rfl) rfl (by decide) rfl (by
              have w := ih (ps ++ [p]) p (addJ K s j) st _ (e0 + 5) (by omega) (by rw [List.length_append]; show f + (ps.length + 1) = 8; omega) (PV_s hP (by omega) hc hj) (by rw [getD_app (by omega)]; exact ha) hGp
              rw [bitsM_app, List.length_append] at w
              exact w) ?_
            rintro _ _ ⟨rfl, τ2, rfl, hG2⟩
            refine Wp.incN (x := p) (len := 3) rfl rfl ?_
            refine Wp.n (pc' := 34) 1 rfl ?_
            have e : (fun p => if ps.contains p = true then [] else match joinK K q p y with | none => [] | some j => dfs K y t f (ps ++ [p]) p (addJ K s j)) p = dfs K y t f (ps ++ [p]) p (addJ K s j) := (if_neg (by rw [hc]; decide)).trans (by rw [hj])
            rw [show loopL (fun p => if ps.contains p = true then [] else match joinK K q p y with | none => [] | some j => dfs K y t f (ps ++ [p]) p (addJ K s j)) (n + 1) p = (fun p => if ps.contains p = true then [] else match joinK K q p y with | none => [] | some j => dfs K y t f (ps ++ [p]) p (addJ K s j)) p ++ loopL (fun p => if ps.contains p = true then [] else match joinK K q p y with | none => [] | some j => dfs K y t f (ps ++ [p]) p (addJ K s j)) n (p + 1) from rfl, e, List.foldl_append]
            exact ihn (p + 1) _ τ2 (by omega) ⟨hG2.1, hG2.2.1, fun i hi => by rw [hG2.2.2.1 i (by rw [List.length_append]; omega), getD_app hi], hG2.2.2.2⟩
          · exact absurd h74 (oI_ne (by omega))

theorem m_goesOn {aim a t y load dn : Nat} (haim : aim ≤ 4) (ht : t < kh K 0) (hy : y < 31) (hload : load ≤ 9) (hdn : dn < 2 ^ 31) (hM : MK σ K) : ∀ (f : Nat) (ps : List Nat) (q : Nat) (s : Nat × List Nat) (st : MT) (τ : MS) (e : Nat), f + 5 ≤ e → f + ps.length = 8 → PV K y ps q s → ps.getD 0 0 = a → GO σ τ aim y load dn ps st → Wp e md_228 0 [some (.ref 287), some (.int (nI t)), some (.int (nI (ps.length))), some (.int (nI (bitsM ps))), none] [] (mset M τ) (fun v M' => v = none ∧ ∃ τ', M' = mset M τ' ∧ GO σ τ' aim y load dn ps (List.foldl (meet K aim a t y load dn) st (dfs K y t f ps q s))) := by
  have ok := hM.2.1
  obtain ⟨b0, b1, b2, b3, b4, b5, b6, b7, b8, b9, b10, b11, b12⟩ := ok_h ok
  intro f
  induction f with
  | zero =>
    intro ps q s st τ e he hf hP ha hG
    have := PV_len ok hP
    omega
  | succ f ih =>
    intro ps q s st τ e he hf hP ha hG
    obtain ⟨e0, rfl⟩ : ∃ e0, e = e0 + 6 := ⟨e - 6, by omega⟩
    have hl := PV_len ok hP
    have h1 := hP.1
    have hq := PV_q hP
    have hK := MK_scr hM hG.1
    have hr : τ.2.2.1 14 (ps.length - 1) = nI q := by rw [hG.2.2.1 _ (by omega), hP.2.1]
    have hin : ∀ i, i < ps.length → ps.getD i 0 < kh K 0 := fun i hi => by
      rw [List.getD_eq_getElem?_getD, List.getElem?_eq_getElem hi]
      exact hP.2.2.2.1 _ (List.getElem_mem _)
    unfold dfs
    refine Wp.n (pc' := 6) 4 rfl ?_
    refine Wp.isubN (x := ps.length) (y := 1) (len := 1) rfl (by omega) ?_
    refine Wp.mialdN (j := (ps.length) - 1) (len := 1) rfl rfl rfl (by omega) ?_
    refine Wp.top hr ?_
    refine Wp.n (pc' := 9) 1 rfl ?_
    refine Wp.nc1 (x := q) (y := t) (tgt := 31) (len := 3) rfl (by omega) (by omega) (fun h9 => ?_) (fun h9 => ?_)
    · skip
      refine Wp.n (pc' := 34) 2 rfl ?_
      rw [if_neg h9]
      exact m_go_p haim ht hy hload hdn hM (by omega) ih (by omega) hP ha (kh K 0) 0 st τ (by omega) hG
    · skip
      rw [if_pos h9]
      refine Wp.n (pc' := 14) 2 rfl ?_
      refine Wp.mput (len := 3) rfl rfl ?_
      refine Wp.n (pc' := 22) 3 rfl ?_
      refine Wp.top hG.2.1.2.1 ?_
      refine Wp.callV (len := 3) rfl rfl rfl (rfl) rfl (by decide) rfl (m_looks (d := e0 + 2) (m := ps.length) (P := fun i => ps.getD i 0) (MK_scr hM (hG.1.fset rfl)) rfl h1 (by omega) hy (fun i hi => ⟨hG.2.2.1 i hi, by have := hin i hi; omega⟩)) ?_
      rintro _ _ ⟨τ2, rfl, rfl, hF2, hL2⟩
      rw [hP.2.2.2.2] at hL2
      have hS2 : Scr σ τ2 := Scr_t (hG.1.fset rfl) (Scr_L hF2)
      have hW2 : RW τ2 ps.length (fun i => ps.getD i 0) := ⟨hF2.1 27 rfl, fun i hi => by rw [hF2.2.1 14 rfl]; exact hG.2.2.1 i hi⟩
      refine Wp.n (pc' := 27) 2 rfl ?_
      refine Wp.callV (len := 3) rfl rfl rfl (rfl) rfl (by decide) rfl (m_meets (d := e0 + 1) (a := a) (b := t) (MK_scr hM hS2) (SK_fr (show SK (fset τ 27 (nI ps.length)) aim y load dn from hG.2.1) hF2 rfl rfl rfl rfl) haim hy hload hdn hW2 h1 (by omega) hin ha (by rw [hP.2.1]; exact h9) hL2 (PV_sb ok hP) (MR_fr (show MR (fset τ 27 (nI ps.length)) st from hG.2.2.2.1) hF2 rfl rfl rfl rfl rfl rfl rfl) hG.2.2.2.2) ?_
      rintro _ _ ⟨rfl, τ3, rfl, hF3, hR3⟩
      refine Wp.retV (len := 1) rfl rfl ?_
      refine ⟨rfl, τ3, rfl, Scr_t hS2 (Fr.mono hF3 rfl rfl), ?_, fun i hi => ?_, hR3, ?_⟩
      · exact SK_fr (SK_fr (show SK (fset τ 27 (nI ps.length)) aim y load dn from hG.2.1) hF2 rfl rfl rfl rfl) hF3 rfl rfl rfl rfl
      · rw [hF3.2.1 14 rfl]
        exact hW2.2 i hi
      · have hs := (PV_sb ok hP).1
        exact meet_b ok (by show s.1 ≤ 774; omega) (by rw [← ha]; exact hin 0 (by omega)) hload hG.2.2.2.2

def st0 : MT := (0, 100000000, 1000000, none, none)
/-- all ways from a to t on a day -/
def allW (K : KD) (y a t : Nat) : List (List Nat × Nat × List Nat) := dfs K y t 7 [a] a (0, [])
def fin (K : KD) (aim a t y load dn : Nat) : MT := List.foldl (meet K aim a t y load dn) st0 (allW K y a t)
theorem m_seeks {aim a t y load dn : Nat} (haim : aim ≤ 4) (ht : t < kh K 0) (hy : y < 31) (hload : load ≤ 9) (hdn : dn < 2 ^ 31) (ha : a < kh K 0) (hM : MK σ K) (h36 : 3 ≤ aim → σ.1 36 = nI dn) : Wp (d + 13) md_227 0 [some (.ref 287), some (.int (nI aim)), some (.int (nI a)), some (.int (nI t)), some (.int (nI y)), some (.int (nI load))] [] (mset M σ) (fun v M' => v = none ∧ ∃ τ, M' = mset M τ ∧ Scr σ τ ∧ MR τ (fin K aim a t y load dn)) := by
  have ok := hM.2.1
  obtain ⟨b0, b1, b2, b3, b4, b5, b6, b7, b8, b9, b10, b11, b12⟩ := ok_h ok
  refine Wp.n (pc' := 2) 2 rfl ?_
  refine Wp.mput (len := 3) rfl rfl ?_
  refine Wp.n (pc' := 8) 2 rfl ?_
  refine Wp.mput (len := 3) rfl rfl ?_
  refine Wp.n (pc' := 14) 2 rfl ?_
  refine Wp.mput (len := 3) rfl rfl ?_
  refine Wp.n (pc' := 19) 2 rfl ?_
  refine Wp.mput (len := 3) rfl rfl ?_
  refine Wp.n (pc' := 26) 2 rfl ?_
  refine Wp.mput (len := 3) rfl rfl ?_
  refine Wp.n (pc' := 32) 2 rfl ?_
  refine Wp.mput (len := 3) rfl rfl ?_
  refine Wp.n (pc' := 37) 2 rfl ?_
  refine Wp.mput (len := 3) rfl rfl ?_
  refine Wp.n (pc' := 46) 4 rfl ?_
  refine Wp.miastN (j := 0) (len := 1) rfl rfl rfl (by omega) ?_
  refine Wp.n (pc' := 53) 6 rfl ?_
  refine Wp.top (show _ = nI (bitsM [a]) from by rw [n_sh1 _ (by omega)]; rw [show bitsM [a] = 0 ||| 2 ^ a from rfl, Nat.zero_or]) ?_
  refine Wp.callV (len := 3) rfl rfl rfl (rfl) rfl (by decide) rfl (m_goesOn haim ht hy hload hdn hM 7 [a] a (0, []) st0 _ (d + 12) (by omega) rfl (PV_1 ha) rfl (by exact ⟨(((((((Scr_r.fset rfl).fset rfl).fset rfl).fset rfl).fset rfl).fset rfl).fset rfl).aset rfl, ⟨rfl, rfl, rfl, h36⟩, (fun i hi => by obtain rfl : i = 0 := Nat.lt_one_iff.mp hi; rfl), ⟨rfl, rfl, rfl, rfl, fun dq pq hq => by cases hq⟩, ⟨Nat.le_refl _, Nat.le_refl _⟩⟩)) ?_
  rintro _ _ ⟨rfl, τ, rfl, hG⟩
  refine Wp.retV (len := 1) rfl rfl ?_
  exact ⟨rfl, τ, rfl, hG.1, hG.2.2.2.1⟩

end GOES
