/-! meets, goesOn, seeks: the reference goes all ways. -/
abbrev MF : List Nat := [37, 38, 39, 40, 41, 42]
abbrev MA : List Nat := [13, 16]
def BR (τ : MS) (dq : Nat) (pq : List Nat) : Prop := τ.1 40 = nI dq ∧ τ.1 41 = nI pq.length ∧ ∀ i, i < pq.length → τ.2.2.1 16 i = nI (pq.getD i 0)
def MR (τ : MS) (st : MT) : Prop := τ.1 37 = nI st.1 ∧ τ.1 38 = nI st.2.1 ∧ τ.1 39 = nI st.2.2.1 ∧ τ.1 42 = oI st.2.2.2.1 ∧ (∀ dq pq, st.2.2.2.2 = some (dq, pq) → BR τ dq pq)
def MB (st : MT) : Prop := st.2.1 ≤ 100000000 ∧ st.2.2.1 ≤ 1000000
/-- what is sought -/
def SK (τ : MS) (aim y load dn : Nat) : Prop := τ.1 33 = nI aim ∧ τ.1 34 = nI y ∧ τ.1 35 = nI load ∧ (3 ≤ aim → τ.1 36 = nI dn)
theorem all_and {c : Option Nat} {b : Nat} : oI c &&& nI b = oI (some (match c with | none => b | some c => c &&& b)) := by
  cases c with
  | none =>
    show (-1 : Int32) &&& nI b = nI b
    apply Int32.toBitVec_inj.1
    show BitVec.allOnes 32 &&& _ = _
    exact BitVec.allOnes_and
  | some c => exact n_and c b
theorem cW_b {K : KD} (ok : KOK K) {aim dd : Nat} {s : Nat × List Nat} (hs : s.1 ≤ 774) (hd : dd ≤ 689634) : cW K aim dd s ≤ 100000000 := by
  have b8 := (ok_h ok).2.2.2.2.2.2.2.2.1
  unfold cW
  by_cases c : aim = 2
  · rw [if_pos c]
    have : kh K 8 * s.1 ≤ 99 * 774 := Nat.mul_le_mul b8 hs
    omega
  · rw [if_neg c]; omega
theorem meet_b {K : KD} (ok : KOK K) {aim a b y load dn : Nat} {st : MT} {w : List Nat × Nat × List Nat} (hs : w.2.1 ≤ 774) (ha : a < kh K 0) (hl : load ≤ 9) (h : MB st) : MB (meet K aim a b y load dn st w) := by
  have hd : dW K a b y load w.2 ≤ 689634 := dutyS_b ok (savK_b ok ha) hl
  have hc := cW_b (aim := aim) ok hs hd
  unfold meet
  split
  · exact h
  · split
    · split
      · exact h
      · exact h
    · split
      · exact h
      · exact ⟨hc, by show w.2.1 ≤ _; omega⟩
section MEETS
variable {d : Nat} {M : AM} {σ τ : MS} {K : KD} {Q : Option Value → AM → Prop}
theorem m_best_l {ps : List Nat} (h7 : ps.length ≤ 7) : ∀ (n i : Nat) (υ : MS) (z1 z2 : Option Value), i + n = ps.length → RW υ ps.length (fun i => ps.getD i 0) → (∀ j, j < i → υ.2.2.1 16 j = nI (ps.getD j 0)) → (∀ g, (∀ j, j < ps.length → g j = nI (ps.getD j 0)) → Q none (mset M (aset υ 16 g))) → Wp d md_229 213 [some (.ref 287), z1, z2, some (.int (nI i))] [] (mset M υ) Q := by
  intro n
  induction n with
  | zero =>
    intro i υ z1 z2 hi hW hb k
    refine Wp.n (pc' := 218) 3 rfl ?_
    refine Wp.top hW.1 ?_
    refine Wp.nc3 (x := i) (y := ps.length) (tgt := 239) (len := 3) rfl (by omega) (by omega) (fun h218 => ?_) (fun h218 => ?_)
    · skip
      refine Wp.retV (len := 1) rfl rfl ?_
      have q := k (υ.2.2.1 16) (fun j hj => hb j (by omega))
      rw [aset_same] at q
      exact q
    · omega
  | succ n ih =>
    intro i υ z1 z2 hi hW hb k
    refine Wp.n (pc' := 218) 3 rfl ?_
    refine Wp.top hW.1 ?_
    refine Wp.nc3 (x := i) (y := ps.length) (tgt := 239) (len := 3) rfl (by omega) (by omega) (fun h218 => ?_) (fun h218 => ?_)
    · omega
    · skip
      refine Wp.n (pc' := 231) 6 rfl ?_
      refine Wp.mialdN (j := i) (len := 1) rfl rfl rfl (by omega) ?_
      refine Wp.top (hW.2 i (by omega)) ?_
      refine Wp.miastN (j := i) (len := 1) rfl rfl rfl (by omega) ?_
      refine Wp.incN (x := i) (len := 3) rfl rfl ?_
      refine Wp.n (pc' := 213) 1 rfl ?_
      refine ih (i + 1) (aset υ 16 (upd (υ.2.2.1 16) i (nI (ps.getD i 0)))) _ _ (by omega) hW (fun j hj => ?_) (fun g hg => ?_)
      · show upd (υ.2.2.1 16) i _ j = _
        by_cases c : j = i
        · rw [c, pk_us]
        · rw [pk_un c]
          exact hb j (by omega)
      · rw [aset_aset]
        exact k g hg

theorem m_meets (hK : MK τ K) {aim a b y load dn : Nat} {ps : List Nat} {s : Nat × List Nat} {st : MT} (hA : SK τ aim y load dn) (haim : aim ≤ 4) (hy : y < 31) (hload : load ≤ 9) (hdn : dn < 2 ^ 31) (hW : RW τ ps.length (fun i => ps.getD i 0)) (h1 : 1 ≤ ps.length) (h7 : ps.length ≤ 7) (hP : ∀ i, i < ps.length → ps.getD i 0 < kh K 0) (ha : ps.getD 0 0 = a) (hb : ps.getD (ps.length - 1) 0 = b) (hL : LKs τ K s) (hS : SB K 6 s) (hR : MR τ st) (hB : MB st) : Wp (d + 4) md_229 0 [some (.ref 287), none, none, none] [] (mset M τ) (fun v M' => v = none ∧ ∃ τ', M' = mset M τ' ∧ Fr MF MA τ τ' ∧ MR τ' (meet K aim a b y load dn st (ps, s))) := by
  have ok := hK.2.1
  obtain ⟨b0, b1, b2, b3, b4, b5, b6, b7, b8, b9, b10, b11, b12⟩ := ok_h ok
  have ha0 : a < kh K 0 := by rw [← ha]; exact hP 0 (by omega)
  have hs1 : s.1 ≤ 774 := hS.1
  have hs2 : (wat K s.2).length ≤ 6 := Nat.le_trans (wat_len s.2) hS.2.1
  have hbt := SB_bits ok hS
  have hd : dW K a b y load s ≤ 689634 := dutyS_b ok (savK_b ok ha0) hload
  have hcw := cW_b (aim := aim) ok hs1 hd
  have hl2 : τ.2.2.1 7 2 = nI (kh K 8) := r0_law hK.1 (by omega) (j := 2) (by decide)
  have hlm : kh K 8 * s.1 ≤ 99 * 774 := Nat.mul_le_mul b8 hs1
  obtain ⟨hB1, hB2⟩ := hB
  obtain ⟨hR1, hR2, hR3, hR4, hR5⟩ := hR
  obtain ⟨hL1, hL2, hL3, hL4⟩ := hL
  have hdut : Wp (d + 3) md_215 0 [some (.ref 287), some (.int (nI y)), some (.int (nI load)), none] [] (mset M τ) (fun v M' => v = some (.int (nI (dW K a b y load s))) ∧ ∃ h, M' = mset M (aset τ 13 h)) := by
    have w := m_dutyOf (d := d) (M := M) (load := load) hK hW h1 h7 hP (by omega) hL1 hL2 hS.2.2 hy hload
    rw [ha, hb] at w
    exact w
  obtain ⟨g, hg⟩ : ∃ g, dW K a b y load s = g := ⟨_, rfl⟩
  rw [hg] at hdut hd
  unfold meet
  rw [show dW K a b y load (ps, s).2 = g from hg]
  obtain hk | hk | hk | hk | hk : aim = 0 ∨ aim = 1 ∨ aim = 2 ∨ aim = 3 ∨ aim = 4 := by omega
  · subst hk
    have ec : cW K 0 g s = 0 := rfl
    rw [if_neg (by omega), if_neg (by omega)]
    refine Wp.n (pc' := 4) 2 rfl ?_
    refine Wp.top hA.1 ?_
    refine Wp.n (pc' := 5) 1 rfl ?_
    refine Wp.nc1 (x := 0) (y := 1) (tgt := 16) (len := 3) rfl (by first | omega | (cases (bitsM s.2).testBit 8 <;> decide)) (by first | omega | (cases (bitsM s.2).testBit 8 <;> decide)) (fun h5 => ?_) (fun h5 => ?_)
    · skip
      refine Wp.n (pc' := 20) 2 rfl ?_
      refine Wp.top hA.1 ?_
      refine Wp.n (pc' := 21) 1 rfl ?_
      refine Wp.nc0 (x := 0) (y := 3) (tgt := 32) (len := 3) rfl (by first | omega | (cases (bitsM s.2).testBit 8 <;> decide)) (by first | omega | (cases (bitsM s.2).testBit 8 <;> decide)) (fun h21 => ?_) (fun h21 => ?_)
      · omega
      · skip
        refine Wp.n (pc' := 28) 2 rfl ?_
        refine Wp.top hA.1 ?_
        refine Wp.n (pc' := 29) 1 rfl ?_
        refine Wp.nc1 (x := 0) (y := 4) (tgt := 96) (len := 3) rfl (by first | omega | (cases (bitsM s.2).testBit 8 <;> decide)) (by first | omega | (cases (bitsM s.2).testBit 8 <;> decide)) (fun h29 => ?_) (fun h29 => ?_)
        · skip
          refine Wp.n (pc' := 101) 3 rfl ?_
          refine Wp.top hR1 ?_
          refine Wp.n (pc' := 102) 1 rfl ?_
          refine Wp.iaddN (x := st.1) (y := 1) (len := 1) rfl ?_
          refine Wp.mput (len := 3) rfl rfl ?_
          refine Wp.n (pc' := 110) 2 rfl ?_
          refine Wp.top hA.1 ?_
          refine Wp.n (pc' := 111) 1 rfl ?_
          refine Wp.nc1 (x := 0) (y := 2) (tgt := 129) (len := 3) rfl (by first | omega | (cases (bitsM s.2).testBit 8 <;> decide)) (by first | omega | (cases (bitsM s.2).testBit 8 <;> decide)) (fun h111 => ?_) (fun h111 => ?_)
          · skip
            refine Wp.n (pc' := 135) 4 rfl ?_
            refine Wp.top hA.1 ?_
            refine Wp.n (pc' := 136) 1 rfl ?_
            refine Wp.nc1 (x := 0) (y := 2) (tgt := 155) (len := 3) rfl (by first | omega | (cases (bitsM s.2).testBit 8 <;> decide)) (by first | omega | (cases (bitsM s.2).testBit 8 <;> decide)) (fun h136 => ?_) (fun h136 => ?_)
            · skip
              refine Wp.n (pc' := 162) 5 rfl ?_
              refine Wp.top hR2 ?_
              refine Wp.nc4 (x := 0) (y := st.2.1) (tgt := 184) (len := 3) rfl (by first | omega | (cases (bitsM s.2).testBit 8 <;> decide)) (by first | omega | (cases (bitsM s.2).testBit 8 <;> decide)) (fun h162 => ?_) (fun h162 => ?_)
              · skip
                refine Wp.retV (len := 1) rfl rfl ?_
                rw [if_pos (by show st.2.1 < cW K 0 g s ∨ (cW K 0 g s = st.2.1 ∧ st.2.2.1 ≤ s.1); omega)]
                exact ⟨rfl, _, rfl, (Fr.rfl'.fset rfl), rfl, hR2, hR3, hR4, hR5⟩
              · skip
                refine Wp.n (pc' := 170) 3 rfl ?_
                refine Wp.top hR2 ?_
                refine Wp.nc1 (x := 0) (y := st.2.1) (tgt := 185) (len := 3) rfl (by first | omega | (cases (bitsM s.2).testBit 8 <;> decide)) (by first | omega | (cases (bitsM s.2).testBit 8 <;> decide)) (fun h170 => ?_) (fun h170 => ?_)
                · skip
                  refine Wp.n (pc' := 187) 2 rfl ?_
                  refine Wp.mput (len := 3) rfl rfl ?_
                  refine Wp.n (pc' := 195) 3 rfl ?_
                  refine Wp.top hL1 ?_
                  refine Wp.mput (len := 3) rfl rfl ?_
                  refine Wp.n (pc' := 200) 2 rfl ?_
                  refine Wp.mput (len := 3) rfl rfl ?_
                  refine Wp.n (pc' := 208) 3 rfl ?_
                  refine Wp.top hW.1 ?_
                  refine Wp.mput (len := 3) rfl rfl ?_
                  refine Wp.n (pc' := 213) 2 rfl ?_
                  rw [if_neg (by show ¬ (st.2.1 < cW K 0 g s ∨ (cW K 0 g s = st.2.1 ∧ st.2.2.1 ≤ s.1)); omega)]
                  refine m_best_l h7 ps.length 0 _ _ _ (by omega) hW (fun j hj => absurd hj (Nat.not_lt_zero j)) (fun f hf => ?_)
                  refine ⟨rfl, _, rfl, (((((Fr.rfl'.fset rfl).fset rfl).fset rfl).fset rfl).fset rfl).aset rfl, rfl, rfl, rfl, hR4, fun dq pq hq => ?_⟩
                  cases hq
                  exact ⟨rfl, rfl, hf⟩
                · skip
                  refine Wp.n (pc' := 177) 2 rfl ?_
                  refine Wp.top hL1 ?_
                  refine Wp.n (pc' := 181) 2 rfl ?_
                  refine Wp.top hR3 ?_
                  refine Wp.nc2 (x := s.1) (y := st.2.2.1) (tgt := 185) (len := 3) rfl (by first | omega | (cases (bitsM s.2).testBit 8 <;> decide)) (by first | omega | (cases (bitsM s.2).testBit 8 <;> decide)) (fun h181 => ?_) (fun h181 => ?_)
                  · skip
                    refine Wp.n (pc' := 187) 2 rfl ?_
                    refine Wp.mput (len := 3) rfl rfl ?_
                    refine Wp.n (pc' := 195) 3 rfl ?_
                    refine Wp.top hL1 ?_
                    refine Wp.mput (len := 3) rfl rfl ?_
                    refine Wp.n (pc' := 200) 2 rfl ?_
                    refine Wp.mput (len := 3) rfl rfl ?_
                    refine Wp.n (pc' := 208) 3 rfl ?_
                    refine Wp.top hW.1 ?_
                    refine Wp.mput (len := 3) rfl rfl ?_
                    refine Wp.n (pc' := 213) 2 rfl ?_
                    rw [if_neg (by show ¬ (st.2.1 < cW K 0 g s ∨ (cW K 0 g s = st.2.1 ∧ st.2.2.1 ≤ s.1)); omega)]
                    refine m_best_l h7 ps.length 0 _ _ _ (by omega) hW (fun j hj => absurd hj (Nat.not_lt_zero j)) (fun f hf => ?_)
                    refine ⟨rfl, _, rfl, (((((Fr.rfl'.fset rfl).fset rfl).fset rfl).fset rfl).fset rfl).aset rfl, rfl, rfl, rfl, hR4, fun dq pq hq => ?_⟩
                    cases hq
                    exact ⟨rfl, rfl, hf⟩
                  · skip
                    refine Wp.retV (len := 1) rfl rfl ?_
                    rw [if_pos (by show st.2.1 < cW K 0 g s ∨ (cW K 0 g s = st.2.1 ∧ st.2.2.1 ≤ s.1); omega)]
                    exact ⟨rfl, _, rfl, (Fr.rfl'.fset rfl), rfl, hR2, hR3, hR4, hR5⟩
            · omega
          · omega
        · omega
    · omega
  · subst hk
    have ec : cW K 1 g s = 0 := rfl
    refine Wp.n (pc' := 4) 2 rfl ?_
    refine Wp.top hA.1 ?_
    refine Wp.n (pc' := 5) 1 rfl ?_
    refine Wp.nc1 (x := 1) (y := 1) (tgt := 16) (len := 3) rfl (by first | omega | (cases (bitsM s.2).testBit 8 <;> decide)) (by first | omega | (cases (bitsM s.2).testBit 8 <;> decide)) (fun h5 => ?_) (fun h5 => ?_)
    · omega
    · skip
      refine Wp.n (pc' := 12) 2 rfl ?_
      refine Wp.top hL3 ?_
      refine Wp.nz5 (x := (wat K s.2).length) (tgt := 16) (len := 3) rfl (by first | omega | (cases (bitsM s.2).testBit 8 <;> decide)) (fun h12 => ?_) (fun h12 => ?_)
      · skip
        refine Wp.n (pc' := 20) 2 rfl ?_
        refine Wp.top hA.1 ?_
        refine Wp.n (pc' := 21) 1 rfl ?_
        refine Wp.nc0 (x := 1) (y := 3) (tgt := 32) (len := 3) rfl (by first | omega | (cases (bitsM s.2).testBit 8 <;> decide)) (by first | omega | (cases (bitsM s.2).testBit 8 <;> decide)) (fun h21 => ?_) (fun h21 => ?_)
        · omega
        · skip
          refine Wp.n (pc' := 28) 2 rfl ?_
          refine Wp.top hA.1 ?_
          refine Wp.n (pc' := 29) 1 rfl ?_
          refine Wp.nc1 (x := 1) (y := 4) (tgt := 96) (len := 3) rfl (by first | omega | (cases (bitsM s.2).testBit 8 <;> decide)) (by first | omega | (cases (bitsM s.2).testBit 8 <;> decide)) (fun h29 => ?_) (fun h29 => ?_)
          · skip
            refine Wp.n (pc' := 101) 3 rfl ?_
            refine Wp.top hR1 ?_
            refine Wp.n (pc' := 102) 1 rfl ?_
            refine Wp.iaddN (x := st.1) (y := 1) (len := 1) rfl ?_
            refine Wp.mput (len := 3) rfl rfl ?_
            refine Wp.n (pc' := 110) 2 rfl ?_
            refine Wp.top hA.1 ?_
            refine Wp.n (pc' := 111) 1 rfl ?_
            refine Wp.nc1 (x := 1) (y := 2) (tgt := 129) (len := 3) rfl (by first | omega | (cases (bitsM s.2).testBit 8 <;> decide)) (by first | omega | (cases (bitsM s.2).testBit 8 <;> decide)) (fun h111 => ?_) (fun h111 => ?_)
            · skip
              refine Wp.n (pc' := 135) 4 rfl ?_
              refine Wp.top hA.1 ?_
              refine Wp.n (pc' := 136) 1 rfl ?_
              refine Wp.nc1 (x := 1) (y := 2) (tgt := 155) (len := 3) rfl (by first | omega | (cases (bitsM s.2).testBit 8 <;> decide)) (by first | omega | (cases (bitsM s.2).testBit 8 <;> decide)) (fun h136 => ?_) (fun h136 => ?_)
              · skip
                refine Wp.n (pc' := 162) 5 rfl ?_
                refine Wp.top hR2 ?_
                refine Wp.nc4 (x := 0) (y := st.2.1) (tgt := 184) (len := 3) rfl (by first | omega | (cases (bitsM s.2).testBit 8 <;> decide)) (by first | omega | (cases (bitsM s.2).testBit 8 <;> decide)) (fun h162 => ?_) (fun h162 => ?_)
                · skip
                  refine Wp.retV (len := 1) rfl rfl ?_
                  rw [if_neg (by rintro ⟨_, q⟩; have q2 : 0 < (wat K s.2).length := q; omega), if_neg (by omega)]
                  rw [if_pos (by show st.2.1 < cW K 1 g s ∨ (cW K 1 g s = st.2.1 ∧ st.2.2.1 ≤ s.1); omega)]
                  exact ⟨rfl, _, rfl, (Fr.rfl'.fset rfl), rfl, hR2, hR3, hR4, hR5⟩
                · skip
                  refine Wp.n (pc' := 170) 3 rfl ?_
                  refine Wp.top hR2 ?_
                  refine Wp.nc1 (x := 0) (y := st.2.1) (tgt := 185) (len := 3) rfl (by first | omega | (cases (bitsM s.2).testBit 8 <;> decide)) (by first | omega | (cases (bitsM s.2).testBit 8 <;> decide)) (fun h170 => ?_) (fun h170 => ?_)
                  · skip
                    refine Wp.n (pc' := 187) 2 rfl ?_
                    refine Wp.mput (len := 3) rfl rfl ?_
                    refine Wp.n (pc' := 195) 3 rfl ?_
                    refine Wp.top hL1 ?_
                    refine Wp.mput (len := 3) rfl rfl ?_
                    refine Wp.n (pc' := 200) 2 rfl ?_
                    refine Wp.mput (len := 3) rfl rfl ?_
                    refine Wp.n (pc' := 208) 3 rfl ?_
                    refine Wp.top hW.1 ?_
                    refine Wp.mput (len := 3) rfl rfl ?_
                    refine Wp.n (pc' := 213) 2 rfl ?_
                    rw [if_neg (by rintro ⟨_, q⟩; have q2 : 0 < (wat K s.2).length := q; omega), if_neg (by omega)]
                    rw [if_neg (by show ¬ (st.2.1 < cW K 1 g s ∨ (cW K 1 g s = st.2.1 ∧ st.2.2.1 ≤ s.1)); omega)]
                    refine m_best_l h7 ps.length 0 _ _ _ (by omega) hW (fun j hj => absurd hj (Nat.not_lt_zero j)) (fun f hf => ?_)
                    refine ⟨rfl, _, rfl, (((((Fr.rfl'.fset rfl).fset rfl).fset rfl).fset rfl).fset rfl).aset rfl, rfl, rfl, rfl, hR4, fun dq pq hq => ?_⟩
                    cases hq
                    exact ⟨rfl, rfl, hf⟩
                  · skip
                    refine Wp.n (pc' := 177) 2 rfl ?_
                    refine Wp.top hL1 ?_
                    refine Wp.n (pc' := 181) 2 rfl ?_
                    refine Wp.top hR3 ?_
                    refine Wp.nc2 (x := s.1) (y := st.2.2.1) (tgt := 185) (len := 3) rfl (by first | omega | (cases (bitsM s.2).testBit 8 <;> decide)) (by first | omega | (cases (bitsM s.2).testBit 8 <;> decide)) (fun h181 => ?_) (fun h181 => ?_)
                    · skip
                      refine Wp.n (pc' := 187) 2 rfl ?_
                      refine Wp.mput (len := 3) rfl rfl ?_
                      refine Wp.n (pc' := 195) 3 rfl ?_
                      refine Wp.top hL1 ?_
                      refine Wp.mput (len := 3) rfl rfl ?_
                      refine Wp.n (pc' := 200) 2 rfl ?_
                      refine Wp.mput (len := 3) rfl rfl ?_
                      refine Wp.n (pc' := 208) 3 rfl ?_
                      refine Wp.top hW.1 ?_
                      refine Wp.mput (len := 3) rfl rfl ?_
                      refine Wp.n (pc' := 213) 2 rfl ?_
                      rw [if_neg (by rintro ⟨_, q⟩; have q2 : 0 < (wat K s.2).length := q; omega), if_neg (by omega)]
                      rw [if_neg (by show ¬ (st.2.1 < cW K 1 g s ∨ (cW K 1 g s = st.2.1 ∧ st.2.2.1 ≤ s.1)); omega)]
                      refine m_best_l h7 ps.length 0 _ _ _ (by omega) hW (fun j hj => absurd hj (Nat.not_lt_zero j)) (fun f hf => ?_)
                      refine ⟨rfl, _, rfl, (((((Fr.rfl'.fset rfl).fset rfl).fset rfl).fset rfl).fset rfl).aset rfl, rfl, rfl, rfl, hR4, fun dq pq hq => ?_⟩
                      cases hq
                      exact ⟨rfl, rfl, hf⟩
                    · skip
                      refine Wp.retV (len := 1) rfl rfl ?_
                      rw [if_neg (by rintro ⟨_, q⟩; have q2 : 0 < (wat K s.2).length := q; omega), if_neg (by omega)]
                      rw [if_pos (by show st.2.1 < cW K 1 g s ∨ (cW K 1 g s = st.2.1 ∧ st.2.2.1 ≤ s.1); omega)]
                      exact ⟨rfl, _, rfl, (Fr.rfl'.fset rfl), rfl, hR2, hR3, hR4, hR5⟩
              · omega
            · omega
          · omega
      · skip
        refine Wp.retV (len := 1) rfl rfl ?_
        rw [if_pos ⟨rfl, by omega⟩]
        exact ⟨rfl, τ, rfl, Fr.rfl', hR1, hR2, hR3, hR4, hR5⟩
  · subst hk
    have hdut' : Wp (d + 3) md_215 0 [some (.ref 287), some (.int (nI y)), some (.int (nI load)), none] [] (mset M (fset τ 37 (nI (st.1 + 1)))) (fun v M' => v = some (.int (nI g)) ∧ ∃ h, M' = mset M (aset (fset τ 37 (nI (st.1 + 1))) 13 h)) := by
      have w := m_dutyOf (d := d) (M := M) (σ := fset τ 37 (nI (st.1 + 1))) (load := load) ⟨hK.1, hK.2.1, hK.2.2.1, hK.2.2.2⟩ hW h1 h7 hP (by omega) hL1 hL2 hS.2.2 hy hload
      rw [ha, hb] at w
      rw [show dutyS K (boatK K s.2) (savK K a b s.1) y load = g from hg] at w
      exact w
    have ec : cW K 2 g s = kh K 8 * s.1 + g := rfl
    rw [if_neg (by omega), if_neg (by omega)]
    refine Wp.n (pc' := 4) 2 rfl ?_
    refine Wp.top hA.1 ?_
    refine Wp.n (pc' := 5) 1 rfl ?_
    refine Wp.nc1 (x := 2) (y := 1) (tgt := 16) (len := 3) rfl (by first | omega | (cases (bitsM s.2).testBit 8 <;> decide)) (by first | omega | (cases (bitsM s.2).testBit 8 <;> decide)) (fun h5 => ?_) (fun h5 => ?_)
    · skip
      refine Wp.n (pc' := 20) 2 rfl ?_
      refine Wp.top hA.1 ?_
      refine Wp.n (pc' := 21) 1 rfl ?_
      refine Wp.nc0 (x := 2) (y := 3) (tgt := 32) (len := 3) rfl (by first | omega | (cases (bitsM s.2).testBit 8 <;> decide)) (by first | omega | (cases (bitsM s.2).testBit 8 <;> decide)) (fun h21 => ?_) (fun h21 => ?_)
      · omega
      · skip
        refine Wp.n (pc' := 28) 2 rfl ?_
        refine Wp.top hA.1 ?_
        refine Wp.n (pc' := 29) 1 rfl ?_
        refine Wp.nc1 (x := 2) (y := 4) (tgt := 96) (len := 3) rfl (by first | omega | (cases (bitsM s.2).testBit 8 <;> decide)) (by first | omega | (cases (bitsM s.2).testBit 8 <;> decide)) (fun h29 => ?_) (fun h29 => ?_)
        · skip
          refine Wp.n (pc' := 101) 3 rfl ?_
          refine Wp.top hR1 ?_
          refine Wp.n (pc' := 102) 1 rfl ?_
          refine Wp.iaddN (x := st.1) (y := 1) (len := 1) rfl ?_
          refine Wp.mput (len := 3) rfl rfl ?_
          refine Wp.n (pc' := 110) 2 rfl ?_
          refine Wp.top hA.1 ?_
          refine Wp.n (pc' := 111) 1 rfl ?_
          refine Wp.nc1 (x := 2) (y := 2) (tgt := 129) (len := 3) rfl (by first | omega | (cases (bitsM s.2).testBit 8 <;> decide)) (by first | omega | (cases (bitsM s.2).testBit 8 <;> decide)) (fun h111 => ?_) (fun h111 => ?_)
          · omega
          · skip
            refine Wp.n (pc' := 119) 3 rfl ?_
            refine Wp.top hA.2.1 ?_
            refine Wp.n (pc' := 123) 2 rfl ?_
            refine Wp.top hA.2.2.1 ?_
            refine Wp.callV (len := 3) rfl rfl rfl (rfl) rfl (by decide) rfl (hdut') ?_
            rintro _ _ ⟨rfl, h, rfl⟩
            refine Wp.n (pc' := 135) 4 rfl ?_
            refine Wp.top hA.1 ?_
            refine Wp.n (pc' := 136) 1 rfl ?_
            refine Wp.nc1 (x := 2) (y := 2) (tgt := 155) (len := 3) rfl (by first | omega | (cases (bitsM s.2).testBit 8 <;> decide)) (by first | omega | (cases (bitsM s.2).testBit 8 <;> decide)) (fun h136 => ?_) (fun h136 => ?_)
            · omega
            · skip
              refine Wp.n (pc' := 144) 3 rfl ?_
              refine Wp.mialdN (j := 2) (len := 1) rfl rfl rfl (by omega) ?_
              refine Wp.top hl2 ?_
              refine Wp.n (pc' := 149) 2 rfl ?_
              refine Wp.top hL1 ?_
              refine Wp.imulN (x := kh K 8) (y := s.1) (len := 1) rfl ?_
              refine Wp.n (pc' := 151) 1 rfl ?_
              refine Wp.iaddN (x := (kh K 8) * (s.1)) (y := g) (len := 1) rfl ?_
              refine Wp.n (pc' := 162) 5 rfl ?_
              refine Wp.top hR2 ?_
              refine Wp.nc4 (x := ((kh K 8) * (s.1)) + g) (y := st.2.1) (tgt := 184) (len := 3) rfl (by first | omega | (cases (bitsM s.2).testBit 8 <;> decide)) (by first | omega | (cases (bitsM s.2).testBit 8 <;> decide)) (fun h162 => ?_) (fun h162 => ?_)
              · skip
                refine Wp.retV (len := 1) rfl rfl ?_
                rw [if_pos (by show st.2.1 < cW K 2 g s ∨ (cW K 2 g s = st.2.1 ∧ st.2.2.1 ≤ s.1); omega)]
                exact ⟨rfl, _, rfl, ((Fr.rfl'.fset rfl).aset rfl), rfl, hR2, hR3, hR4, hR5⟩
              · skip
                refine Wp.n (pc' := 170) 3 rfl ?_
                refine Wp.top hR2 ?_
                refine Wp.nc1 (x := ((kh K 8) * (s.1)) + g) (y := st.2.1) (tgt := 185) (len := 3) rfl (by first | omega | (cases (bitsM s.2).testBit 8 <;> decide)) (by first | omega | (cases (bitsM s.2).testBit 8 <;> decide)) (fun h170 => ?_) (fun h170 => ?_)
                · skip
                  refine Wp.n (pc' := 187) 2 rfl ?_
                  refine Wp.mput (len := 3) rfl rfl ?_
                  refine Wp.n (pc' := 195) 3 rfl ?_
                  refine Wp.top hL1 ?_
                  refine Wp.mput (len := 3) rfl rfl ?_
                  refine Wp.n (pc' := 200) 2 rfl ?_
                  refine Wp.mput (len := 3) rfl rfl ?_
                  refine Wp.n (pc' := 208) 3 rfl ?_
                  refine Wp.top hW.1 ?_
                  refine Wp.mput (len := 3) rfl rfl ?_
                  refine Wp.n (pc' := 213) 2 rfl ?_
                  rw [if_neg (by show ¬ (st.2.1 < cW K 2 g s ∨ (cW K 2 g s = st.2.1 ∧ st.2.2.1 ≤ s.1)); omega)]
                  refine m_best_l h7 ps.length 0 _ _ _ (by omega) hW (fun j hj => absurd hj (Nat.not_lt_zero j)) (fun f hf => ?_)
                  refine ⟨rfl, _, rfl, ((((((Fr.rfl'.fset rfl).aset rfl).fset rfl).fset rfl).fset rfl).fset rfl).aset rfl, rfl, rfl, rfl, hR4, fun dq pq hq => ?_⟩
                  cases hq
                  exact ⟨rfl, rfl, hf⟩
                · skip
                  refine Wp.n (pc' := 177) 2 rfl ?_
                  refine Wp.top hL1 ?_
                  refine Wp.n (pc' := 181) 2 rfl ?_
                  refine Wp.top hR3 ?_
                  refine Wp.nc2 (x := s.1) (y := st.2.2.1) (tgt := 185) (len := 3) rfl (by first | omega | (cases (bitsM s.2).testBit 8 <;> decide)) (by first | omega | (cases (bitsM s.2).testBit 8 <;> decide)) (fun h181 => ?_) (fun h181 => ?_)
                  · skip
                    refine Wp.n (pc' := 187) 2 rfl ?_
                    refine Wp.mput (len := 3) rfl rfl ?_
                    refine Wp.n (pc' := 195) 3 rfl ?_
                    refine Wp.top hL1 ?_
                    refine Wp.mput (len := 3) rfl rfl ?_
                    refine Wp.n (pc' := 200) 2 rfl ?_
                    refine Wp.mput (len := 3) rfl rfl ?_
                    refine Wp.n (pc' := 208) 3 rfl ?_
                    refine Wp.top hW.1 ?_
                    refine Wp.mput (len := 3) rfl rfl ?_
                    refine Wp.n (pc' := 213) 2 rfl ?_
                    rw [if_neg (by show ¬ (st.2.1 < cW K 2 g s ∨ (cW K 2 g s = st.2.1 ∧ st.2.2.1 ≤ s.1)); omega)]
                    refine m_best_l h7 ps.length 0 _ _ _ (by omega) hW (fun j hj => absurd hj (Nat.not_lt_zero j)) (fun f hf => ?_)
                    refine ⟨rfl, _, rfl, ((((((Fr.rfl'.fset rfl).aset rfl).fset rfl).fset rfl).fset rfl).fset rfl).aset rfl, rfl, rfl, rfl, hR4, fun dq pq hq => ?_⟩
                    cases hq
                    exact ⟨rfl, rfl, hf⟩
                  · skip
                    refine Wp.retV (len := 1) rfl rfl ?_
                    rw [if_pos (by show st.2.1 < cW K 2 g s ∨ (cW K 2 g s = st.2.1 ∧ st.2.2.1 ≤ s.1); omega)]
                    exact ⟨rfl, _, rfl, ((Fr.rfl'.fset rfl).aset rfl), rfl, hR2, hR3, hR4, hR5⟩
        · omega
    · omega
  · subst hk
    rw [if_neg (by omega), if_pos (by omega)]
    refine Wp.n (pc' := 4) 2 rfl ?_
    refine Wp.top hA.1 ?_
    refine Wp.n (pc' := 5) 1 rfl ?_
    refine Wp.nc1 (x := 3) (y := 1) (tgt := 16) (len := 3) rfl (by first | omega | (cases (bitsM s.2).testBit 8 <;> decide)) (by first | omega | (cases (bitsM s.2).testBit 8 <;> decide)) (fun h5 => ?_) (fun h5 => ?_)
    · skip
      refine Wp.n (pc' := 20) 2 rfl ?_
      refine Wp.top hA.1 ?_
      refine Wp.n (pc' := 21) 1 rfl ?_
      refine Wp.nc0 (x := 3) (y := 3) (tgt := 32) (len := 3) rfl (by first | omega | (cases (bitsM s.2).testBit 8 <;> decide)) (by first | omega | (cases (bitsM s.2).testBit 8 <;> decide)) (fun h21 => ?_) (fun h21 => ?_)
      · skip
        refine Wp.n (pc' := 37) 3 rfl ?_
        refine Wp.top hA.2.1 ?_
        refine Wp.n (pc' := 41) 2 rfl ?_
        refine Wp.top hA.2.2.1 ?_
        refine Wp.callV (len := 3) rfl rfl rfl (rfl) rfl (by decide) rfl (hdut) ?_
        rintro _ _ ⟨rfl, h, rfl⟩
        refine Wp.n (pc' := 48) 2 rfl ?_
        refine Wp.top (hA.2.2.2 (by omega)) ?_
        refine Wp.nc1 (x := g) (y := dn) (tgt := 71) (len := 3) rfl (by first | omega | (cases (bitsM s.2).testBit 8 <;> decide)) (by first | omega | (cases (bitsM s.2).testBit 8 <;> decide)) (fun h48 => ?_) (fun h48 => ?_)
        · skip
          refine Wp.retV (len := 1) rfl rfl ?_
          first
            | (rw [if_neg (fun q => h48 q.1)]; exact ⟨rfl, _, rfl, Fr.rfl'.aset rfl, hR1, hR2, hR3, hR4, hR5⟩)
            | (rw [if_neg (fun q => by have q2 := q.2 rfl; rw [show (ps, s).2.2 = s.2 from rfl, ← bits_tb] at q2; rw [q2] at h68; exact absurd h68 (by decide))]; exact ⟨rfl, _, rfl, Fr.rfl'.aset rfl, hR1, hR2, hR3, hR4, hR5⟩)
        · skip
          refine Wp.n (pc' := 55) 2 rfl ?_
          refine Wp.top hA.1 ?_
          refine Wp.n (pc' := 56) 1 rfl ?_
          refine Wp.nc1 (x := 3) (y := 4) (tgt := 72) (len := 3) rfl (by first | omega | (cases (bitsM s.2).testBit 8 <;> decide)) (by first | omega | (cases (bitsM s.2).testBit 8 <;> decide)) (fun h56 => ?_) (fun h56 => ?_)
          · skip
            refine Wp.n (pc' := 77) 3 rfl ?_
            refine Wp.top hR4 ?_
            refine Wp.n (pc' := 81) 2 rfl ?_
            refine Wp.top hL2 ?_
            refine Wp.n (pc' := 82) 1 rfl ?_
            refine Wp.top all_and ?_
            refine Wp.mput (len := 3) rfl rfl ?_
            refine Wp.n (pc' := 90) 3 rfl ?_
            refine Wp.top hR1 ?_
            refine Wp.n (pc' := 91) 1 rfl ?_
            refine Wp.iaddN (x := st.1) (y := 1) (len := 1) rfl ?_
            refine Wp.mput (len := 3) rfl rfl ?_
            refine Wp.retV (len := 1) rfl rfl ?_
            rw [if_pos ⟨h48, fun q => by omega⟩]
            exact ⟨rfl, _, rfl, ((Fr.rfl'.aset rfl).fset rfl).fset rfl, rfl, hR2, hR3, rfl, hR5⟩
          · omega
      · omega
    · omega
  · subst hk
    rw [if_neg (by omega), if_pos (by omega)]
    refine Wp.n (pc' := 4) 2 rfl ?_
    refine Wp.top hA.1 ?_
    refine Wp.n (pc' := 5) 1 rfl ?_
    refine Wp.nc1 (x := 4) (y := 1) (tgt := 16) (len := 3) rfl (by first | omega | (cases (bitsM s.2).testBit 8 <;> decide)) (by first | omega | (cases (bitsM s.2).testBit 8 <;> decide)) (fun h5 => ?_) (fun h5 => ?_)
    · skip
      refine Wp.n (pc' := 20) 2 rfl ?_
      refine Wp.top hA.1 ?_
      refine Wp.n (pc' := 21) 1 rfl ?_
      refine Wp.nc0 (x := 4) (y := 3) (tgt := 32) (len := 3) rfl (by first | omega | (cases (bitsM s.2).testBit 8 <;> decide)) (by first | omega | (cases (bitsM s.2).testBit 8 <;> decide)) (fun h21 => ?_) (fun h21 => ?_)
      · omega
      · skip
        refine Wp.n (pc' := 28) 2 rfl ?_
        refine Wp.top hA.1 ?_
        refine Wp.n (pc' := 29) 1 rfl ?_
        refine Wp.nc1 (x := 4) (y := 4) (tgt := 96) (len := 3) rfl (by first | omega | (cases (bitsM s.2).testBit 8 <;> decide)) (by first | omega | (cases (bitsM s.2).testBit 8 <;> decide)) (fun h29 => ?_) (fun h29 => ?_)
        · omega
        · skip
          refine Wp.n (pc' := 37) 3 rfl ?_
          refine Wp.top hA.2.1 ?_
          refine Wp.n (pc' := 41) 2 rfl ?_
          refine Wp.top hA.2.2.1 ?_
          refine Wp.callV (len := 3) rfl rfl rfl (rfl) rfl (by decide) rfl (hdut) ?_
          rintro _ _ ⟨rfl, h, rfl⟩
          refine Wp.n (pc' := 48) 2 rfl ?_
          refine Wp.top (hA.2.2.2 (by omega)) ?_
          refine Wp.nc1 (x := g) (y := dn) (tgt := 71) (len := 3) rfl (by first | omega | (cases (bitsM s.2).testBit 8 <;> decide)) (by first | omega | (cases (bitsM s.2).testBit 8 <;> decide)) (fun h48 => ?_) (fun h48 => ?_)
          · skip
            refine Wp.retV (len := 1) rfl rfl ?_
            first
              | (rw [if_neg (fun q => h48 q.1)]; exact ⟨rfl, _, rfl, Fr.rfl'.aset rfl, hR1, hR2, hR3, hR4, hR5⟩)
              | (rw [if_neg (fun q => by have q2 := q.2 rfl; rw [show (ps, s).2.2 = s.2 from rfl, ← bits_tb] at q2; rw [q2] at h68; exact absurd h68 (by decide))]; exact ⟨rfl, _, rfl, Fr.rfl'.aset rfl, hR1, hR2, hR3, hR4, hR5⟩)
          · skip
            refine Wp.n (pc' := 55) 2 rfl ?_
            refine Wp.top hA.1 ?_
            refine Wp.n (pc' := 56) 1 rfl ?_
            refine Wp.nc1 (x := 4) (y := 4) (tgt := 72) (len := 3) rfl (by first | omega | (cases (bitsM s.2).testBit 8 <;> decide)) (by first | omega | (cases (bitsM s.2).testBit 8 <;> decide)) (fun h56 => ?_) (fun h56 => ?_)
            · omega
            · skip
              refine Wp.n (pc' := 63) 2 rfl ?_
              refine Wp.top hL2 ?_
              refine Wp.n (pc' := 68) 4 rfl ?_
              refine Wp.top (n_bitI (y := 8) (by omega) (by decide)) ?_
              refine Wp.nz1 (x := ((bitsM s.2).testBit 8).toNat) (tgt := 72) (len := 3) rfl (by first | omega | (cases (bitsM s.2).testBit 8 <;> decide)) (fun h68 => ?_) (fun h68 => ?_)
              · skip
                refine Wp.n (pc' := 77) 3 rfl ?_
                refine Wp.top hR4 ?_
                refine Wp.n (pc' := 81) 2 rfl ?_
                refine Wp.top hL2 ?_
                refine Wp.n (pc' := 82) 1 rfl ?_
                refine Wp.top all_and ?_
                refine Wp.mput (len := 3) rfl rfl ?_
                refine Wp.n (pc' := 90) 3 rfl ?_
                refine Wp.top hR1 ?_
                refine Wp.n (pc' := 91) 1 rfl ?_
                refine Wp.iaddN (x := st.1) (y := 1) (len := 1) rfl ?_
                refine Wp.mput (len := 3) rfl rfl ?_
                refine Wp.retV (len := 1) rfl rfl ?_
                rw [if_pos ⟨h48, fun _ => by rw [show (ps, s).2.2 = s.2 from rfl, ← bits_tb]; cases e : (bitsM s.2).testBit 8 with | true => rfl | false => rw [e] at h68; exact absurd rfl h68⟩]
                exact ⟨rfl, _, rfl, ((Fr.rfl'.aset rfl).fset rfl).fset rfl, rfl, hR2, hR3, rfl, hR5⟩
              · skip
                refine Wp.retV (len := 1) rfl rfl ?_
                first
                  | (rw [if_neg (fun q => h48 q.1)]; exact ⟨rfl, _, rfl, Fr.rfl'.aset rfl, hR1, hR2, hR3, hR4, hR5⟩)
                  | (rw [if_neg (fun q => by have q2 := q.2 rfl; rw [show (ps, s).2.2 = s.2 from rfl, ← bits_tb] at q2; rw [q2] at h68; exact absurd h68 (by decide))]; exact ⟨rfl, _, rfl, Fr.rfl'.aset rfl, hR1, hR2, hR3, hR4, hR5⟩)
    · omega

end MEETS
