/-! TOLD WALKS, in the reference; its public questions of the first kind. -/
def GA (σ : MS) (K : KD) (w : Nat) : Prop := RW σ (kw K w 3) (fun i => kw K w (4 + i)) ∧ LKs σ K (TRr K w).2
def RI (M : AM) (σ : MS) (a : Int32) : Option Value → AM → Prop := fun v M' => v = some (.int a) ∧ ∃ σ', M' = mset M σ' ∧ Scr σ σ'
def RJ (M : AM) (σ : MS) (a : Int64) : Option Value → AM → Prop := fun v M' => v = some (.long a) ∧ ∃ σ', M' = mset M σ' ∧ Scr σ σ'
theorem Scr_r {σ : MS} : Scr σ σ := Fr.rfl'
theorem Scr_t {σ σ' σ'' : MS} (h : Scr σ σ') (h' : Scr σ' σ'') : Scr σ σ'' := Fr.trans h h'
theorem Scr_13 {σ σ' : MS} {f : Nat → Int32} (h : Scr σ σ') : Scr σ (aset σ' 13 f) := Fr.aset h rfl
theorem RI_r {M : AM} {σ : MS} {a b : Int32} (h : a = b) : RI M σ b (some (.int a)) (mset M σ) := ⟨by rw [h], σ, rfl, Scr_r⟩
theorem RI_s {M : AM} {σ σ' : MS} {a b : Int32} (e : Scr σ σ') (h : a = b) : RI M σ b (some (.int a)) (mset M σ') := ⟨by rw [h], σ', rfl, e⟩
theorem RJ_s {M : AM} {σ σ' : MS} {a b : Int64} (e : Scr σ σ') (h : a = b) : RJ M σ b (some (.long a)) (mset M σ') := ⟨by rw [h], σ', rfl, e⟩
theorem TRr_b {K : KD} (ok : KOK K) {w : Nat} (hw : w < kh K 4) : SB K 6 (TRr K w).2 ∧ (TRr K w).1 ≤ kw K w 3 - 1 := by
  have t := ok_walk ok hw
  obtain ⟨⟨h1, h2, h3⟩, h4, _⟩ := lookK_b ok (y := kw K w 2) (P := fun i => kw K w (4 + i)) (kw K w 3 - 1) 0 (0, []) ⟨Nat.le_refl _, Nat.le_refl _, fun l hl => absurd hl List.not_mem_nil⟩
  refine ⟨⟨?_, ?_, h3⟩, ?_⟩
  · show (TRr K w).2.1 ≤ _
    unfold TRr
    omega
  · show (TRr K w).2.2.length ≤ _
    unfold TRr
    omega
  · unfold TRr
    omega
section WALKS
variable {d : Nat} {M : AM} {σ σ' : MS} {K : KD} {Q : Option Value → AM → Prop}
theorem m_ga_l (hM : MK σ K) {w : Nat} (hw : w < kh K 4) : ∀ (n i : Nat) (τ : MS), i + n = kw K w 3 → Fr [27] [14] σ τ → τ.1 27 = nI (kw K w 3) → (∀ j, j < i → τ.2.2.1 14 j = nI (kw K w (4 + j))) → (∀ τ', Fr [27] [14] σ τ' → RW τ' (kw K w 3) (fun i => kw K w (4 + i)) → Wp (d + 1) md_206 39 [some (.ref 287), some (.int (nI w)), some (.int (nI (kw K w 3)))] [] (mset M τ') Q) → Wp (d + 1) md_206 11 [some (.ref 287), some (.int (nI w)), some (.int (nI i))] [] (mset M τ) Q := by
  have ok := hM.2.1
  have t := ok_walk ok hw
  intro n
  obtain ⟨b0, b1, b2, b3, b4, b5, b6, b7, b8, b9, b10, b11, b12⟩ := ok_h ok
  induction n with
  | zero =>
    intro i τ hi hF h27 hr k
    refine Wp.n (pc' := 16) 3 rfl ?_
    refine Wp.top h27 ?_
    refine Wp.nc3 (x := i) (y := kw K w 3) (tgt := 39) (len := 3) rfl (by omega) (by omega) (fun h16 => ?_) (fun h16 => ?_)
    · skip
      have e : i = kw K w 3 := by omega
      rw [e] at hr ⊢
      exact k τ hF ⟨h27, hr⟩
    · omega
  | succ n ih =>
    intro i τ hi hF h27 hr k
    have hK := MK_scr hM (Fr.mono hF rfl rfl)
    have e := r0_stop hK.1 hw (j := i) (q := 11 * w + (4 + i)) (by omega) (by omega)
    refine Wp.n (pc' := 16) 3 rfl ?_
    refine Wp.top h27 ?_
    refine Wp.nc3 (x := i) (y := kw K w 3) (tgt := 39) (len := 3) rfl (by omega) (by omega) (fun h16 => ?_) (fun h16 => ?_)
    · omega
    · skip
      refine Wp.n (pc' := 28) 7 rfl ?_
      refine Wp.iaddN (x := 4) (y := i) (len := 1) rfl ?_
      refine Wp.ecallV (len := 3) rfl rfl rfl (rfl) rfl (by decide) rfl (m_of τ w (4 + i) (by omega)) ?_
      refine Wp.top e ?_
      refine Wp.miastN (j := i) (len := 1) rfl rfl rfl (by omega) ?_
      refine Wp.incN (x := i) (len := 3) rfl rfl ?_
      refine Wp.n (pc' := 11) 1 rfl ?_
      refine ih (i + 1) _ (by omega) (hF.aset rfl) h27 (fun j hj => ?_) k
      show upd (τ.2.2.1 14) i _ j = _
      by_cases c : j = i
      · rw [c, pk_us]
      · rw [pk_un c]
        exact hr j (by omega)

theorem m_goesAs (hM : MK σ K) {w : Nat} (hw : w < kh K 4) : Wp (d + 4) md_206 0 [some (.ref 287), some (.int (nI w)), none] [] (mset M σ) (fun v M' => v = some (.int (bI (lawK K w))) ∧ ∃ σ', M' = mset M σ' ∧ Scr σ σ' ∧ GA σ' K w) := by
  have ok := hM.2.1
  have t := ok_walk ok hw
  obtain ⟨b0, b1, b2, b3, b4, b5, b6, b7, b8, b9, b10, b11, b12⟩ := ok_h ok
  have tb := (TRr_b ok hw).2
  refine Wp.n (pc' := 3) 3 rfl ?_
  refine Wp.ecallV (len := 3) rfl rfl rfl (rfl) rfl (by decide) rfl (m_many0 hM.1 ok hw) ?_
  refine Wp.mput (len := 3) rfl rfl ?_
  refine Wp.n (pc' := 11) 2 rfl ?_
  refine m_ga_l hM hw (kw K w 3) 0 _ (by omega) (Fr.rfl'.fset rfl) rfl (fun j hj => absurd hj (Nat.not_lt_zero j)) (fun τ hF hW => ?_)
  have hK := MK_scr hM (Fr.mono hF rfl rfl)
  have e := r0_walk hK.1 hw (j := 2) (q := 11 * w + 2) (by decide) (by omega)
  refine Wp.n (pc' := 43) 4 rfl ?_
  refine Wp.ecallV (len := 3) rfl rfl rfl (rfl) rfl (by decide) rfl (m_of τ w 2 (by omega)) ?_
  refine Wp.top e ?_
  refine Wp.callV (len := 3) rfl rfl rfl (rfl) rfl (by decide) rfl (m_looks hK hW.1 (by omega) (by omega) (by omega) (fun i hi => ⟨hW.2 i hi, by have := t.2.2.2.2.2.2.1 i hi; omega⟩)) ?_
  rintro _ _ ⟨τ', rfl, rfl, hF', hL'⟩
  refine Wp.n (pc' := 53) 2 rfl ?_
  refine Wp.top ((hF'.1 27 rfl).trans hW.1) ?_
  refine Wp.n (pc' := 54) 1 rfl ?_
  refine Wp.isubN (x := kw K w 3) (y := 1) (len := 1) rfl (by omega) ?_
  refine Wp.nc1 (x := (TRr K w).1) (y := (kw K w 3) - 1) (tgt := 62) (len := 3) rfl (by omega) (by omega) (fun h55 => ?_) (fun h55 => ?_)
  · skip
    refine Wp.n (pc' := 63) 1 rfl ?_
    refine Wp.retZ (len := 1) (c := false) rfl rfl rfl ?_
    refine ⟨?_, τ', rfl, Scr_t (Fr.mono hF rfl rfl) (Fr.mono hF' rfl rfl), ⟨(hF'.1 27 rfl).trans hW.1, fun i hi => ?_⟩, hL'⟩
    · unfold lawK
      first | rw [decide_eq_true (by omega)] | rw [decide_eq_false (by omega)]
    · rw [hF'.2.1 14 rfl]
      exact hW.2 i hi
  · skip
    refine Wp.n (pc' := 63) 2 rfl ?_
    refine Wp.retZ (len := 1) (c := true) rfl rfl rfl ?_
    refine ⟨?_, τ', rfl, Scr_t (Fr.mono hF rfl rfl) (Fr.mono hF' rfl rfl), ⟨(hF'.1 27 rfl).trans hW.1, fun i hi => ?_⟩, hL'⟩
    · unfold lawK
      first | rw [decide_eq_true (by omega)] | rw [decide_eq_false (by omega)]
    · rw [hF'.2.1 14 rfl]
      exact hW.2 i hi
  


def stepsA (K : KD) (x : Int32) : Int32 := if isN (kh K 4) x = true then nI (TRr K x.toNatClampNeg).1 else -2
def lengthA (K : KD) (x : Int32) : Int32 := if isN (kh K 4) x = true then (bif lawK K x.toNatClampNeg then nI (TRr K x.toNatClampNeg).2.1 else -1) else -2
def savedA (K : KD) (x : Int32) : Int32 := if isN (kh K 4) x = true then (bif lawK K x.toNatClampNeg then nI (savW K x.toNatClampNeg) else -1) else -2
def dutyA (K : KD) (x : Int32) : Int32 := if isN (kh K 4) x = true then (bif lawK K x.toNatClampNeg then nI (dutW K x.toNatClampNeg) else -1) else -2
def lanesA (K : KD) (x : Int32) : Int32 := if isN (kh K 4) x = true then (bif lawK K x.toNatClampNeg then nI (bitsM (TRr K x.toNatClampNeg).2.2) else -1) else -2

theorem m_length (hM : MK σ K) (x : Int32) : Wp (d + 5) md_210 0 [some (.ref 287), some (.int x)] [] (mset M σ) (RI M σ (lengthA K x)) := by
  have ok := hM.2.1
  have hσ0 := hM.2.2.2
  obtain ⟨b0, b1, b2, b3, b4, b5, b6, b7, b8, b9, b10, b11, b12⟩ := ok_h ok
  unfold lengthA
  refine Wp.n (pc' := 2) 2 rfl ?_
  refine Wp.mput0 (len := 3) rfl hσ0 ?_
  refine Wp.n (pc' := 7) 2 rfl ?_
  refine Wp.ecallV (len := 3) rfl rfl rfl (rfl) rfl (by decide) rfl (m_isWalkK hM.1 ok _) ?_
  refine Wp.ifb1 (tgt := 18) (len := 3) rfl (fun h10 => ?_) (fun h10 => ?_)
  · skip
    obtain ⟨w, hw, rfl⟩ := isN_of h10
    have t := ok_walk ok hw
    rw [if_pos h10, nI_clamp (by omega)]
    refine Wp.n (pc' := 20) 2 rfl ?_
    refine Wp.callV (len := 3) rfl rfl rfl (rfl) rfl (by decide) rfl (m_goesAs hM hw) ?_
    rintro _ _ ⟨rfl, τ, rfl, hS, hG⟩
    refine Wp.ifb0 (tgt := 33) (len := 3) rfl (fun h23 => ?_) (fun h23 => ?_)
    · skip
      refine Wp.n (pc' := 34) 1 rfl ?_
      refine Wp.retI (len := 1) rfl rfl ?_
      first
        | (rw [if_neg (by rw [h10]; decide)]; exact RI_r rfl)
        | (exact RI_s hS (by rw [h23]; rfl))
        | exact RI_s hS (by rw [h23]; rfl)
    · skip
      refine Wp.n (pc' := 30) 2 rfl ?_
      refine Wp.top hG.2.1 ?_
      refine Wp.n (pc' := 34) 1 rfl ?_
      refine Wp.retI (len := 1) rfl rfl ?_
      first
        | (rw [if_neg (by rw [h10]; decide)]; exact RI_r rfl)
        | (exact RI_s hS (by rw [h23]; rfl))
        | exact RI_s hS (by rw [h23]; rfl)
  · skip
    refine Wp.n (pc' := 34) 2 rfl ?_
    refine Wp.retI (len := 1) rfl rfl ?_
    first
      | (rw [if_neg (by rw [h10]; decide)]; exact RI_r rfl)
      | (exact RI_s hS (by rw [h23]; rfl))
      | exact RI_s hS (by rw [h23]; rfl)


theorem m_lanes (hM : MK σ K) (x : Int32) : Wp (d + 5) md_217 0 [some (.ref 287), some (.int x)] [] (mset M σ) (RI M σ (lanesA K x)) := by
  have ok := hM.2.1
  have hσ0 := hM.2.2.2
  obtain ⟨b0, b1, b2, b3, b4, b5, b6, b7, b8, b9, b10, b11, b12⟩ := ok_h ok
  unfold lanesA
  refine Wp.n (pc' := 2) 2 rfl ?_
  refine Wp.mput0 (len := 3) rfl hσ0 ?_
  refine Wp.n (pc' := 7) 2 rfl ?_
  refine Wp.ecallV (len := 3) rfl rfl rfl (rfl) rfl (by decide) rfl (m_isWalkK hM.1 ok _) ?_
  refine Wp.ifb1 (tgt := 18) (len := 3) rfl (fun h10 => ?_) (fun h10 => ?_)
  · skip
    obtain ⟨w, hw, rfl⟩ := isN_of h10
    have t := ok_walk ok hw
    rw [if_pos h10, nI_clamp (by omega)]
    refine Wp.n (pc' := 20) 2 rfl ?_
    refine Wp.callV (len := 3) rfl rfl rfl (rfl) rfl (by decide) rfl (m_goesAs hM hw) ?_
    rintro _ _ ⟨rfl, τ, rfl, hS, hG⟩
    refine Wp.ifb0 (tgt := 33) (len := 3) rfl (fun h23 => ?_) (fun h23 => ?_)
    · skip
      refine Wp.n (pc' := 34) 1 rfl ?_
      refine Wp.retI (len := 1) rfl rfl ?_
      first
        | (rw [if_neg (by rw [h10]; decide)]; exact RI_r rfl)
        | (exact RI_s hS (by rw [h23]; rfl))
        | exact RI_s hS (by rw [h23]; rfl)
    · skip
      refine Wp.n (pc' := 30) 2 rfl ?_
      refine Wp.top hG.2.2.1 ?_
      refine Wp.n (pc' := 34) 1 rfl ?_
      refine Wp.retI (len := 1) rfl rfl ?_
      first
        | (rw [if_neg (by rw [h10]; decide)]; exact RI_r rfl)
        | (exact RI_s hS (by rw [h23]; rfl))
        | exact RI_s hS (by rw [h23]; rfl)
  · skip
    refine Wp.n (pc' := 34) 2 rfl ?_
    refine Wp.retI (len := 1) rfl rfl ?_
    first
      | (rw [if_neg (by rw [h10]; decide)]; exact RI_r rfl)
      | (exact RI_s hS (by rw [h23]; rfl))
      | exact RI_s hS (by rw [h23]; rfl)


theorem m_saved (hM : MK σ K) (x : Int32) : Wp (d + 5) md_211 0 [some (.ref 287), some (.int x)] [] (mset M σ) (RI M σ (savedA K x)) := by
  have ok := hM.2.1
  have hσ0 := hM.2.2.2
  obtain ⟨b0, b1, b2, b3, b4, b5, b6, b7, b8, b9, b10, b11, b12⟩ := ok_h ok
  unfold savedA
  refine Wp.n (pc' := 2) 2 rfl ?_
  refine Wp.mput0 (len := 3) rfl hσ0 ?_
  refine Wp.n (pc' := 7) 2 rfl ?_
  refine Wp.ecallV (len := 3) rfl rfl rfl (rfl) rfl (by decide) rfl (m_isWalkK hM.1 ok _) ?_
  refine Wp.ifb1 (tgt := 18) (len := 3) rfl (fun h10 => ?_) (fun h10 => ?_)
  · skip
    obtain ⟨w, hw, rfl⟩ := isN_of h10
    have t := ok_walk ok hw
    rw [if_pos h10, nI_clamp (by omega)]
    refine Wp.n (pc' := 20) 2 rfl ?_
    refine Wp.callV (len := 3) rfl rfl rfl (rfl) rfl (by decide) rfl (m_goesAs hM hw) ?_
    rintro _ _ ⟨rfl, τ, rfl, hS, hG⟩
    refine Wp.ifb0 (tgt := 39) (len := 3) rfl (fun h23 => ?_) (fun h23 => ?_)
    · skip
      refine Wp.n (pc' := 40) 1 rfl ?_
      refine Wp.retI (len := 1) rfl rfl ?_
      first
        | (rw [if_neg (by rw [h10]; decide)]; exact RI_r rfl)
        | (exact RI_s (Scr_13 hS) (by rw [h23]; show nI (savK K (kw K w (4 + 0)) (kw K w (4 + (kw K w 3 - 1))) _) = nI (savW K w); rw [show 4 + (kw K w 3 - 1) = 3 + kw K w 3 by omega]; rfl))
        | exact RI_s hS (by rw [h23]; rfl)
    · skip
      refine Wp.n (pc' := 30) 4 rfl ?_
      refine Wp.ecallV (len := 3) rfl rfl rfl (rfl) rfl (by decide) rfl (m_of τ w 2 (by omega)) ?_
      refine Wp.top (r0_walk (MK_scr hM hS).1 hw (j := 2) (by decide) (by omega)) ?_
      refine Wp.callV (len := 3) rfl rfl rfl (rfl) rfl (by decide) rfl (m_savedOf (MK_scr hM hS) hG.1 (by omega) (by omega) (fun i hi => t.2.2.2.2.2.2.1 i hi) (by have := (TRr_b ok hw).1.1; omega) hG.2.1) ?_
      rintro _ _ ⟨rfl, h, rfl⟩
      refine Wp.n (pc' := 40) 1 rfl ?_
      refine Wp.retI (len := 1) rfl rfl ?_
      first
        | (rw [if_neg (by rw [h10]; decide)]; exact RI_r rfl)
        | (exact RI_s (Scr_13 hS) (by rw [h23]; show nI (savK K (kw K w (4 + 0)) (kw K w (4 + (kw K w 3 - 1))) _) = nI (savW K w); rw [show 4 + (kw K w 3 - 1) = 3 + kw K w 3 by omega]; rfl))
        | exact RI_s hS (by rw [h23]; rfl)
  · skip
    refine Wp.n (pc' := 40) 2 rfl ?_
    refine Wp.retI (len := 1) rfl rfl ?_
    first
      | (rw [if_neg (by rw [h10]; decide)]; exact RI_r rfl)
      | (exact RI_s (Scr_13 hS) (by rw [h23]; show nI (savK K (kw K w (4 + 0)) (kw K w (4 + (kw K w 3 - 1))) _) = nI (savW K w); rw [show 4 + (kw K w 3 - 1) = 3 + kw K w 3 by omega]; rfl))
      | exact RI_s hS (by rw [h23]; rfl)


theorem m_duty (hM : MK σ K) (x : Int32) : Wp (d + 5) md_213 0 [some (.ref 287), some (.int x)] [] (mset M σ) (RI M σ (dutyA K x)) := by
  have ok := hM.2.1
  have hσ0 := hM.2.2.2
  obtain ⟨b0, b1, b2, b3, b4, b5, b6, b7, b8, b9, b10, b11, b12⟩ := ok_h ok
  unfold dutyA
  refine Wp.n (pc' := 2) 2 rfl ?_
  refine Wp.mput0 (len := 3) rfl hσ0 ?_
  refine Wp.n (pc' := 7) 2 rfl ?_
  refine Wp.ecallV (len := 3) rfl rfl rfl (rfl) rfl (by decide) rfl (m_isWalkK hM.1 ok _) ?_
  refine Wp.ifb1 (tgt := 18) (len := 3) rfl (fun h10 => ?_) (fun h10 => ?_)
  · skip
    obtain ⟨w, hw, rfl⟩ := isN_of h10
    have t := ok_walk ok hw
    rw [if_pos h10, nI_clamp (by omega)]
    refine Wp.n (pc' := 20) 2 rfl ?_
    refine Wp.callV (len := 3) rfl rfl rfl (rfl) rfl (by decide) rfl (m_goesAs hM hw) ?_
    rintro _ _ ⟨rfl, τ, rfl, hS, hG⟩
    refine Wp.ifb0 (tgt := 34) (len := 3) rfl (fun h23 => ?_) (fun h23 => ?_)
    · skip
      refine Wp.n (pc' := 35) 1 rfl ?_
      refine Wp.retI (len := 1) rfl rfl ?_
      first
        | (rw [if_neg (by rw [h10]; decide)]; exact RI_r rfl)
        | (exact RI_s (Scr_13 hS) (by rw [h23]; rfl))
        | exact RI_s hS (by rw [h23]; rfl)
    · skip
      refine Wp.n (pc' := 28) 2 rfl ?_
      refine Wp.callV (len := 3) rfl rfl rfl (rfl) rfl (by decide) rfl (m_dutyOf1 (MK_scr hM hS) hw rfl hG.1 (TRr_b ok hw).1 hG.2) ?_
      rintro _ _ ⟨rfl, h, rfl⟩
      refine Wp.n (pc' := 35) 1 rfl ?_
      refine Wp.retI (len := 1) rfl rfl ?_
      first
        | (rw [if_neg (by rw [h10]; decide)]; exact RI_r rfl)
        | (exact RI_s (Scr_13 hS) (by rw [h23]; rfl))
        | exact RI_s hS (by rw [h23]; rfl)
  · skip
    refine Wp.n (pc' := 35) 2 rfl ?_
    refine Wp.retI (len := 1) rfl rfl ?_
    first
      | (rw [if_neg (by rw [h10]; decide)]; exact RI_r rfl)
      | (exact RI_s (Scr_13 hS) (by rw [h23]; rfl))
      | exact RI_s hS (by rw [h23]; rfl)


theorem m_steps (hM : MK σ K) (x : Int32) : Wp (d + 5) md_209 0 [some (.ref 287), some (.int x)] [] (mset M σ) (RI M σ (stepsA K x)) := by
  have ok := hM.2.1
  have hσ0 := hM.2.2.2
  obtain ⟨b0, b1, b2, b3, b4, b5, b6, b7, b8, b9, b10, b11, b12⟩ := ok_h ok
  unfold stepsA
  refine Wp.n (pc' := 2) 2 rfl ?_
  refine Wp.mput0 (len := 3) rfl hσ0 ?_
  refine Wp.n (pc' := 7) 2 rfl ?_
  refine Wp.ecallV (len := 3) rfl rfl rfl (rfl) rfl (by decide) rfl (m_isWalkK hM.1 ok _) ?_
  refine Wp.ifb1 (tgt := 16) (len := 3) rfl (fun h10 => ?_) (fun h10 => ?_)
  · skip
    obtain ⟨w, hw, rfl⟩ := isN_of h10
    have t := ok_walk ok hw
    rw [if_pos h10, nI_clamp (by omega)]
    refine Wp.n (pc' := 18) 2 rfl ?_
    refine Wp.callV (len := 3) rfl rfl rfl (rfl) rfl (by decide) rfl (m_goesAs hM hw) ?_
    rintro _ _ ⟨rfl, τ, rfl, hS, hG⟩
    refine Wp.n (pc' := 26) 5 rfl ?_
    refine Wp.ecallV (len := 3) rfl rfl rfl (rfl) rfl (by decide) rfl (m_of τ w 2 (by omega)) ?_
    refine Wp.top (r0_walk (MK_scr hM hS).1 hw (j := 2) (by decide) (by omega)) ?_
    refine Wp.callV (len := 3) rfl rfl rfl (rfl) rfl (by decide) rfl (m_looks (MK_scr hM hS) hG.1.1 (by omega) (by omega) (by omega) (fun i hi => ⟨hG.1.2 i hi, by have := t.2.2.2.2.2.2.1 i hi; omega⟩)) ?_
    rintro _ _ ⟨τ', rfl, rfl, hF', hL'⟩
    refine Wp.retI (len := 1) rfl rfl ?_
    exact RI_s (Scr_t hS (Scr_L hF')) rfl
  · skip
    refine Wp.n (pc' := 15) 1 rfl ?_
    refine Wp.retI (len := 1) rfl rfl ?_
    rw [if_neg (by rw [h10]; decide)]
    exact RI_r rfl

def unlawfulA (K : KD) : Int32 := if 0 < kh K 0 then oI (fnd (fun w => !(lawK K w)) (kh K 4) 0) else -2
theorem m_unlawful_l (hM : MK σ K) : ∀ (n w : Nat) (τ : MS), w + n = kh K 4 → Scr σ τ → Wp (d + 5) md_204 17 [some (.ref 287), some (.int (nI w))] [] (mset M τ) (RI M σ (oI (fnd (fun w => !(lawK K w)) n w))) := by
  have ok := hM.2.1
  intro n
  obtain ⟨b0, b1, b2, b3, b4, b5, b6, b7, b8, b9, b10, b11, b12⟩ := ok_h ok
  induction n with
  | zero =>
    intro w τ hw hS
    refine Wp.n (pc' := 23) 4 rfl ?_
    refine Wp.mialdN (j := 4) (len := 1) rfl rfl rfl (by omega) ?_
    refine Wp.top (r0_has (MK_scr hM hS).1 (by decide)) ?_
    refine Wp.nc3 (x := w) (y := kh K 4) (tgt := 43) (len := 3) rfl (by omega) (by omega) (fun h24 => ?_) (fun h24 => ?_)
    · skip
      refine Wp.n (pc' := 44) 1 rfl ?_
      refine Wp.retI (len := 1) rfl rfl ?_
      exact RI_s hS rfl
    · omega
  | succ n ih =>
    intro w τ hw hS
    have hK := MK_scr hM hS
    unfold fnd
    refine Wp.n (pc' := 23) 4 rfl ?_
    refine Wp.mialdN (j := 4) (len := 1) rfl rfl rfl (by omega) ?_
    refine Wp.top (r0_has hK.1 (by decide)) ?_
    refine Wp.nc3 (x := w) (y := kh K 4) (tgt := 43) (len := 3) rfl (by omega) (by omega) (fun h24 => ?_) (fun h24 => ?_)
    · omega
    · skip
      refine Wp.n (pc' := 29) 2 rfl ?_
      refine Wp.callV (len := 3) rfl rfl rfl (rfl) rfl (by decide) rfl (m_goesAs hK (by omega)) ?_
      rintro _ _ ⟨rfl, τ', rfl, hS', _⟩
      refine Wp.ifb1 (tgt := 37) (len := 3) rfl (fun h32 => ?_) (fun h32 => ?_)
      · skip
        refine Wp.incN (x := w) (len := 3) rfl rfl ?_
        refine Wp.n (pc' := 17) 1 rfl ?_
        rw [if_neg (by rw [h32]; decide)]
        exact ih (w + 1) τ' (by omega) (Scr_t hS hS')
      · skip
        refine Wp.n (pc' := 36) 1 rfl ?_
        refine Wp.retI (len := 1) rfl rfl ?_
        rw [if_pos (by rw [h32]; rfl)]
        exact RI_s (Scr_t hS hS') rfl

theorem m_unlawful (hM : MK σ K) : Wp (d + 5) md_204 0 [some (.ref 287), none] [] (mset M σ) (RI M σ (unlawfulA K)) := by
  have ok := hM.2.1
  have hσ0 := hM.2.2.2
  unfold unlawfulA
  refine Wp.n (pc' := 2) 2 rfl ?_
  refine Wp.mput0 (len := 3) rfl hσ0 ?_
  refine Wp.n (pc' := 6) 1 rfl ?_
  refine Wp.ecallV (len := 3) rfl rfl rfl (rfl) rfl (by decide) rfl (m_isKingdom hM.1 ok) ?_
  refine Wp.ifb1 (tgt := 15) (len := 3) rfl (fun h9 => ?_) (fun h9 => ?_)
  · skip
    refine Wp.n (pc' := 17) 2 rfl ?_
    rw [if_pos (of_decide_eq_true h9)]
    exact m_unlawful_l hM (kh K 4) 0 σ (by omega) Scr_r
  · skip
    refine Wp.n (pc' := 14) 1 rfl ?_
    refine Wp.retI (len := 1) rfl rfl ?_
    rw [if_neg (of_decide_eq_false h9)]
    exact RI_r rfl


def cntW (K : KD) (who y : Int32) (w : Nat) : Bool := (decide (who = -1) || decide (nI (kw K w 0) = who)) && (decide (y = -1) || decide (nI (kw K w 2) = y)) && lawK K w
def sumD (K : KD) (who y : Int32) (s w : Nat) : Nat := bif cntW K who y w then s + dutW K w else s
theorem m_sumOf_l (hM : MK σ K) (who y : Int32) : ∀ (n w s : Nat) (τ : MS), w + n = kh K 4 → Scr σ τ → Wp (d + 5) md_219 5 [some (.ref 287), some (.int who), some (.int y), some (.int (nI s)), some (.int (nI w))] [] (mset M τ) (fun v M' => v = some (.int (nI (fld (sumD K who y) n w s))) ∧ ∃ σ', M' = mset M σ' ∧ Scr σ σ') := by
  have ok := hM.2.1
  intro n
  obtain ⟨b0, b1, b2, b3, b4, b5, b6, b7, b8, b9, b10, b11, b12⟩ := ok_h ok
  induction n with
  | zero =>
    intro w s τ hw hS
    refine Wp.n (pc' := 12) 4 rfl ?_
    refine Wp.mialdN (j := 4) (len := 1) rfl rfl rfl (by omega) ?_
    refine Wp.top (r0_has (MK_scr hM hS).1 (by decide)) ?_
    refine Wp.nc3 (x := w) (y := kh K 4) (tgt := 72) (len := 3) rfl (by omega) (by omega) (fun h13 => ?_) (fun h13 => ?_)
    · skip
      refine Wp.n (pc' := 73) 1 rfl ?_
      refine Wp.retI (len := 1) rfl rfl ?_
      exact ⟨rfl, τ, rfl, hS⟩
    · omega
  | succ n ih =>
    intro w s τ hw hS
    have hK := MK_scr hM hS
    have hw4 : w < kh K 4 := by omega
    have kf : ∀ τ', Scr σ τ' → cntW K who y w = false → Wp (d + 5) md_219 5 [some (.ref 287), some (.int who), some (.int y), some (.int (nI s)), some (.int (nI (w + 1)))] [] (mset M τ') (fun v M' => v = some (.int (nI (fld (sumD K who y) (n + 1) w s))) ∧ ∃ σ', M' = mset M σ' ∧ Scr σ σ') := by
      intro τ' hS' hc
      have e : sumD K who y s w = s := by unfold sumD; rw [hc]; rfl
      show Wp _ _ _ _ _ _ (fun v M' => v = some (.int (nI (fld (sumD K who y) n (w + 1) (sumD K who y s w)))) ∧ _)
      rw [e]
      exact ih (w + 1) s τ' (by omega) hS'
    have kt : ∀ τ', Scr σ τ' → cntW K who y w = true → Wp (d + 5) md_219 5 [some (.ref 287), some (.int who), some (.int y), some (.int (nI (s + dutW K w))), some (.int (nI (w + 1)))] [] (mset M τ') (fun v M' => v = some (.int (nI (fld (sumD K who y) (n + 1) w s))) ∧ ∃ σ', M' = mset M σ' ∧ Scr σ σ') := by
      intro τ' hS' hc
      have e : sumD K who y s w = s + dutW K w := by unfold sumD; rw [hc]; rfl
      show Wp _ _ _ _ _ _ (fun v M' => v = some (.int (nI (fld (sumD K who y) n (w + 1) (sumD K who y s w)))) ∧ _)
      rw [e]
      exact ih (w + 1) (s + dutW K w) τ' (by omega) hS'
    unfold cntW at kf kt
    refine Wp.n (pc' := 12) 4 rfl ?_
    refine Wp.mialdN (j := 4) (len := 1) rfl rfl rfl (by omega) ?_
    refine Wp.top (r0_has hK.1 (by decide)) ?_
    refine Wp.nc3 (x := w) (y := kh K 4) (tgt := 72) (len := 3) rfl (by omega) (by omega) (fun h13 => ?_) (fun h13 => ?_)
    · omega
    · skip
      refine Wp.n (pc' := 18) 2 rfl ?_
      refine Wp.ic0 (tgt := 32) (len := 3) rfl (fun h18 => ?_) (fun h18 => ?_)
      · skip
        refine Wp.n (pc' := 34) 2 rfl ?_
        refine Wp.ic0 (tgt := 48) (len := 3) rfl (fun h34 => ?_) (fun h34 => ?_)
        · skip
          refine Wp.n (pc' := 51) 2 rfl ?_
          refine Wp.callV (len := 3) rfl rfl rfl (rfl) rfl (by decide) rfl (m_goesAs hK hw4) ?_
          rintro _ _ ⟨rfl, τ', rfl, hS', hG⟩
          refine Wp.ifb0 (tgt := 66) (len := 3) rfl (fun h54 => ?_) (fun h54 => ?_)
          · skip
            refine Wp.incN (x := w) (len := 3) rfl rfl ?_
            refine Wp.n (pc' := 5) 1 rfl ?_
            first
              | exact kt _ (Scr_13 (Scr_t hS hS')) (by simp [*])
              | exact kf _ (Scr_t hS hS') (by simp [*])
              | exact kf _ hS (by simp [*])
          · skip
            refine Wp.n (pc' := 61) 3 rfl ?_
            refine Wp.callV (len := 3) rfl rfl rfl (rfl) rfl (by decide) rfl (m_dutyOf1 (MK_scr hK hS') hw4 rfl hG.1 (TRr_b ok hw4).1 hG.2) ?_
            rintro _ _ ⟨rfl, h', rfl⟩
            refine Wp.iaddN (x := s) (y := dutW K w) (len := 1) rfl ?_
            refine Wp.n (pc' := 66) 1 rfl ?_
            refine Wp.incN (x := w) (len := 3) rfl rfl ?_
            refine Wp.n (pc' := 5) 1 rfl ?_
            first
              | exact kt _ (Scr_13 (Scr_t hS hS')) (by simp [*])
              | exact kf _ (Scr_t hS hS') (by simp [*])
              | exact kf _ hS (by simp [*])
        · skip
          refine Wp.n (pc' := 41) 3 rfl ?_
          refine Wp.ecallV (len := 3) rfl rfl rfl (rfl) rfl (by decide) rfl (m_of τ w 2 (by omega)) ?_
          refine Wp.top (r0_walk hK.1 hw4 (j := 2) (by decide) (by omega)) ?_
          refine Wp.n (pc' := 45) 1 rfl ?_
          refine Wp.ic1 (tgt := 66) (len := 3) rfl (fun h45 => ?_) (fun h45 => ?_)
          · skip
            refine Wp.incN (x := w) (len := 3) rfl rfl ?_
            refine Wp.n (pc' := 5) 1 rfl ?_
            first
              | exact kt _ (Scr_13 (Scr_t hS hS')) (by simp [*])
              | exact kf _ (Scr_t hS hS') (by simp [*])
              | exact kf _ hS (by simp [*])
          · skip
            refine Wp.n (pc' := 51) 2 rfl ?_
            refine Wp.callV (len := 3) rfl rfl rfl (rfl) rfl (by decide) rfl (m_goesAs hK hw4) ?_
            rintro _ _ ⟨rfl, τ', rfl, hS', hG⟩
            refine Wp.ifb0 (tgt := 66) (len := 3) rfl (fun h54 => ?_) (fun h54 => ?_)
            · skip
              refine Wp.incN (x := w) (len := 3) rfl rfl ?_
              refine Wp.n (pc' := 5) 1 rfl ?_
              first
                | exact kt _ (Scr_13 (Scr_t hS hS')) (by simp [*])
                | exact kf _ (Scr_t hS hS') (by simp [*])
                | exact kf _ hS (by simp [*])
            · skip
              refine Wp.n (pc' := 61) 3 rfl ?_
              refine Wp.callV (len := 3) rfl rfl rfl (rfl) rfl (by decide) rfl (m_dutyOf1 (MK_scr hK hS') hw4 rfl hG.1 (TRr_b ok hw4).1 hG.2) ?_
              rintro _ _ ⟨rfl, h', rfl⟩
              refine Wp.iaddN (x := s) (y := dutW K w) (len := 1) rfl ?_
              refine Wp.n (pc' := 66) 1 rfl ?_
              refine Wp.incN (x := w) (len := 3) rfl rfl ?_
              refine Wp.n (pc' := 5) 1 rfl ?_
              first
                | exact kt _ (Scr_13 (Scr_t hS hS')) (by simp [*])
                | exact kf _ (Scr_t hS hS') (by simp [*])
                | exact kf _ hS (by simp [*])
      · skip
        refine Wp.n (pc' := 25) 3 rfl ?_
        refine Wp.ecallV (len := 3) rfl rfl rfl (rfl) rfl (by decide) rfl (m_of τ w 0 (by omega)) ?_
        refine Wp.top (r0_walk hK.1 hw4 (j := 0) (by decide) (by omega)) ?_
        refine Wp.n (pc' := 29) 1 rfl ?_
        refine Wp.ic1 (tgt := 66) (len := 3) rfl (fun h29 => ?_) (fun h29 => ?_)
        · skip
          refine Wp.incN (x := w) (len := 3) rfl rfl ?_
          refine Wp.n (pc' := 5) 1 rfl ?_
          first
            | exact kt _ (Scr_13 (Scr_t hS hS')) (by simp [*])
            | exact kf _ (Scr_t hS hS') (by simp [*])
            | exact kf _ hS (by simp [*])
        · skip
          refine Wp.n (pc' := 34) 2 rfl ?_
          refine Wp.ic0 (tgt := 48) (len := 3) rfl (fun h34 => ?_) (fun h34 => ?_)
          · skip
            refine Wp.n (pc' := 51) 2 rfl ?_
            refine Wp.callV (len := 3) rfl rfl rfl (rfl) rfl (by decide) rfl (m_goesAs hK hw4) ?_
            rintro _ _ ⟨rfl, τ', rfl, hS', hG⟩
            refine Wp.ifb0 (tgt := 66) (len := 3) rfl (fun h54 => ?_) (fun h54 => ?_)
            · skip
              refine Wp.incN (x := w) (len := 3) rfl rfl ?_
              refine Wp.n (pc' := 5) 1 rfl ?_
              first
                | exact kt _ (Scr_13 (Scr_t hS hS')) (by simp [*])
                | exact kf _ (Scr_t hS hS') (by simp [*])
                | exact kf _ hS (by simp [*])
            · skip
              refine Wp.n (pc' := 61) 3 rfl ?_
              refine Wp.callV (len := 3) rfl rfl rfl (rfl) rfl (by decide) rfl (m_dutyOf1 (MK_scr hK hS') hw4 rfl hG.1 (TRr_b ok hw4).1 hG.2) ?_
              rintro _ _ ⟨rfl, h', rfl⟩
              refine Wp.iaddN (x := s) (y := dutW K w) (len := 1) rfl ?_
              refine Wp.n (pc' := 66) 1 rfl ?_
              refine Wp.incN (x := w) (len := 3) rfl rfl ?_
              refine Wp.n (pc' := 5) 1 rfl ?_
              first
                | exact kt _ (Scr_13 (Scr_t hS hS')) (by simp [*])
                | exact kf _ (Scr_t hS hS') (by simp [*])
                | exact kf _ hS (by simp [*])
          · skip
            refine Wp.n (pc' := 41) 3 rfl ?_
            refine Wp.ecallV (len := 3) rfl rfl rfl (rfl) rfl (by decide) rfl (m_of τ w 2 (by omega)) ?_
            refine Wp.top (r0_walk hK.1 hw4 (j := 2) (by decide) (by omega)) ?_
            refine Wp.n (pc' := 45) 1 rfl ?_
            refine Wp.ic1 (tgt := 66) (len := 3) rfl (fun h45 => ?_) (fun h45 => ?_)
            · skip
              refine Wp.incN (x := w) (len := 3) rfl rfl ?_
              refine Wp.n (pc' := 5) 1 rfl ?_
              first
                | exact kt _ (Scr_13 (Scr_t hS hS')) (by simp [*])
                | exact kf _ (Scr_t hS hS') (by simp [*])
                | exact kf _ hS (by simp [*])
            · skip
              refine Wp.n (pc' := 51) 2 rfl ?_
              refine Wp.callV (len := 3) rfl rfl rfl (rfl) rfl (by decide) rfl (m_goesAs hK hw4) ?_
              rintro _ _ ⟨rfl, τ', rfl, hS', hG⟩
              refine Wp.ifb0 (tgt := 66) (len := 3) rfl (fun h54 => ?_) (fun h54 => ?_)
              · skip
                refine Wp.incN (x := w) (len := 3) rfl rfl ?_
                refine Wp.n (pc' := 5) 1 rfl ?_
                first
                  | exact kt _ (Scr_13 (Scr_t hS hS')) (by simp [*])
                  | exact kf _ (Scr_t hS hS') (by simp [*])
                  | exact kf _ hS (by simp [*])
              · skip
                refine Wp.n (pc' := 61) 3 rfl ?_
                refine Wp.callV (len := 3) rfl rfl rfl (rfl) rfl (by decide) rfl (m_dutyOf1 (MK_scr hK hS') hw4 rfl hG.1 (TRr_b ok hw4).1 hG.2) ?_
                rintro _ _ ⟨rfl, h', rfl⟩
                refine Wp.iaddN (x := s) (y := dutW K w) (len := 1) rfl ?_
                refine Wp.n (pc' := 66) 1 rfl ?_
                refine Wp.incN (x := w) (len := 3) rfl rfl ?_
                refine Wp.n (pc' := 5) 1 rfl ?_
                first
                  | exact kt _ (Scr_13 (Scr_t hS hS')) (by simp [*])
                  | exact kf _ (Scr_t hS hS') (by simp [*])
                  | exact kf _ hS (by simp [*])

theorem m_sumOf (hM : MK σ K) (who y : Int32) : Wp (d + 5) md_219 0 [some (.ref 287), some (.int who), some (.int y), none, none] [] (mset M σ) (fun v M' => v = some (.int (nI (fld (sumD K who y) (kh K 4) 0 0))) ∧ ∃ σ', M' = mset M σ' ∧ Scr σ σ') := by
  refine Wp.n (pc' := 5) 4 rfl ?_
  exact m_sumOf_l hM who y (kh K 4) 0 0 σ (by omega) Scr_r
def owesA (K : KD) (x : Int32) : Int32 := if 0 < kh K 0 ∧ isN 5 x = true then nI (fld (sumD K x (-1)) (kh K 4) 0 0) else -2
def takingsA (K : KD) (x : Int32) : Int32 := if 0 < kh K 0 ∧ (x = -1 ∨ isN (kh K 1) x = true) then nI (fld (sumD K (-1) x) (kh K 4) 0 0) else -2
theorem m_owes (hM : MK σ K) (x : Int32) : Wp (d + 6) md_218 0 [some (.ref 287), some (.int x)] [] (mset M σ) (RI M σ (owesA K x)) := by
  have ok := hM.2.1
  have hσ0 := hM.2.2.2
  have e5 : decide ((0 : Int64).toInt ≤ x.toInt64.toInt ∧ x.toInt64.toInt ≤ (4 : Int64).toInt) = isN 5 x := by
    unfold isN
    rw [il_toInt, show (0 : Int64).toInt = 0 from rfl, show (4 : Int64).toInt = 4 from rfl]
    by_cases c : 0 ≤ x.toInt ∧ x.toInt < ((5 : Nat) : Int)
    · rw [decide_eq_true c, decide_eq_true (by omega)]
    · rw [decide_eq_false c, decide_eq_false (by omega)]
  unfold owesA
  refine Wp.n (pc' := 2) 2 rfl ?_
  refine Wp.mput0 (len := 3) rfl hσ0 ?_
  refine Wp.n (pc' := 6) 1 rfl ?_
  refine Wp.ecallV (len := 3) rfl rfl rfl (rfl) rfl (by decide) rfl (m_isKingdom hM.1 ok) ?_
  refine Wp.ifb0 (tgt := 33) (len := 3) rfl (fun h9 => ?_) (fun h9 => ?_)
  · skip
    refine Wp.n (pc' := 35) 1 rfl ?_
    refine Wp.retI (len := 1) rfl rfl ?_
    first
      | (rw [if_pos ⟨of_decide_eq_true h9, h21⟩]; exact RI_s hS rfl)
      | (rw [if_neg (fun q => by rw [h21] at q; exact absurd q.2 (by decide))]; exact RI_r rfl)
      | (rw [if_neg (fun q => of_decide_eq_false h9 q.1)]; exact RI_r rfl)
  · skip
    refine Wp.n (pc' := 18) 4 rfl ?_
    refine Wp.ecallS (len := 3) rfl rfl rfl rfl (m_in _ _ _) ?_
    refine Wp.ifb0 (tgt := 33) (len := 3) rfl (fun h21 => ?_) (fun h21 => ?_)
    · rw [e5] at h21
      refine Wp.n (pc' := 35) 1 rfl ?_
      refine Wp.retI (len := 1) rfl rfl ?_
      first
        | (rw [if_pos ⟨of_decide_eq_true h9, h21⟩]; exact RI_s hS rfl)
        | (rw [if_neg (fun q => by rw [h21] at q; exact absurd q.2 (by decide))]; exact RI_r rfl)
        | (rw [if_neg (fun q => of_decide_eq_false h9 q.1)]; exact RI_r rfl)
    · rw [e5] at h21
      refine Wp.n (pc' := 27) 3 rfl ?_
      refine Wp.callV (len := 3) rfl rfl rfl (rfl) rfl (by decide) rfl (m_sumOf hM _ _) ?_
      rintro _ _ ⟨rfl, τ, rfl, hS⟩
      refine Wp.n (pc' := 35) 1 rfl ?_
      refine Wp.retI (len := 1) rfl rfl ?_
      first
        | (rw [if_pos ⟨of_decide_eq_true h9, h21⟩]; exact RI_s hS rfl)
        | (rw [if_neg (fun q => by rw [h21] at q; exact absurd q.2 (by decide))]; exact RI_r rfl)
        | (rw [if_neg (fun q => of_decide_eq_false h9 q.1)]; exact RI_r rfl)

theorem m_takings (hM : MK σ K) (x : Int32) : Wp (d + 6) md_220 0 [some (.ref 287), some (.int x)] [] (mset M σ) (RI M σ (takingsA K x)) := by
  have ok := hM.2.1
  have hσ0 := hM.2.2.2
  unfold takingsA
  refine Wp.n (pc' := 2) 2 rfl ?_
  refine Wp.mput0 (len := 3) rfl hσ0 ?_
  refine Wp.n (pc' := 6) 1 rfl ?_
  refine Wp.ecallV (len := 3) rfl rfl rfl (rfl) rfl (by decide) rfl (m_isKingdom hM.1 ok) ?_
  refine Wp.ifb0 (tgt := 34) (len := 3) rfl (fun h9 => ?_) (fun h9 => ?_)
  · skip
    refine Wp.n (pc' := 36) 1 rfl ?_
    refine Wp.retI (len := 1) rfl rfl ?_
    first
      | (rw [if_pos ⟨of_decide_eq_true h9, hcond⟩]; exact RI_s hS rfl)
      | (rw [if_neg (fun q => of_decide_eq_false h9 q.1)]; exact RI_r rfl)
      | (rw [if_neg (fun q => by rcases q.2 with p | p; exact h14 p; rw [h22] at p; exact absurd p (by decide))]; exact RI_r rfl)
  · skip
    refine Wp.n (pc' := 14) 2 rfl ?_
    refine Wp.ic0 (tgt := 25) (len := 3) rfl (fun h14 => ?_) (fun h14 => ?_)
    · have hcond : x = -1 ∨ isN (kh K 1) x = true := Or.inl h14
      refine Wp.n (pc' := 28) 3 rfl ?_
      refine Wp.callV (len := 3) rfl rfl rfl (rfl) rfl (by decide) rfl (m_sumOf hM _ _) ?_
      rintro _ _ ⟨rfl, τ, rfl, hS⟩
      refine Wp.n (pc' := 36) 1 rfl ?_
      refine Wp.retI (len := 1) rfl rfl ?_
      first
        | (rw [if_pos ⟨of_decide_eq_true h9, hcond⟩]; exact RI_s hS rfl)
        | (rw [if_neg (fun q => of_decide_eq_false h9 q.1)]; exact RI_r rfl)
        | (rw [if_neg (fun q => by rcases q.2 with p | p; exact h14 p; rw [h22] at p; exact absurd p (by decide))]; exact RI_r rfl)
    · skip
      refine Wp.n (pc' := 19) 2 rfl ?_
      refine Wp.ecallV (len := 3) rfl rfl rfl (rfl) rfl (by decide) rfl (m_isDayK hM.1 ok _) ?_
      refine Wp.ifb0 (tgt := 34) (len := 3) rfl (fun h22 => ?_) (fun h22 => ?_)
      · skip
        refine Wp.n (pc' := 36) 1 rfl ?_
        refine Wp.retI (len := 1) rfl rfl ?_
        first
          | (rw [if_pos ⟨of_decide_eq_true h9, hcond⟩]; exact RI_s hS rfl)
          | (rw [if_neg (fun q => of_decide_eq_false h9 q.1)]; exact RI_r rfl)
          | (rw [if_neg (fun q => by rcases q.2 with p | p; exact h14 p; rw [h22] at p; exact absurd p (by decide))]; exact RI_r rfl)
      · have hcond : x = -1 ∨ isN (kh K 1) x = true := Or.inr h22
        refine Wp.n (pc' := 28) 3 rfl ?_
        refine Wp.callV (len := 3) rfl rfl rfl (rfl) rfl (by decide) rfl (m_sumOf hM _ _) ?_
        rintro _ _ ⟨rfl, τ, rfl, hS⟩
        refine Wp.n (pc' := 36) 1 rfl ?_
        refine Wp.retI (len := 1) rfl rfl ?_
        first
          | (rw [if_pos ⟨of_decide_eq_true h9, hcond⟩]; exact RI_s hS rfl)
          | (rw [if_neg (fun q => of_decide_eq_false h9 q.1)]; exact RI_r rfl)
          | (rw [if_neg (fun q => by rcases q.2 with p | p; exact h14 p; rw [h22] at p; exact absurd p (by decide))]; exact RI_r rfl)

end WALKS
