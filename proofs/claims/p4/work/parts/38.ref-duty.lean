/-! BOATS, WHAT IS SAVED, DUTY, TOLD WALKS: the reference. -/
def boatK (K : KD) (ls : List Nat) : Bool := ls.any (fun l => decide (kl K l 5 = 2))
def savK (K : KD) (a b len : Nat) : Nat := if distK K a b < 1000000 then distK K a b - len else 0
def dutyS (K : KD) (bt : Bool) (s y load : Nat) : Nat := if bt = true ∨ (kh K 9 = 0 ∧ y % 7 = 6) then 0 else (s - kh K 7) * kh K 6 * (if kh K 10 = 1 then load else 1)
def TRr (K : KD) (w : Nat) : Nat × Nat × List Nat := lookK K (kw K w 2) (fun i => kw K w (4 + i)) (kw K w 3 - 1) 0 (0, [])
def lawK (K : KD) (w : Nat) : Bool := decide ((TRr K w).1 = kw K w 3 - 1)
def savW (K : KD) (w : Nat) : Nat := savK K (kw K w 4) (kw K w (3 + kw K w 3)) (TRr K w).2.1
def dutW (K : KD) (w : Nat) : Nat := dutyS K (boatK K (TRr K w).2.2) (savW K w) (kw K w 2) (kw K w 1)
theorem boat_fnd {K : KD} {ls : List Nat} (h : ∀ l, l ∈ ls → l ≤ 8) : (fnd (fun l => ls.contains l && decide (kl K l 5 = 2)) 9 0).isSome = boatK K ls := by
  unfold boatK
  cases e : fnd (fun l => ls.contains l && decide (kl K l 5 = 2)) 9 0 with
  | none =>
    have hn := fnd_none e
    symm
    rw [Option.isSome_none, List.any_eq_false]
    intro l hl
    have h1 := hn l (by omega) (by have := h l hl; omega)
    rw [List.contains_iff_mem.mpr hl, Bool.true_and] at h1
    rw [h1]
    decide
  | some l =>
    obtain ⟨_, _, h3⟩ := fnd_lt e
    have h3' : (ls.contains l && decide (kl K l 5 = 2)) = true := h3
    rw [Bool.and_eq_true] at h3'
    symm
    rw [Option.isSome_some, List.any_eq_true]
    exact ⟨l, List.contains_iff_mem.mp h3'.1, h3'.2⟩
theorem n_subneg {s f : Nat} (hs : s < 2 ^ 30) (hf : f < 2 ^ 30) (h : s ≤ f) : ¬ (0 : Int32) < nI s - nI f := by
  rw [i_lt, pk_sub_toInt hs hf]
  show ¬ (0 : Int) < _
  omega
theorem dist_774 {K : KD} (ok : KOK K) {a b : Nat} (ha : a < kh K 0) (h : distK K a b < 1000000) : distK K a b ≤ 774 := by
  have : ∀ n a, a < kh K 0 → rnk K b a ≤ n → distK K a b < 1000000 → distK K a b ≤ 129 * n := by
    intro n
    induction n with
    | zero =>
      intro a ha hr hd
      by_cases e : a = b
      · rw [e, (dist_g ok).1]; omega
      · obtain ⟨c, w, h1, h2⟩ := dist_step ok hd e
        have hb := Eg_b ok h1
        have := rnk_s (t := b) (p := a) hb.2.1 (by omega)
        omega
    | succ n ih =>
      intro a ha hr hd
      by_cases e : a = b
      · rw [e, (dist_g ok).1]; omega
      · obtain ⟨c, w, h1, h2⟩ := dist_step ok hd e
        have hb := Eg_b ok h1
        have h3 := rnk_s (t := b) (p := a) hb.2.1 (by omega)
        have := ih c hb.2.1 (by omega) (by omega)
        omega
  have h1 := this 6 a ha (by have := rnk_lt (t := b) ha; have := (ok_h ok).1; omega) h
  omega
theorem savK_b {K : KD} (ok : KOK K) {a b len : Nat} (ha : a < kh K 0) : savK K a b len ≤ 774 := by
  unfold savK
  by_cases c : distK K a b < 1000000
  · rw [if_pos c]
    have := dist_774 ok ha c
    omega
  · rw [if_neg c]; omega
theorem dutyS_b {K : KD} (ok : KOK K) {bt : Bool} {s y load : Nat} (hs : s ≤ 774) (hl : load ≤ 9) : dutyS K bt s y load ≤ 689634 := by
  obtain ⟨b0, b1, b2, b3, b4, b5, b6, b7, b8, b9, b10, b11, b12⟩ := ok_h ok
  unfold dutyS
  by_cases c : bt = true ∨ (kh K 9 = 0 ∧ y % 7 = 6)
  · rw [if_pos c]; omega
  · rw [if_neg c]
    have h1 : (s - kh K 7) * kh K 6 ≤ 774 * 99 := Nat.mul_le_mul (by omega) b6
    have h2 : (if kh K 10 = 1 then load else 1) ≤ 9 := by
      by_cases q : kh K 10 = 1
      · rw [if_pos q]; exact hl
      · rw [if_neg q]; omega
    exact Nat.le_trans (Nat.mul_le_mul h1 h2) (by decide)
section DUTY
variable {d : Nat} {M : AM} {σ σ' : MS} {K : KD} {Q : Option Value → AM → Prop}
theorem m_hasBoat_l (hM : MK σ K) {ls : List Nat} (h29 : σ.1 29 = nI (bitsM ls)) (hls : ∀ l, l ∈ ls → LV K l) : ∀ (n i : Nat), i + n = 9 → Wp d md_216 2 [some (.ref 287), some (.int (nI i))] [] (mset M σ) (IsR (some (.int (bI (fnd (fun l => ls.contains l && decide (kl K l 5 = 2)) n i).isSome))) (mset M σ)) := by
  have ok := hM.2.1
  have hb := bits_lt (fun l hl => LV_8 ok (hls l hl))
  intro n
  induction n with
  | zero =>
    intro i hi
    refine Wp.n (pc' := 5) 2 rfl ?_
    refine Wp.nc4 (x := i) (y := 8) (tgt := 43) (len := 3) rfl (by omega) (by omega) (fun h5 => ?_) (fun h5 => ?_)
    · skip
      refine Wp.n (pc' := 44) 1 rfl ?_
      refine Wp.retZ (len := 1) (c := false) rfl rfl rfl ?_
      exact ⟨rfl, rfl⟩
    · omega
  | succ n ih =>
    intro i hi
    have ht := bits_tb ls i
    have hw := ih (i + 1) (by omega)
    unfold fnd
    refine Wp.n (pc' := 5) 2 rfl ?_
    refine Wp.nc4 (x := i) (y := 8) (tgt := 43) (len := 3) rfl (by first | omega | (rw [ht]; cases ls.contains i <;> decide) | (have := ok_lane ok hl; omega)) (by first | omega | (rw [ht]; cases ls.contains i <;> decide) | (have := ok_lane ok hl; omega)) (fun h5 => ?_) (fun h5 => ?_)
    · omega
    · skip
      refine Wp.n (pc' := 12) 2 rfl ?_
      refine Wp.top h29 ?_
      refine Wp.n (pc' := 16) 4 rfl ?_
      refine Wp.top (n_bitI (by omega) (by omega)) ?_
      refine Wp.n (pc' := 17) 1 rfl ?_
      refine Wp.nc1 (x := ((bitsM ls).testBit i).toNat) (y := 1) (tgt := 37) (len := 3) rfl (by first | omega | (rw [ht]; cases ls.contains i <;> decide) | (have := ok_lane ok hl; omega)) (by first | omega | (rw [ht]; cases ls.contains i <;> decide) | (have := ok_lane ok hl; omega)) (fun h17 => ?_) (fun h17 => ?_)
      · skip
        refine Wp.incN (x := i) (len := 3) rfl rfl ?_
        refine Wp.n (pc' := 2) 1 rfl ?_
        first
          | (rw [if_neg (by rw [hc, decide_eq_false h32]; decide)]; exact hw)
          | (have hc : ls.contains i = false := by
               rw [ht] at h17
               cases e : ls.contains i with
               | false => rfl
               | true => rw [e] at h17; exact absurd rfl h17
             rw [if_neg (by rw [hc, Bool.false_and]; decide)]
             exact hw)
      · skip
        have hc : ls.contains i = true := by
          rw [ht] at h17
          cases e : ls.contains i with
          | true => rfl
          | false => rw [e] at h17; exact absurd h17 (by decide)
        have hl := hls i (List.contains_iff_mem.mp hc)
        refine Wp.n (pc' := 27) 4 rfl ?_
        refine Wp.imulN (x := 7) (y := i) (len := 1) rfl ?_
        refine Wp.n (pc' := 29) 1 rfl ?_
        refine Wp.iaddN (x := 7 * i) (y := 5) (len := 1) rfl ?_
        refine Wp.mialdN (j := (7 * i) + 5) (len := 1) rfl rfl rfl (by omega) ?_
        refine Wp.top (r0_lane hM.1 hl (j := 5) (by decide) (by omega)) ?_
        refine Wp.n (pc' := 32) 1 rfl ?_
        refine Wp.nc1 (x := kl K i 5) (y := 2) (tgt := 37) (len := 3) rfl (by first | omega | (rw [ht]; cases ls.contains i <;> decide) | (have := ok_lane ok hl; omega)) (by first | omega | (rw [ht]; cases ls.contains i <;> decide) | (have := ok_lane ok hl; omega)) (fun h32 => ?_) (fun h32 => ?_)
        · skip
          refine Wp.incN (x := i) (len := 3) rfl rfl ?_
          refine Wp.n (pc' := 2) 1 rfl ?_
          first
            | (rw [if_neg (by rw [hc, decide_eq_false h32]; decide)]; exact hw)
            | (have hc : ls.contains i = false := by
                 rw [ht] at h17
                 cases e : ls.contains i with
                 | false => rfl
                 | true => rw [e] at h17; exact absurd rfl h17
               rw [if_neg (by rw [hc, Bool.false_and]; decide)]
               exact hw)
        · skip
          refine Wp.n (pc' := 36) 1 rfl ?_
          refine Wp.retZ (len := 1) (c := true) rfl rfl rfl ?_
          rw [if_pos (by rw [hc, decide_eq_true h32]; rfl)]
          exact ⟨rfl, rfl⟩

theorem m_hasBoat (hM : MK σ K) {ls : List Nat} (h29 : σ.1 29 = nI (bitsM ls)) (hls : ∀ l, l ∈ ls → LV K l) : Ev d md_216 0 [some (.ref 287), none] [] (mset M σ) (some (.int (bI (boatK K ls))), mset M σ) := by
  refine Wp.toEv ?_
  rw [← boat_fnd (fun l hl => LV_8 hM.2.1 (hls l hl))]
  refine Wp.n (pc' := 2) 2 rfl ?_
  exact m_hasBoat_l hM h29 hls 9 0 (by omega)
/-- the row holds the places P -/
def RW (σ : MS) (m : Nat) (P : Nat → Nat) : Prop := σ.1 27 = nI m ∧ ∀ i, i < m → σ.2.2.1 14 i = nI (P i)
theorem m_savedOf (hM : MK σ K) {m len : Nat} {P : Nat → Nat} (hW : RW σ m P) (hm1 : 1 ≤ m) (hm7 : m ≤ 7) (hP : ∀ i, i < m → P i < kh K 0) (hlen : len ≤ 2000) (h28 : σ.1 28 = nI len) {y : Int32} : Wp (d + 2) md_212 0 [some (.ref 287), some (.int y), none] [] (mset M σ) (fun v M' => v = some (.int (nI (savK K (P 0) (P (m - 1)) len))) ∧ ∃ h, M' = mset M (aset σ 13 h)) := by
  have ok := hM.2.1
  obtain ⟨b0, b1, b2, b3, b4, b5, b6, b7, b8, b9, b10, b11, b12⟩ := ok_h ok
  have p0 := hP 0 (by omega)
  have p1 := hP (m - 1) (by omega)
  have hd := dist_le ok (P 0) (P (m - 1))
  unfold savK
  by_cases c : distK K (P 0) (P (m - 1)) < 1000000
  · rw [if_pos c]
    have e1 : dI (distK K (P 0) (P (m - 1))) = nI (distK K (P 0) (P (m - 1))) := if_pos c
    refine Wp.n (pc' := 6) 4 rfl ?_
    refine Wp.mialdN (j := 0) (len := 1) rfl rfl rfl (by omega) ?_
    refine Wp.top (hW.2 0 (by omega)) ?_
    refine Wp.n (pc' := 15) 4 rfl ?_
    refine Wp.top hW.1 ?_
    refine Wp.n (pc' := 16) 1 rfl ?_
    refine Wp.isubN (x := m) (y := 1) (len := 1) rfl (by omega) ?_
    refine Wp.mialdN (j := m - 1) (len := 1) rfl rfl rfl (by omega) ?_
    refine Wp.top (hW.2 (m - 1) (by omega)) ?_
    refine Wp.callV (len := 3) rfl rfl rfl (rfl) rfl (by decide) rfl (m_byRoad hM.1 ok p0 (by omega)) ?_
    rintro _ _ ⟨rfl, h, rfl, hh⟩
    refine Wp.top e1 ?_
    refine Wp.n (pc' := 24) 3 rfl ?_
    refine Wp.ic0 (tgt := 35) (len := 3) rfl (fun h24 => ?_) (fun h24 => ?_)
    · exact absurd h24 (oI_ne (by omega))
    · skip
      refine Wp.n (pc' := 32) 3 rfl ?_
      refine Wp.top h28 ?_
      refine Wp.nc3 (x := distK K (P 0) (P (m - 1))) (y := len) (tgt := 39) (len := 3) rfl (by omega) (by omega) (fun h32 => ?_) (fun h32 => ?_)
      · skip
        refine Wp.n (pc' := 44) 3 rfl ?_
        refine Wp.top h28 ?_
        refine Wp.isubN (x := distK K (P 0) (P (m - 1))) (y := len) (len := 1) rfl (by omega) ?_
        refine Wp.retI (len := 1) rfl rfl ?_
        first | exact ⟨rfl, h, rfl⟩ | (rw [show distK K (P 0) (P (m - 1)) - len = 0 by omega]; exact ⟨rfl, h, rfl⟩)
      · skip
        refine Wp.n (pc' := 45) 2 rfl ?_
        refine Wp.retI (len := 1) rfl rfl ?_
        first | exact ⟨rfl, h, rfl⟩ | (rw [show distK K (P 0) (P (m - 1)) - len = 0 by omega]; exact ⟨rfl, h, rfl⟩)
  · rw [if_neg c]
    have e1 : dI (distK K (P 0) (P (m - 1))) = -1 := if_neg c
    refine Wp.n (pc' := 6) 4 rfl ?_
    refine Wp.mialdN (j := 0) (len := 1) rfl rfl rfl (by omega) ?_
    refine Wp.top (hW.2 0 (by omega)) ?_
    refine Wp.n (pc' := 15) 4 rfl ?_
    refine Wp.top hW.1 ?_
    refine Wp.n (pc' := 16) 1 rfl ?_
    refine Wp.isubN (x := m) (y := 1) (len := 1) rfl (by omega) ?_
    refine Wp.mialdN (j := m - 1) (len := 1) rfl rfl rfl (by omega) ?_
    refine Wp.top (hW.2 (m - 1) (by omega)) ?_
    refine Wp.callV (len := 3) rfl rfl rfl (rfl) rfl (by decide) rfl (m_byRoad hM.1 ok p0 (by omega)) ?_
    rintro _ _ ⟨rfl, h, rfl, hh⟩
    refine Wp.top e1 ?_
    refine Wp.n (pc' := 24) 3 rfl ?_
    refine Wp.ic0 (tgt := 35) (len := 3) rfl (fun h24 => ?_) (fun h24 => ?_)
    · skip
      refine Wp.n (pc' := 45) 2 rfl ?_
      refine Wp.retI (len := 1) rfl rfl ?_
      exact ⟨rfl, h, rfl⟩
    · exact absurd rfl h24

theorem m_dutyOf (hM : MK σ K) {m len y load : Nat} {P : Nat → Nat} {ls : List Nat} (hW : RW σ m P) (hm1 : 1 ≤ m) (hm7 : m ≤ 7) (hP : ∀ i, i < m → P i < kh K 0) (hlen : len ≤ 2000) (h28 : σ.1 28 = nI len) (h29 : σ.1 29 = nI (bitsM ls)) (hls : ∀ l, l ∈ ls → LV K l) (hy : y < 31) (hload : load ≤ 9) : Wp (d + 3) md_215 0 [some (.ref 287), some (.int (nI y)), some (.int (nI load)), none] [] (mset M σ) (fun v M' => v = some (.int (nI (dutyS K (boatK K ls) (savK K (P 0) (P (m - 1)) len) y load))) ∧ ∃ h, M' = mset M (aset σ 13 h)) := by
  have ok := hM.2.1
  obtain ⟨b0, b1, b2, b3, b4, b5, b6, b7, b8, b9, b10, b11, b12⟩ := ok_h ok
  have p0 := hP 0 (by omega)
  have hs := savK_b (b := P (m - 1)) (len := len) ok p0
  have e0 : mset M σ = mset M (aset σ 13 (σ.2.2.1 13)) := by rw [aset_same]
  have l0 : σ.2.2.1 7 0 = nI (kh K 6) := r0_law hM.1 (by omega) (j := 0) (by decide)
  have l1 : σ.2.2.1 7 1 = nI (kh K 7) := r0_law hM.1 (by omega) (j := 1) (by decide)
  have l3 : σ.2.2.1 7 3 = nI (kh K 9) := r0_law hM.1 (by omega) (j := 3) (by decide)
  have l4 : σ.2.2.1 7 4 = nI (kh K 10) := r0_law hM.1 (by omega) (j := 4) (by decide)
  unfold dutyS
  refine Wp.n (pc' := 1) 1 rfl ?_
  refine Wp.ecallV (len := 3) rfl rfl rfl (rfl) rfl (by decide) rfl (m_hasBoat hM h29 hls) ?_
  refine Wp.ifb1 (tgt := 25) (len := 3) rfl (fun h4 => ?_) (fun h4 => ?_)
  · skip
    refine Wp.n (pc' := 26) 1 rfl ?_
    refine Wp.retI (len := 1) rfl rfl ?_
    first
      | (rw [if_pos (Or.inl (by assumption))]; exact ⟨rfl, _, e0⟩)
      | (rw [if_pos (Or.inr ⟨by omega, by omega⟩)]; exact ⟨rfl, _, e0⟩)
  · skip
    refine Wp.n (pc' := 12) 3 rfl ?_
    refine Wp.mialdN (j := 3) (len := 1) rfl rfl rfl (by omega) ?_
    refine Wp.top l3 ?_
    refine Wp.nz1 (x := kh K 9) (tgt := 27) (len := 3) rfl (by omega) (fun h13 => ?_) (fun h13 => ?_)
    · skip
      refine Wp.n (pc' := 29) 2 rfl ?_
      refine Wp.callV (len := 3) rfl rfl rfl (rfl) rfl (by decide) rfl (m_savedOf hM hW hm1 hm7 hP hlen h28) ?_
      rintro _ _ ⟨rfl, h, rfl⟩
      generalize savK K (P 0) (P (m - 1)) len = sv at hs ⊢
      refine Wp.n (pc' := 37) 3 rfl ?_
      refine Wp.mialdN (j := 1) (len := 1) rfl rfl rfl (by omega) ?_
      refine Wp.top l1 ?_
      by_cases c : kh K 7 ≤ sv
      · skip
        refine Wp.isubN (x := sv) (y := kh K 7) (len := 1) rfl (by omega) ?_
        refine Wp.n (pc' := 41) 2 rfl ?_
        refine Wp.nz4 (x := sv - (kh K 7)) (tgt := 48) (len := 3) rfl (by omega) (fun h41 => ?_) (fun h41 => ?_)
        · skip
          refine Wp.n (pc' := 54) 4 rfl ?_
          refine Wp.mialdN (j := 0) (len := 1) rfl rfl rfl (by omega) ?_
          refine Wp.top l0 ?_
          refine Wp.imulN (x := sv - (kh K 7)) (y := kh K 6) (len := 1) rfl ?_
          refine Wp.n (pc' := 61) 3 rfl ?_
          refine Wp.mialdN (j := 4) (len := 1) rfl rfl rfl (by omega) ?_
          refine Wp.top l4 ?_
          refine Wp.n (pc' := 63) 1 rfl ?_
          refine Wp.nc1 (x := kh K 10) (y := 1) (tgt := 70) (len := 3) rfl (by omega) (by omega) (fun h63 => ?_) (fun h63 => ?_)
          · skip
            refine Wp.n (pc' := 71) 1 rfl ?_
            refine Wp.imulN (x := (sv - (kh K 7)) * (kh K 6)) (y := 1) (len := 1) rfl ?_
            refine Wp.retI (len := 1) rfl rfl ?_
            rw [if_neg (by rintro (q | q); exact absurd (q.symm.trans h4) (by decide); omega)]
            first
              | (rw [show sv - kh K 7 = 0 by omega, Nat.zero_mul, Nat.zero_mul]; exact ⟨rfl, h, rfl⟩)
              | (rw [if_pos (by omega)]; exact ⟨rfl, h, rfl⟩)
              | (rw [if_neg (by omega)]; exact ⟨rfl, h, rfl⟩)
          · skip
            refine Wp.n (pc' := 71) 2 rfl ?_
            refine Wp.imulN (x := (sv - (kh K 7)) * (kh K 6)) (y := load) (len := 1) rfl ?_
            refine Wp.retI (len := 1) rfl rfl ?_
            rw [if_neg (by rintro (q | q); exact absurd (q.symm.trans h4) (by decide); omega)]
            first
              | (rw [show sv - kh K 7 = 0 by omega, Nat.zero_mul, Nat.zero_mul]; exact ⟨rfl, h, rfl⟩)
              | (rw [if_pos (by omega)]; exact ⟨rfl, h, rfl⟩)
              | (rw [if_neg (by omega)]; exact ⟨rfl, h, rfl⟩)
        · skip
          refine Wp.n (pc' := 72) 2 rfl ?_
          refine Wp.retI (len := 1) rfl rfl ?_
          rw [if_neg (by rintro (q | q); exact absurd (q.symm.trans h4) (by decide); omega)]
          first
            | (rw [show sv - kh K 7 = 0 by omega, Nat.zero_mul, Nat.zero_mul]; exact ⟨rfl, h, rfl⟩)
            | (rw [if_pos (by omega)]; exact ⟨rfl, h, rfl⟩)
            | (rw [if_neg (by omega)]; exact ⟨rfl, h, rfl⟩)
      · skip
        refine Wp.n (pc' := 41) 3 rfl ?_
        refine Wp.if4 (tgt := 48) (len := 3) rfl (fun h41 => ?_) (fun h41 => ?_)
        · exact absurd h41 (n_subneg (by omega) (by omega) (by omega))
        · skip
          refine Wp.n (pc' := 72) 2 rfl ?_
          refine Wp.retI (len := 1) rfl rfl ?_
          rw [if_neg (by rintro (q | q); exact absurd (q.symm.trans h4) (by decide); omega)]
          first
            | (rw [show sv - kh K 7 = 0 by omega, Nat.zero_mul, Nat.zero_mul]; exact ⟨rfl, h, rfl⟩)
            | (rw [if_pos (by omega)]; exact ⟨rfl, h, rfl⟩)
            | (rw [if_neg (by omega)]; exact ⟨rfl, h, rfl⟩)
    · skip
      refine Wp.n (pc' := 19) 2 rfl ?_
      refine Wp.s (pc' := 20) rfl ?_
      refine Wp.top (pk_rem (by omega) (by decide) (by decide)) ?_
      refine Wp.n (pc' := 22) 1 rfl ?_
      refine Wp.nc1 (x := y % 7) (y := 6) (tgt := 27) (len := 3) rfl (by omega) (by omega) (fun h22 => ?_) (fun h22 => ?_)
      · skip
        refine Wp.n (pc' := 29) 2 rfl ?_
        refine Wp.callV (len := 3) rfl rfl rfl (rfl) rfl (by decide) rfl (m_savedOf hM hW hm1 hm7 hP hlen h28) ?_
        rintro _ _ ⟨rfl, h, rfl⟩
        generalize savK K (P 0) (P (m - 1)) len = sv at hs ⊢
        refine Wp.n (pc' := 37) 3 rfl ?_
        refine Wp.mialdN (j := 1) (len := 1) rfl rfl rfl (by omega) ?_
        refine Wp.top l1 ?_
        by_cases c : kh K 7 ≤ sv
        · skip
          refine Wp.isubN (x := sv) (y := kh K 7) (len := 1) rfl (by omega) ?_
          refine Wp.n (pc' := 41) 2 rfl ?_
          refine Wp.nz4 (x := sv - (kh K 7)) (tgt := 48) (len := 3) rfl (by omega) (fun h41 => ?_) (fun h41 => ?_)
          · skip
            refine Wp.n (pc' := 54) 4 rfl ?_
            refine Wp.mialdN (j := 0) (len := 1) rfl rfl rfl (by omega) ?_
            refine Wp.top l0 ?_
            refine Wp.imulN (x := sv - (kh K 7)) (y := kh K 6) (len := 1) rfl ?_
            refine Wp.n (pc' := 61) 3 rfl ?_
            refine Wp.mialdN (j := 4) (len := 1) rfl rfl rfl (by omega) ?_
            refine Wp.top l4 ?_
            refine Wp.n (pc' := 63) 1 rfl ?_
            refine Wp.nc1 (x := kh K 10) (y := 1) (tgt := 70) (len := 3) rfl (by omega) (by omega) (fun h63 => ?_) (fun h63 => ?_)
            · skip
              refine Wp.n (pc' := 71) 1 rfl ?_
              refine Wp.imulN (x := (sv - (kh K 7)) * (kh K 6)) (y := 1) (len := 1) rfl ?_
              refine Wp.retI (len := 1) rfl rfl ?_
              rw [if_neg (by rintro (q | q); exact absurd (q.symm.trans h4) (by decide); omega)]
              first
                | (rw [show sv - kh K 7 = 0 by omega, Nat.zero_mul, Nat.zero_mul]; exact ⟨rfl, h, rfl⟩)
                | (rw [if_pos (by omega)]; exact ⟨rfl, h, rfl⟩)
                | (rw [if_neg (by omega)]; exact ⟨rfl, h, rfl⟩)
            · skip
              refine Wp.n (pc' := 71) 2 rfl ?_
              refine Wp.imulN (x := (sv - (kh K 7)) * (kh K 6)) (y := load) (len := 1) rfl ?_
              refine Wp.retI (len := 1) rfl rfl ?_
              rw [if_neg (by rintro (q | q); exact absurd (q.symm.trans h4) (by decide); omega)]
              first
                | (rw [show sv - kh K 7 = 0 by omega, Nat.zero_mul, Nat.zero_mul]; exact ⟨rfl, h, rfl⟩)
                | (rw [if_pos (by omega)]; exact ⟨rfl, h, rfl⟩)
                | (rw [if_neg (by omega)]; exact ⟨rfl, h, rfl⟩)
          · skip
            refine Wp.n (pc' := 72) 2 rfl ?_
            refine Wp.retI (len := 1) rfl rfl ?_
            rw [if_neg (by rintro (q | q); exact absurd (q.symm.trans h4) (by decide); omega)]
            first
              | (rw [show sv - kh K 7 = 0 by omega, Nat.zero_mul, Nat.zero_mul]; exact ⟨rfl, h, rfl⟩)
              | (rw [if_pos (by omega)]; exact ⟨rfl, h, rfl⟩)
              | (rw [if_neg (by omega)]; exact ⟨rfl, h, rfl⟩)
        · skip
          refine Wp.n (pc' := 41) 3 rfl ?_
          refine Wp.if4 (tgt := 48) (len := 3) rfl (fun h41 => ?_) (fun h41 => ?_)
          · exact absurd h41 (n_subneg (by omega) (by omega) (by omega))
          · skip
            refine Wp.n (pc' := 72) 2 rfl ?_
            refine Wp.retI (len := 1) rfl rfl ?_
            rw [if_neg (by rintro (q | q); exact absurd (q.symm.trans h4) (by decide); omega)]
            first
              | (rw [show sv - kh K 7 = 0 by omega, Nat.zero_mul, Nat.zero_mul]; exact ⟨rfl, h, rfl⟩)
              | (rw [if_pos (by omega)]; exact ⟨rfl, h, rfl⟩)
              | (rw [if_neg (by omega)]; exact ⟨rfl, h, rfl⟩)
      · skip
        refine Wp.n (pc' := 26) 1 rfl ?_
        refine Wp.retI (len := 1) rfl rfl ?_
        first
          | (rw [if_pos (Or.inl (by assumption))]; exact ⟨rfl, _, e0⟩)
          | (rw [if_pos (Or.inr ⟨by omega, by omega⟩)]; exact ⟨rfl, _, e0⟩)

theorem m_dutyOf1 (hM : MK σ K) {w : Nat} {P : Nat → Nat} (hw : w < kh K 4) (hP : P = fun i => kw K w (4 + i)) (hW : RW σ (kw K w 3) P) {s : Nat × List Nat} (hs : SB K 6 s) (hL : LKs σ K s) : Wp (d + 4) md_214 0 [some (.ref 287), some (.int (nI w))] [] (mset M σ) (fun v M' => v = some (.int (nI (dutyS K (boatK K s.2) (savK K (kw K w 4) (kw K w (3 + kw K w 3)) s.1) (kw K w 2) (kw K w 1)))) ∧ ∃ h, M' = mset M (aset σ 13 h)) := by
  have ok := hM.2.1
  obtain ⟨b0, b1, b2, b3, b4, b5, b6, b7, b8, b9, b10, b11, b12⟩ := ok_h ok
  have t := ok_walk ok hw
  have w1 := r0_walk hM.1 hw (j := 1) (q := 11 * w + 1) (by decide) (by omega)
  have w2 := r0_walk hM.1 hw (j := 2) (q := 11 * w + 2) (by decide) (by omega)
  have e1 : P (kw K w 3 - 1) = kw K w (3 + kw K w 3) := by rw [hP]; show kw K w (4 + (kw K w 3 - 1)) = _; rw [show 4 + (kw K w 3 - 1) = 3 + kw K w 3 by omega]
  have e2 : P 0 = kw K w 4 := by rw [hP]
  rw [← e1, ← e2]
  refine Wp.n (pc' := 4) 4 rfl ?_
  refine Wp.ecallV (len := 3) rfl rfl rfl (rfl) rfl (by decide) rfl (m_of σ w 2 (by omega)) ?_
  refine Wp.top w2 ?_
  refine Wp.n (pc' := 10) 3 rfl ?_
  refine Wp.ecallV (len := 3) rfl rfl rfl (rfl) rfl (by decide) rfl (m_of σ w 1 (by omega)) ?_
  refine Wp.top w1 ?_
  refine Wp.callV (len := 3) rfl rfl rfl (rfl) rfl (by decide) rfl (m_dutyOf hM hW (by omega) (by omega) (fun i hi => by rw [hP]; exact t.2.2.2.2.2.2.1 i hi) (by have := hs.1; omega) hL.1 hL.2.1 hs.2.2 (by omega) (by omega)) ?_
  rintro _ _ ⟨rfl, h, rfl⟩
  refine Wp.retI (len := 1) rfl rfl ?_
  exact ⟨rfl, h, rfl⟩

end DUTY
