/-! LINES: the first, roads; what they make of a kingdom; the reference. -/
def K0 : KD := (fun i => if i = 9 then 1 else 0, fun _ _ => 0, fun _ _ => 0, fun _ _ => 0)
def pf1 (T : TP) (st : St) : St := wdS T 4398346831 st
def pf2 (T : TP) (st : St) : St := nmS T 2 7 (wdS T 235981828 (pf1 T st))
def pf3 (T : TP) (st : St) : St := nmS T 1 30 (wdS T 80155 (pf2 T st))
def pf4 (T : TP) (st : St) : St := nmS T 0 99 (wdS T 355568 (pf3 T st))
def pf5 (T : TP) (st : St) : St := nmS T 0 99 (wdS T 131360 (pf4 T st))
def pf6 (T : TP) (st : St) : St := nmS T 0 99 (wdS T 400577 (pf5 T st))
def firK (T : TP) (st : St) : KD := (fun i => if i = 0 then nmV T (wdS T 235981828 (pf1 T st)) else if i = 1 then nmV T (wdS T 80155 (pf2 T st)) else if i = 6 then nmV T (wdS T 355568 (pf3 T st)) else if i = 7 then nmV T (wdS T 131360 (pf4 T st)) else if i = 8 then nmV T (wdS T 400577 (pf5 T st)) else if i = 9 then 1 else 0, fun _ _ => 0, fun _ _ => 0, fun _ _ => 0)
def rd1 (T : TP) (K : KD) (st : St) : St := nmS T 0 (kh K 0 - 1) st
def rd2 (T : TP) (K : KD) (st : St) : St := wdS T 555 (rd1 T K st)
def rdo (T : TP) (K : KD) (st : St) (v : Nat) : Bool := decide (v ≠ nmV T st) && !(roadK K (nmV T st) v).isSome
def rd3 (T : TP) (K : KD) (st : St) : St := otS T (kh K 0) (rdo T K st) (rd2 T K st)
def rd4 (T : TP) (K : KD) (st : St) : St := nmS T 1 30 (rd3 T K st)
def addR (K : KD) (a b c : Nat) : KD := (fun i => if i = 2 then kh K 2 + 1 else kh K i, fun i => if i = kh K 2 then (fun j => if j = 0 then a else if j = 1 then b else c) else kr K i, K.2.2)
def rdK (T : TP) (K : KD) (st : St) : KD := addR K (nmV T st) (nmV T (rd2 T K st)) (nmV T (rd3 T K st))
theorem gd_nm {T : TP} {lo hi : Nat} {st : St} (h : gd (nmS T lo hi st) = true) : gd st = true := by
  rcases st with x | s
  · cases h
  · rfl
theorem gd_wd {T : TP} {w : Nat} {st : St} (h : gd (wdS T w st) = true) : gd st = true := by
  rcases st with x | s
  · cases h
  · rfl
theorem gd_ot {T : TP} {P : Nat} {ok : Nat → Bool} {st : St} (h : gd (otS T P ok st) = true) : gd st = true := by
  rcases st with x | s
  · cases h
  · rfl
/-- the reference's draft holds K -/
def BM (σ : MS) (K : KD) : Prop := RepM σ 4 K ∧ (∀ j, j < 5 → σ.2.2.1 7 (20 + j) = nI (kh K (6 + j))) ∧ kh K 11 = 0
/-- only the draft and the reading differ -/
def FrK (σ σ' : MS) : Prop := (∀ j, List.elem j [7, 8, 9, 10, 12, 13] = false → σ'.1 j = σ.1 j) ∧ (∀ k, List.elem k [5, 6, 7, 9, 10, 11] = false → σ'.2.2.1 k = σ.2.2.1 k) ∧ (∀ k, k ≠ 8 → σ'.2.2.2 k = σ.2.2.2 k) ∧ (∀ q, q < 4 → σ'.2.2.2 8 q = σ.2.2.2 8 q ∧ σ'.2.2.1 5 q = σ.2.2.1 5 q) ∧ (∀ q, q < 20 → σ'.2.2.1 6 q = σ.2.2.1 6 q ∧ σ'.2.2.1 7 q = σ.2.2.1 7 q) ∧ (∀ q, q < 144 → σ'.2.2.1 9 q = σ.2.2.1 9 q) ∧ (∀ q, q < 252 → σ'.2.2.1 10 q = σ.2.2.1 10 q) ∧ (∀ q, q < 440 → σ'.2.2.1 11 q = σ.2.2.1 11 q)
theorem FrK.r {σ : MS} : FrK σ σ := ⟨fun _ _ => rfl, fun _ _ => rfl, fun _ _ => rfl, fun _ _ => ⟨rfl, rfl⟩, fun _ _ => ⟨rfl, rfl⟩, fun _ _ => rfl, fun _ _ => rfl, fun _ _ => rfl⟩
theorem FrK.t {σ σ' σ'' : MS} (h : FrK σ σ') (h' : FrK σ' σ'') : FrK σ σ'' := ⟨fun j hj => (h'.1 j hj).trans (h.1 j hj), fun j hj => (h'.2.1 j hj).trans (h.2.1 j hj), fun j hj => (h'.2.2.1 j hj).trans (h.2.2.1 j hj), fun q hq => ⟨(h'.2.2.2.1 q hq).1.trans (h.2.2.2.1 q hq).1, (h'.2.2.2.1 q hq).2.trans (h.2.2.2.1 q hq).2⟩, fun q hq => ⟨(h'.2.2.2.2.1 q hq).1.trans (h.2.2.2.2.1 q hq).1, (h'.2.2.2.2.1 q hq).2.trans (h.2.2.2.2.1 q hq).2⟩, fun q hq => (h'.2.2.2.2.2.1 q hq).trans (h.2.2.2.2.2.1 q hq), fun q hq => (h'.2.2.2.2.2.2.1 q hq).trans (h.2.2.2.2.2.2.1 q hq), fun q hq => (h'.2.2.2.2.2.2.2 q hq).trans (h.2.2.2.2.2.2.2 q hq)⟩
theorem FrB.k {σ σ' : MS} (h : FrB σ σ') : FrK σ σ' := ⟨h.1, fun k _ => by rw [h.2], fun k _ => by rw [h.2], fun q _ => by rw [h.2]; exact ⟨rfl, rfl⟩, fun q _ => by rw [h.2]; exact ⟨rfl, rfl⟩, fun q _ => by rw [h.2], fun q _ => by rw [h.2], fun q _ => by rw [h.2]⟩
theorem FrK.T {σ σ' : MS} {T : TP} (h : FrK σ σ') (hT : TM σ T) : TM σ' T := ⟨(h.1 6 rfl).trans hT.1, hT.2.1, fun i hi => by rw [h.2.1 4 rfl]; exact hT.2.2 i hi⟩
/-- a cell of the draft -/
def dcl (k q : Nat) : Prop := (k = 5 ∧ 4 ≤ q) ∨ ((k = 6 ∨ k = 7) ∧ 20 ≤ q) ∨ (k = 9 ∧ 144 ≤ q) ∨ (k = 10 ∧ 252 ≤ q) ∨ (k = 11 ∧ 440 ≤ q)
theorem FrK.a {σ : MS} {k q : Nat} {x : Int32} (h : dcl k q) : FrK σ (aset σ k (upd (σ.2.2.1 k) q x)) := by
  have e : ∀ i j, (i ≠ k ∨ j ≠ q) → va_up σ.2.2.1 k (upd (σ.2.2.1 k) q x) i j = σ.2.2.1 i j := by
    intro i j hij
    by_cases c : i = k
    · subst c
      rw [va_up_self]
      exact pk_un (by rcases hij with z | z; · exact absurd rfl z
                      · exact z)
    · rw [va_up_ne _ _ c]
  unfold dcl at h
  refine ⟨fun _ _ => rfl, fun i hi => ?_, fun _ _ => rfl, fun j hj => ⟨rfl, e 5 j (by omega)⟩, fun j hj => ⟨e 6 j (by omega), e 7 j (by omega)⟩, fun j hj => e 9 j (by omega), fun j hj => e 10 j (by omega), fun j hj => e 11 j (by omega)⟩
  refine va_up_ne _ _ (fun c => ?_)
  rw [c] at hi
  rcases h with ⟨rfl, _⟩ | ⟨rfl | rfl, _⟩ | ⟨rfl, _⟩ | ⟨rfl, _⟩ | ⟨rfl, _⟩ <;> cases hi
theorem FrK.rep {σ σ' : MS} {s : Nat} {K : KD} (h : FrK σ σ') (hs : s < 4) (ok : KOK K) (hR : RepM σ s K) : RepM σ' s K := by
  obtain ⟨b0, b1, b2, b3, b4, b5, b6, b7, b8, b9, b10, b11, b12⟩ := ok_h ok
  have c8 : ∀ i, i < kh K 4 → kw K i 3 ≤ 7 := fun i hi => (ok.2.2.2.2.2.2.2.2.2.2.2.2.2.2.2.2.1 i hi).2.2.2.2.2.1
  refine ⟨fun j hj => ?_, fun h0 j hj => ?_, ?_, ?_, fun i hi j hj => ?_, fun i hi j hj => ?_, fun i hi => ⟨fun j hj => ?_, fun j hj => ?_⟩⟩
  · rw [(h.2.2.2.2.1 _ (by omega)).1]; exact hR.1 j hj
  · rw [(h.2.2.2.2.1 _ (by omega)).2]; exact hR.2.1 h0 j hj
  · rw [(h.2.2.2.1 _ (by omega)).2]; exact hR.2.2.1
  · rw [(h.2.2.2.1 _ (by omega)).1]; exact hR.2.2.2.1
  · rw [h.2.2.2.2.2.1 _ (by omega)]; exact hR.2.2.2.2.1 i hi j hj
  · rw [h.2.2.2.2.2.2.1 _ (by omega)]; exact hR.2.2.2.2.2.1 i hi j hj
  · rw [h.2.2.2.2.2.2.2 _ (by omega)]; exact (hR.2.2.2.2.2.2 i hi).1 j hj
  · have := c8 i hi
    rw [h.2.2.2.2.2.2.2 _ (by omega)]; exact (hR.2.2.2.2.2.2 i hi).2 j hj
def btI (f : Nat → Int32) (q : Nat) (a b : Int32) : Bool := decide ((f q = a ∧ f (q + 1) = b) ∨ (f q = b ∧ f (q + 1) = a))
/-- a line read, its state and its kingdom -/
def RLn (M : AM) (σ : MS) (T : TP) (st : St) (K : KD) : Option Value → AM → Prop := fun v M' => v = none ∧ ∃ σ', M' = mset M σ' ∧ FrK σ σ' ∧ LM σ' T st ∧ (gd st = true → BM σ' K)
section LNS
variable {d : Nat} {M : AM} {σ σ' : MS} {T : TP} {st : St} {K : KD} {Q : Option Value → AM → Prop}
theorem m_btI {q : Nat} (hq : q + 1 < 180) (a b : Int32) : Ev d md_177 0 [some (.ref 297), some (.int (nI q)), some (.int a), some (.int b)] [] (mset M σ) (some (.int (bI (btI (σ.2.2.1 9) q a b))), mset M σ) := by
  refine Wp.toEv ?_
  refine Wp.n (pc' := 2) 2 rfl ?_
  refine Wp.mialdN (j := q) (len := 1) rfl rfl rfl (by omega) ?_
  refine Wp.n (pc' := 4) 1 rfl ?_
  refine Wp.ic1 (tgt := 16) (len := 3) rfl (fun h4 => ?_) (fun h4 => ?_)
  · skip
    refine Wp.n (pc' := 18) 2 rfl ?_
    refine Wp.mialdN (j := q) (len := 1) rfl rfl rfl (by omega) ?_
    refine Wp.n (pc' := 20) 1 rfl ?_
    refine Wp.ic1 (tgt := 36) (len := 3) rfl (fun h20 => ?_) (fun h20 => ?_)
    · skip
      refine Wp.n (pc' := 37) 1 rfl ?_
      refine Wp.retZ (len := 1) (c := false) rfl rfl rfl ?_
      refine ⟨?_, rfl⟩
      unfold btI
      simp_all [bI]
    · skip
      refine Wp.n (pc' := 26) 3 rfl ?_
      refine Wp.iaddN (x := q) (y := 1) (len := 1) rfl ?_
      refine Wp.mialdN (j := q + 1) (len := 1) rfl rfl rfl (by omega) ?_
      refine Wp.n (pc' := 29) 1 rfl ?_
      refine Wp.ic1 (tgt := 36) (len := 3) rfl (fun h29 => ?_) (fun h29 => ?_)
      · skip
        refine Wp.n (pc' := 37) 1 rfl ?_
        refine Wp.retZ (len := 1) (c := false) rfl rfl rfl ?_
        refine ⟨?_, rfl⟩
        unfold btI
        simp_all [bI]
      · skip
        refine Wp.n (pc' := 37) 2 rfl ?_
        refine Wp.retZ (len := 1) (c := true) rfl rfl rfl ?_
        refine ⟨?_, rfl⟩
        unfold btI
        simp_all [bI]
  · skip
    refine Wp.n (pc' := 10) 3 rfl ?_
    refine Wp.iaddN (x := q) (y := 1) (len := 1) rfl ?_
    refine Wp.mialdN (j := q + 1) (len := 1) rfl rfl rfl (by omega) ?_
    refine Wp.n (pc' := 13) 1 rfl ?_
    refine Wp.ic0 (tgt := 32) (len := 3) rfl (fun h13 => ?_) (fun h13 => ?_)
    · skip
      refine Wp.n (pc' := 37) 2 rfl ?_
      refine Wp.retZ (len := 1) (c := true) rfl rfl rfl ?_
      refine ⟨?_, rfl⟩
      unfold btI
      simp_all [bI]
    · skip
      refine Wp.n (pc' := 18) 2 rfl ?_
      refine Wp.mialdN (j := q) (len := 1) rfl rfl rfl (by omega) ?_
      refine Wp.n (pc' := 20) 1 rfl ?_
      refine Wp.ic1 (tgt := 36) (len := 3) rfl (fun h20 => ?_) (fun h20 => ?_)
      · skip
        refine Wp.n (pc' := 37) 1 rfl ?_
        refine Wp.retZ (len := 1) (c := false) rfl rfl rfl ?_
        refine ⟨?_, rfl⟩
        unfold btI
        simp_all [bI]
      · skip
        refine Wp.n (pc' := 26) 3 rfl ?_
        refine Wp.iaddN (x := q) (y := 1) (len := 1) rfl ?_
        refine Wp.mialdN (j := q + 1) (len := 1) rfl rfl rfl (by omega) ?_
        refine Wp.n (pc' := 29) 1 rfl ?_
        refine Wp.ic1 (tgt := 36) (len := 3) rfl (fun h29 => ?_) (fun h29 => ?_)
        · skip
          refine Wp.n (pc' := 37) 1 rfl ?_
          refine Wp.retZ (len := 1) (c := false) rfl rfl rfl ?_
          refine ⟨?_, rfl⟩
          unfold btI
          simp_all [bI]
        · skip
          refine Wp.n (pc' := 37) 2 rfl ?_
          refine Wp.retZ (len := 1) (c := true) rfl rfl rfl ?_
          refine ⟨?_, rfl⟩
          unfold btI
          simp_all [bI]
theorem m_isRoadTold_l {n0 : Nat} (h22 : σ.2.2.1 6 22 = nI n0) (hn0 : n0 ≤ 12) (a b : Int32) : ∀ (n i : Nat), i + n = n0 → Wp (d + 1) md_176 2 [some (.ref 287), some (.int a), some (.int b), some (.int (nI i))] [] (mset M σ) (IsR (some (.int (bI ((fnd (fun i => btI (σ.2.2.1 9) (144 + 3 * i) a b) n i).isSome)))) (mset M σ))
  | 0, i, hi => by
    refine Wp.n (pc' := 5) 3 rfl ?_
    refine Wp.ecallV (len := 3) rfl rfl rfl (rfl) rfl (by decide) rfl (m_hasRead (k := 2) (by decide)) ?_
    refine Wp.top h22 ?_
    refine Wp.nc3 (x := i) (y := n0) (tgt := 37) (len := 3) rfl (by omega) (by omega) (fun h8 => ?_) (fun h8 => ?_)
    · skip
      refine Wp.n (pc' := 38) 1 rfl ?_
      refine Wp.retZ (len := 1) (c := false) rfl rfl rfl ?_
      exact ⟨rfl, rfl⟩
    · omega
  | n + 1, i, hi => by
    have e : fnd (fun i => btI (σ.2.2.1 9) (144 + 3 * i) a b) (n + 1) i = if btI (σ.2.2.1 9) (144 + 3 * i) a b = true then some i else fnd (fun i => btI (σ.2.2.1 9) (144 + 3 * i) a b) n (i + 1) := rfl
    rw [show 144 + 3 * i = 3 * (48 + i) by omega] at e
    rw [e]
    refine Wp.n (pc' := 5) 3 rfl ?_
    refine Wp.ecallV (len := 3) rfl rfl rfl (rfl) rfl (by decide) rfl (m_hasRead (k := 2) (by decide)) ?_
    refine Wp.top h22 ?_
    refine Wp.nc3 (x := i) (y := n0) (tgt := 37) (len := 3) rfl (by omega) (by omega) (fun h8 => ?_) (fun h8 => ?_)
    · omega
    · skip
      refine Wp.n (pc' := 19) 5 rfl ?_
      refine Wp.iaddN (x := 48) (y := i) (len := 1) rfl ?_
      refine Wp.imulN (x := 3) (y := 48 + i) (len := 1) rfl ?_
      refine Wp.n (pc' := 23) 2 rfl ?_
      refine Wp.ecallS (len := 3) rfl rfl rfl rfl (m_btI (q := 3 * (48 + i)) (by omega) a b) ?_
      refine Wp.ifb0 (tgt := 31) (len := 3) rfl (fun h26 => ?_) (fun h26 => ?_)
      · skip
        refine Wp.incN (x := i) (len := 3) rfl rfl ?_
        refine Wp.n (pc' := 2) 1 rfl ?_
        rw [if_neg (by rw [h26]; decide)]
        exact m_isRoadTold_l h22 hn0 a b n (i + 1) (by omega)
      · skip
        refine Wp.n (pc' := 30) 1 rfl ?_
        refine Wp.retZ (len := 1) (c := true) rfl rfl rfl ?_
        rw [if_pos h26]
        exact ⟨rfl, rfl⟩
theorem m_isRoadTold {n0 : Nat} (h22 : σ.2.2.1 6 22 = nI n0) (hn0 : n0 ≤ 12) (a b : Int32) : Ev (d + 1) md_176 0 [some (.ref 287), some (.int a), some (.int b), none] [] (mset M σ) (some (.int (bI ((fnd (fun i => btI (σ.2.2.1 9) (144 + 3 * i) a b) n0 0).isSome))), mset M σ) := by
  refine Wp.toEv ?_
  refine Wp.n (pc' := 2) 2 rfl ?_
  exact m_isRoadTold_l h22 hn0 a b n0 0 (by omega)
theorem told_eq (hB : BM σ K) (ok : KOK K) {a b : Nat} (ha : a < 7) (hb : b < 7) : (fnd (fun i => btI (σ.2.2.1 9) (144 + 3 * i) (nI a) (nI b)) (kh K 2) 0).isSome = (roadK K a b).isSome := by
  have h := hB.1.2.2.2.2.1
  have b0 := (ok_h ok).1
  have hr := ok.2.2.2.2.2.2.2.2.2.2.2.2.2.2.1
  have e : ∀ j, j < kh K 2 → btI (σ.2.2.1 9) (144 + 3 * j) (nI a) (nI b) = btw (kr K j 0) (kr K j 1) a b := by
    intro j hj
    have e0 := h j hj 0 (by decide)
    have e1 := h j hj 1 (by decide)
    rw [show 36 * 4 + 3 * j + 0 = 144 + 3 * j by omega] at e0
    rw [show 36 * 4 + 3 * j + 1 = 144 + 3 * j + 1 by omega] at e1
    have r := hr j hj
    unfold btI btw
    rw [e0, e1]
    simp only [nI_eq (a := kr K j 0) (b := a) (by omega) (by omega), nI_eq (a := kr K j 0) (b := b) (by omega) (by omega), nI_eq (a := kr K j 1) (b := a) (by omega) (by omega), nI_eq (a := kr K j 1) (b := b) (by omega) (by omega)]
    simp
  rw [Bool.eq_iff_iff, fnd_any, show roadK K a b = fnd (fun i => btw (kr K i 0) (kr K i 1) a b) (kh K 2) 0 from rfl, fnd_any]
  constructor
  · rintro ⟨j, h1, h2, h3⟩
    exact ⟨j, h1, h2, by rw [← e j (by omega)]; exact h3⟩
  · rintro ⟨j, h1, h2, h3⟩
    exact ⟨j, h1, h2, by rw [e j (by omega)]; exact h3⟩
theorem LN_a {s k : Nat} {g : Nat → Int32} (h : LN σ T s) : LN (aset σ k g) T s := h
theorem LM_a {k : Nat} {g : Nat → Int32} (h : LM σ T st) : LM (aset σ k g) T st := by
  rcases st with x | s
  · exact h
  · exact h
theorem nm_le {lo hi : Nat} (h : gd (nmS T lo hi st) = true) : lo ≤ nmV T st ∧ nmV T st ≤ hi := by
  rcases st with x | s
  · cases h
  · by_cases c : tk T s = 2
    · by_cases c2 : lo ≤ vl T s ∧ vl T s ≤ hi
      · exact c2
      · rw [show nmS T lo hi (.inr s) = .inl (2, s) from (if_pos c).trans (if_neg c2)] at h
        cases h
    · rw [show nmS T lo hi (.inr s) = .inl (1, s) from if_neg c] at h
      cases h
theorem ot_ok {P : Nat} {ok : Nat → Bool} (h : gd (otS T P ok st) = true) : nmV T st < P ∧ ok (nmV T st) = true := by
  rcases st with x | s
  · cases h
  · by_cases c : tk T s = 2
    · by_cases c2 : vl T s < P ∧ ok (vl T s) = true
      · exact c2
      · rw [show otS T P ok (.inr s) = .inl (2, s) from (if_pos c).trans (if_neg c2)] at h
        cases h
    · rw [show otS T P ok (.inr s) = .inl (1, s) from if_neg c] at h
      cases h
theorem BM_h (hB : BM σ K) {j : Nat} (hj : j < 5) : σ.2.2.1 6 (20 + j) = nI (kh K j) := hB.1.1 j hj
theorem BM_road (hB : BM σ K) (ok : KOK K) (hr : kh K 2 < 12) {a b c : Nat} (e : ∀ k, k ≠ 6 → k ≠ 9 → σ'.2.2.1 k = σ.2.2.1 k) (el : σ'.2.2.2 = σ.2.2.2) (e6 : σ'.2.2.1 6 = upd (σ.2.2.1 6) 22 (nI (kh K 2 + 1))) (e9 : σ'.2.2.1 9 = upd (upd (upd (σ.2.2.1 9) (3 * (48 + kh K 2) + 1) (nI b)) (3 * (48 + kh K 2)) (nI a)) (3 * (48 + kh K 2) + 2) (nI c)) : BM σ' (addR K a b c) := by
  obtain ⟨⟨h1, h2, h3, h4, h5, h6, h7⟩, hl, h11⟩ := hB
  have ek : ∀ j, j ≠ 2 → kh (addR K a b c) j = kh K j := fun j hj => if_neg hj
  have e2 : kh (addR K a b c) 2 = kh K 2 + 1 := rfl
  refine ⟨⟨fun j hj => ?_, fun h0 j hj => ?_, ?_, ?_, fun i hi j hj => ?_, ?_, ?_⟩, fun j hj => ?_, (ek 11 (by decide)).trans h11⟩
  · rw [e6]
    by_cases q : j = 2
    · subst q; exact pk_us
    · rw [pk_un (by omega), ek j q]; exact h1 j hj
  · rw [e 7 (by decide) (by decide), ek (6 + j) (by omega)]; exact hl j hj
  · rw [e 5 (by decide) (by decide), ek 5 (by decide)]; exact h3
  · rw [el, ek 12 (by decide)]; exact h4
  · rw [e2] at hi
    rw [e9]
    show _ = nI ((if i = kh K 2 then (fun j => if j = 0 then a else if j = 1 then b else c) else kr K i) j)
    by_cases q : i = kh K 2
    · subst q
      rw [if_pos rfl]
      have jj : j = 0 ∨ j = 1 ∨ j = 2 := by omega
      rcases jj with rfl | rfl | rfl
      · rw [pk_un (by omega), show 36 * 4 + 3 * kh K 2 + 0 = 3 * (48 + kh K 2) by omega, pk_us]; rfl
      · rw [pk_un (by omega), pk_un (by omega), show 36 * 4 + 3 * kh K 2 + 1 = 3 * (48 + kh K 2) + 1 by omega, pk_us]; rfl
      · rw [show 36 * 4 + 3 * kh K 2 + 2 = 3 * (48 + kh K 2) + 2 by omega, pk_us]; rfl
    · rw [if_neg q, pk_un (by omega), pk_un (by omega), pk_un (by omega)]
      exact h5 i (by omega) j hj
  · rw [e 10 (by decide) (by decide), ek 3 (by decide), ek 11 (by decide)]; exact h6
  · rw [e 11 (by decide) (by decide), ek 4 (by decide)]; exact h7
  · rw [e 7 (by decide) (by decide), ek (6 + j) (by omega)]; exact hl j hj
theorem m_roadLine_2 (hT : TM σ T) (hB : BM σ K) (ok : KOK K) (hP : 2 ≤ kh K 0) (hr : kh K 2 < 12) {τ : MS} {a : Int32} {is : Bool} (f : FrB σ τ) (hτ : LM τ T (rd2 T K st)) (ha : gd (rd1 T K st) = true → a = nI (nmV T st)) (hi : gd (rd2 T K st) = true → ∀ r, τ.1 10 = nI r → r < kh K 0 → is = rdo T K st r) : Wp (d + 5) md_175 64 [some (.ref 287), some (.int (nI (3 * (48 + kh K 2)))), some (.int a)] [.int (bI is), .ref 287, .int (nI (3 * (48 + kh K 2) + 1)), .ref 297] (mset M τ) (RLn M σ T (rd4 T K st) (rdK T K st)) := by
  have b0 := (ok_h ok).1
  have h20 : τ.2.2.1 6 20 = nI (kh K 0) := by rw [f.2]; exact BM_h (j := 0) hB (by decide)
  refine Wp.callV (len := 3) rfl rfl rfl (rfl) rfl (by decide) rfl (m_other (P := kh K 0) (ok := rdo T K st) (f.T hT) hτ (fun q => ⟨h20, by omega, by omega, hi q⟩)) ?_
  rintro _ _ ⟨b, rfl, hb, τ2, rfl, f2, hτ2⟩
  have e2 := (f.t f2).2
  refine Wp.miastN (j := 3 * (48 + kh K 2) + 1) (len := 1) rfl rfl rfl (by omega) ?_
  refine Wp.n (pc' := 74) 4 rfl ?_
  refine Wp.miastN (j := 3 * (48 + kh K 2)) (len := 1) rfl rfl rfl (by omega) ?_
  refine Wp.n (pc' := 81) 4 rfl ?_
  refine Wp.iaddN (x := 3 * (48 + kh K 2)) (y := 2) (len := 1) rfl ?_
  refine Wp.n (pc' := 86) 3 rfl ?_
  refine Wp.callV (len := 3) rfl rfl rfl (rfl) rfl (by decide) rfl (m_number (lo := 1) (hi := 30) (σ := aset (aset τ2 9 _) 9 _) (st := rd3 T K st) (FrK.T ((f.t f2).k.t ((FrK.a (by unfold dcl; omega)).t (FrK.a (by unfold dcl; omega)))) hT) (LM_a (LM_a hτ2)) (fun q => ⟨rfl, rfl, by omega, by omega⟩)) ?_
  rintro _ _ ⟨c, rfl, hc, τ3, rfl, f3, hτ3⟩
  have e22 : τ3.2.2.1 6 22 = nI (kh K 2) := by
    rw [f3.2]
    show τ2.2.2.1 6 22 = _
    rw [e2]
    exact BM_h (j := 2) hB (by decide)
  refine Wp.miastN (j := (3 * (48 + kh K 2)) + 2) (len := 1) rfl rfl rfl (by omega) ?_
  refine Wp.n (pc' := 97) 4 rfl ?_
  refine Wp.mialdN (j := 22) (len := 1) rfl rfl rfl (by omega) ?_
  refine Wp.top e22 ?_
  refine Wp.n (pc' := 99) 1 rfl ?_
  refine Wp.iaddN (x := kh K 2) (y := 1) (len := 1) rfl ?_
  refine Wp.miastN (j := 22) (len := 1) rfl rfl rfl (by omega) ?_
  refine Wp.retV (len := 1) rfl rfl ?_
  refine ⟨rfl, _, rfl, (f.t f2).k.t (((FrK.a (by unfold dcl; omega)).t (FrK.a (by unfold dcl; omega))).t (f3.k.t ((FrK.a (by unfold dcl; omega)).t (FrK.a (by unfold dcl; omega))))), LM_a (LM_a hτ3), fun g => ?_⟩
  have g3 : gd (rd3 T K st) = true := gd_nm g
  have g2 : gd (rd2 T K st) = true := gd_ot g3
  have g1 : gd (rd1 T K st) = true := gd_wd g2
  obtain rfl := ha g1
  obtain rfl := hb g3
  obtain rfl := hc g
  refine BM_road hB ok hr (fun k k6 k9 => ?_) ?_ ?_ ?_
  · show va_up (va_up τ3.2.2.1 9 _) 6 _ k = _
    rw [va_up_ne _ _ k6, va_up_ne _ _ k9, f3.2]
    show va_up (va_up τ2.2.2.1 9 _) 9 _ k = _
    rw [va_up_ne _ _ k9, va_up_ne _ _ k9, e2]
  · show τ3.2.2.2 = _
    rw [f3.2]
    show τ2.2.2.2 = _
    rw [e2]
  · show upd (τ3.2.2.1 6) 22 _ = _
    rw [f3.2]
    show upd (τ2.2.2.1 6) 22 _ = _
    rw [e2]
  · show upd (τ3.2.2.1 9) _ _ = _
    rw [f3.2]
    show upd (upd (upd (τ2.2.2.1 9) _ _) _ _) _ _ = _
    rw [e2]
theorem m_roadLine (hT : TM σ T) (hL : LM σ T st) (hB : BM σ K) (ok : KOK K) (hP : 2 ≤ kh K 0) (hr : kh K 2 < 12) : Wp (d + 5) md_175 0 [some (.ref 287), none, none] [] (mset M σ) (RLn M σ T (rd4 T K st) (rdK T K st)) := by
  have b0 := (ok_h ok).1
  refine Wp.n (pc' := 5) 4 rfl ?_
  refine Wp.ecallV (len := 3) rfl rfl rfl (rfl) rfl (by decide) rfl (m_hasRead (k := 2) (by decide)) ?_
  refine Wp.top (BM_h hB (by decide)) ?_
  refine Wp.iaddN (x := 48) (y := kh K 2) (len := 1) rfl ?_
  refine Wp.imulN (x := 3) (y := 48 + (kh K 2)) (len := 1) rfl ?_
  refine Wp.n (pc' := 15) 5 rfl ?_
  refine Wp.ecallV (len := 3) rfl rfl rfl (rfl) rfl (by decide) rfl (m_hasRead (k := 0) (by decide)) ?_
  refine Wp.top (BM_h hB (by decide)) ?_
  refine Wp.n (pc' := 19) 1 rfl ?_
  refine Wp.isubN (x := kh K 0) (y := 1) (len := 1) rfl (by omega) ?_
  refine Wp.callV (len := 3) rfl rfl rfl (rfl) rfl (by decide) rfl (m_number (lo := 0) (hi := kh K 0 - 1) hT hL (fun q => ⟨rfl, rfl, by omega, by omega⟩)) ?_
  rintro _ _ ⟨a, rfl, ha, τ1, rfl, f1, hτ1⟩
  refine Wp.n (pc' := 28) 3 rfl ?_
  refine Wp.callV (len := 3) rfl rfl rfl (rfl) rfl (by decide) rfl (m_asks (h := 555) (f1.T hT) hτ1 (by decide)) ?_
  rintro _ _ ⟨rfl, τ, rfl, f2, hτ⟩
  have f := f1.t f2
  have hv : gd (rd2 T K st) = true → a = nI (nmV T st) ∧ nmV T st < 7 := fun g => ⟨ha (gd_wd g), by have := nm_le (gd_wd (T := T) g); omega⟩
  refine Wp.n (pc' := 37) 4 rfl ?_
  refine Wp.iaddN (x := 3 * (48 + (kh K 2))) (y := 1) (len := 1) rfl ?_
  refine Wp.n (pc' := 44) 4 rfl ?_
  refine Wp.ic0 (tgt := 63) (len := 3) rfl (fun h44 => ?_) (fun h44 => ?_)
  · skip
    refine Wp.n (pc' := 64) 1 rfl ?_
    first
      | exact m_roadLine_2 (is := true) hT hB ok hP hr f hτ ha (fun g r q1 q2 => by
          obtain ⟨v1, v2⟩ := hv g
          rw [q1, v1, f.2, told_eq hB ok v2 (by omega)] at h56
          have q3 : r ≠ nmV T st := fun q => h44 (by rw [q1, v1, q])
          unfold rdo
          rw [h56, decide_eq_true q3]
          rfl)
      | exact m_roadLine_2 (is := false) hT hB ok hP hr f hτ ha (fun g r q1 q2 => by
          obtain ⟨v1, v2⟩ := hv g
          rw [q1, v1, f.2, told_eq hB ok v2 (by omega)] at h56
          unfold rdo
          rw [h56]
          exact (Bool.and_false _).symm)
      | exact m_roadLine_2 (is := false) hT hB ok hP hr f hτ ha (fun g r q1 q2 => by
          obtain ⟨v1, v2⟩ := hv g
          rw [q1, v1, nI_eq (by omega) (by omega)] at h44
          unfold rdo
          rw [show decide (r ≠ nmV T st) = false from decide_eq_false (fun q => q h44)]
          rfl)
  · skip
    refine Wp.n (pc' := 53) 4 rfl ?_
    refine Wp.ecallV (len := 3) rfl rfl rfl (rfl) rfl (by decide) rfl (m_isRoadTold (n0 := kh K 2) (by rw [f.2]; exact BM_h (j := 2) hB (by decide)) (by omega) _ _) ?_
    refine Wp.ifb1 (tgt := 63) (len := 3) rfl (fun h56 => ?_) (fun h56 => ?_)
    · skip
      refine Wp.n (pc' := 64) 1 rfl ?_
      first
        | exact m_roadLine_2 (is := true) hT hB ok hP hr f hτ ha (fun g r q1 q2 => by
            obtain ⟨v1, v2⟩ := hv g
            rw [q1, v1, f.2, told_eq hB ok v2 (by omega)] at h56
            have q3 : r ≠ nmV T st := fun q => h44 (by rw [q1, v1, q])
            unfold rdo
            rw [h56, decide_eq_true q3]
            rfl)
        | exact m_roadLine_2 (is := false) hT hB ok hP hr f hτ ha (fun g r q1 q2 => by
            obtain ⟨v1, v2⟩ := hv g
            rw [q1, v1, f.2, told_eq hB ok v2 (by omega)] at h56
            unfold rdo
            rw [h56]
            exact (Bool.and_false _).symm)
        | exact m_roadLine_2 (is := false) hT hB ok hP hr f hτ ha (fun g r q1 q2 => by
            obtain ⟨v1, v2⟩ := hv g
            rw [q1, v1, nI_eq (by omega) (by omega)] at h44
            unfold rdo
            rw [show decide (r ≠ nmV T st) = false from decide_eq_false (fun q => q h44)]
            rfl)
    · skip
      refine Wp.n (pc' := 64) 2 rfl ?_
      first
        | exact m_roadLine_2 (is := true) hT hB ok hP hr f hτ ha (fun g r q1 q2 => by
            obtain ⟨v1, v2⟩ := hv g
            rw [q1, v1, f.2, told_eq hB ok v2 (by omega)] at h56
            have q3 : r ≠ nmV T st := fun q => h44 (by rw [q1, v1, q])
            unfold rdo
            rw [h56, decide_eq_true q3]
            rfl)
        | exact m_roadLine_2 (is := false) hT hB ok hP hr f hτ ha (fun g r q1 q2 => by
            obtain ⟨v1, v2⟩ := hv g
            rw [q1, v1, f.2, told_eq hB ok v2 (by omega)] at h56
            unfold rdo
            rw [h56]
            exact (Bool.and_false _).symm)
        | exact m_roadLine_2 (is := false) hT hB ok hP hr f hτ ha (fun g r q1 q2 => by
            obtain ⟨v1, v2⟩ := hv g
            rw [q1, v1, nI_eq (by omega) (by omega)] at h44
            unfold rdo
            rw [show decide (r ≠ nmV T st) = false from decide_eq_false (fun q => q h44)]
            rfl)
end LNS
