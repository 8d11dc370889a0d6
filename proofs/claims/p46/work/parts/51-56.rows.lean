section
/-! OTHER LAWS, WHAT WAS PAID, WATCHERS, THE HIDDEN LANE: the reference. -/
def takeK (K : KD) : Nat := fld (sumD K (-1) (-1)) (kh K 4) 0 0
theorem sumD_b {K : KD} (ok : KOK K) {who y : Int32} : ∀ (n w s : Nat), w + n ≤ kh K 4 → fld (sumD K who y) n w s ≤ s + n * 689634
  | 0, _, _, _ => by show _ ≤ _; rw [Nat.zero_mul]; exact Nat.le_refl _
  | n + 1, w, s, h => by
    have h1 := sumD_b ok (who := who) (y := y) n (w + 1) (sumD K who y s w) (by omega)
    have h2 := dutW_b ok (w := w) (by omega)
    have h3 : sumD K who y s w ≤ s + 689634 := by
      unfold sumD
      cases cntW K who y w
      · show s ≤ _; omega
      · show s + dutW K w ≤ _; omega
    show fld (sumD K who y) n (w + 1) (sumD K who y s w) ≤ _
    rw [Nat.add_mul]
    omega
theorem takeK_b {K : KD} (ok : KOK K) : takeK K ≤ 6896340 := by
  have h := sumD_b ok (who := -1) (y := -1) (kh K 4) 0 0 (by omega)
  have b4 := (ok_h ok).2.2.2.2.1
  have := Nat.mul_le_mul_right 689634 b4
  unfold takeK
  omega
section LAWS
variable {d : Nat} {M : AM} {σ σ' : MS} {K : KD} {Q : Option Value → AM → Prop}
theorem laws_rep (h : RepM σ 0 K) {r f : Nat} : RepM (aset σ 7 (upd (upd (σ.2.2.1 7) 0 (nI r)) 1 (nI f))) 0 (lawsK K r f) := by
  refine ⟨fun j hj => ?_, fun h0 j hj => ?_, h.2.2.1, h.2.2.2.1, h.2.2.2.2.1, h.2.2.2.2.2.1, h.2.2.2.2.2.2⟩
  · rw [show kh (lawsK K r f) j = kh K j from (if_neg (by omega)).trans (if_neg (by omega))]
    exact h.1 j hj
  · rw [aset_get]
    have h1 := h.2.1 h0 j hj
    match j, hj with
    | 0, _ => rfl
    | 1, _ => rfl
    | 2, _ => exact h1
    | 3, _ => exact h1
    | 4, _ => exact h1
theorem Scr_7 {g : Nat → Int32} (h : Scr (aset σ 7 g) σ') : Scr σ (aset σ' 7 (σ.2.2.1 7)) := by
  refine ⟨h.1, fun k hk => ?_, h.2.2.1, h.2.2.2⟩
  by_cases c : k = 7
  · subst c; rw [aset_get]
  · show va_up σ'.2.2.1 7 _ k = _
    rw [va_up_ne _ _ c, h.2.1 k hk]
    exact va_up_ne _ _ c
theorem m_takingsBy (hM : MK σ K) {r f : Nat} (hr : r ≤ 99) (hf : f ≤ 99) : Wp (d + 6) md_248 0 [some (.ref 287), some (.int (nI r)), some (.int (nI f)), none, none, none] [] (mset M σ) (RI M σ (nI (takeK (lawsK K r f)))) := by
  have ok := hM.2.1
  have hσ0 := hM.2.2.2
  obtain ⟨b0, b1, b2, b3, b4, b5, b6, b7, b8, b9, b10, b11, b12⟩ := ok_h ok
  refine Wp.n (pc' := 5) 3 rfl ?_
  refine Wp.mialdN (j := 0) (len := 1) rfl rfl rfl (by omega) ?_
  refine Wp.n (pc' := 12) 4 rfl ?_
  refine Wp.mialdN (j := 1) (len := 1) rfl rfl rfl (by omega) ?_
  refine Wp.n (pc' := 21) 5 rfl ?_
  refine Wp.miastN (j := 0) (len := 1) rfl rfl rfl (by omega) ?_
  refine Wp.n (pc' := 28) 4 rfl ?_
  refine Wp.miastN (j := 1) (len := 1) rfl rfl rfl (by omega) ?_
  refine Wp.n (pc' := 32) 3 rfl ?_
  refine Wp.callV (len := 3) rfl rfl rfl (rfl) rfl (by decide) rfl (by
    have e : aset (aset σ 7 (upd (σ.2.2.1 7) 0 (nI r))) 7 (upd ((aset σ 7 (upd (σ.2.2.1 7) 0 (nI r))).2.2.1 7) 1 (nI f)) = aset σ 7 (upd (upd (σ.2.2.1 7) 0 (nI r)) 1 (nI f)) := by rw [aset_get, aset_aset]
    rw [e]
    exact m_sumOf (K := lawsK K r f) ⟨laws_rep hM.1, lawsK_ok ok hr hf, hM.2.2.1, hσ0⟩ (-1) (-1)) ?_
  rintro _ _ ⟨rfl, τ, rfl, hS⟩
  refine Wp.n (pc' := 43) 5 rfl ?_
  refine Wp.miastN (j := 0) (len := 1) rfl rfl rfl (by omega) ?_
  refine Wp.n (pc' := 51) 4 rfl ?_
  refine Wp.miastN (j := 1) (len := 1) rfl rfl rfl (by omega) ?_
  refine Wp.n (pc' := 54) 1 rfl ?_
  refine Wp.retI (len := 1) rfl rfl ?_
  have e7 : τ.2.2.1 7 = upd (upd (σ.2.2.1 7) 0 (nI r)) 1 (nI f) := (hS.2.1 7 rfl).trans aset_get
  have e : aset (aset τ 7 (upd (τ.2.2.1 7) 0 (σ.2.2.1 7 0))) 7 (upd ((aset τ 7 (upd (τ.2.2.1 7) 0 (σ.2.2.1 7 0))).2.2.1 7) 1 (σ.2.2.1 7 1)) = aset τ 7 (σ.2.2.1 7) := by
    rw [aset_get, aset_aset, e7]
    congr 1
    funext j
    by_cases c1 : j = 1
    · rw [c1, pk_us]
    · by_cases c0 : j = 0
      · rw [c0, pk_un (by decide), pk_us]
      · rw [pk_un c1, pk_un c0, pk_un c1, pk_un c0]
  rw [e]
  exact RI_s (Scr_7 hS) rfl

def byA (K : KD) (x y : Int32) : Int32 := if 0 < kh K 0 ∧ isN 100 x = true ∧ isN 100 y = true then nI (takeK (lawsK K x.toNatClampNeg y.toNatClampNeg)) else -2
theorem e99 : (99 : Int64).toInt + 1 = ((100 : Nat) : Int) := by decide
theorem m_inN {k : Nat} {hi : Int64} (x : Int32) (h : hi.toInt + 1 = (k : Int)) : Ev d md_152 0 [some (.long x.toInt64), none, some (.long 0), none, some (.long hi), none] [] M (some (.int (bI (isN k x))), M) := by
  have w := m_in (d := d) (M := M) x.toInt64 0 hi
  rw [in_isN h] at w
  exact w
theorem m_by (hM : MK σ K) (x y : Int32) : Wp (d + 7) md_247 0 [some (.ref 287), some (.int x), some (.int y)] [] (mset M σ) (RI M σ (byA K x y)) := by
  have ok := hM.2.1
  have hσ0 := hM.2.2.2
  obtain ⟨b0, b1, b2, b3, b4, b5, b6, b7, b8, b9, b10, b11, b12⟩ := ok_h ok
  unfold byA
  refine Wp.n (pc' := 2) 2 rfl ?_
  refine Wp.mput0 (len := 3) rfl hσ0 ?_
  refine Wp.n (pc' := 6) 1 rfl ?_
  refine Wp.ecallV (len := 3) rfl rfl rfl (rfl) rfl (by decide) rfl (m_isKingdom hM.1 ok) ?_
  refine Wp.ifb0 (tgt := 45) (len := 3) rfl (fun h9 => ?_) (fun h9 => ?_)
  · skip
    refine Wp.n (pc' := 47) 1 rfl ?_
    refine Wp.retI (len := 1) rfl rfl ?_
    first
      | exact RI_s hS rfl
      | (rw [if_neg (fun q => of_decide_eq_false h9 q.1)]; exact RI_r rfl)
      | (rw [if_neg (fun q => by rw [h21] at q; exact absurd q.2.1 (by decide))]; exact RI_r rfl)
      | (rw [if_neg (fun q => by rw [h33] at q; exact absurd q.2.2 (by decide))]; exact RI_r rfl)
  · skip
    refine Wp.n (pc' := 18) 4 rfl ?_
    refine Wp.ecallS (len := 3) rfl rfl rfl rfl (m_inN x e99) ?_
    refine Wp.ifb0 (tgt := 45) (len := 3) rfl (fun h21 => ?_) (fun h21 => ?_)
    · skip
      refine Wp.n (pc' := 47) 1 rfl ?_
      refine Wp.retI (len := 1) rfl rfl ?_
      first
        | exact RI_s hS rfl
        | (rw [if_neg (fun q => of_decide_eq_false h9 q.1)]; exact RI_r rfl)
        | (rw [if_neg (fun q => by rw [h21] at q; exact absurd q.2.1 (by decide))]; exact RI_r rfl)
        | (rw [if_neg (fun q => by rw [h33] at q; exact absurd q.2.2 (by decide))]; exact RI_r rfl)
    · skip
      refine Wp.n (pc' := 30) 4 rfl ?_
      refine Wp.ecallS (len := 3) rfl rfl rfl rfl (m_inN y e99) ?_
      refine Wp.ifb0 (c := isN 100 y) (d := d + 7) (X := md_247) (pc := 33) (st := []) (tgt := 45) (len := 3) rfl (fun h33 => ?_) (fun h33 => ?_)
      · skip
        refine Wp.n (pc' := 47) 1 rfl ?_
        refine Wp.retI (len := 1) rfl rfl ?_
        first
          | exact RI_s hS rfl
          | (rw [if_neg (fun q => of_decide_eq_false h9 q.1)]; exact RI_r rfl)
          | (rw [if_neg (fun q => by rw [h21] at q; exact absurd q.2.1 (by decide))]; exact RI_r rfl)
          | (rw [if_neg (fun q => by rw [h33] at q; exact absurd q.2.2 (by decide))]; exact RI_r rfl)
      · skip
        obtain ⟨r, hr, rfl⟩ := isN_of h21
        obtain ⟨f, hf, rfl⟩ := isN_of h33
        rw [if_pos ⟨of_decide_eq_true h9, h21, h33⟩, nI_clamp (by omega), nI_clamp (by omega)]
        refine Wp.n (pc' := 39) 3 rfl ?_
        refine Wp.callV (len := 3) rfl rfl rfl (rfl) rfl (by decide) rfl (m_takingsBy hM (by omega) (by omega)) ?_
        rintro _ _ ⟨rfl, τ, rfl, hS⟩
        refine Wp.n (pc' := 47) 1 rfl ?_
        refine Wp.retI (len := 1) rfl rfl ?_
        first
          | exact RI_s hS rfl
          | (rw [if_neg (fun q => of_decide_eq_false h9 q.1)]; exact RI_r rfl)
          | (rw [if_neg (fun q => by rw [h21] at q; exact absurd q.2.1 (by decide))]; exact RI_r rfl)
          | (rw [if_neg (fun q => by rw [h33] at q; exact absurd q.2.2 (by decide))]; exact RI_r rfl)

def rateP (K : KD) (m r : Nat) : Bool := decide (m ≤ takeK (lawsK K r (kh K 7)))
def rateA (K : KD) (x : Int32) : Int32 := if 0 < kh K 0 ∧ isR 1 999999 x = true then oI (fnd (rateP K x.toNatClampNeg) 100 0) else -2
theorem m_rate_l (hM : MK σ K) (h0 : 0 < kh K 0) {m : Nat} (hm : m ≤ 999999) : ∀ (n r : Nat) (τ : MS), r + n = 100 → Scr σ τ → Wp (d + 7) md_249 29 [some (.ref 287), some (.int (nI m)), some (.int (nI r))] [] (mset M τ) (RI M σ (oI (fnd (rateP K m) n r))) := by
  have ok := hM.2.1
  have hσ0 := hM.2.2.2
  obtain ⟨b0, b1, b2, b3, b4, b5, b6, b7, b8, b9, b10, b11, b12⟩ := ok_h ok
  intro n
  induction n with
  | zero =>
    intro r τ hr hS
    refine Wp.n (pc' := 32) 2 rfl ?_
    refine Wp.nc4 (x := r) (y := 99) (tgt := 58) (len := 3) rfl (by omega) (by omega) (fun h32 => ?_) (fun h32 => ?_)
    · skip
      refine Wp.n (pc' := 59) 1 rfl ?_
      refine Wp.retI (len := 1) rfl rfl ?_
      exact RI_s hS rfl
    · omega
  | succ n ih =>
    intro r τ hr hS
    have hK := MK_scr hM hS
    have hb := takeK_b (lawsK_ok ok (r := r) (f := kh K 7) (by omega) b7)
    rw [show fnd (rateP K m) (n + 1) r = if rateP K m r = true then some r else fnd (rateP K m) n (r + 1) from rfl]
    refine Wp.n (pc' := 32) 2 rfl ?_
    refine Wp.nc4 (x := r) (y := 99) (tgt := 58) (len := 3) rfl (by omega) (by omega) (fun h32 => ?_) (fun h32 => ?_)
    · omega
    · skip
      refine Wp.n (pc' := 42) 5 rfl ?_
      refine Wp.mialdN (j := 1) (len := 1) rfl rfl rfl (by omega) ?_
      refine Wp.top (r0_law hK.1 h0 (j := 1) (by decide)) ?_
      refine Wp.callV (len := 3) rfl rfl rfl (rfl) rfl (by decide) rfl (m_takingsBy hK (r := r) (f := kh K 7) (by omega) b7) ?_
      rintro _ _ ⟨rfl, τ2, rfl, hS2⟩
      refine Wp.n (pc' := 47) 1 rfl ?_
      refine Wp.nc2 (x := takeK (lawsK K r (kh K 7))) (y := m) (tgt := 52) (len := 3) rfl (by omega) (by omega) (fun h47 => ?_) (fun h47 => ?_)
      · skip
        refine Wp.incN (x := r) (len := 3) rfl rfl ?_
        refine Wp.n (pc' := 29) 1 rfl ?_
        rw [if_neg (show ¬ rateP K m r = true from fun q => by have := of_decide_eq_true q; omega)]
        exact ih (r + 1) τ2 (by omega) (Scr_t hS hS2)
      · skip
        refine Wp.n (pc' := 51) 1 rfl ?_
        refine Wp.retI (len := 1) rfl rfl ?_
        rw [if_pos (show rateP K m r = true from decide_eq_true (by omega))]
        exact RI_s (Scr_t hS hS2) rfl

theorem m_rate (hM : MK σ K) (x : Int32) : Wp (d + 7) md_249 0 [some (.ref 287), some (.int x), none] [] (mset M σ) (RI M σ (rateA K x)) := by
  have ok := hM.2.1
  have hσ0 := hM.2.2.2
  obtain ⟨b0, b1, b2, b3, b4, b5, b6, b7, b8, b9, b10, b11, b12⟩ := ok_h ok
  unfold rateA
  refine Wp.n (pc' := 2) 2 rfl ?_
  refine Wp.mput0 (len := 3) rfl hσ0 ?_
  refine Wp.n (pc' := 6) 1 rfl ?_
  refine Wp.ecallV (len := 3) rfl rfl rfl (rfl) rfl (by decide) rfl (m_isKingdom hM.1 ok) ?_
  refine Wp.ifb0 (tgt := 24) (len := 3) rfl (fun h9 => ?_) (fun h9 => ?_)
  · skip
    refine Wp.n (pc' := 26) 1 rfl ?_
    refine Wp.retI (len := 1) rfl rfl ?_
    first
      | (rw [if_neg (fun q => of_decide_eq_false h9 q.1)]; exact RI_r rfl)
      | (rw [if_neg (fun q => by rw [show isR 1 999999 x = false from h21] at q; exact absurd q.2 (by decide))]; exact RI_r rfl)
  · skip
    refine Wp.n (pc' := 18) 4 rfl ?_
    refine Wp.ecallS (len := 3) rfl rfl rfl rfl (m_in _ _ _) ?_
    refine Wp.ifb1 (tgt := 27) (len := 3) rfl (fun h21 => ?_) (fun h21 => ?_)
    · rw [il_toInt] at h21
      obtain ⟨m, hm1, hm9, hm, rfl⟩ := isR_of (lo := 1) (hi := 999999) h21
      rw [if_pos ⟨of_decide_eq_true h9, h21⟩, nI_clamp hm]
      refine Wp.n (pc' := 29) 2 rfl ?_
      exact m_rate_l hM (of_decide_eq_true h9) hm9 100 0 σ (by omega) Scr_r
    · rw [il_toInt] at h21
      refine Wp.n (pc' := 26) 1 rfl ?_
      refine Wp.retI (len := 1) rfl rfl ?_
      first
        | (rw [if_neg (fun q => of_decide_eq_false h9 q.1)]; exact RI_r rfl)
        | (rw [if_neg (fun q => by rw [show isR 1 999999 x = false from h21] at q; exact absurd q.2 (by decide))]; exact RI_r rfl)

/-- one number of the law is another from now on -/
def setK (K : KD) (w m : Nat) : KD := (fun i => if i = 6 + w then m else kh K i, kr K, kl K, kw K)
def lawC (K : KD) (x y : Int32) : Bool := decide (0 < kh K 0) && isN 5 x && isN (if x.toInt < 3 then 100 else 2) y
def lawA (K : KD) (x y : Int32) : Int32 := if lawC K x y = true then nI (kh K (6 + x.toNatClampNeg)) else -2
def lawN (K : KD) (x y : Int32) : KD := if lawC K x y = true then setK K x.toNatClampNeg y.toNatClampNeg else K
theorem setK_ok (ok : KOK K) {w m : Nat} (hw : w < 5) (hm : m < if w < 3 then 100 else 2) : KOK (setK K w m) := by
  obtain ⟨c0, c1, c2, c3, c4, c5, c6, c7, c8, c9, c10, c11, c12, c13, c14, c15, c16, c17⟩ := id ok
  match w, hw with
  | 0, _ => exact ⟨c0, c1, c2, c3, c4, c5, Nat.le_of_lt_succ hm, c7, c8, c9, c10, c11, c12, c13, c14, c15, c16, c17⟩
  | 1, _ => exact ⟨c0, c1, c2, c3, c4, c5, c6, Nat.le_of_lt_succ hm, c8, c9, c10, c11, c12, c13, c14, c15, c16, c17⟩
  | 2, _ => exact ⟨c0, c1, c2, c3, c4, c5, c6, c7, Nat.le_of_lt_succ hm, c9, c10, c11, c12, c13, c14, c15, c16, c17⟩
  | 3, _ => exact ⟨c0, c1, c2, c3, c4, c5, c6, c7, c8, Nat.le_of_lt_succ hm, c10, c11, c12, c13, c14, c15, c16, c17⟩
  | 4, _ => exact ⟨c0, c1, c2, c3, c4, c5, c6, c7, c8, c9, Nat.le_of_lt_succ hm, c11, c12, c13, c14, c15, c16, c17⟩
theorem set_rep (h : RepM σ 0 K) {w m : Nat} (hw : w < 5) : RepM (aset σ 7 (upd (σ.2.2.1 7) w (nI m))) 0 (setK K w m) := by
  have e : ∀ i, i < 6 ∨ 11 ≤ i → kh (setK K w m) i = kh K i := fun i hi => if_neg (by omega)
  refine ⟨fun j hj => ?_, fun h0 j hj => ?_, ?_, ?_, ?_, ?_, ?_⟩
  · rw [e j (by omega)]
    exact h.1 j hj
  · rw [aset_get]
    rw [e 0 (by omega)] at h0
    have h1 := h.2.1 h0 j hj
    show upd (σ.2.2.1 7) w (nI m) (5 * 0 + j) = nI (if 6 + j = 6 + w then m else kh K (6 + j))
    by_cases c : j = w
    · rw [if_pos (by omega), show 5 * 0 + j = w by omega, pk_us]
    · rw [if_neg (by omega), pk_un (by omega)]
      exact h1
  · rw [e 5 (by omega)]; exact h.2.2.1
  · rw [e 12 (by omega)]; exact h.2.2.2.1
  · rw [e 2 (by omega)]; exact h.2.2.2.2.1
  · rw [e 3 (by omega), e 11 (by omega)]; exact h.2.2.2.2.2.1
  · rw [e 4 (by omega)]; exact h.2.2.2.2.2.2
theorem lawC_of {x y : Int32} (h : lawC K x y = true) : 0 < kh K 0 ∧ ∃ w m : Nat, w < 5 ∧ (m < if w < 3 then 100 else 2) ∧ x = nI w ∧ y = nI m ∧ m < 100 := by
  unfold lawC at h
  simp only [Bool.and_eq_true] at h
  obtain ⟨⟨h1, h2⟩, h3⟩ := h
  obtain ⟨w, hw, rfl⟩ := isN_of h2
  obtain ⟨m, hm, rfl⟩ := isN_of h3
  rw [nI_toInt (by omega)] at hm
  have e : (if (w : Int) < 3 then 100 else 2) = if w < 3 then 100 else 2 := by
    by_cases c : w < 3
    · rw [if_pos c, if_pos (by omega)]
    · rw [if_neg c, if_neg (by omega)]
  rw [e] at hm
  refine ⟨of_decide_eq_true h1, w, m, hw, hm, rfl, rfl, ?_⟩
  split at hm <;> omega
theorem m_law (hM : MK σ K) (x y : Int32) : Wp (d + 2) md_250 0 [some (.ref 287), some (.int x), some (.int y), none] [] (mset M σ) (fun v M' => v = some (.int (lawA K x y)) ∧ ∃ σ', M' = mset M σ' ∧ Fr [] [7] σ σ' ∧ (∀ j, 5 ≤ j → σ'.2.2.1 7 j = σ.2.2.1 7 j) ∧ MK σ' (lawN K x y)) := by
  have ok := hM.2.1
  have hσ0 := hM.2.2.2
  obtain ⟨b0, b1, b2, b3, b4, b5, b6, b7, b8, b9, b10, b11, b12⟩ := ok_h ok
  unfold lawA lawN
  have kn : lawC K x y = false → (∃ σ', mset M σ = mset M σ' ∧ Fr [] [7] σ σ' ∧ (∀ j, 5 ≤ j → σ'.2.2.1 7 j = σ.2.2.1 7 j) ∧ MK σ' K) := fun _ => ⟨σ, rfl, Fr.rfl', fun _ _ => rfl, hM⟩
  refine Wp.n (pc' := 2) 2 rfl ?_
  refine Wp.mput0 (len := 3) rfl hσ0 ?_
  refine Wp.n (pc' := 6) 1 rfl ?_
  refine Wp.ecallV (len := 3) rfl rfl rfl (rfl) rfl (by decide) rfl (m_isKingdom hM.1 ok) ?_
  refine Wp.ifb0 (tgt := 45) (len := 3) rfl (fun h9 => ?_) (fun h9 => ?_)
  · skip
    refine Wp.n (pc' := 47) 1 rfl ?_
    refine Wp.retI (len := 1) rfl rfl ?_
    have hC : lawC K x y = false := by
      unfold lawC
      first
        | (rw [h9, Bool.false_and, Bool.false_and])
        | (rw [h21, Bool.and_false, Bool.false_and])
        | (rw [in_isN (k := 2) (by decide)] at h42; rw [if_neg (by rw [i_le] at h29; have : (3 : Int) ≤ x.toInt := h29; omega), h42, Bool.and_false])
        | (rw [in_isN (k := 100) (by decide)] at h42; rw [if_pos (by rw [i_le] at h29; have : ¬ (3 : Int) ≤ x.toInt := h29; omega), h42, Bool.and_false])
    rw [if_neg (by rw [hC]; decide), if_neg (by rw [hC]; decide)]
    exact ⟨rfl, kn hC⟩
  · skip
    refine Wp.n (pc' := 18) 4 rfl ?_
    refine Wp.ecallS (len := 3) rfl rfl rfl rfl (m_in _ _ _) ?_
    refine Wp.ifb0 (tgt := 45) (len := 3) rfl (fun h21 => ?_) (fun h21 => ?_)
    · rw [in_isN (k := 5) (by decide)] at h21
      refine Wp.n (pc' := 47) 1 rfl ?_
      refine Wp.retI (len := 1) rfl rfl ?_
      have hC : lawC K x y = false := by
        unfold lawC
        first
          | (rw [h9, Bool.false_and, Bool.false_and])
          | (rw [h21, Bool.and_false, Bool.false_and])
          | (rw [in_isN (k := 2) (by decide)] at h42; rw [if_neg (by rw [i_le] at h29; have : (3 : Int) ≤ x.toInt := h29; omega), h42, Bool.and_false])
          | (rw [in_isN (k := 100) (by decide)] at h42; rw [if_pos (by rw [i_le] at h29; have : ¬ (3 : Int) ≤ x.toInt := h29; omega), h42, Bool.and_false])
      rw [if_neg (by rw [hC]; decide), if_neg (by rw [hC]; decide)]
      exact ⟨rfl, kn hC⟩
    · rw [in_isN (k := 5) (by decide)] at h21
      refine Wp.n (pc' := 29) 5 rfl ?_
      refine Wp.ic3 (tgt := 38) (len := 3) rfl (fun h29 => ?_) (fun h29 => ?_)
      · skip
        refine Wp.n (pc' := 39) 1 rfl ?_
        refine Wp.ecallS (len := 3) rfl rfl rfl rfl (m_in _ _ _) ?_
        refine Wp.ifb1 (tgt := 48) (len := 3) rfl (fun h42 => ?_) (fun h42 => ?_)
        · skip
          have hC : lawC K x y = true := by
            unfold lawC
            rw [h9, h21]
            first
              | (rw [in_isN (k := 2) (by decide)] at h42; rw [if_neg (by rw [i_le] at h29; have : (3 : Int) ≤ x.toInt := h29; omega), h42]; rfl)
              | (rw [in_isN (k := 100) (by decide)] at h42; rw [if_pos (by rw [i_le] at h29; have : ¬ (3 : Int) ≤ x.toInt := h29; omega), h42]; rfl)
          obtain ⟨h0, w, m, hw, hm, rfl, rfl, hm1⟩ := lawC_of hC
          rw [if_pos hC, if_pos hC, nI_clamp (by omega), nI_clamp (by omega)]
          refine Wp.n (pc' := 53) 3 rfl ?_
          refine Wp.mialdN (j := w) (len := 1) rfl rfl rfl (by omega) ?_
          refine Wp.top (r0_law hM.1 h0 hw) ?_
          refine Wp.n (pc' := 61) 5 rfl ?_
          refine Wp.miastN (j := w) (len := 1) rfl rfl rfl (by omega) ?_
          refine Wp.n (pc' := 63) 1 rfl ?_
          refine Wp.retI (len := 1) rfl rfl ?_
          refine ⟨rfl, _, rfl, Fr.rfl'.aset rfl, fun j hj => ?_, set_rep hM.1 hw, setK_ok ok hw hm, ?_, hσ0⟩
          · rw [aset_get]
            exact pk_un (by omega)
          · show σ.1 25 = nI (if 11 = 6 + w then m else kh K 11)
            rw [if_neg (by omega)]
            exact hM.2.2.1
        · skip
          refine Wp.n (pc' := 47) 1 rfl ?_
          refine Wp.retI (len := 1) rfl rfl ?_
          have hC : lawC K x y = false := by
            unfold lawC
            first
              | (rw [h9, Bool.false_and, Bool.false_and])
              | (rw [h21, Bool.and_false, Bool.false_and])
              | (rw [in_isN (k := 2) (by decide)] at h42; rw [if_neg (by rw [i_le] at h29; have : (3 : Int) ≤ x.toInt := h29; omega), h42, Bool.and_false])
              | (rw [in_isN (k := 100) (by decide)] at h42; rw [if_pos (by rw [i_le] at h29; have : ¬ (3 : Int) ≤ x.toInt := h29; omega), h42, Bool.and_false])
          rw [if_neg (by rw [hC]; decide), if_neg (by rw [hC]; decide)]
          exact ⟨rfl, kn hC⟩
      · skip
        refine Wp.n (pc' := 39) 2 rfl ?_
        refine Wp.ecallS (len := 3) rfl rfl rfl rfl (m_in _ _ _) ?_
        refine Wp.ifb1 (tgt := 48) (len := 3) rfl (fun h42 => ?_) (fun h42 => ?_)
        · skip
          have hC : lawC K x y = true := by
            unfold lawC
            rw [h9, h21]
            first
              | (rw [in_isN (k := 2) (by decide)] at h42; rw [if_neg (by rw [i_le] at h29; have : (3 : Int) ≤ x.toInt := h29; omega), h42]; rfl)
              | (rw [in_isN (k := 100) (by decide)] at h42; rw [if_pos (by rw [i_le] at h29; have : ¬ (3 : Int) ≤ x.toInt := h29; omega), h42]; rfl)
          obtain ⟨h0, w, m, hw, hm, rfl, rfl, hm1⟩ := lawC_of hC
          rw [if_pos hC, if_pos hC, nI_clamp (by omega), nI_clamp (by omega)]
          refine Wp.n (pc' := 53) 3 rfl ?_
          refine Wp.mialdN (j := w) (len := 1) rfl rfl rfl (by omega) ?_
          refine Wp.top (r0_law hM.1 h0 hw) ?_
          refine Wp.n (pc' := 61) 5 rfl ?_
          refine Wp.miastN (j := w) (len := 1) rfl rfl rfl (by omega) ?_
          refine Wp.n (pc' := 63) 1 rfl ?_
          refine Wp.retI (len := 1) rfl rfl ?_
          refine ⟨rfl, _, rfl, Fr.rfl'.aset rfl, fun j hj => ?_, set_rep hM.1 hw, setK_ok ok hw hm, ?_, hσ0⟩
          · rw [aset_get]
            exact pk_un (by omega)
          · show σ.1 25 = nI (if 11 = 6 + w then m else kh K 11)
            rw [if_neg (by omega)]
            exact hM.2.2.1
        · skip
          refine Wp.n (pc' := 47) 1 rfl ?_
          refine Wp.retI (len := 1) rfl rfl ?_
          have hC : lawC K x y = false := by
            unfold lawC
            first
              | (rw [h9, Bool.false_and, Bool.false_and])
              | (rw [h21, Bool.and_false, Bool.false_and])
              | (rw [in_isN (k := 2) (by decide)] at h42; rw [if_neg (by rw [i_le] at h29; have : (3 : Int) ≤ x.toInt := h29; omega), h42, Bool.and_false])
              | (rw [in_isN (k := 100) (by decide)] at h42; rw [if_pos (by rw [i_le] at h29; have : ¬ (3 : Int) ≤ x.toInt := h29; omega), h42, Bool.and_false])
          rw [if_neg (by rw [hC]; decide), if_neg (by rw [hC]; decide)]
          exact ⟨rfl, kn hC⟩

theorem m_owing (hM : MK σ K) {how w dn : Nat} (hw : w < kh K 4) (hh : how ≤ 4) (hdn : dn < 2 ^ 31) : Wp (d + 14) md_252 0 [some (.ref 287), some (.int (nI how)), some (.int (nI w)), some (.int (nI dn))] [] (mset M σ) (fun v M' => v = none ∧ ∃ τ, M' = mset M τ ∧ Scr σ τ ∧ MR τ (fin K how (kw K w 4) (kw K w (3 + kw K w 3)) (kw K w 2) (kw K w 1) dn)) := by
  have ok := hM.2.1
  have hσ0 := hM.2.2.2
  obtain ⟨b0, b1, b2, b3, b4, b5, b6, b7, b8, b9, b10, b11, b12⟩ := ok_h ok
  have tw := ok_walk ok hw
  have p0 := tw.2.2.2.2.2.2.1 0 (by omega)
  have p1 := tw.2.2.2.2.2.2.1 (kw K w 3 - 1) (by omega)
  rw [show 4 + (kw K w 3 - 1) = 3 + kw K w 3 by omega] at p1
  refine Wp.n (pc' := 2) 2 rfl ?_
  refine Wp.mput (len := 3) rfl rfl ?_
  have hS : Scr σ (fset σ 36 (nI dn)) := Scr_r.fset rfl
  have hK := MK_scr hM hS
  refine Wp.n (pc' := 9) 4 rfl ?_
  refine Wp.ecallV (len := 3) rfl rfl rfl (rfl) rfl (by decide) rfl (m_from hK.1 ok hw) ?_
  refine Wp.n (pc' := 14) 2 rfl ?_
  refine Wp.ecallV (len := 3) rfl rfl rfl (rfl) rfl (by decide) rfl (m_to hK.1 ok hw) ?_
  refine Wp.n (pc' := 20) 3 rfl ?_
  refine Wp.ecallV (len := 3) rfl rfl rfl (rfl) rfl (by decide) rfl (m_of _ w 2 (by omega)) ?_
  refine Wp.top (r0_walk hK.1 hw (by decide) rfl) ?_
  refine Wp.n (pc' := 26) 3 rfl ?_
  refine Wp.ecallV (len := 3) rfl rfl rfl (rfl) rfl (by decide) rfl (m_of _ w 1 (by omega)) ?_
  refine Wp.top (r0_walk hK.1 hw (by decide) rfl) ?_
  refine Wp.callV (len := 3) rfl rfl rfl (rfl) rfl (by decide) rfl (m_seeks (dn := dn) hh p1 (by omega) (by omega) hdn p0 hK (fun _ => rfl)) ?_
  rintro _ _ ⟨rfl, τ, rfl, hS2, hR⟩
  refine Wp.retV (len := 1) rfl rfl ?_
  exact ⟨rfl, τ, rfl, Scr_t hS hS2, hR⟩

def finP (K : KD) (how w dn : Nat) : MT := fin K how (kw K w 4) (kw K w (3 + kw K w 3)) (kw K w 2) (kw K w 1) dn
theorem finP_b (ok : KOK K) {how w dn : Nat} (hw : w < kh K 4) : (finP K how w dn).1 ≤ 326 := by
  have tw := ok_walk ok hw
  have p0 := tw.2.2.2.2.2.2.1 0 (by omega)
  have p1 := tw.2.2.2.2.2.2.1 (kw K w 3 - 1) (by omega)
  rw [show 4 + (kw K w 3 - 1) = 3 + kw K w 3 by omega] at p1
  exact (fin_i ok (aim := how) (y := kw K w 2) (load := kw K w 1) (dn := dn) p0 p1 (by omega)).2.1
def paidA (K : KD) (x y : Int32) : Int32 := if isN (kh K 4) x = true ∧ 0 ≤ y then nI (finP K 3 x.toNatClampNeg y.toNatClampNeg).1 else -2
def sureA (K : KD) (x y : Int32) : Int32 := if isN (kh K 4) x = true ∧ 0 ≤ y then (if (finP K 3 x.toNatClampNeg y.toNatClampNeg).1 = 0 then -1 else oI (finP K 3 x.toNatClampNeg y.toNatClampNeg).2.2.2.1) else -2
theorem ge_of {y : Int32} (h : 0 ≤ y) : ∃ m : Nat, m < 2 ^ 31 ∧ y = nI m := nI_of (x := y) (fun q => by rw [i_lt] at q; rw [i_le] at h; have h1 : (0 : Int) ≤ y.toInt := h; have q1 : y.toInt < 0 := q; omega)

theorem m_paid (hM : MK σ K) (x y : Int32) : Wp (d + 15) md_251 0 [some (.ref 287), some (.int x), some (.int y)] [] (mset M σ) (RI M σ (paidA K x y)) := by
  have ok := hM.2.1
  have hσ0 := hM.2.2.2
  obtain ⟨b0, b1, b2, b3, b4, b5, b6, b7, b8, b9, b10, b11, b12⟩ := ok_h ok
  unfold paidA
  refine Wp.n (pc' := 2) 2 rfl ?_
  refine Wp.mput0 (len := 3) rfl hσ0 ?_
  refine Wp.n (pc' := 7) 2 rfl ?_
  refine Wp.ecallV (len := 3) rfl rfl rfl (rfl) rfl (by decide) rfl (m_isWalkK hM.1 ok _) ?_
  refine Wp.ifb0 (tgt := 17) (len := 3) rfl (fun h10 => ?_) (fun h10 => ?_)
  · skip
    refine Wp.n (pc' := 19) 1 rfl ?_
    refine Wp.retI (len := 1) rfl rfl ?_
    first
      | exact RI_s hS rfl
      | exact RI_s hS (by rw [if_pos h31])
      | exact RI_s hS (by rw [if_neg h31])
      | (rw [if_neg (fun q => by rw [h10] at q; exact absurd q.1 (by decide))]; exact RI_r rfl)
      | (rw [if_neg (fun q => h14 q.2)]; exact RI_r rfl)
  · skip
    refine Wp.n (pc' := 14) 1 rfl ?_
    refine Wp.if3 (tgt := 20) (len := 3) rfl (fun h14 => ?_) (fun h14 => ?_)
    · skip
      obtain ⟨w, hw, rfl⟩ := isN_of h10
      obtain ⟨m, hm, rfl⟩ := ge_of h14
      have hb := finP_b ok (how := 3) (dn := m) hw
      rw [if_pos ⟨h10, h14⟩, nI_clamp (by omega), nI_clamp hm]
      refine Wp.n (pc' := 24) 4 rfl ?_
      refine Wp.callV (len := 3) rfl rfl rfl (rfl) rfl (by decide) rfl (m_owing (how := 3) (dn := m) hM hw (by decide) hm) ?_
      rintro _ _ ⟨rfl, τ, rfl, hS, hR⟩
      replace hR : MR τ (finP K 3 w m) := hR
      refine Wp.n (pc' := 31) 2 rfl ?_
      refine Wp.top hR.1 ?_
      refine Wp.retI (len := 1) rfl rfl ?_
      first
        | exact RI_s hS rfl
        | exact RI_s hS (by rw [if_pos h31])
        | exact RI_s hS (by rw [if_neg h31])
        | (rw [if_neg (fun q => by rw [h10] at q; exact absurd q.1 (by decide))]; exact RI_r rfl)
        | (rw [if_neg (fun q => h14 q.2)]; exact RI_r rfl)
    · skip
      refine Wp.n (pc' := 19) 1 rfl ?_
      refine Wp.retI (len := 1) rfl rfl ?_
      first
        | exact RI_s hS rfl
        | exact RI_s hS (by rw [if_pos h31])
        | exact RI_s hS (by rw [if_neg h31])
        | (rw [if_neg (fun q => by rw [h10] at q; exact absurd q.1 (by decide))]; exact RI_r rfl)
        | (rw [if_neg (fun q => h14 q.2)]; exact RI_r rfl)

theorem m_sure (hM : MK σ K) (x y : Int32) : Wp (d + 15) md_253 0 [some (.ref 287), some (.int x), some (.int y)] [] (mset M σ) (RI M σ (sureA K x y)) := by
  have ok := hM.2.1
  have hσ0 := hM.2.2.2
  obtain ⟨b0, b1, b2, b3, b4, b5, b6, b7, b8, b9, b10, b11, b12⟩ := ok_h ok
  unfold sureA
  refine Wp.n (pc' := 2) 2 rfl ?_
  refine Wp.mput0 (len := 3) rfl hσ0 ?_
  refine Wp.n (pc' := 7) 2 rfl ?_
  refine Wp.ecallV (len := 3) rfl rfl rfl (rfl) rfl (by decide) rfl (m_isWalkK hM.1 ok _) ?_
  refine Wp.ifb0 (tgt := 17) (len := 3) rfl (fun h10 => ?_) (fun h10 => ?_)
  · skip
    refine Wp.n (pc' := 19) 1 rfl ?_
    refine Wp.retI (len := 1) rfl rfl ?_
    first
      | exact RI_s hS rfl
      | exact RI_s hS (by rw [if_pos h31])
      | exact RI_s hS (by rw [if_neg h31])
      | (rw [if_neg (fun q => by rw [h10] at q; exact absurd q.1 (by decide))]; exact RI_r rfl)
      | (rw [if_neg (fun q => h14 q.2)]; exact RI_r rfl)
  · skip
    refine Wp.n (pc' := 14) 1 rfl ?_
    refine Wp.if3 (tgt := 20) (len := 3) rfl (fun h14 => ?_) (fun h14 => ?_)
    · skip
      obtain ⟨w, hw, rfl⟩ := isN_of h10
      obtain ⟨m, hm, rfl⟩ := ge_of h14
      have hb := finP_b ok (how := 3) (dn := m) hw
      rw [if_pos ⟨h10, h14⟩, nI_clamp (by omega), nI_clamp hm]
      refine Wp.n (pc' := 24) 4 rfl ?_
      refine Wp.callV (len := 3) rfl rfl rfl (rfl) rfl (by decide) rfl (m_owing (how := 3) (dn := m) hM hw (by decide) hm) ?_
      rintro _ _ ⟨rfl, τ, rfl, hS, hR⟩
      replace hR : MR τ (finP K 3 w m) := hR
      refine Wp.n (pc' := 31) 2 rfl ?_
      refine Wp.top hR.1 ?_
      refine Wp.nz1 (x := (finP K 3 w m).1) (tgt := 38) (len := 3) rfl (by omega) (fun h31 => ?_) (fun h31 => ?_)
      · skip
        refine Wp.n (pc' := 42) 2 rfl ?_
        refine Wp.top hR.2.2.2.1 ?_
        refine Wp.retI (len := 1) rfl rfl ?_
        first
          | exact RI_s hS rfl
          | exact RI_s hS (by rw [if_pos h31])
          | exact RI_s hS (by rw [if_neg h31])
          | (rw [if_neg (fun q => by rw [h10] at q; exact absurd q.1 (by decide))]; exact RI_r rfl)
          | (rw [if_neg (fun q => h14 q.2)]; exact RI_r rfl)
      · skip
        refine Wp.n (pc' := 42) 2 rfl ?_
        refine Wp.retI (len := 1) rfl rfl ?_
        first
          | exact RI_s hS rfl
          | exact RI_s hS (by rw [if_pos h31])
          | exact RI_s hS (by rw [if_neg h31])
          | (rw [if_neg (fun q => by rw [h10] at q; exact absurd q.1 (by decide))]; exact RI_r rfl)
          | (rw [if_neg (fun q => h14 q.2)]; exact RI_r rfl)
    · skip
      refine Wp.n (pc' := 19) 1 rfl ?_
      refine Wp.retI (len := 1) rfl rfl ?_
      first
        | exact RI_s hS rfl
        | exact RI_s hS (by rw [if_pos h31])
        | exact RI_s hS (by rw [if_neg h31])
        | (rw [if_neg (fun q => by rw [h10] at q; exact absurd q.1 (by decide))]; exact RI_r rfl)
        | (rw [if_neg (fun q => h14 q.2)]; exact RI_r rfl)

def mustP (K : KD) (a b w dn m : Nat) : Bool := decide (0 < (finP (laneK K a b m 30) 4 w dn).1)
def mustA (K : KD) (x y z u : Int32) : Int32 := if areT K x y = true ∧ isN (kh K 4) z = true ∧ 0 ≤ u then oI (fnd (mustP K x.toNatClampNeg y.toNatClampNeg z.toNatClampNeg u.toNatClampNeg) 99 1) else -2
theorem m_must_l (hM : MK σ K) (h11 : kh K 11 = 0) {a b w dn : Nat} (ha : a < kh K 0) (hb : b < kh K 0) (hab : a ≠ b) (hw : w < kh K 4) (hdn : dn < 2 ^ 31) : ∀ (n m : Nat) (τ : MS), m + n = 100 → 1 ≤ m → Scl σ (fset τ 25 0) → (∀ τ' i z, Scl σ (fset τ' 25 0) → i = fnd (mustP K a b w dn) n m → Wp (d + 15) md_255 86 [some (.ref 287), some (.int (nI a)), some (.int (nI b)), some (.int (nI w)), some (.int (nI dn)), some (.int (oI i)), z] [] (mset M τ') Q) → Wp (d + 15) md_255 36 [some (.ref 287), some (.int (nI a)), some (.int (nI b)), some (.int (nI w)), some (.int (nI dn)), some (.int (-1)), some (.int (nI m))] [] (mset M τ) Q := by
  have ok := hM.2.1
  have hσ0 := hM.2.2.2
  obtain ⟨b0, b1, b2, b3, b4, b5, b6, b7, b8, b9, b10, b11, b12⟩ := ok_h ok
  intro n
  induction n with
  | zero =>
    intro m τ hm h1 hS kk
    refine Wp.n (pc' := 40) 2 rfl ?_
    refine Wp.nc4 (x := m) (y := 99) (tgt := 86) (len := 3) rfl (by omega) (by omega) (fun h40 => ?_) (fun h40 => ?_)
    · skip
      exact kk τ none _ hS rfl
    · omega
  | succ n ih =>
    intro m τ hm h1 hS kk
    have hK0 := MK_scl hM h11 hS
    have hK : RepM τ 0 K := hK0.1
    have hLo := laneK_ok ok (e := 30) ha hb hab h1 (n := m) (by omega) (Nat.le_refl _)
    have hfb := finP_b hLo (how := 4) (dn := dn) (w := w) hw
    refine Wp.n (pc' := 40) 2 rfl ?_
    refine Wp.nc4 (x := m) (y := 99) (tgt := 86) (len := 3) rfl (by omega) (by omega) (fun h40 => ?_) (fun h40 => ?_)
    · omega
    · skip
      refine Wp.n (pc' := 46) 2 rfl ?_
      refine Wp.ic1 (tgt := 86) (len := 3) rfl (fun h46 => ?_) (fun h46 => ?_)
      · exact absurd rfl h46
      · skip
        refine Wp.n (pc' := 54) 4 rfl ?_
        refine Wp.callV (len := 3) rfl rfl rfl (rfl) rfl (by decide) rfl (m_thinks (d := d + 14) (M := M) (σ := τ) (a := a) (b := b) (m := m)) ?_
        rintro _ _ ⟨rfl, g, rfl, hg, g0, g1, g2, g3, g4, g5, g6⟩
        have hM2 : MK (fset (aset τ 10 g) 25 1) (laneK K a b m 30) := ⟨laneK_rep hK b3 hg g0 g1 g2 g3 g4 g5 g6, hLo, rfl, hK0.2.2.2⟩
        refine Wp.n (pc' := 62) 4 rfl ?_
        refine Wp.callV (len := 3) rfl rfl rfl (rfl) rfl (by decide) rfl (m_owing (how := 4) (dn := dn) hM2 (w := w) hw (by decide) hdn) ?_
        rintro _ _ ⟨rfl, τ2, rfl, hS2, hR⟩
        replace hR : MR τ2 (finP (laneK K a b m 30) 4 w dn) := hR
        have hS3 : Scl (fset τ 25 0) (fset τ2 25 0) := by
          refine ⟨g, hg, ⟨fun j hj => ?_, hS2.2.1, hS2.2.2.1, hS2.2.2.2⟩⟩
          show upd τ2.1 25 0 j = upd τ.1 25 0 j
          by_cases c : j = 25
          · rw [c, pk_us, pk_us]
          · rw [pk_un c, pk_un c, hS2.1 j hj]
            exact pk_un c
        refine Wp.n (pc' := 69) 2 rfl ?_
        refine Wp.top hR.1 ?_
        refine Wp.nz5 (x := (finP (laneK K a b m 30) 4 w dn).1) (tgt := 77) (len := 3) rfl (by omega) (fun h69 => ?_) (fun h69 => ?_)
        · skip
          refine Wp.n (pc' := 80) 2 rfl ?_
          refine Wp.incN (x := m) (len := 3) rfl rfl ?_
          refine Wp.n (pc' := 36) 1 rfl ?_
          first
            | (have e : mustP K a b w dn m = true := decide_eq_true h69
               refine Wp.n (pc' := 40) 2 rfl ?_
               by_cases c : m + 1 ≤ 99
               · refine Wp.nc4 (x := m + 1) (y := 99) (tgt := 86) (len := 3) rfl (by omega) (by omega) (fun q => by omega) (fun q => ?_)
                 refine Wp.n (pc' := 46) 2 rfl ?_
                 refine Wp.ic1 (tgt := 86) (len := 3) rfl (fun q => ?_) (fun q => absurd q (oI_ne (by omega)))
                 exact kk τ2 (some m) _ (Scl_t hS hS3) (by show _ = if mustP K a b w dn m = true then _ else _; rw [if_pos e])
               · refine Wp.nc4 (x := m + 1) (y := 99) (tgt := 86) (len := 3) rfl (by omega) (by omega) (fun q => ?_) (fun q => by omega)
                 exact kk τ2 (some m) _ (Scl_t hS hS3) (by show _ = if mustP K a b w dn m = true then _ else _; rw [if_pos e]))
            | (have e : ¬ mustP K a b w dn m = true := fun q => by have := of_decide_eq_true q; omega
               refine ih (m + 1) τ2 (by omega) (by omega) (Scl_t hS hS3) (fun τ3 i z h3 hi => kk τ3 i z h3 ?_)
               show i = if mustP K a b w dn m = true then _ else _
               rw [if_neg e]
               exact hi)
        · skip
          refine Wp.n (pc' := 80) 3 rfl ?_
          refine Wp.incN (x := m) (len := 3) rfl rfl ?_
          refine Wp.n (pc' := 36) 1 rfl ?_
          first
            | (have e : mustP K a b w dn m = true := decide_eq_true h69
               refine Wp.n (pc' := 40) 2 rfl ?_
               by_cases c : m + 1 ≤ 99
               · refine Wp.nc4 (x := m + 1) (y := 99) (tgt := 86) (len := 3) rfl (by omega) (by omega) (fun q => by omega) (fun q => ?_)
                 refine Wp.n (pc' := 46) 2 rfl ?_
                 refine Wp.ic1 (tgt := 86) (len := 3) rfl (fun q => ?_) (fun q => absurd q (oI_ne (by omega)))
                 exact kk τ2 (some m) _ (Scl_t hS hS3) (by show _ = if mustP K a b w dn m = true then _ else _; rw [if_pos e])
               · refine Wp.nc4 (x := m + 1) (y := 99) (tgt := 86) (len := 3) rfl (by omega) (by omega) (fun q => ?_) (fun q => by omega)
                 exact kk τ2 (some m) _ (Scl_t hS hS3) (by show _ = if mustP K a b w dn m = true then _ else _; rw [if_pos e]))
            | (have e : ¬ mustP K a b w dn m = true := fun q => by have := of_decide_eq_true q; omega
               refine ih (m + 1) τ2 (by omega) (by omega) (Scl_t hS hS3) (fun τ3 i z h3 hi => kk τ3 i z h3 ?_)
               show i = if mustP K a b w dn m = true then _ else _
               rw [if_neg e]
               exact hi)

theorem m_must (hM : MK σ K) (h11 : kh K 11 = 0) (x y z u : Int32) : Wp (d + 15) md_255 0 [some (.ref 287), some (.int x), some (.int y), some (.int z), some (.int u), none, none] [] (mset M σ) (RI2 M σ (mustA K x y z u)) := by
  have ok := hM.2.1
  have hσ0 := hM.2.2.2
  obtain ⟨b0, b1, b2, b3, b4, b5, b6, b7, b8, b9, b10, b11, b12⟩ := ok_h ok
  unfold mustA
  have h25 : fset σ 25 0 = σ := by
    have e : σ.1 25 = 0 := by rw [hM.2.2.1, h11]; rfl
    unfold fset
    rw [show upd σ.1 25 0 = σ.1 from by
      funext j
      by_cases c : j = 25
      · rw [c, pk_us, e]
      · rw [pk_un c]]
  refine Wp.n (pc' := 2) 2 rfl ?_
  refine Wp.mput0 (len := 3) rfl hσ0 ?_
  refine Wp.n (pc' := 8) 3 rfl ?_
  refine Wp.ecallV (len := 3) rfl rfl rfl (rfl) rfl (by decide) rfl (m_areTwo hM.1 ok _ _) ?_
  refine Wp.ifb0 (tgt := 27) (len := 3) rfl (fun h11_ => ?_) (fun h11_ => ?_)
  · skip
    refine Wp.n (pc' := 29) 1 rfl ?_
    refine Wp.retI (len := 1) rfl rfl ?_
    first
      | (rw [if_neg (fun q => by rw [h11_] at q; exact absurd q.1 (by decide))]; exact RI2_s Scl_r rfl)
      | (rw [if_neg (fun q => by rw [h19] at q; exact absurd q.2.1 (by decide))]; exact RI2_s Scl_r rfl)
      | (rw [if_neg (fun q => h24 q.2.2)]; exact RI2_s Scl_r rfl)
  · skip
    refine Wp.n (pc' := 16) 2 rfl ?_
    refine Wp.ecallV (len := 3) rfl rfl rfl (rfl) rfl (by decide) rfl (m_isWalkK hM.1 ok _) ?_
    refine Wp.ifb0 (tgt := 27) (len := 3) rfl (fun h19 => ?_) (fun h19 => ?_)
    · skip
      refine Wp.n (pc' := 29) 1 rfl ?_
      refine Wp.retI (len := 1) rfl rfl ?_
      first
        | (rw [if_neg (fun q => by rw [h11_] at q; exact absurd q.1 (by decide))]; exact RI2_s Scl_r rfl)
        | (rw [if_neg (fun q => by rw [h19] at q; exact absurd q.2.1 (by decide))]; exact RI2_s Scl_r rfl)
        | (rw [if_neg (fun q => h24 q.2.2)]; exact RI2_s Scl_r rfl)
    · skip
      refine Wp.n (pc' := 24) 1 rfl ?_
      refine Wp.if3 (tgt := 30) (len := 3) rfl (fun h24 => ?_) (fun h24 => ?_)
      · skip
        obtain ⟨a, b, ha, hb, hab, rfl, rfl⟩ := areT_of h11_
        obtain ⟨w, hw, rfl⟩ := isN_of h19
        obtain ⟨dn, hdn, rfl⟩ := ge_of h24
        rw [if_pos ⟨h11_, h19, h24⟩, nI_clamp (by omega), nI_clamp (by omega), nI_clamp (by omega), nI_clamp hdn]
        refine Wp.n (pc' := 36) 4 rfl ?_
        refine m_must_l hM h11 ha hb hab hw hdn 99 1 σ (by omega) (Nat.le_refl _) (by rw [h25]; exact Scl_r) (fun τ i z hS hi => ?_)
        refine Wp.n (pc' := 88) 2 rfl ?_
        refine Wp.mputZ (len := 3) rfl rfl rfl ?_
        refine Wp.n (pc' := 93) 1 rfl ?_
        refine Wp.retI (len := 1) rfl rfl ?_
        exact RI2_s hS (by rw [hi])
        
      · skip
        refine Wp.n (pc' := 29) 1 rfl ?_
        refine Wp.retI (len := 1) rfl rfl ?_
        first
          | (rw [if_neg (fun q => by rw [h11_] at q; exact absurd q.1 (by decide))]; exact RI2_s Scl_r rfl)
          | (rw [if_neg (fun q => by rw [h19] at q; exact absurd q.2.1 (by decide))]; exact RI2_s Scl_r rfl)
          | (rw [if_neg (fun q => h24 q.2.2)]; exact RI2_s Scl_r rfl)

def pop (v : Nat) : Nat := v % 2 + v / 2 % 2 + v / 4 % 2 + v / 8 % 2 + v / 16 % 2 + v / 32 % 2 + v / 64 % 2 + v / 128 % 2
theorem pop_tab : ∀ v, v < 256 → v = 0 ∨ (1 ≤ pop v ∧ pop (v &&& (v - 1)) + 1 = pop v ∧ (v &&& (v - 1)) < v) := by decide +kernel
theorem pop_b {v : Nat} : pop v ≤ 8 := by
  unfold pop
  omega
theorem m_sizeOf_l {s : Nat} : ∀ (v c : Nat), v < 256 → Wp d md_246 4 [some (.int (nI s)), some (.int (nI c)), some (.int (nI v))] [] M (IsR (some (.int (nI (c + pop v)))) M) := by
  intro v
  induction v using Nat.strongRecOn with
  | _ v ih =>
    intro c hv
    refine Wp.n (pc' := 5) 1 rfl ?_
    refine Wp.nz0 (x := v) (tgt := 20) (len := 3) rfl (by omega) (fun h5 => ?_) (fun h5 => ?_)
    · skip
      refine Wp.n (pc' := 21) 1 rfl ?_
      refine Wp.retI (len := 1) rfl rfl ?_
      subst h5
      exact ⟨rfl, rfl⟩
    · skip
      have pt := (pop_tab v hv).resolve_left h5
      refine Wp.incN (x := c) (len := 3) rfl rfl ?_
      refine Wp.n (pc' := 14) 3 rfl ?_
      refine Wp.isubN (x := v) (y := 1) (len := 1) rfl (by omega) ?_
      refine Wp.n (pc' := 16) 1 rfl ?_
      refine Wp.top (n_and _ _) ?_
      refine Wp.n (pc' := 4) 2 rfl ?_
      have w := ih (v &&& (v - 1)) pt.2.2 (c + 1) (by omega)
      rw [show c + 1 + pop (v &&& (v - 1)) = c + pop v by omega] at w
      exact w

theorem m_sizeOf {s : Nat} (hs : s < 256) : Ev d md_246 0 [some (.int (nI s)), none, none] [] M (some (.int (nI (pop s))), M) := by
  refine Wp.toEv ?_
  refine Wp.n (pc' := 4) 4 rfl ?_
  have w := m_sizeOf_l (d := d) (M := M) (s := s) s 0 hs
  rw [Nat.zero_add] at w
  exact w
/-- the lanes of walks that owe -/
def owl (K : KD) (acc : List Nat) (w : Nat) : List Nat := if lawK K w = true ∧ dutW K w ≠ 0 then acc ++ [bitsM (TRr K w).2.2] else acc
def owlK (K : KD) : List Nat := fld (owl K) (kh K 4) 0 []
def cB (c : Option Nat) (s : Nat) : Bool := match c with | none => true | some b => decide (pop s < pop b)
def wE (q : Nat) (c : Option Nat) : Int32 := match c with | none => -1 | some b => if q = 1 then nI b else nI (pop b)
def wst (ls : List Nat) (c : Option Nat) (s : Nat) : Option Nat := if cB c s = true ∧ ls.all (fun l => decide (l &&& s ≠ 0)) = true then some s else c
def watK (K : KD) : Option Nat := fld (wst (owlK K)) (2 ^ kh K 3) 0 none
def watA (K : KD) (x : Int32) : Int32 := if 0 < kh K 0 ∧ isN 2 x = true then (match watK K with | none => -1 | some b => if x = 1 then nI b else nI (pop b)) else -2
set_option maxRecDepth 20000 in
theorem m_goesAs17 (hM : MK σ K) {w : Nat} (hw : w < kh K 4) : Wp (d + 4) md_206 0 [some (.ref 287), some (.int (nI w)), none] [] (mset M σ) (fun v M' => v = some (.int (bI (lawK K w))) ∧ ∃ σ', M' = mset M σ' ∧ Scr σ σ' ∧ GA σ' K w ∧ σ'.2.2.1 17 = σ.2.2.1 17) := by
  have ok := hM.2.1
  have t := ok_walk ok hw
  obtain ⟨b0, b1, b2, b3, b4, b5, b6, b7, b8, b9, b10, b11, b12⟩ := ok_h ok
  have tb := (TRr_b ok hw).2
  refine Wp.n (pc' := 3) 3 rfl ?_
  refine Wp.ecallV (len := 3) rfl rfl rfl (rfl) rfl (by decide) rfl (m_many0 hM.1 ok hw) ?_
  refine Wp.mput (len := 3) rfl rfl ?_
  refine Wp.n (pc' := 11) 2 rfl ?_
  refine m_ga_l hM hw (kw K w 3) 0 _ (by omega) (Fr.rfl'.fset rfl) rfl (fun j hj => absurd hj (Nat.not_lt_zero j)) (fun τ hF hW => ?_)
  have hK := MK_scr hM (Fr.mono hF rfl rfl)
  have e := r0_walk hK.1 hw (j := 2) (q := 11 * w + 2) (by decide) (by omega)
  refine Wp.n (pc' := 43) 4 rfl ?_
  refine Wp.ecallV (len := 3) rfl rfl rfl (rfl) rfl (by decide) rfl (m_of τ w 2 (by omega)) ?_
  refine Wp.top e ?_
  refine Wp.callV (len := 3) rfl rfl rfl (rfl) rfl (by decide) rfl (m_looks hK hW.1 (by omega) (by omega) (by omega) (fun i hi => ⟨hW.2 i hi, by have := t.2.2.2.2.2.2.1 i hi; omega⟩)) ?_
  rintro _ _ ⟨τ', rfl, rfl, hF', hL'⟩
  refine Wp.n (pc' := 53) 2 rfl ?_
  refine Wp.top ((hF'.1 27 rfl).trans hW.1) ?_
  refine Wp.n (pc' := 54) 1 rfl ?_
  refine Wp.isubN (x := kw K w 3) (y := 1) (len := 1) rfl (by omega) ?_
  refine Wp.nc1 (x := (TRr K w).1) (y := (kw K w 3) - 1) (tgt := 62) (len := 3) rfl (by omega) (by omega) (fun h55 => ?_) (fun h55 => ?_)
  · skip
    refine Wp.n (pc' := 63) 1 rfl ?_
    refine Wp.retZ (len := 1) (c := false) rfl rfl rfl ?_
    refine ⟨?_, τ', rfl, Scr_t (Fr.mono hF rfl rfl) (Fr.mono hF' rfl rfl), ⟨⟨(hF'.1 27 rfl).trans hW.1, fun i hi => ?_⟩, hL'⟩, (hF'.2.1 17 rfl).trans (hF.2.1 17 rfl)⟩
    · unfold lawK
      first | rw [decide_eq_true (by omega)] | rw [decide_eq_false (by omega)]
    · rw [hF'.2.1 14 rfl]
      exact hW.2 i hi
  · skip
    refine Wp.n (pc' := 63) 2 rfl ?_
    refine Wp.retZ (len := 1) (c := true) rfl rfl rfl ?_
    refine ⟨?_, τ', rfl, Scr_t (Fr.mono hF rfl rfl) (Fr.mono hF' rfl rfl), ⟨⟨(hF'.1 27 rfl).trans hW.1, fun i hi => ?_⟩, hL'⟩, (hF'.2.1 17 rfl).trans (hF.2.1 17 rfl)⟩
    · unfold lawK
      first | rw [decide_eq_true (by omega)] | rw [decide_eq_false (by omega)]
    · rw [hF'.2.1 14 rfl]
      exact hW.2 i hi
set_option maxRecDepth 20000 in
theorem m_wa_1 (hM : MK σ K) {q : Nat} : ∀ (n w : Nat) (acc : List Nat) (τ : MS), w + n = kh K 4 → Scr σ τ → acc.length ≤ w → (∀ i, i < acc.length → τ.2.2.1 17 i = nI (acc.getD i 0)) → (∀ l, l ∈ acc → l < 512) → (∀ τ' acc' z, acc' = fld (owl K) n w acc → Scr σ τ' → acc'.length ≤ 10 → (∀ i, i < acc'.length → τ'.2.2.1 17 i = nI (acc'.getD i 0)) → (∀ l, l ∈ acc' → l < 512) → Wp (d + 5) md_245 77 [some (.ref 287), some (.int (nI q)), some (.int (nI (acc'.length))), z, none, none, none] [] (mset M τ') Q) → Wp (d + 5) md_245 29 [some (.ref 287), some (.int (nI q)), some (.int (nI (acc.length))), some (.int (nI w)), none, none, none] [] (mset M τ) Q := by
  have ok := hM.2.1
  have hσ0 := hM.2.2.2
  obtain ⟨b0, b1, b2, b3, b4, b5, b6, b7, b8, b9, b10, b11, b12⟩ := ok_h ok
  intro n
  induction n with
  | zero =>
    intro w acc τ hw hS hl ha hb kk
    have hK := MK_scr hM hS
    refine Wp.n (pc' := 35) 4 rfl ?_
    refine Wp.mialdN (j := 4) (len := 1) rfl rfl rfl (by omega) ?_
    refine Wp.top (r0_has hK.1 (by decide)) ?_
    refine Wp.nc3 (x := w) (y := kh K 4) (tgt := 77) (len := 3) rfl (by omega) (by omega) (fun h36 => ?_) (fun h36 => ?_)
    · skip
      exact kk τ acc _ rfl hS (by omega) ha hb
    · omega
  | succ n ih =>
    intro w acc τ hw hS hl ha hb kk
    have hK := MK_scr hM hS
    have hdw := dutW_b ok (w := w) (by omega)
    have k2 : ∀ τ2, Scr σ τ2 → τ2.2.2.1 17 = τ.2.2.1 17 → ¬ (lawK K w = true ∧ dutW K w ≠ 0) → Wp (d + 5) md_245 29 [some (.ref 287), some (.int (nI q)), some (.int (nI (acc.length))), some (.int (nI (w + 1))), none, none, none] [] (mset M τ2) Q := by
      intro τ2 hS2 e2 hn
      refine ih (w + 1) acc τ2 (by omega) hS2 (by omega) (fun i hi => by rw [e2]; exact ha i hi) hb (fun τ3 acc3 z3 e3 => kk τ3 acc3 z3 (e3.trans ?_))
      show _ = fld (owl K) n (w + 1) (owl K acc w)
      rw [show owl K acc w = acc from if_neg hn]
    refine Wp.n (pc' := 35) 4 rfl ?_
    refine Wp.mialdN (j := 4) (len := 1) rfl rfl rfl (by omega) ?_
    refine Wp.top (r0_has hK.1 (by decide)) ?_
    refine Wp.nc3 (x := w) (y := kh K 4) (tgt := 77) (len := 3) rfl (by omega) (by omega) (fun h36 => ?_) (fun h36 => ?_)
    · omega
    · skip
      refine Wp.n (pc' := 41) 2 rfl ?_
      refine Wp.callV (len := 3) rfl rfl rfl (rfl) rfl (by decide) rfl (m_goesAs17 hK (w := w) (by omega)) ?_
      rintro _ _ ⟨rfl, τ2, rfl, hS2, hG, h17⟩
      refine Wp.ifb0 (tgt := 71) (len := 3) rfl (fun h44 => ?_) (fun h44 => ?_)
      · skip
        refine Wp.incN (x := w) (len := 3) rfl rfl ?_
        refine Wp.n (pc' := 29) 1 rfl ?_
        first
          | exact k2 τ2 (Scr_t hS hS2) h17 (fun q => by rw [h44] at q; exact absurd q.1 (by decide))
          | exact k2 (aset τ2 13 h) (Scr_13 (Scr_t hS hS2)) h17 (fun q => q.2 h52)
          | (have hbt := SB_bits ok (TRr_b ok (w := w) (by omega)).1
             have w2 := ih (w + 1) (acc ++ [bitsM (TRr K w).2.2]) (aset (aset τ2 13 h) 17 (upd (τ2.2.2.1 17) acc.length (nI (bitsM (TRr K w).2.2)))) (by omega) (Fr.aset (Scr_13 (Scr_t hS hS2)) rfl) (by rw [List.length_append]; show acc.length + 1 ≤ _; omega) (fun i hi => by
               rw [aset_get]
               rw [List.length_append] at hi
               have hi' : i < acc.length + 1 := hi
               by_cases c : i = acc.length
               · rw [c, pk_us, getD_end]
               · rw [pk_un c, getD_app (by omega), h17]
                 exact ha i (by omega)) (fun l hl => by
               rcases List.mem_append.mp hl with q | q
               · exact hb l q
               · rw [List.mem_singleton] at q; omega) (fun τ3 acc3 z3 e3 => kk τ3 acc3 z3 (e3.trans (by
               show _ = fld (owl K) n (w + 1) (owl K acc w)
               rw [show owl K acc w = acc ++ [bitsM (TRr K w).2.2] from if_pos ⟨h44, h52⟩])))
             rw [List.length_append] at w2
             exact w2)
      · skip
        refine Wp.n (pc' := 49) 2 rfl ?_
        refine Wp.callV (len := 3) rfl rfl rfl (rfl) rfl (by decide) rfl (m_dutyOf1 (MK_scr hK hS2) (by omega) rfl hG.1 (TRr_b ok (by omega)).1 hG.2) ?_
        rintro _ _ ⟨rfl, h, rfl⟩
        refine Wp.nz1 (x := dutW K w) (tgt := 58) (len := 3) rfl (by omega) (fun h52 => ?_) (fun h52 => ?_)
        · skip
          refine Wp.n (pc' := 67) 5 rfl ?_
          refine Wp.top (show _ = nI _ from hG.2.2.1) ?_
          refine Wp.miastN (j := acc.length) (len := 1) rfl rfl rfl (by omega) ?_
          refine Wp.incN (x := acc.length) (len := 3) rfl rfl ?_
          refine Wp.incN (x := w) (len := 3) rfl rfl ?_
          refine Wp.n (pc' := 29) 1 rfl ?_
          first
            | exact k2 τ2 (Scr_t hS hS2) h17 (fun q => by rw [h44] at q; exact absurd q.1 (by decide))
            | exact k2 (aset τ2 13 h) (Scr_13 (Scr_t hS hS2)) h17 (fun q => q.2 h52)
            | (have hbt := SB_bits ok (TRr_b ok (w := w) (by omega)).1
               have w2 := ih (w + 1) (acc ++ [bitsM (TRr K w).2.2]) (aset (aset τ2 13 h) 17 (upd (τ2.2.2.1 17) acc.length (nI (bitsM (TRr K w).2.2)))) (by omega) (Fr.aset (Scr_13 (Scr_t hS hS2)) rfl) (by rw [List.length_append]; show acc.length + 1 ≤ _; omega) (fun i hi => by
                 rw [aset_get]
                 rw [List.length_append] at hi
                 have hi' : i < acc.length + 1 := hi
                 by_cases c : i = acc.length
                 · rw [c, pk_us, getD_end]
                 · rw [pk_un c, getD_app (by omega), h17]
                   exact ha i (by omega)) (fun l hl => by
                 rcases List.mem_append.mp hl with q | q
                 · exact hb l q
                 · rw [List.mem_singleton] at q; omega) (fun τ3 acc3 z3 e3 => kk τ3 acc3 z3 (e3.trans (by
                 show _ = fld (owl K) n (w + 1) (owl K acc w)
                 rw [show owl K acc w = acc ++ [bitsM (TRr K w).2.2] from if_pos ⟨h44, h52⟩])))
               rw [List.length_append] at w2
               exact w2)
        · skip
          refine Wp.n (pc' := 71) 1 rfl ?_
          refine Wp.incN (x := w) (len := 3) rfl rfl ?_
          refine Wp.n (pc' := 29) 1 rfl ?_
          first
            | exact k2 τ2 (Scr_t hS hS2) h17 (fun q => by rw [h44] at q; exact absurd q.1 (by decide))
            | exact k2 (aset τ2 13 h) (Scr_13 (Scr_t hS hS2)) h17 (fun q => q.2 h52)
            | (have hbt := SB_bits ok (TRr_b ok (w := w) (by omega)).1
               have w2 := ih (w + 1) (acc ++ [bitsM (TRr K w).2.2]) (aset (aset τ2 13 h) 17 (upd (τ2.2.2.1 17) acc.length (nI (bitsM (TRr K w).2.2)))) (by omega) (Fr.aset (Scr_13 (Scr_t hS hS2)) rfl) (by rw [List.length_append]; show acc.length + 1 ≤ _; omega) (fun i hi => by
                 rw [aset_get]
                 rw [List.length_append] at hi
                 have hi' : i < acc.length + 1 := hi
                 by_cases c : i = acc.length
                 · rw [c, pk_us, getD_end]
                 · rw [pk_un c, getD_app (by omega), h17]
                   exact ha i (by omega)) (fun l hl => by
                 rcases List.mem_append.mp hl with q | q
                 · exact hb l q
                 · rw [List.mem_singleton] at q; omega) (fun τ3 acc3 z3 e3 => kk τ3 acc3 z3 (e3.trans (by
                 show _ = fld (owl K) n (w + 1) (owl K acc w)
                 rw [show owl K acc w = acc ++ [bitsM (TRr K w).2.2] from if_pos ⟨h44, h52⟩])))
               rw [List.length_append] at w2
               exact w2)

theorem m_wa_2 (hM : MK σ K) {q s : Nat} {bs : Option Nat} {ls : List Nat} (hs : s < 256) (h10 : ls.length ≤ 10) (ha : ∀ i, i < ls.length → σ.2.2.1 17 i = nI (ls.getD i 0)) (hb : ∀ l, l ∈ ls → l < 512) : ∀ (n i : Nat) (b : Bool), i + n = ls.length → (∀ z, Wp d md_245 159 [some (.ref 287), some (.int (nI q)), some (.int (nI (ls.length))), some (.int (oI bs)), some (.int (nI s)), some (.int (bI (b && (ls.drop i).all (fun l => decide (l &&& s ≠ 0))))), z] [] (mset M σ) Q) → Wp d md_245 122 [some (.ref 287), some (.int (nI q)), some (.int (nI (ls.length))), some (.int (oI bs)), some (.int (nI s)), some (.int (bI b)), some (.int (nI i))] [] (mset M σ) Q := by
  have ok := hM.2.1
  have hσ0 := hM.2.2.2
  obtain ⟨b0, b1, b2, b3, b4, b5, b6, b7, b8, b9, b10, b11, b12⟩ := ok_h ok
  intro n
  induction n with
  | zero =>
    intro i b hi kk
    refine Wp.n (pc' := 125) 2 rfl ?_
    refine Wp.nc3 (x := i) (y := ls.length) (tgt := 159) (len := 3) rfl (by omega) (by omega) (fun h125 => ?_) (fun h125 => ?_)
    · skip
      have w := kk (some (.int (nI i)))
      rw [List.drop_eq_nil_of_le (by omega), List.all_nil, Bool.and_true] at w
      exact w
    · omega
  | succ n ih =>
    intro i b hi kk
    have hil : i < ls.length := by omega
    have hl5 : ls.getD i 0 < 512 := by
      rw [List.getD_eq_getElem?_getD, List.getElem?_eq_getElem hil]
      exact hb _ (List.getElem_mem _)
    have ed : (ls.drop i).all (fun l => decide (l &&& s ≠ 0)) = (decide (ls.getD i 0 &&& s ≠ 0) && (ls.drop (i + 1)).all (fun l => decide (l &&& s ≠ 0))) := by
      rw [List.drop_eq_getElem_cons hil, List.all_cons, List.getD_eq_getElem?_getD, List.getElem?_eq_getElem hil]
      rfl
    have hnd : ls.getD i 0 &&& s < 2 ^ 31 := Nat.lt_of_le_of_lt Nat.and_le_left (by omega)
    rw [ed] at kk
    refine Wp.n (pc' := 125) 2 rfl ?_
    refine Wp.nc3 (x := i) (y := ls.length) (tgt := 159) (len := 3) rfl (by first | omega | exact hnd) (by first | omega | exact hnd) (fun h125 => ?_) (fun h125 => ?_)
    · omega
    · skip
      refine Wp.n (pc' := 130) 1 rfl ?_
      refine Wp.ifb0 (tgt := 159) (len := 3) rfl (fun h130 => ?_) (fun h130 => ?_)
      · skip
        subst h130
        exact kk _
      · skip
        refine Wp.n (pc' := 139) 3 rfl ?_
        refine Wp.mialdN (j := i) (len := 1) rfl rfl rfl (by omega) ?_
        refine Wp.top (ha i (by omega)) ?_
        refine Wp.n (pc' := 143) 2 rfl ?_
        refine Wp.top (n_and _ _) ?_
        refine Wp.nz0 (x := ls.getD i 0 &&& s) (tgt := 150) (len := 3) rfl (by first | omega | exact hnd) (fun h143 => ?_) (fun h143 => ?_)
        · skip
          refine Wp.n (pc' := 153) 2 rfl ?_
          refine Wp.incN (x := i) (len := 3) rfl rfl ?_
          refine Wp.n (pc' := 122) 1 rfl ?_
          subst h130
          first
            | exact ih (i + 1) false (by omega) (fun z => by have w := kk z; rw [decide_eq_false (fun q => q h143)] at w; exact w)
            | exact ih (i + 1) true (by omega) (fun z => by have w := kk z; rw [decide_eq_true h143] at w; exact w)
        · skip
          refine Wp.n (pc' := 153) 3 rfl ?_
          refine Wp.incN (x := i) (len := 3) rfl rfl ?_
          refine Wp.n (pc' := 122) 1 rfl ?_
          subst h130
          first
            | exact ih (i + 1) false (by omega) (fun z => by have w := kk z; rw [decide_eq_false (fun q => q h143)] at w; exact w)
            | exact ih (i + 1) true (by omega) (fun z => by have w := kk z; rw [decide_eq_true h143] at w; exact w)

theorem m_wa_3 (hM : MK σ K) {q : Nat} {ls : List Nat} (hq : q < 2) (h10 : ls.length ≤ 10) (ha : ∀ i, i < ls.length → σ.2.2.1 17 i = nI (ls.getD i 0)) (hb : ∀ l, l ∈ ls → l < 512) : ∀ (n s : Nat) (c : Option Nat) (z5 z6 : Option Value), s + n = 2 ^ kh K 3 → (∀ b, c = some b → b < 256) → Wp (d + 1) md_245 82 [some (.ref 287), some (.int (nI q)), some (.int (nI (ls.length))), some (.int (oI c)), some (.int (nI s)), z5, z6] [] (mset M σ) (IsR (some (.int (wE q (fld (wst ls) n s c)))) (mset M σ)) := by
  have ok := hM.2.1
  have hσ0 := hM.2.2.2
  obtain ⟨b0, b1, b2, b3, b4, b5, b6, b7, b8, b9, b10, b11, b12⟩ := ok_h ok
  have h28 : 2 ^ kh K 3 ≤ 256 := Nat.pow_le_pow_right (by decide) b3
  intro n
  induction n with
  | zero =>
    intro s c z5 z6 hs hc
    show Wp _ _ _ _ _ _ (IsR (some (.int (wE q c))) (mset M σ))
    refine Wp.n (pc' := 90) 5 rfl ?_
    refine Wp.mialdN (j := 3) (len := 1) rfl rfl rfl (by omega) ?_
    refine Wp.top (r0_has hM.1 (by decide)) ?_
    refine Wp.n (pc' := 92) 1 rfl ?_
    refine Wp.top (n_sh1 _ (by omega)) ?_
    refine Wp.nc3 (x := s) (y := 2 ^ kh K 3) (tgt := 177) (len := 3) rfl (by omega) (by omega) (fun h92 => ?_) (fun h92 => ?_)
    · skip
      rcases c with _ | b
      · skip
        refine Wp.n (pc' := 179) 2 rfl ?_
        refine Wp.ic0 (tgt := 187) (len := 3) rfl (fun h179 => ?_) (fun h179 => ?_)
        · skip
          refine Wp.n (pc' := 195) 2 rfl ?_
          refine Wp.retI (len := 1) rfl rfl ?_
          first
            | exact ⟨rfl, rfl⟩
            | exact ⟨by show _ = some (Value.int (if q = 1 then nI b else nI (pop b))); rw [if_pos h184]; rfl, rfl⟩
            | exact ⟨by show _ = some (Value.int (if q = 1 then nI b else nI (pop b))); rw [if_neg h184], rfl⟩
        · exact absurd rfl h179
      · have hb2 := hc b rfl
        refine Wp.n (pc' := 179) 2 rfl ?_
        refine Wp.ic0 (tgt := 187) (len := 3) rfl (fun h179 => ?_) (fun h179 => ?_)
        · exact absurd h179 (oI_ne (by omega))
        · skip
          refine Wp.n (pc' := 184) 2 rfl ?_
          refine Wp.nc1 (x := q) (y := 1) (tgt := 191) (len := 3) rfl (by omega) (by omega) (fun h184 => ?_) (fun h184 => ?_)
          · skip
            refine Wp.n (pc' := 192) 1 rfl ?_
            refine Wp.ecallS (len := 3) rfl rfl rfl rfl (m_sizeOf hb2) ?_
            refine Wp.retI (len := 1) rfl rfl ?_
            first
              | exact ⟨rfl, rfl⟩
              | exact ⟨by show _ = some (Value.int (if q = 1 then nI b else nI (pop b))); rw [if_pos h184]; rfl, rfl⟩
              | exact ⟨by show _ = some (Value.int (if q = 1 then nI b else nI (pop b))); rw [if_neg h184], rfl⟩
          · skip
            refine Wp.n (pc' := 195) 2 rfl ?_
            refine Wp.retI (len := 1) rfl rfl ?_
            first
              | exact ⟨rfl, rfl⟩
              | exact ⟨by show _ = some (Value.int (if q = 1 then nI b else nI (pop b))); rw [if_pos h184]; rfl, rfl⟩
              | exact ⟨by show _ = some (Value.int (if q = 1 then nI b else nI (pop b))); rw [if_neg h184], rfl⟩
    · omega
  | succ n ih =>
    intro s c z5 z6 hs hc
    have hs2 : s < 256 := by omega
    have kk : ∀ (b : Bool) (z5 z6 : Option Value), cB c s = b → Wp (d + 1) md_245 122 [some (.ref 287), some (.int (nI q)), some (.int (nI (ls.length))), some (.int (oI c)), some (.int (nI s)), some (.int (bI b)), some (.int (nI 0))] [] (mset M σ) (IsR (some (.int (wE q (fld (wst ls) (n + 1) s c)))) (mset M σ)) := by
      intro b z5 z6 hbb
      refine m_wa_2 hM hs2 h10 ha hb ls.length 0 b (by omega) (fun z => ?_)
      rw [List.drop_zero]
      show Wp _ _ _ _ _ _ (IsR (some (.int (wE q (fld (wst ls) n (s + 1) (wst ls c s))))) (mset M σ))
      refine Wp.n (pc' := 161) 1 rfl ?_
      refine Wp.ifb0 (tgt := 169) (len := 3) rfl (fun h161 => ?_) (fun h161 => ?_)
      · skip
        refine Wp.n (pc' := 171) 2 rfl ?_
        refine Wp.incN (x := s) (len := 3) rfl rfl ?_
        refine Wp.n (pc' := 82) 1 rfl ?_
        first
          | (have e : wst ls c s = some s := by unfold wst; rw [if_pos]; rw [hbb]; exact Bool.and_eq_true_iff.mp h161
             rw [e]
             exact ih (s + 1) (some s) _ _ (by omega) (fun b q => by cases q; exact hs2))
          | (have e : wst ls c s = c := by unfold wst; rw [if_neg]; rw [hbb]; exact fun q => by rw [Bool.and_eq_true_iff.mpr q] at h161; cases h161
             rw [e]
             exact ih (s + 1) c _ _ (by omega) hc)
      · skip
        refine Wp.n (pc' := 171) 3 rfl ?_
        refine Wp.incN (x := s) (len := 3) rfl rfl ?_
        refine Wp.n (pc' := 82) 1 rfl ?_
        first
          | (have e : wst ls c s = some s := by unfold wst; rw [if_pos]; rw [hbb]; exact Bool.and_eq_true_iff.mp h161
             rw [e]
             exact ih (s + 1) (some s) _ _ (by omega) (fun b q => by cases q; exact hs2))
          | (have e : wst ls c s = c := by unfold wst; rw [if_neg]; rw [hbb]; exact fun q => by rw [Bool.and_eq_true_iff.mpr q] at h161; cases h161
             rw [e]
             exact ih (s + 1) c _ _ (by omega) hc)
    refine Wp.n (pc' := 90) 5 rfl ?_
    refine Wp.mialdN (j := 3) (len := 1) rfl rfl rfl (by omega) ?_
    refine Wp.top (r0_has hM.1 (by decide)) ?_
    refine Wp.n (pc' := 92) 1 rfl ?_
    refine Wp.top (n_sh1 _ (by omega)) ?_
    refine Wp.nc3 (x := s) (y := 2 ^ kh K 3) (tgt := 177) (len := 3) rfl (by omega) (by omega) (fun h92 => ?_) (fun h92 => ?_)
    · omega
    · skip
      rcases c with _ | b
      · skip
        refine Wp.n (pc' := 97) 2 rfl ?_
        refine Wp.ic0 (tgt := 112) (len := 3) rfl (fun h97 => ?_) (fun h97 => ?_)
        · skip
          refine Wp.n (pc' := 122) 5 rfl ?_
          first
            | exact kk true none none rfl
            | exact kk true none none (decide_eq_true h109)
            | exact kk false none none (decide_eq_false (by omega))
        · exact absurd rfl h97
      · have hb2 := hc b rfl
        have pb1 := pop_b (v := b)
        have pb2 := pop_b (v := s)
        refine Wp.n (pc' := 97) 2 rfl ?_
        refine Wp.ic0 (tgt := 112) (len := 3) rfl (fun h97 => ?_) (fun h97 => ?_)
        · exact absurd h97 (oI_ne (by omega))
        · skip
          refine Wp.n (pc' := 102) 1 rfl ?_
          refine Wp.ecallS (len := 3) rfl rfl rfl rfl (m_sizeOf hs2) ?_
          refine Wp.n (pc' := 106) 1 rfl ?_
          refine Wp.ecallS (len := 3) rfl rfl rfl rfl (m_sizeOf hb2) ?_
          refine Wp.nc3 (x := pop s) (y := pop b) (tgt := 116) (len := 3) rfl (by omega) (by omega) (fun h109 => ?_) (fun h109 => ?_)
          · skip
            refine Wp.n (pc' := 122) 4 rfl ?_
            first
              | exact kk true none none rfl
              | exact kk true none none (decide_eq_true h109)
              | exact kk false none none (decide_eq_false (by omega))
          · skip
            refine Wp.n (pc' := 122) 5 rfl ?_
            first
              | exact kk true none none rfl
              | exact kk true none none (decide_eq_true h109)
              | exact kk false none none (decide_eq_false (by omega))

theorem m_watchers (hM : MK σ K) (x : Int32) : Wp (d + 5) md_245 0 [some (.ref 287), some (.int x), none, none, none, none, none] [] (mset M σ) (RI M σ (watA K x)) := by
  have ok := hM.2.1
  have hσ0 := hM.2.2.2
  obtain ⟨b0, b1, b2, b3, b4, b5, b6, b7, b8, b9, b10, b11, b12⟩ := ok_h ok
  unfold watA
  refine Wp.n (pc' := 2) 2 rfl ?_
  refine Wp.mput0 (len := 3) rfl hσ0 ?_
  refine Wp.n (pc' := 6) 1 rfl ?_
  refine Wp.ecallV (len := 3) rfl rfl rfl (rfl) rfl (by decide) rfl (m_isKingdom hM.1 ok) ?_
  refine Wp.ifb0 (tgt := 22) (len := 3) rfl (fun h9 => ?_) (fun h9 => ?_)
  · skip
    refine Wp.n (pc' := 24) 1 rfl ?_
    refine Wp.retI (len := 1) rfl rfl ?_
    first
      | (rw [if_neg (fun q => of_decide_eq_false h9 q.1)]; exact RI_r rfl)
      | (rw [if_neg (fun q => by rw [h19] at q; exact absurd q.2 (by decide))]; exact RI_r rfl)
  · skip
    refine Wp.n (pc' := 16) 4 rfl ?_
    refine Wp.ecallS (len := 3) rfl rfl rfl rfl (m_in _ _ _) ?_
    refine Wp.ifb1 (tgt := 25) (len := 3) rfl (fun h19 => ?_) (fun h19 => ?_)
    · rw [in_isN (k := 2) (by decide)] at h19
      obtain ⟨k, hk, rfl⟩ := isN_of h19
      rw [if_pos ⟨of_decide_eq_true h9, h19⟩]
      refine Wp.n (pc' := 29) 4 rfl ?_
      refine m_wa_1 hM (kh K 4) 0 [] σ (by omega) Scr_r (Nat.le_refl _) (fun i hi => absurd hi (Nat.not_lt_zero i)) (fun l hl => absurd hl List.not_mem_nil) (fun τ ls z e1 hS hl ha hb => ?_)
      refine Wp.n (pc' := 82) 4 rfl ?_
      refine Wp.mono (m_wa_3 (d := d + 4) (MK_scr hM hS) hk hl ha hb (2 ^ kh K 3) 0 none _ _ (by omega) (fun b q => by cases q)) ?_
      rintro _ _ ⟨rfl, rfl⟩
      refine RI_s hS ?_
      unfold watK owlK wE
      rw [← e1]
      have ek : (nI k = (1 : Int32)) ↔ k = 1 := nI_eq (b := 1) (by omega) (by decide)
      cases fld (wst ls) (2 ^ kh K 3) 0 none with
      | none => rfl
      | some b =>
        dsimp only
        by_cases c : k = 1
        · rw [if_pos c, if_pos (ek.mpr c)]
        · rw [if_neg c, if_neg (fun q => c (ek.mp q))]
    · rw [in_isN (k := 2) (by decide)] at h19
      refine Wp.n (pc' := 24) 1 rfl ?_
      refine Wp.retI (len := 1) rfl rfl ?_
      first
        | (rw [if_neg (fun q => of_decide_eq_false h9 q.1)]; exact RI_r rfl)
        | (rw [if_neg (fun q => by rw [h19] at q; exact absurd q.2 (by decide))]; exact RI_r rfl)

end LAWS
end
section
/-! SLOTS, THE TAPE, COPIES: the reference. -/
/-- widths, sizes, numbers of the slots -/
abbrev SS : Type := (Nat → Int32) × (Nat → Nat) × (Nat → Nat → Int64)
def SOK (S : SS) : Prop := ∀ s, s < 4 → S.2.1 s ≤ 60
def SM (σ : MS) (S : SS) : Prop := SOK S ∧ ∀ s, s < 4 → σ.2.2.1 0 s = S.1 s ∧ σ.2.2.1 1 s = nI (S.2.1 s) ∧ ∀ i, i < S.2.1 s → σ.2.2.2 2 (60 * s + i) = S.2.2 s i
def isL (x : Int32) : Bool := decide (x.toInt ≤ 60)
def rowA (x w m : Int32) : Int32 := if isN 4 x = true ∧ isN 4 w = true ∧ m.toInt ≤ 60 then (if m.toInt < 0 then -3 else 0) else -2
def rowN (S : SS) (x w m : Int32) : SS := if isN 4 x = true ∧ isN 4 w = true ∧ m.toInt ≤ 60 ∧ 0 ≤ m.toInt then (upd S.1 x.toNatClampNeg w, va_up S.2.1 x.toNatClampNeg m.toNatClampNeg, va_up S.2.2 x.toNatClampNeg (fun _ => 0)) else S
def cutV (x : Int64) (w : Int32) : Int64 := if w = 0 then x.toInt32.toInt8.toInt32.toInt64 else if w = 1 then x.toInt32.toInt16.toInt32.toInt64 else if w = 2 then x.toInt32.toInt64 else x
def writeA (S : SS) (x i : Int32) : Int32 := if isN 4 x = true then (if S.1 x.toNatClampNeg = -1 then -6 else if isN (S.2.1 x.toNatClampNeg) i = true then 0 else -7) else -2
def writeN (S : SS) (x i : Int32) (v : Int64) : SS := if isN 4 x = true ∧ S.1 x.toNatClampNeg ≠ -1 ∧ isN (S.2.1 x.toNatClampNeg) i = true then (S.1, S.2.1, va_up S.2.2 x.toNatClampNeg (vp_updL (S.2.2 x.toNatClampNeg) i.toNatClampNeg (cutV v (S.1 x.toNatClampNeg)))) else S
/-- are m numbers from i on within a row of k -/
def cov (k : Nat) (i m : Int32) : Bool := decide (0 ≤ i.toInt ∧ 0 ≤ m.toInt ∧ i.toInt + m.toInt ≤ (k : Int))
def pasteC (S : SS) (x i t k m : Int32) : Bool := isN 4 x && isN 4 t && !(decide (S.1 x.toNatClampNeg = -1)) && !(decide (S.1 t.toNatClampNeg = -1)) && decide (S.1 x.toNatClampNeg = S.1 t.toNatClampNeg) && cov (S.2.1 x.toNatClampNeg) i m && cov (S.2.1 t.toNatClampNeg) k m
def pasteA (S : SS) (x i t k m : Int32) : Int32 := if (isN 4 x && isN 4 t) = true then (if S.1 x.toNatClampNeg = -1 ∨ S.1 t.toNatClampNeg = -1 then -6 else if S.1 x.toNatClampNeg ≠ S.1 t.toNatClampNeg then -8 else if (cov (S.2.1 x.toNatClampNeg) i m && cov (S.2.1 t.toNatClampNeg) k m) = true then 0 else -7) else -2
def pst (f g : Nat → Int64) (i k m : Nat) : Nat → Int64 := fun j => if k ≤ j ∧ j < k + m then f (i + (j - k)) else g j
def pasteN (S : SS) (x i t k m : Int32) : SS := if pasteC S x i t k m = true then (S.1, S.2.1, va_up S.2.2 t.toNatClampNeg (pst (S.2.2 x.toNatClampNeg) (S.2.2 t.toNatClampNeg) i.toNatClampNeg k.toNatClampNeg m.toNatClampNeg)) else S
theorem lset_get {σ : MS} {k : Nat} {f : Nat → Int64} : (lset σ k f).2.2.2 k = f := va_up_self _ _ _
theorem lset_lset {σ : MS} {k : Nat} {f g : Nat → Int64} : lset (lset σ k f) k g = lset σ k g := by
  unfold lset
  have e : va_up (va_up σ.2.2.2 k f) k g = va_up σ.2.2.2 k g := by
    funext j
    by_cases c : j = k
    · rw [c, va_up_self, va_up_self]
    · rw [va_up_ne _ _ c, va_up_ne _ _ c, va_up_ne _ _ c]
  rw [show (σ.1, σ.2.1, σ.2.2.1, va_up σ.2.2.2 k f).2.2.2 = va_up σ.2.2.2 k f from rfl, e]
theorem lu_s {f : Nat → Int64} {k : Nat} {x : Int64} : vp_updL f k x k = x := by unfold vp_updL; rw [if_pos rfl]
theorem lu_n {f : Nat → Int64} {k j : Nat} {x : Int64} (h : j ≠ k) : vp_updL f k x j = f j := by unfold vp_updL; rw [if_neg h]
theorem isN_f {k : Nat} {x : Int32} (h : ¬ x.toInt < 0) (h2 : x.toInt < (k : Int)) : isN k x = true := decide_eq_true ⟨by omega, h2⟩
section SLOT
variable {d : Nat} {M : AM} {σ σ' : MS} {S : SS} {Q : Option Value → AM → Prop}
theorem m_isSlotN (x : Int32) : Ev (d + 1) md_151 0 [some (.int x)] [] M (some (.int (bI (isN 4 x))), M) := by
  have w := m_isSlot (d := d) (M := M) x
  have e : decide (0 ≤ x.toInt ∧ x.toInt ≤ 3) = isN 4 x := by
    unfold isN
    by_cases c : 0 ≤ x.toInt ∧ x.toInt < ((4 : Nat) : Int)
    · rw [decide_eq_true c, decide_eq_true (by omega)]
    · rw [decide_eq_false c, decide_eq_false (by omega)]
  rw [e] at w
  exact w
/-- the cells of the reference after row -/
theorem m_row_l {s w m : Nat} (hs : s < 4) (hm : m ≤ 60) : ∀ (n i : Nat) (g : Nat → Int64), i + n = m → (∀ q, q < i → g (60 * s + q) = 0) → (∀ q, q < 60 * s ∨ 60 * s + 60 ≤ q → g q = σ.2.2.2 2 q) → Wp d md_150 57 [some (.ref 287), some (.int (nI s)), some (.int (nI w)), some (.int (nI m)), some (.int (nI i))] [] (mset M (lset σ 2 g)) (fun v M' => v = some (.int 0) ∧ ∃ g, M' = mset M (lset σ 2 g) ∧ (∀ q, q < m → g (60 * s + q) = 0) ∧ (∀ q, q < 60 * s ∨ 60 * s + 60 ≤ q → g q = σ.2.2.2 2 q)) := by
  intro n
  induction n with
  | zero =>
    intro i g hi h0 h1
    refine Wp.n (pc' := 60) 2 rfl ?_
    refine Wp.nc3 (x := i) (y := m) (tgt := 82) (len := 3) rfl (by omega) (by omega) (fun h60 => ?_) (fun h60 => ?_)
    · skip
      refine Wp.n (pc' := 83) 1 rfl ?_
      refine Wp.retI (len := 1) rfl rfl ?_
      exact ⟨rfl, g, rfl, fun q hq => h0 q (by omega), h1⟩
    · omega
  | succ n ih =>
    intro i g hi h0 h1
    refine Wp.n (pc' := 60) 2 rfl ?_
    refine Wp.nc3 (x := i) (y := m) (tgt := 82) (len := 3) rfl (by omega) (by omega) (fun h60 => ?_) (fun h60 => ?_)
    · omega
    · skip
      refine Wp.n (pc' := 70) 4 rfl ?_
      refine Wp.imulN (x := 60) (y := s) (len := 1) rfl ?_
      refine Wp.n (pc' := 73) 1 rfl ?_
      refine Wp.iaddN (x := 60 * s) (y := i) (len := 1) rfl ?_
      refine Wp.n (pc' := 75) 1 rfl ?_
      refine Wp.mlastN (j := (60 * s) + i) (len := 1) rfl rfl rfl (by omega) ?_
      refine Wp.incN (x := i) (len := 3) rfl rfl ?_
      refine Wp.n (pc' := 57) 1 rfl ?_
      rw [lset_get, lset_lset]
      refine ih (i + 1) _ (by omega) (fun q hq => ?_) (fun q hq => ?_)
      · by_cases c : q = i
        · rw [c, lu_s]
        · rw [lu_n (by omega)]; exact h0 q (by omega)
      · rw [lu_n (by omega)]; exact h1 q hq

theorem m_row (hσ0 : σ.1 0 = 0) (hS : SM σ S) (x w m : Int32) : Wp (d + 2) md_150 0 [some (.ref 287), some (.int x), some (.int w), some (.int m), none] [] (mset M σ) (fun v M' => v = some (.int (rowA x w m)) ∧ ∃ σ', M' = mset M σ' ∧ SM σ' (rowN S x w m) ∧ σ'.1 = σ.1 ∧ σ'.2.1 = σ.2.1 ∧ (∀ k, 2 ≤ k → σ'.2.2.1 k = σ.2.2.1 k) ∧ (∀ k, k ≠ 2 → σ'.2.2.2 k = σ.2.2.2 k)) := by
  unfold rowA rowN
  refine Wp.n (pc' := 2) 2 rfl ?_
  refine Wp.mput0 (len := 3) rfl hσ0 ?_
  refine Wp.n (pc' := 6) 1 rfl ?_
  refine Wp.ecallS (len := 3) rfl rfl rfl rfl (m_isSlotN _) ?_
  refine Wp.ifb0 (tgt := 30) (len := 3) rfl (fun h9 => ?_) (fun h9 => ?_)
  · skip
    refine Wp.n (pc' := 32) 1 rfl ?_
    refine Wp.retI (len := 1) rfl rfl ?_
    first
      | (rw [if_neg (fun q => by rw [h9] at q; exact absurd q.1 (by decide)), if_neg (fun q => by rw [h9] at q; exact absurd q.1 (by decide))]; exact ⟨rfl, σ, rfl, hS, rfl, rfl, fun _ _ => rfl, fun _ _ => rfl⟩)
      | (rw [if_neg (fun q => by rw [h21] at q; exact absurd q.2.1 (by decide)), if_neg (fun q => by rw [h21] at q; exact absurd q.2.1 (by decide))]; exact ⟨rfl, σ, rfl, hS, rfl, rfl, fun _ _ => rfl, fun _ _ => rfl⟩)
      | (rw [if_neg (fun q => h27 q.2.2), if_neg (fun q => h27 q.2.2.1)]; exact ⟨rfl, σ, rfl, hS, rfl, rfl, fun _ _ => rfl, fun _ _ => rfl⟩)
  · skip
    refine Wp.n (pc' := 18) 4 rfl ?_
    refine Wp.ecallS (len := 3) rfl rfl rfl rfl (m_in _ _ _) ?_
    refine Wp.ifb0 (tgt := 30) (len := 3) rfl (fun h21 => ?_) (fun h21 => ?_)
    · rw [in_isN (k := 4) (by decide)] at h21
      refine Wp.n (pc' := 32) 1 rfl ?_
      refine Wp.retI (len := 1) rfl rfl ?_
      first
        | (rw [if_neg (fun q => by rw [h9] at q; exact absurd q.1 (by decide)), if_neg (fun q => by rw [h9] at q; exact absurd q.1 (by decide))]; exact ⟨rfl, σ, rfl, hS, rfl, rfl, fun _ _ => rfl, fun _ _ => rfl⟩)
        | (rw [if_neg (fun q => by rw [h21] at q; exact absurd q.2.1 (by decide)), if_neg (fun q => by rw [h21] at q; exact absurd q.2.1 (by decide))]; exact ⟨rfl, σ, rfl, hS, rfl, rfl, fun _ _ => rfl, fun _ _ => rfl⟩)
        | (rw [if_neg (fun q => h27 q.2.2), if_neg (fun q => h27 q.2.2.1)]; exact ⟨rfl, σ, rfl, hS, rfl, rfl, fun _ _ => rfl, fun _ _ => rfl⟩)
    · rw [in_isN (k := 4) (by decide)] at h21
      refine Wp.n (pc' := 27) 2 rfl ?_
      refine Wp.ic5 (tgt := 33) (len := 3) rfl (fun h27 => ?_) (fun h27 => ?_)
      · rw [i_le] at h27
        have hm60 : m.toInt ≤ 60 := h27
        rw [if_pos ⟨h9, h21, hm60⟩]
        refine Wp.n (pc' := 34) 1 rfl ?_
        refine Wp.if3 (tgt := 40) (len := 3) rfl (fun h34 => ?_) (fun h34 => ?_)
        · rw [i_le] at h34
          have hm0 : 0 ≤ m.toInt := h34
          obtain ⟨s, hs, rfl⟩ := isN_of h9
          obtain ⟨w, hw, rfl⟩ := isN_of h21
          obtain ⟨m, hm, rfl⟩ := nI_of (x := m) (by rw [i_lt]; intro q; have : m.toInt < 0 := q; omega)
          rw [nI_toInt hm] at hm60
          rw [if_neg (by rw [nI_toInt hm]; omega), if_pos ⟨h9, h21, by rw [nI_toInt hm]; omega, by rw [nI_toInt hm]; omega⟩, nI_clamp (by omega), nI_clamp hm]
          refine Wp.n (pc' := 46) 4 rfl ?_
          refine Wp.miastN (j := s) (len := 1) rfl rfl rfl (by omega) ?_
          refine Wp.n (pc' := 53) 4 rfl ?_
          refine Wp.miastN (j := s) (len := 1) rfl rfl rfl (by omega) ?_
          refine Wp.n (pc' := 57) 2 rfl ?_
          have w0 := m_row_l (d := d + 2) (M := M) (σ := aset (aset σ 0 (upd (σ.2.2.1 0) s (nI w))) 1 (upd (σ.2.2.1 1) s (nI m))) (s := s) (w := w) (m := m) hs (by omega) m 0 (σ.2.2.2 2) (by omega) (fun q hq => absurd hq (Nat.not_lt_zero q)) (fun q _ => rfl)
          rw [show lset (aset (aset σ 0 (upd (σ.2.2.1 0) s (nI w))) 1 (upd (σ.2.2.1 1) s (nI m))) 2 (σ.2.2.2 2) = aset (aset σ 0 (upd (σ.2.2.1 0) s (nI w))) 1 (upd (σ.2.2.1 1) s (nI m)) from by
            unfold lset
            rw [show va_up (aset (aset σ 0 (upd (σ.2.2.1 0) s (nI w))) 1 (upd (σ.2.2.1 1) s (nI m))).2.2.2 2 (σ.2.2.2 2) = σ.2.2.2 from by
              funext j
              by_cases c : j = 2
              · rw [c, va_up_self]
              · rw [va_up_ne _ _ c]; rfl]
            rfl] at w0
          refine Wp.mono w0 ?_
          rintro _ _ ⟨rfl, g, rfl, g0, g1⟩
          refine ⟨rfl, _, rfl, ⟨fun t ht => ?_, fun t ht => ?_⟩, rfl, rfl, fun k hk => ?_, fun k hk => va_up_ne _ _ hk⟩
          · show va_up S.2.1 s m t ≤ 60
            by_cases c : t = s
            · rw [c, va_up_self]; omega
            · rw [va_up_ne _ _ c]; exact hS.1 t ht
          · by_cases c : t = s
            · subst c
              refine ⟨?_, ?_, fun i hi => ?_⟩
              · show upd (σ.2.2.1 0) t (nI w) t = upd S.1 t (nI w) t
                rw [pk_us, pk_us]
              · show upd (σ.2.2.1 1) t (nI m) t = nI (va_up S.2.1 t m t)
                rw [pk_us, va_up_self]
              · have hi' : i < m := by
                  have : i < va_up S.2.1 t m t := hi
                  rwa [va_up_self] at this
                rw [lset_get, g0 i hi']
                show 0 = va_up S.2.2 t (fun _ => 0) t i
                rw [va_up_self]
            · obtain ⟨a1, a2, a3⟩ := hS.2 t ht
              refine ⟨?_, ?_, fun i hi => ?_⟩
              · show upd (σ.2.2.1 0) s (nI w) t = upd S.1 s (nI w) t
                rw [pk_un c, pk_un c, a1]
              · show upd (σ.2.2.1 1) s (nI m) t = nI (va_up S.2.1 s m t)
                rw [pk_un c, va_up_ne _ _ c, a2]
              · have hi' : i < S.2.1 t := by
                  have : i < va_up S.2.1 s m t := hi
                  rwa [va_up_ne _ _ c] at this
                have h60 := hS.1 t ht
                rw [lset_get, g1 _ (by omega)]
                show _ = va_up S.2.2 s (fun _ => 0) t i
                rw [va_up_ne _ _ c]
                exact a3 i hi'
          · show va_up (va_up σ.2.2.1 0 _) 1 _ k = _
            rw [va_up_ne _ _ (by omega), va_up_ne _ _ (by omega)]
        · rw [i_le] at h34
          refine Wp.n (pc' := 39) 1 rfl ?_
          refine Wp.retI (len := 1) rfl rfl ?_
          rw [if_pos (by have : ¬ (0 : Int) ≤ m.toInt := h34; omega), if_neg (fun q => h34 q.2.2.2)]
          exact ⟨rfl, σ, rfl, hS, rfl, rfl, fun _ _ => rfl, fun _ _ => rfl⟩
      · rw [i_le] at h27
        refine Wp.n (pc' := 32) 1 rfl ?_
        refine Wp.retI (len := 1) rfl rfl ?_
        first
          | (rw [if_neg (fun q => by rw [h9] at q; exact absurd q.1 (by decide)), if_neg (fun q => by rw [h9] at q; exact absurd q.1 (by decide))]; exact ⟨rfl, σ, rfl, hS, rfl, rfl, fun _ _ => rfl, fun _ _ => rfl⟩)
          | (rw [if_neg (fun q => by rw [h21] at q; exact absurd q.2.1 (by decide)), if_neg (fun q => by rw [h21] at q; exact absurd q.2.1 (by decide))]; exact ⟨rfl, σ, rfl, hS, rfl, rfl, fun _ _ => rfl, fun _ _ => rfl⟩)
          | (rw [if_neg (fun q => h27 q.2.2), if_neg (fun q => h27 q.2.2.1)]; exact ⟨rfl, σ, rfl, hS, rfl, rfl, fun _ _ => rfl, fun _ _ => rfl⟩)

theorem SM_val (hS : SM σ S) {s i : Nat} {x : Int64} (hs : s < 4) (hi : i < 60) : SM (lset σ 2 (vp_updL (σ.2.2.2 2) (60 * s + i) x)) (S.1, S.2.1, va_up S.2.2 s (vp_updL (S.2.2 s) i x)) := by
  refine ⟨hS.1, fun t ht => ?_⟩
  obtain ⟨a1, a2, a3⟩ := hS.2 t ht
  have h60 := hS.1 t ht
  refine ⟨a1, a2, fun j hj => ?_⟩
  rw [lset_get]
  have hj' : j < S.2.1 t := hj
  show _ = va_up S.2.2 s (vp_updL (S.2.2 s) i x) t j
  by_cases c : t = s
  · subst c
    rw [va_up_self]
    by_cases c2 : j = i
    · rw [c2, lu_s, lu_s]
    · rw [lu_n (by omega), lu_n c2]; exact a3 j hj'
  · rw [va_up_ne _ _ c, lu_n (by omega)]; exact a3 j hj'
theorem m_write (hσ0 : σ.1 0 = 0) (hS : SM σ S) (x i : Int32) (v : Int64) : Wp (d + 2) md_153 0 [some (.ref 287), some (.int x), some (.int i), some (.long v), none] [] (mset M σ) (fun r M' => r = some (.int (writeA S x i)) ∧ ∃ σ', M' = mset M σ' ∧ SM σ' (writeN S x i v) ∧ σ'.1 = σ.1 ∧ σ'.2.1 = σ.2.1 ∧ (∀ k, 2 ≤ k → σ'.2.2.1 k = σ.2.2.1 k) ∧ (∀ k, k ≠ 2 → σ'.2.2.2 k = σ.2.2.2 k)) := by
  unfold writeA writeN
  refine Wp.n (pc' := 2) 2 rfl ?_
  refine Wp.mput0 (len := 3) rfl hσ0 ?_
  refine Wp.n (pc' := 6) 1 rfl ?_
  refine Wp.ecallS (len := 3) rfl rfl rfl rfl (m_isSlotN _) ?_
  refine Wp.ifb1 (tgt := 15) (len := 3) rfl (fun h9 => ?_) (fun h9 => ?_)
  · skip
    obtain ⟨s, hs, rfl⟩ := isN_of h9
    obtain ⟨a1, a2, a3⟩ := hS.2 s hs
    have h60 := hS.1 s hs
    rw [if_pos h9, nI_clamp (by omega)]
    refine Wp.n (pc' := 20) 3 rfl ?_
    refine Wp.mialdN (j := s) (len := 1) rfl rfl rfl (by omega) ?_
    refine Wp.top a1 ?_
    refine Wp.n (pc' := 22) 1 rfl ?_
    refine Wp.ic1 (tgt := 28) (len := 3) rfl (fun h22 => ?_) (fun h22 => ?_)
    · skip
      refine Wp.n (pc' := 36) 6 rfl ?_
      refine Wp.mialdN (j := s) (len := 1) rfl rfl rfl (by omega) ?_
      refine Wp.n (pc' := 40) 3 rfl ?_
      refine Wp.ecallS (len := 3) rfl rfl rfl rfl (m_in _ _ _) ?_
      refine Wp.ifb1 (tgt := 49) (len := 3) rfl (fun h43 => ?_) (fun h43 => ?_)
      · rw [show (0 : Int64).toInt = 0 from rfl, il_toInt, il_toInt, isN_le (n := S.2.1 s) (by omega) a2] at h43
        obtain ⟨j, hj, rfl⟩ := isN_of h43
        rw [if_neg h22, if_pos h43, if_pos ⟨h9, h22, h43⟩, nI_clamp (by omega)]
        refine Wp.n (pc' := 56) 4 rfl ?_
        refine Wp.imulN (x := 60) (y := s) (len := 1) rfl ?_
        refine Wp.n (pc' := 58) 1 rfl ?_
        refine Wp.iaddN (x := 60 * s) (y := j) (len := 1) rfl ?_
        refine Wp.n (pc' := 65) 4 rfl ?_
        refine Wp.mialdN (j := s) (len := 1) rfl rfl rfl (by omega) ?_
        refine Wp.top a1 ?_
        refine Wp.ecallS (len := 3) rfl rfl rfl rfl (m_cut _ _) ?_
        refine Wp.mlastN (j := (60 * s) + j) (len := 1) rfl rfl rfl (by omega) ?_
        refine Wp.n (pc' := 71) 1 rfl ?_
        refine Wp.retI (len := 1) rfl rfl ?_
        first
          | exact ⟨rfl, _, rfl, SM_val hS hs (by omega), rfl, rfl, fun _ _ => rfl, fun k hk => va_up_ne _ _ hk⟩
          | (rw [if_neg (by rw [h9]; decide), if_neg (fun q => by rw [h9] at q; exact absurd q.1 (by decide))]; exact ⟨rfl, σ, rfl, hS, rfl, rfl, fun _ _ => rfl, fun _ _ => rfl⟩)
          | (rw [if_pos h22, if_neg (fun q => q.2.1 h22)]; exact ⟨rfl, σ, rfl, hS, rfl, rfl, fun _ _ => rfl, fun _ _ => rfl⟩)
          | (rw [if_neg h22, if_neg (by rw [h43]; decide), if_neg (fun q => by rw [h43] at q; exact absurd q.2.2 (by decide))]; exact ⟨rfl, σ, rfl, hS, rfl, rfl, fun _ _ => rfl, fun _ _ => rfl⟩)
      · rw [show (0 : Int64).toInt = 0 from rfl, il_toInt, il_toInt, isN_le (n := S.2.1 s) (by omega) a2] at h43
        refine Wp.n (pc' := 48) 1 rfl ?_
        refine Wp.retI (len := 1) rfl rfl ?_
        first
          | exact ⟨rfl, _, rfl, SM_val hS hs (by omega), rfl, rfl, fun _ _ => rfl, fun k hk => va_up_ne _ _ hk⟩
          | (rw [if_neg (by rw [h9]; decide), if_neg (fun q => by rw [h9] at q; exact absurd q.1 (by decide))]; exact ⟨rfl, σ, rfl, hS, rfl, rfl, fun _ _ => rfl, fun _ _ => rfl⟩)
          | (rw [if_pos h22, if_neg (fun q => q.2.1 h22)]; exact ⟨rfl, σ, rfl, hS, rfl, rfl, fun _ _ => rfl, fun _ _ => rfl⟩)
          | (rw [if_neg h22, if_neg (by rw [h43]; decide), if_neg (fun q => by rw [h43] at q; exact absurd q.2.2 (by decide))]; exact ⟨rfl, σ, rfl, hS, rfl, rfl, fun _ _ => rfl, fun _ _ => rfl⟩)
    · skip
      refine Wp.n (pc' := 27) 1 rfl ?_
      refine Wp.retI (len := 1) rfl rfl ?_
      first
        | exact ⟨rfl, _, rfl, SM_val hS hs (by omega), rfl, rfl, fun _ _ => rfl, fun k hk => va_up_ne _ _ hk⟩
        | (rw [if_neg (by rw [h9]; decide), if_neg (fun q => by rw [h9] at q; exact absurd q.1 (by decide))]; exact ⟨rfl, σ, rfl, hS, rfl, rfl, fun _ _ => rfl, fun _ _ => rfl⟩)
        | (rw [if_pos h22, if_neg (fun q => q.2.1 h22)]; exact ⟨rfl, σ, rfl, hS, rfl, rfl, fun _ _ => rfl, fun _ _ => rfl⟩)
        | (rw [if_neg h22, if_neg (by rw [h43]; decide), if_neg (fun q => by rw [h43] at q; exact absurd q.2.2 (by decide))]; exact ⟨rfl, σ, rfl, hS, rfl, rfl, fun _ _ => rfl, fun _ _ => rfl⟩)
  · skip
    refine Wp.n (pc' := 14) 1 rfl ?_
    refine Wp.retI (len := 1) rfl rfl ?_
    first
      | exact ⟨rfl, _, rfl, SM_val hS hs (by omega), rfl, rfl, fun _ _ => rfl, fun k hk => va_up_ne _ _ hk⟩
      | (rw [if_neg (by rw [h9]; decide), if_neg (fun q => by rw [h9] at q; exact absurd q.1 (by decide))]; exact ⟨rfl, σ, rfl, hS, rfl, rfl, fun _ _ => rfl, fun _ _ => rfl⟩)
      | (rw [if_pos h22, if_neg (fun q => q.2.1 h22)]; exact ⟨rfl, σ, rfl, hS, rfl, rfl, fun _ _ => rfl, fun _ _ => rfl⟩)
      | (rw [if_neg h22, if_neg (by rw [h43]; decide), if_neg (fun q => by rw [h43] at q; exact absurd q.2.2 (by decide))]; exact ⟨rfl, σ, rfl, hS, rfl, rfl, fun _ _ => rfl, fun _ _ => rfl⟩)

theorem m_paste_1 {s i t k m : Nat} (hs : s < 4) (him : i + m ≤ 60) : ∀ (n q : Nat) (g : Nat → Int64), q + n = m → (∀ j, j < q → g j = σ.2.2.2 2 (60 * s + i + j)) → (∀ g', (∀ j, j < m → g' j = σ.2.2.2 2 (60 * s + i + j)) → Wp d md_155 152 [some (.ref 287), some (.int (nI s)), some (.int (nI i)), some (.int (nI t)), some (.int (nI k)), some (.int (nI m)), some (.int (nI m))] [] (mset M (lset σ 3 g')) Q) → Wp d md_155 118 [some (.ref 287), some (.int (nI s)), some (.int (nI i)), some (.int (nI t)), some (.int (nI k)), some (.int (nI m)), some (.int (nI q))] [] (mset M (lset σ 3 g)) Q := by
  intro n
  induction n with
  | zero =>
    intro q g hq h0 kk
    refine Wp.n (pc' := 122) 2 rfl ?_
    refine Wp.nc3 (x := q) (y := m) (tgt := 152) (len := 3) rfl (by omega) (by omega) (fun h122 => ?_) (fun h122 => ?_)
    · skip
      rw [show q = m by omega]
      exact kk g (fun j hj => h0 j (by omega))
    · omega
  | succ n ih =>
    intro q g hq h0 kk
    refine Wp.n (pc' := 122) 2 rfl ?_
    refine Wp.nc3 (x := q) (y := m) (tgt := 152) (len := 3) rfl (by omega) (by omega) (fun h122 => ?_) (fun h122 => ?_)
    · omega
    · skip
      refine Wp.n (pc' := 138) 7 rfl ?_
      refine Wp.imulN (x := 60) (y := s) (len := 1) rfl ?_
      refine Wp.n (pc' := 140) 1 rfl ?_
      refine Wp.iaddN (x := 60 * s) (y := i) (len := 1) rfl ?_
      refine Wp.n (pc' := 143) 1 rfl ?_
      refine Wp.iaddN (x := (60 * s) + i) (y := q) (len := 1) rfl ?_
      refine Wp.mlaldN (j := ((60 * s) + i) + q) (len := 1) rfl rfl rfl (by omega) ?_
      refine Wp.mlastN (j := q) (len := 1) rfl rfl rfl (by omega) ?_
      refine Wp.incN (x := q) (len := 3) rfl rfl ?_
      refine Wp.n (pc' := 118) 1 rfl ?_
      rw [lset_get, lset_lset]
      refine ih (q + 1) _ (by omega) (fun j hj => ?_) kk
      by_cases c : j = q
      · rw [c, lu_s]; rfl
      · rw [lu_n c]; exact h0 j (by omega)

theorem m_paste_2 {s i t k m : Nat} (ht : t < 4) (hkm : k + m ≤ 60) : ∀ (n q : Nat) (g : Nat → Int64), q + n = m → (∀ j, j < q → g (60 * t + k + j) = σ.2.2.2 3 j) → (∀ j, j < 60 * t + k ∨ 60 * t + k + q ≤ j → g j = σ.2.2.2 2 j) → Wp d md_155 155 [some (.ref 287), some (.int (nI s)), some (.int (nI i)), some (.int (nI t)), some (.int (nI k)), some (.int (nI m)), some (.int (nI q))] [] (mset M (lset σ 2 g)) (fun v M' => v = some (.int 0) ∧ ∃ g', M' = mset M (lset σ 2 g') ∧ (∀ j, j < m → g' (60 * t + k + j) = σ.2.2.2 3 j) ∧ (∀ j, j < 60 * t + k ∨ 60 * t + k + m ≤ j → g' j = σ.2.2.2 2 j)) := by
  intro n
  induction n with
  | zero =>
    intro q g hq h0 h1
    refine Wp.n (pc' := 159) 2 rfl ?_
    refine Wp.nc3 (x := q) (y := m) (tgt := 190) (len := 3) rfl (by omega) (by omega) (fun h159 => ?_) (fun h159 => ?_)
    · skip
      refine Wp.n (pc' := 191) 1 rfl ?_
      refine Wp.retI (len := 1) rfl rfl ?_
      exact ⟨rfl, g, rfl, fun j hj => h0 j (by omega), fun j hj => h1 j (by omega)⟩
    · omega
  | succ n ih =>
    intro q g hq h0 h1
    refine Wp.n (pc' := 159) 2 rfl ?_
    refine Wp.nc3 (x := q) (y := m) (tgt := 190) (len := 3) rfl (by omega) (by omega) (fun h159 => ?_) (fun h159 => ?_)
    · omega
    · skip
      refine Wp.n (pc' := 169) 4 rfl ?_
      refine Wp.imulN (x := 60) (y := t) (len := 1) rfl ?_
      refine Wp.n (pc' := 172) 1 rfl ?_
      refine Wp.iaddN (x := 60 * t) (y := k) (len := 1) rfl ?_
      refine Wp.n (pc' := 175) 1 rfl ?_
      refine Wp.iaddN (x := (60 * t) + k) (y := q) (len := 1) rfl ?_
      refine Wp.n (pc' := 182) 3 rfl ?_
      refine Wp.mlaldN (j := q) (len := 1) rfl rfl rfl (by omega) ?_
      refine Wp.mlastN (j := ((60 * t) + k) + q) (len := 1) rfl rfl rfl (by omega) ?_
      refine Wp.incN (x := q) (len := 3) rfl rfl ?_
      refine Wp.n (pc' := 155) 1 rfl ?_
      rw [lset_get, lset_lset]
      refine ih (q + 1) _ (by omega) (fun j hj => ?_) (fun j hj => ?_)
      · by_cases c : j = q
        · rw [c, lu_s]; rfl
        · rw [lu_n (by omega)]; exact h0 j (by omega)
      · rw [lu_n (by omega)]; exact h1 j (by omega)

theorem cov_of {k : Nat} {i m : Int32} (h : cov k i m = true) : ∃ a b : Nat, i = nI a ∧ m = nI b ∧ a + b ≤ k ∧ a < 2 ^ 31 ∧ b < 2 ^ 31 := by
  have h1 := of_decide_eq_true h
  obtain ⟨a, ha, rfl⟩ := nI_of (x := i) (by rw [i_lt]; intro q; have : i.toInt < 0 := q; omega)
  obtain ⟨b, hb, rfl⟩ := nI_of (x := m) (by rw [i_lt]; intro q; have : m.toInt < 0 := q; omega)
  rw [nI_toInt ha, nI_toInt hb] at h1
  exact ⟨a, b, rfl, rfl, by omega, ha, hb⟩
theorem add_toInt (x y : Int32) : (x.toInt64 + y.toInt64).toInt = x.toInt + y.toInt := by
  have h1 := Int32.toInt_lt x
  have h2 := Int32.le_toInt x
  have h3 := Int32.toInt_lt y
  have h4 := Int32.le_toInt y
  rw [Int64.toInt_add, il_toInt, il_toInt, Int.bmod_def]
  omega
theorem m_paste (hσ0 : σ.1 0 = 0) (hS : SM σ S) (x i t k m : Int32) : Wp (d + 2) md_155 0 [some (.ref 287), some (.int x), some (.int i), some (.int t), some (.int k), some (.int m), none] [] (mset M σ) (fun r M' => r = some (.int (pasteA S x i t k m)) ∧ ∃ σ', M' = mset M σ' ∧ SM σ' (pasteN S x i t k m) ∧ σ'.1 = σ.1 ∧ σ'.2.1 = σ.2.1 ∧ (∀ k, σ'.2.2.1 k = σ.2.2.1 k) ∧ (∀ k, 4 ≤ k → σ'.2.2.2 k = σ.2.2.2 k)) := by
  unfold pasteA pasteN
  have kn : pasteC S x i t k m = false → (∃ σ', mset M σ = mset M σ' ∧ SM σ' (if pasteC S x i t k m = true then (S.1, S.2.1, va_up S.2.2 t.toNatClampNeg (pst (S.2.2 x.toNatClampNeg) (S.2.2 t.toNatClampNeg) i.toNatClampNeg k.toNatClampNeg m.toNatClampNeg)) else S) ∧ σ'.1 = σ.1 ∧ σ'.2.1 = σ.2.1 ∧ (∀ k, σ'.2.2.1 k = σ.2.2.1 k) ∧ (∀ k, 4 ≤ k → σ'.2.2.2 k = σ.2.2.2 k)) := fun h => ⟨σ, rfl, by rw [if_neg (by rw [h]; decide)]; exact hS, rfl, rfl, fun _ => rfl, fun _ _ => rfl⟩
  refine Wp.n (pc' := 2) 2 rfl ?_
  refine Wp.mput0 (len := 3) rfl hσ0 ?_
  refine Wp.n (pc' := 6) 1 rfl ?_
  refine Wp.ecallS (len := 3) rfl rfl rfl rfl (m_isSlotN _) ?_
  refine Wp.ifb0 (tgt := 19) (len := 3) rfl (fun h9 => ?_) (fun h9 => ?_)
  · skip
    refine Wp.n (pc' := 21) 1 rfl ?_
    refine Wp.retI (len := 1) rfl rfl ?_
    first
      | (rw [if_neg (by rw [h9, Bool.false_and]; decide)]; exact ⟨rfl, kn (by unfold pasteC; rw [h9]; simp only [Bool.false_and])⟩)
      | (rw [if_neg (by rw [h16, Bool.and_false]; decide)]; exact ⟨rfl, kn (by unfold pasteC; rw [h16]; simp only [Bool.and_false, Bool.false_and])⟩)
  · skip
    refine Wp.n (pc' := 13) 1 rfl ?_
    refine Wp.ecallS (len := 3) rfl rfl rfl rfl (m_isSlotN _) ?_
    refine Wp.ifb1 (tgt := 22) (len := 3) rfl (fun h16 => ?_) (fun h16 => ?_)
    · skip
      rw [if_pos (by rw [h9, h16]; rfl)]
      obtain ⟨s, hs, rfl⟩ := isN_of h9
      obtain ⟨t, ht, rfl⟩ := isN_of h16
      obtain ⟨a1, a2, a3⟩ := hS.2 s hs
      obtain ⟨c1, c2, c3⟩ := hS.2 t ht
      have s60 := hS.1 s hs
      have t60 := hS.1 t ht
      rw [nI_clamp (show s < 2 ^ 31 by omega), nI_clamp (show t < 2 ^ 31 by omega)] at kn ⊢
      refine Wp.n (pc' := 27) 3 rfl ?_
      refine Wp.mialdN (j := s) (len := 1) rfl rfl rfl (by omega) ?_
      refine Wp.top a1 ?_
      refine Wp.n (pc' := 29) 1 rfl ?_
      refine Wp.ic0 (tgt := 42) (len := 3) rfl (fun h29 => ?_) (fun h29 => ?_)
      · skip
        refine Wp.n (pc' := 44) 1 rfl ?_
        refine Wp.retI (len := 1) rfl rfl ?_
        first
          | (rw [if_pos (Or.inl h29)]; exact ⟨rfl, kn (by unfold pasteC; rw [nI_clamp (show s < 2 ^ 31 by omega), decide_eq_true h29]; simp only [Bool.not_true, Bool.and_false, Bool.false_and])⟩)
          | (rw [if_pos (Or.inr h39)]; exact ⟨rfl, kn (by unfold pasteC; rw [nI_clamp (show t < 2 ^ 31 by omega), decide_eq_true h39]; simp only [Bool.not_true, Bool.and_false, Bool.false_and])⟩)
      · skip
        refine Wp.n (pc' := 37) 3 rfl ?_
        refine Wp.mialdN (j := t) (len := 1) rfl rfl rfl (by omega) ?_
        refine Wp.top c1 ?_
        refine Wp.n (pc' := 39) 1 rfl ?_
        refine Wp.ic1 (tgt := 45) (len := 3) rfl (fun h39 => ?_) (fun h39 => ?_)
        · skip
          rw [if_neg (by rintro (q | q); exact h29 q; exact h39 q)]
          refine Wp.n (pc' := 50) 3 rfl ?_
          refine Wp.mialdN (j := s) (len := 1) rfl rfl rfl (by omega) ?_
          refine Wp.top a1 ?_
          refine Wp.n (pc' := 56) 3 rfl ?_
          refine Wp.mialdN (j := t) (len := 1) rfl rfl rfl (by omega) ?_
          refine Wp.top c1 ?_
          refine Wp.ic0 (tgt := 63) (len := 3) rfl (fun h57 => ?_) (fun h57 => ?_)
          · skip
            rw [if_neg (fun q => q h57)]
            refine Wp.n (pc' := 64) 1 rfl ?_
            refine Wp.if2 (tgt := 112) (len := 3) rfl (fun h64 => ?_) (fun h64 => ?_)
            · skip
              refine Wp.n (pc' := 114) 1 rfl ?_
              refine Wp.retI (len := 1) rfl rfl ?_
              have hC : (cov (S.2.1 s) i m && cov (S.2.1 t) k m) = false := by
                cases hq : (cov (S.2.1 s) i m && cov (S.2.1 t) k m) with
                | false => rfl
                | true =>
                  rw [Bool.and_eq_true] at hq
                  have q1 := of_decide_eq_true hq.1
                  have q2 := of_decide_eq_true hq.2
                  exfalso
                  first
                    | (rw [i_lt] at h64; have e : i.toInt < 0 := h64; omega)
                    | (rw [i_lt] at h69; have e : k.toInt < 0 := h69; omega)
                    | (rw [i_lt] at h74; have e : m.toInt < 0 := h74; omega)
                    | (rw [cmp_gt, add_toInt, il_toInt, nI_toInt (by omega)] at h91; omega)
                    | (have h109'' : 0 < lg_cmp (k.toInt64 + m.toInt64) (nI (S.2.1 t)).toInt64 := by
                         rw [i_lt]; rw [i_le] at h109
                         have : ¬ (lg_cmp (k.toInt64 + m.toInt64) (nI (S.2.1 t)).toInt64).toInt ≤ 0 := h109
                         show (0 : Int) < _
                         omega
                       rw [cmp_gt, add_toInt, il_toInt, nI_toInt (by omega)] at h109''
                       omega)
              rw [if_neg (by rw [hC]; decide)]
              refine ⟨rfl, kn ?_⟩
              unfold pasteC
              rw [nI_clamp (show s < 2 ^ 31 by omega), nI_clamp (show t < 2 ^ 31 by omega), Bool.and_assoc, hC, Bool.and_false]
            · skip
              refine Wp.n (pc' := 69) 1 rfl ?_
              refine Wp.if2 (tgt := 112) (len := 3) rfl (fun h69 => ?_) (fun h69 => ?_)
              · skip
                refine Wp.n (pc' := 114) 1 rfl ?_
                refine Wp.retI (len := 1) rfl rfl ?_
                have hC : (cov (S.2.1 s) i m && cov (S.2.1 t) k m) = false := by
                  cases hq : (cov (S.2.1 s) i m && cov (S.2.1 t) k m) with
                  | false => rfl
                  | true =>
                    rw [Bool.and_eq_true] at hq
                    have q1 := of_decide_eq_true hq.1
                    have q2 := of_decide_eq_true hq.2
                    exfalso
                    first
                      | (rw [i_lt] at h64; have e : i.toInt < 0 := h64; omega)
                      | (rw [i_lt] at h69; have e : k.toInt < 0 := h69; omega)
                      | (rw [i_lt] at h74; have e : m.toInt < 0 := h74; omega)
                      | (rw [cmp_gt, add_toInt, il_toInt, nI_toInt (by omega)] at h91; omega)
                      | (have h109'' : 0 < lg_cmp (k.toInt64 + m.toInt64) (nI (S.2.1 t)).toInt64 := by
                           rw [i_lt]; rw [i_le] at h109
                           have : ¬ (lg_cmp (k.toInt64 + m.toInt64) (nI (S.2.1 t)).toInt64).toInt ≤ 0 := h109
                           show (0 : Int) < _
                           omega
                         rw [cmp_gt, add_toInt, il_toInt, nI_toInt (by omega)] at h109''
                         omega)
                rw [if_neg (by rw [hC]; decide)]
                refine ⟨rfl, kn ?_⟩
                unfold pasteC
                rw [nI_clamp (show s < 2 ^ 31 by omega), nI_clamp (show t < 2 ^ 31 by omega), Bool.and_assoc, hC, Bool.and_false]
              · skip
                refine Wp.n (pc' := 74) 1 rfl ?_
                refine Wp.if2 (tgt := 112) (len := 3) rfl (fun h74 => ?_) (fun h74 => ?_)
                · skip
                  refine Wp.n (pc' := 114) 1 rfl ?_
                  refine Wp.retI (len := 1) rfl rfl ?_
                  have hC : (cov (S.2.1 s) i m && cov (S.2.1 t) k m) = false := by
                    cases hq : (cov (S.2.1 s) i m && cov (S.2.1 t) k m) with
                    | false => rfl
                    | true =>
                      rw [Bool.and_eq_true] at hq
                      have q1 := of_decide_eq_true hq.1
                      have q2 := of_decide_eq_true hq.2
                      exfalso
                      first
                        | (rw [i_lt] at h64; have e : i.toInt < 0 := h64; omega)
                        | (rw [i_lt] at h69; have e : k.toInt < 0 := h69; omega)
                        | (rw [i_lt] at h74; have e : m.toInt < 0 := h74; omega)
                        | (rw [cmp_gt, add_toInt, il_toInt, nI_toInt (by omega)] at h91; omega)
                        | (have h109'' : 0 < lg_cmp (k.toInt64 + m.toInt64) (nI (S.2.1 t)).toInt64 := by
                             rw [i_lt]; rw [i_le] at h109
                             have : ¬ (lg_cmp (k.toInt64 + m.toInt64) (nI (S.2.1 t)).toInt64).toInt ≤ 0 := h109
                             show (0 : Int) < _
                             omega
                           rw [cmp_gt, add_toInt, il_toInt, nI_toInt (by omega)] at h109''
                           omega)
                  rw [if_neg (by rw [hC]; decide)]
                  refine ⟨rfl, kn ?_⟩
                  unfold pasteC
                  rw [nI_clamp (show s < 2 ^ 31 by omega), nI_clamp (show t < 2 ^ 31 by omega), Bool.and_assoc, hC, Bool.and_false]
                · skip
                  refine Wp.n (pc' := 88) 8 rfl ?_
                  refine Wp.mialdN (j := s) (len := 1) rfl rfl rfl (by omega) ?_
                  refine Wp.top a2 ?_
                  refine Wp.n (pc' := 91) 2 rfl ?_
                  refine Wp.if4 (tgt := 112) (len := 3) rfl (fun h91 => ?_) (fun h91 => ?_)
                  · skip
                    refine Wp.n (pc' := 114) 1 rfl ?_
                    refine Wp.retI (len := 1) rfl rfl ?_
                    have hC : (cov (S.2.1 s) i m && cov (S.2.1 t) k m) = false := by
                      cases hq : (cov (S.2.1 s) i m && cov (S.2.1 t) k m) with
                      | false => rfl
                      | true =>
                        rw [Bool.and_eq_true] at hq
                        have q1 := of_decide_eq_true hq.1
                        have q2 := of_decide_eq_true hq.2
                        exfalso
                        first
                          | (rw [i_lt] at h64; have e : i.toInt < 0 := h64; omega)
                          | (rw [i_lt] at h69; have e : k.toInt < 0 := h69; omega)
                          | (rw [i_lt] at h74; have e : m.toInt < 0 := h74; omega)
                          | (rw [cmp_gt, add_toInt, il_toInt, nI_toInt (by omega)] at h91; omega)
                          | (have h109'' : 0 < lg_cmp (k.toInt64 + m.toInt64) (nI (S.2.1 t)).toInt64 := by
                               rw [i_lt]; rw [i_le] at h109
                               have : ¬ (lg_cmp (k.toInt64 + m.toInt64) (nI (S.2.1 t)).toInt64).toInt ≤ 0 := h109
                               show (0 : Int) < _
                               omega
                             rw [cmp_gt, add_toInt, il_toInt, nI_toInt (by omega)] at h109''
                             omega)
                    rw [if_neg (by rw [hC]; decide)]
                    refine ⟨rfl, kn ?_⟩
                    unfold pasteC
                    rw [nI_clamp (show s < 2 ^ 31 by omega), nI_clamp (show t < 2 ^ 31 by omega), Bool.and_assoc, hC, Bool.and_false]
                  · skip
                    refine Wp.n (pc' := 106) 8 rfl ?_
                    refine Wp.mialdN (j := t) (len := 1) rfl rfl rfl (by omega) ?_
                    refine Wp.top c2 ?_
                    refine Wp.n (pc' := 109) 2 rfl ?_
                    refine Wp.if5 (tgt := 115) (len := 3) rfl (fun h109 => ?_) (fun h109 => ?_)
                    · skip
                      have hC1 : cov (S.2.1 s) i m = true := by
                        refine decide_eq_true ?_
                        rw [cmp_gt, add_toInt, il_toInt, nI_toInt (by omega)] at h91
                        rw [i_lt] at h64 h74
                        have e1 : ¬ i.toInt < 0 := h64
                        have e2 : ¬ m.toInt < 0 := h74
                        omega
                      have hC2 : cov (S.2.1 t) k m = true := by
                        refine decide_eq_true ?_
                        rw [i_le] at h109
                        have h109' : ¬ (0 : Int) < (lg_cmp (k.toInt64 + m.toInt64) (nI (S.2.1 t)).toInt64).toInt := by have : (lg_cmp (k.toInt64 + m.toInt64) (nI (S.2.1 t)).toInt64).toInt ≤ 0 := h109; omega
                        have h109'' : ¬ 0 < lg_cmp (k.toInt64 + m.toInt64) (nI (S.2.1 t)).toInt64 := fun q => h109' (by rw [i_lt] at q; exact q)
                        rw [cmp_gt, add_toInt, il_toInt, nI_toInt (by omega)] at h109''
                        rw [i_lt] at h69 h74
                        have e1 : ¬ k.toInt < 0 := h69
                        have e2 : ¬ m.toInt < 0 := h74
                        omega
                      have hC : pasteC S (nI s) i (nI t) k m = true := by
                        unfold pasteC
                        rw [nI_clamp (show s < 2 ^ 31 by omega), nI_clamp (show t < 2 ^ 31 by omega), h9, h16, decide_eq_false h29, decide_eq_false h39, decide_eq_true h57, hC1, hC2]
                        rfl
                      rw [if_pos (by rw [hC1, hC2]; rfl), if_pos hC]
                      obtain ⟨i, m, rfl, rfl, him, hi31, hm31⟩ := cov_of hC1
                      obtain ⟨k, m', rfl, em, hkm, hk31, hm31'⟩ := cov_of hC2
                      obtain rfl : m = m' := (nI_eq hm31 hm31').mp em
                      rw [nI_clamp hi31, nI_clamp hk31, nI_clamp hm31]
                      clear kn
                      refine Wp.n (pc' := 118) 2 rfl ?_
                      have e0 : lset σ 3 (σ.2.2.2 3) = σ := by
                        unfold lset
                        rw [show va_up σ.2.2.2 3 (σ.2.2.2 3) = σ.2.2.2 from by
                          funext j
                          by_cases c : j = 3
                          · rw [c, va_up_self]
                          · rw [va_up_ne _ _ c]]
                      have w1 := m_paste_1 (d := d + 2) (M := M) (σ := σ) (s := s) (i := i) (t := t) (k := k) (m := m) (Q := fun r M' => r = some (.int 0) ∧ ∃ σ', M' = mset M σ' ∧ SM σ' (S.1, S.2.1, va_up S.2.2 t (pst (S.2.2 s) (S.2.2 t) i k m)) ∧ σ'.1 = σ.1 ∧ σ'.2.1 = σ.2.1 ∧ (∀ k, σ'.2.2.1 k = σ.2.2.1 k) ∧ (∀ k, 4 ≤ k → σ'.2.2.2 k = σ.2.2.2 k)) hs (by omega) m 0 (σ.2.2.2 3) (by omega) (fun j hj => absurd hj (Nat.not_lt_zero j)) (fun g' hg' => ?_)
                      · rw [e0] at w1
                        exact w1
                      · refine Wp.n (pc' := 155) 2 rfl ?_
                        have e2 : lset (lset σ 3 g') 2 (σ.2.2.2 2) = lset σ 3 g' := by
                          show ((lset σ 3 g').1, (lset σ 3 g').2.1, (lset σ 3 g').2.2.1, va_up (lset σ 3 g').2.2.2 2 (σ.2.2.2 2)) = _
                          rw [show va_up (lset σ 3 g').2.2.2 2 (σ.2.2.2 2) = (lset σ 3 g').2.2.2 from by
                            funext j
                            by_cases c : j = 2
                            · rw [c, va_up_self]; rfl
                            · rw [va_up_ne _ _ c]]
                        have w2 := m_paste_2 (d := d + 2) (M := M) (σ := lset σ 3 g') (s := s) (i := i) (t := t) (k := k) (m := m) ht (by omega) m 0 (σ.2.2.2 2) (by omega) (fun j hj => absurd hj (Nat.not_lt_zero j)) (fun j _ => rfl)
                        rw [e2] at w2
                        refine Wp.mono w2 ?_
                        rintro _ _ ⟨rfl, g2, rfl, g0, g1⟩
                        refine ⟨rfl, _, rfl, ⟨hS.1, fun u hu => ?_⟩, rfl, rfl, fun _ => rfl, fun q hq => ?_⟩
                        · obtain ⟨u1, u2, u3⟩ := hS.2 u hu
                          have u60 := hS.1 u hu
                          refine ⟨u1, u2, fun j hj => ?_⟩
                          have hj' : j < S.2.1 u := hj
                          rw [lset_get]
                          show g2 (60 * u + j) = va_up S.2.2 t (pst (S.2.2 s) (S.2.2 t) i k m) u j
                          by_cases c : u = t
                          · subst c
                            rw [va_up_self]
                            unfold pst
                            by_cases c2 : k ≤ j ∧ j < k + m
                            · rw [if_pos c2]
                              have q0 := g0 (j - k) (by omega)
                              rw [show 60 * u + k + (j - k) = 60 * u + j by omega] at q0
                              rw [q0, lset_get, hg' _ (by omega), show 60 * s + i + (j - k) = 60 * s + (i + (j - k)) by omega]
                              exact a3 _ (by omega)
                            · rw [if_neg c2, g1 _ (by omega)]
                              exact u3 j hj'
                          · rw [va_up_ne _ _ c, g1 _ (by omega)]
                            exact u3 j hj'
                        · show va_up (va_up σ.2.2.2 3 _) 2 _ q = _
                          rw [va_up_ne _ _ (by omega), va_up_ne _ _ (by omega)]
                    · skip
                      refine Wp.n (pc' := 114) 1 rfl ?_
                      refine Wp.retI (len := 1) rfl rfl ?_
                      have hC : (cov (S.2.1 s) i m && cov (S.2.1 t) k m) = false := by
                        cases hq : (cov (S.2.1 s) i m && cov (S.2.1 t) k m) with
                        | false => rfl
                        | true =>
                          rw [Bool.and_eq_true] at hq
                          have q1 := of_decide_eq_true hq.1
                          have q2 := of_decide_eq_true hq.2
                          exfalso
                          first
                            | (rw [i_lt] at h64; have e : i.toInt < 0 := h64; omega)
                            | (rw [i_lt] at h69; have e : k.toInt < 0 := h69; omega)
                            | (rw [i_lt] at h74; have e : m.toInt < 0 := h74; omega)
                            | (rw [cmp_gt, add_toInt, il_toInt, nI_toInt (by omega)] at h91; omega)
                            | (have h109'' : 0 < lg_cmp (k.toInt64 + m.toInt64) (nI (S.2.1 t)).toInt64 := by
                                 rw [i_lt]; rw [i_le] at h109
                                 have : ¬ (lg_cmp (k.toInt64 + m.toInt64) (nI (S.2.1 t)).toInt64).toInt ≤ 0 := h109
                                 show (0 : Int) < _
                                 omega
                               rw [cmp_gt, add_toInt, il_toInt, nI_toInt (by omega)] at h109''
                               omega)
                      rw [if_neg (by rw [hC]; decide)]
                      refine ⟨rfl, kn ?_⟩
                      unfold pasteC
                      rw [nI_clamp (show s < 2 ^ 31 by omega), nI_clamp (show t < 2 ^ 31 by omega), Bool.and_assoc, hC, Bool.and_false]
          · skip
            refine Wp.n (pc' := 62) 1 rfl ?_
            refine Wp.retI (len := 1) rfl rfl ?_
            rw [if_pos h57]
            exact ⟨rfl, kn (by unfold pasteC; rw [nI_clamp (show s < 2 ^ 31 by omega), nI_clamp (show t < 2 ^ 31 by omega), decide_eq_false h57]; simp only [Bool.and_false, Bool.false_and])⟩
        · skip
          refine Wp.n (pc' := 44) 1 rfl ?_
          refine Wp.retI (len := 1) rfl rfl ?_
          first
            | (rw [if_pos (Or.inl h29)]; exact ⟨rfl, kn (by unfold pasteC; rw [nI_clamp (show s < 2 ^ 31 by omega), decide_eq_true h29]; simp only [Bool.not_true, Bool.and_false, Bool.false_and])⟩)
            | (rw [if_pos (Or.inr h39)]; exact ⟨rfl, kn (by unfold pasteC; rw [nI_clamp (show t < 2 ^ 31 by omega), decide_eq_true h39]; simp only [Bool.not_true, Bool.and_false, Bool.false_and])⟩)
    · skip
      refine Wp.n (pc' := 21) 1 rfl ?_
      refine Wp.retI (len := 1) rfl rfl ?_
      first
        | (rw [if_neg (by rw [h9, Bool.false_and]; decide)]; exact ⟨rfl, kn (by unfold pasteC; rw [h9]; simp only [Bool.false_and])⟩)
        | (rw [if_neg (by rw [h16, Bool.and_false]; decide)]; exact ⟨rfl, kn (by unfold pasteC; rw [h16]; simp only [Bool.and_false, Bool.false_and])⟩)

end SLOT
end
section
/-! THE TAPE, COPIES, COUNTS, the ford: the reference. -/
theorem sw_at {a : Nat} {lo : Int} {tg : List Nat} {dd t : Nat} {x : Int32} (h : lk swl a = some (lo, tg, dd)) (k : Nat) (hx : x.toInt = lo + k) (hk : tg.getD k dd = t) : swx swl a x = some t := by
  unfold swx
  rw [h]
  dsimp only
  rw [if_neg (by omega), show (x.toInt - lo).toNat = k by omega, hk]
theorem sw_def {a : Nat} {lo : Int} {tg : List Nat} {dd : Nat} {x : Int32} (h : lk swl a = some (lo, tg, dd)) (hx : x.toInt < lo ∨ lo + tg.length ≤ x.toInt) : swx swl a x = some dd := by
  unfold swx
  rw [h]
  dsimp only
  rcases hx with q | q
  · rw [if_pos q]
  · rw [if_neg (by omega), List.getD_eq_getElem?_getD, List.getElem?_eq_none (by omega)]
    rfl
/-- the tape: how many bytes, and which -/
abbrev TP : Type := Nat × (Nat → Int32)
def TM (σ : MS) (T : TP) : Prop := σ.1 6 = nI T.1 ∧ T.1 ≤ 2000 ∧ ∀ i, i < T.1 → σ.2.2.1 4 i = T.2 i
def byt (v k : Int32) : Int32 := anar 2 ((v >>> (k &&& 31)).toInt8.toInt32)
def tpb (T : TP) (v k : Int32) : TP := (T.1 + 1, upd T.2 T.1 (byt v k))
def tp4 (T : TP) (v : Int32) : TP := tpb (tpb (tpb (tpb T v 24) v 16) v 8) v 0
def feedA (T : TP) : Int32 := if T.1 + 20 ≤ 2000 then nI (T.1 + 20) else -1
def feedN (T : TP) (a b c e f : Int32) : TP := if T.1 + 20 ≤ 2000 then tp4 (tp4 (tp4 (tp4 (tp4 T a) b) c) e) f else T
def endA (T : TP) (x : Int32) : Int32 := if isN (T.1 + 1) x = true then x else -1
def endN (T : TP) (x : Int32) : TP := if isN (T.1 + 1) x = true then (x.toNatClampNeg, T.2) else T
/-- only the tape differs -/
def FrT (σ σ' : MS) : Prop := (∀ j, j ≠ 6 → σ'.1 j = σ.1 j) ∧ (∀ k, k ≠ 4 → σ'.2.2.1 k = σ.2.2.1 k) ∧ σ'.2.1 = σ.2.1 ∧ σ'.2.2.2 = σ.2.2.2
theorem FrT.r {σ : MS} : FrT σ σ := ⟨fun _ _ => rfl, fun _ _ => rfl, rfl, rfl⟩
theorem FrT.t {σ σ' σ'' : MS} (h : FrT σ σ') (h' : FrT σ' σ'') : FrT σ σ'' := ⟨fun j hj => (h'.1 j hj).trans (h.1 j hj), fun j hj => (h'.2.1 j hj).trans (h.2.1 j hj), h'.2.2.1.trans h.2.2.1, h'.2.2.2.trans h.2.2.2⟩
section TAPE
variable {d : Nat} {M : AM} {σ σ' : MS} {K : KD} {S : SS} {T : TP} {Q : Option Value → AM → Prop}
theorem Wp.mbast4 {X : MD} {pc len j : Nat} {l : AL} {st : List Value} {x : Int32} (hc : cdx X pc = some (.inr (.inl .bastore), len)) (hj : j < 2000) (h : Wp d X (pc + len) l st (mset M (aset σ 4 (upd (σ.2.2.1 4) j (anar 2 x)))) Q) : Wp d X pc l (.int x :: .int (nI j) :: .ref 292 :: st) (mset M σ) Q := by
  refine Wp.bastN (t := 2) (n := 2000) (f := σ.2.2.1 4) hc rfl rfl hj (by decide) ?_
  have e : va_up (mset M σ) (4 + 288) (.inl (2, 2000, .inl (upd (σ.2.2.1 4) j (anar 2 x)))) = mset M (aset σ 4 (upd (σ.2.2.1 4) j (anar 2 x))) := mset_arr (by decide) rfl rfl (fun j hj => marr_ne hj)
  rw [← e] at h
  exact h
theorem Wp.mbast12 {X : MD} {pc len j : Nat} {l : AL} {st : List Value} {x : Int32} (hc : cdx X pc = some (.inr (.inl .bastore), len)) (hj : j < 3) (h : Wp d X (pc + len) l st (mset M (aset σ 12 (upd (σ.2.2.1 12) j (anar 3 x)))) Q) : Wp d X pc l (.int x :: .int (nI j) :: .ref 300 :: st) (mset M σ) Q := by
  refine Wp.bastN (t := 3) (n := 3) (f := σ.2.2.1 12) hc rfl rfl hj (by decide) ?_
  have e : va_up (mset M σ) (12 + 288) (.inl (3, 3, .inl (upd (σ.2.2.1 12) j (anar 3 x)))) = mset M (aset σ 12 (upd (σ.2.2.1 12) j (anar 3 x))) := mset_arr (by decide) rfl rfl (fun j hj => marr_ne hj)
  rw [← e] at h
  exact h
theorem m_four_1 (hT : TM σ T) (h2 : T.1 < 2000) {v k : Int32} (hk : ¬ k < 0) (kk : ∀ σ', FrT σ σ' → TM σ' (tpb T v k) → Wp d md_157 3 [some (.ref 287), some (.int v), some (.int (k + (-8)))] [] (mset M σ') Q) : Wp d md_157 3 [some (.ref 287), some (.int v), some (.int k)] [] (mset M σ) Q := by
  refine Wp.n (pc' := 4) 1 rfl ?_
  refine Wp.if2 (tgt := 36) (len := 3) rfl (fun h4 => ?_) (fun h4 => ?_)
  · exact absurd h4 hk
  · skip
    refine Wp.n (pc' := 15) 4 rfl ?_
    refine Wp.top hT.1 ?_
    refine Wp.n (pc' := 19) 4 rfl ?_
    refine Wp.mbast4 (len := 1) rfl h2 ?_
    refine Wp.n (pc' := 25) 3 rfl ?_
    refine Wp.top hT.1 ?_
    refine Wp.n (pc' := 26) 1 rfl ?_
    refine Wp.iaddN (x := T.1) (y := 1) (len := 1) rfl ?_
    refine Wp.mput (len := 3) rfl rfl ?_
    refine Wp.n (pc' := 3) 2 rfl ?_
    refine kk _ ⟨fun j hj => pk_un hj, fun q hq => va_up_ne _ _ hq, rfl, rfl⟩ ⟨rfl, h2, fun i hi => ?_⟩
    show (aset σ 4 (upd (σ.2.2.1 4) T.1 (byt v k))).2.2.1 4 i = upd T.2 T.1 (byt v k) i
    rw [aset_get]
    have hi' : i < T.1 + 1 := hi
    by_cases c : i = T.1
    · rw [c, pk_us, pk_us]
    · rw [pk_un c, pk_un c]; exact hT.2.2 i (by omega)

theorem m_four (hT : TM σ T) (h4 : T.1 + 4 ≤ 2000) (v : Int32) : Wp d md_157 0 [some (.ref 287), some (.int v), none] [] (mset M σ) (fun r M' => r = none ∧ ∃ σ', M' = mset M σ' ∧ FrT σ σ' ∧ TM σ' (tp4 T v)) := by
  refine Wp.n (pc' := 3) 2 rfl ?_
  refine m_four_1 hT (by omega) (by decide) (fun σ1 f1 t1 => ?_)
  refine m_four_1 (k := 16) t1 (show T.1 + 1 < 2000 by omega) (by decide) (fun σ2 f2 t2 => ?_)
  refine m_four_1 (k := 8) t2 (show T.1 + 1 + 1 < 2000 by omega) (by decide) (fun σ3 f3 t3 => ?_)
  refine m_four_1 (k := 0) t3 (show T.1 + 1 + 1 + 1 < 2000 by omega) (by decide) (fun σ4 f4 t4 => ?_)
  refine Wp.n (pc' := 4) 1 rfl ?_
  refine Wp.if2 (tgt := 36) (len := 3) rfl (fun h => ?_) (fun h => absurd h (by decide))
  refine Wp.retV (len := 1) rfl rfl ?_
  exact ⟨rfl, σ4, rfl, ((f1.t f2).t f3).t f4, t4⟩
theorem m_feed (hσ0 : σ.1 0 = 0) (hT : TM σ T) (a b c e f : Int32) : Wp (d + 1) md_156 0 [some (.ref 287), some (.int a), some (.int b), some (.int c), some (.int e), some (.int f)] [] (mset M σ) (fun r M' => r = some (.int (feedA T)) ∧ ∃ σ', M' = mset M σ' ∧ FrT σ σ' ∧ TM σ' (feedN T a b c e f)) := by
  unfold feedA feedN
  have t20 := hT.2.1
  refine Wp.n (pc' := 2) 2 rfl ?_
  refine Wp.mput0 (len := 3) rfl hσ0 ?_
  refine Wp.n (pc' := 9) 2 rfl ?_
  refine Wp.top hT.1 ?_
  refine Wp.n (pc' := 11) 1 rfl ?_
  refine Wp.iaddN (x := T.1) (y := 20) (len := 1) rfl ?_
  refine Wp.n (pc' := 15) 1 rfl ?_
  refine Wp.nc5 (x := (T.1) + 20) (y := 2000) (tgt := 20) (len := 3) rfl (by omega) (by omega) (fun h15 => ?_) (fun h15 => ?_)
  · skip
    refine Wp.n (pc' := 22) 2 rfl ?_
    refine Wp.callV (len := 3) rfl rfl rfl (rfl) rfl (by decide) rfl (m_four hT (by omega) a) ?_
    rintro _ _ ⟨rfl, σ1, rfl, f1, t1⟩
    refine Wp.n (pc' := 27) 2 rfl ?_
    refine Wp.callV (len := 3) rfl rfl rfl (rfl) rfl (by decide) rfl (m_four t1 (show T.1 + 1 + 1 + 1 + 1 + 4 ≤ 2000 by omega) b) ?_
    rintro _ _ ⟨rfl, σ2, rfl, f2, t2⟩
    refine Wp.n (pc' := 32) 2 rfl ?_
    refine Wp.callV (len := 3) rfl rfl rfl (rfl) rfl (by decide) rfl (m_four t2 (show T.1 + 1 + 1 + 1 + 1 + 1 + 1 + 1 + 1 + 4 ≤ 2000 by omega) c) ?_
    rintro _ _ ⟨rfl, σ3, rfl, f3, t3⟩
    refine Wp.n (pc' := 38) 2 rfl ?_
    refine Wp.callV (len := 3) rfl rfl rfl (rfl) rfl (by decide) rfl (m_four t3 (show T.1 + 1 + 1 + 1 + 1 + 1 + 1 + 1 + 1 + 1 + 1 + 1 + 1 + 4 ≤ 2000 by omega) e) ?_
    rintro _ _ ⟨rfl, σ4, rfl, f4, t4⟩
    refine Wp.n (pc' := 44) 2 rfl ?_
    refine Wp.callV (len := 3) rfl rfl rfl (rfl) rfl (by decide) rfl (m_four t4 (show T.1 + 1 + 1 + 1 + 1 + 1 + 1 + 1 + 1 + 1 + 1 + 1 + 1 + 1 + 1 + 1 + 1 + 4 ≤ 2000 by omega) f) ?_
    rintro _ _ ⟨rfl, σ5, rfl, f5, t5⟩
    refine Wp.n (pc' := 51) 2 rfl ?_
    refine Wp.top t5.1 ?_
    refine Wp.retI (len := 1) rfl rfl ?_
    first
      | (rw [if_pos (by omega), if_pos (by omega)]; exact ⟨rfl, σ5, rfl, (((f1.t f2).t f3).t f4).t f5, t5⟩)
      | (rw [if_neg (by omega), if_neg (by omega)]; exact ⟨rfl, σ, rfl, FrT.r, hT⟩)
  · skip
    refine Wp.n (pc' := 19) 1 rfl ?_
    refine Wp.retI (len := 1) rfl rfl ?_
    first
      | (rw [if_pos (by omega), if_pos (by omega)]; exact ⟨rfl, σ5, rfl, (((f1.t f2).t f3).t f4).t f5, t5⟩)
      | (rw [if_neg (by omega), if_neg (by omega)]; exact ⟨rfl, σ, rfl, FrT.r, hT⟩)

theorem m_end (hσ0 : σ.1 0 = 0) (hT : TM σ T) (x : Int32) : Wp (d + 1) md_158 0 [some (.ref 287), some (.int x)] [] (mset M σ) (fun r M' => r = some (.int (endA T x)) ∧ ∃ σ', M' = mset M σ' ∧ FrT σ σ' ∧ TM σ' (endN T x)) := by
  unfold endA endN
  have t20 := hT.2.1
  refine Wp.n (pc' := 2) 2 rfl ?_
  refine Wp.mput0 (len := 3) rfl hσ0 ?_
  refine Wp.n (pc' := 12) 5 rfl ?_
  refine Wp.top hT.1 ?_
  refine Wp.i2lM (x := T.1) (len := 1) rfl (by omega) ?_
  refine Wp.ecallS (len := 3) rfl rfl rfl rfl (m_in _ _ _) ?_
  refine Wp.ifb1 (tgt := 21) (len := 3) rfl (fun h16 => ?_) (fun h16 => ?_)
  · rw [in_isN (k := T.1 + 1) (by rw [l_toInt (by omega)]; omega)] at h16
    obtain ⟨m, hm, rfl⟩ := isN_of h16
    rw [if_pos h16, if_pos h16, nI_clamp (by omega)]
    refine Wp.n (pc' := 23) 2 rfl ?_
    refine Wp.mput (len := 3) rfl rfl ?_
    refine Wp.n (pc' := 27) 1 rfl ?_
    refine Wp.retI (len := 1) rfl rfl ?_
    first
      | exact ⟨rfl, _, rfl, ⟨fun j hj => pk_un hj, fun _ _ => rfl, rfl, rfl⟩, rfl, (by show m ≤ 2000; omega), fun i hi => hT.2.2 i (by have : i < m := hi; omega)⟩
      | (rw [if_neg (by rw [h16]; decide), if_neg (by rw [h16]; decide)]; exact ⟨rfl, σ, rfl, FrT.r, hT⟩)
  · rw [in_isN (k := T.1 + 1) (by rw [l_toInt (by omega)]; omega)] at h16
    refine Wp.n (pc' := 20) 1 rfl ?_
    refine Wp.retI (len := 1) rfl rfl ?_
    first
      | exact ⟨rfl, _, rfl, ⟨fun j hj => pk_un hj, fun _ _ => rfl, rfl, rfl⟩, rfl, (by show m ≤ 2000; omega), fun i hi => hT.2.2 i (by have : i < m := hi; omega)⟩
      | (rw [if_neg (by rw [h16]; decide), if_neg (by rw [h16]; decide)]; exact ⟨rfl, σ, rfl, FrT.r, hT⟩)

/-- the fault: its kind, its place -/
def FM (σ : MS) (f : Nat × Option Nat) : Prop := σ.1 14 = nI f.1 ∧ σ.1 15 = oI f.2
def faultA (f : Nat × Option Nat) (x : Int32) : Int32 := if x = 0 then nI f.1 else if x = 1 then oI f.2 else -1
theorem m_fault (hσ0 : σ.1 0 = 0) {f : Nat × Option Nat} (hF : FM σ f) (x : Int32) : Ev d md_159 0 [some (.ref 287), some (.int x)] [] (mset M σ) (some (.int (faultA f x)), mset M σ) := by
  refine Wp.toEv ?_
  unfold faultA
  refine Wp.n (pc' := 2) 2 rfl ?_
  refine Wp.mput0 (len := 3) rfl hσ0 ?_
  refine Wp.n (pc' := 6) 1 rfl ?_
  refine Wp.if1 (tgt := 16) (len := 3) rfl (fun h6 => ?_) (fun h6 => ?_)
  · skip
    refine Wp.n (pc' := 18) 2 rfl ?_
    refine Wp.ic1 (tgt := 28) (len := 3) rfl (fun h18 => ?_) (fun h18 => ?_)
    · skip
      refine Wp.n (pc' := 29) 1 rfl ?_
      refine Wp.retI (len := 1) rfl rfl ?_
      first
        | exact ⟨by rw [if_pos h6], rfl⟩
        | exact ⟨by rw [if_neg h6, if_pos h18], rfl⟩
        | exact ⟨by rw [if_neg h6, if_neg h18], rfl⟩
    · skip
      refine Wp.n (pc' := 25) 2 rfl ?_
      refine Wp.top hF.2 ?_
      refine Wp.n (pc' := 29) 1 rfl ?_
      refine Wp.retI (len := 1) rfl rfl ?_
      first
        | exact ⟨by rw [if_pos h6], rfl⟩
        | exact ⟨by rw [if_neg h6, if_pos h18], rfl⟩
        | exact ⟨by rw [if_neg h6, if_neg h18], rfl⟩
  · skip
    refine Wp.n (pc' := 13) 2 rfl ?_
    refine Wp.top hF.1 ?_
    refine Wp.n (pc' := 29) 1 rfl ?_
    refine Wp.retI (len := 1) rfl rfl ?_
    first
      | exact ⟨by rw [if_pos h6], rfl⟩
      | exact ⟨by rw [if_neg h6, if_pos h18], rfl⟩
      | exact ⟨by rw [if_neg h6, if_neg h18], rfl⟩

def cpy (f : Nat → Int32) (m a b : Nat) : Nat → Int32 := fun j => if m * b ≤ j ∧ j < m * b + m then f (m * a + (j - m * b)) else f j
def cpyT (f : Nat → Int32) (m a b i : Nat) : Nat → Int32 := fun j => if m * b ≤ j ∧ j < m * b + i then f (m * a + (j - m * b)) else f j
theorem m_copyRow_l {k w m a b : Nat} (hk : mtl_ k = (0, w)) (hw : (Nat.blt 0 w && Nat.blt w 100000) = true) (ha : m * a + m ≤ w) (hb : m * b + m ≤ w) (hab : m * a + m ≤ m * b ∨ m * b + m ≤ m * a) : ∀ (n i : Nat), i + n = m → Wp d md_185 3 [some (.ref (k + 288)), some (.int (nI m)), some (.int (nI a)), some (.int (nI b)), some (.int (nI i))] [] (mset M (aset σ k (cpyT (σ.2.2.1 k) m a b i))) (IsR none (mset M (aset σ k (cpy (σ.2.2.1 k) m a b)))) := by
  have hw2 : w < 100000 := by rw [Bool.and_eq_true] at hw; exact Nat.le_of_ble_eq_true hw.2
  intro n
  induction n with
  | zero =>
    intro i hi
    refine Wp.n (pc' := 6) 2 rfl ?_
    refine Wp.nc3 (x := i) (y := m) (tgt := 31) (len := 3) rfl (by omega) (by omega) (fun h6 => ?_) (fun h6 => ?_)
    · skip
      refine Wp.retV (len := 1) rfl rfl ?_
      rw [show i = m by omega]
      exact ⟨rfl, rfl⟩
    · omega
  | succ n ih =>
    intro i hi
    refine Wp.n (pc' := 6) 2 rfl ?_
    refine Wp.nc3 (x := i) (y := m) (tgt := 31) (len := 3) rfl (by omega) (by omega) (fun h6 => ?_) (fun h6 => ?_)
    · omega
    · refine Wp.n (pc' := 12) 3 rfl ?_
      refine Wp.imulN (x := m) (y := b) (len := 1) rfl ?_
      refine Wp.n (pc' := 15) 1 rfl ?_
      refine Wp.iaddN (x := m * b) (y := i) (len := 1) rfl ?_
      refine Wp.n (pc' := 19) 3 rfl ?_
      refine Wp.imulN (x := m) (y := a) (len := 1) rfl ?_
      refine Wp.n (pc' := 22) 1 rfl ?_
      refine Wp.iaddN (x := m * a) (y := i) (len := 1) rfl ?_
      refine Wp.mialdN (k := k) (j := m * a + i) (len := 1) rfl hk hw (by omega) ?_
      refine Wp.miastN (k := k) (j := m * b + i) (len := 1) rfl hk hw (by omega) ?_
      refine Wp.incN (x := i) (len := 3) rfl rfl ?_
      refine Wp.n (pc' := 3) 1 rfl ?_
      have w0 := ih (i + 1) (by omega)
      have e : upd (cpyT (σ.2.2.1 k) m a b i) (m * b + i) (cpyT (σ.2.2.1 k) m a b i (m * a + i)) = cpyT (σ.2.2.1 k) m a b (i + 1) := by
        funext j
        unfold cpyT
        by_cases c : j = m * b + i
        · rw [c, pk_us, if_neg (by omega), if_pos (by omega), show m * b + i - m * b = i by omega]
        · rw [pk_un c]
          by_cases c2 : m * b ≤ j ∧ j < m * b + i
          · rw [if_pos c2, if_pos (by omega)]
          · rw [if_neg c2, if_neg (by omega)]
      rw [aset_get, aset_aset, e]
      exact w0
theorem m_copyRow {k w m a b : Nat} (hk : mtl_ k = (0, w)) (hw : (Nat.blt 0 w && Nat.blt w 100000) = true) (ha : m * a + m ≤ w) (hb : m * b + m ≤ w) (hab : m * a + m ≤ m * b ∨ m * b + m ≤ m * a) : Ev d md_185 0 [some (.ref (k + 288)), some (.int (nI m)), some (.int (nI a)), some (.int (nI b)), none] [] (mset M σ) (none, mset M (aset σ k (cpy (σ.2.2.1 k) m a b))) := by
  refine Wp.toEv ?_
  refine Wp.n (pc' := 3) 2 rfl ?_
  have w0 := m_copyRow_l (d := d) (M := M) (σ := σ) hk hw ha hb hab m 0 (by omega)
  have e : cpyT (σ.2.2.1 k) m a b 0 = σ.2.2.1 k := by
    funext j
    unfold cpyT
    rw [if_neg (by omega)]
  rw [e, aset_same] at w0
  exact w0
/-- slot a of the kingdoms is copied to slot b -/
def CK (σ σ' : MS) (a b : Nat) : Prop := σ'.1 = σ.1 ∧ σ'.2.1 = σ.2.1 ∧ (∀ k, List.elem k [5, 6, 7, 9, 10, 11] = false → σ'.2.2.1 k = σ.2.2.1 k) ∧ (∀ k, k ≠ 8 → σ'.2.2.2 k = σ.2.2.2 k) ∧ σ'.2.2.2 8 = vp_updL (σ.2.2.2 8) b (σ.2.2.2 8 a) ∧ σ'.2.2.1 5 = cpy (σ.2.2.1 5) 1 a b ∧ σ'.2.2.1 6 = cpy (σ.2.2.1 6) 5 a b ∧ σ'.2.2.1 7 = cpy (σ.2.2.1 7) 5 a b ∧ σ'.2.2.1 9 = cpy (σ.2.2.1 9) 36 a b ∧ σ'.2.2.1 10 = cpy (σ.2.2.1 10) 63 a b ∧ σ'.2.2.1 11 = cpy (σ.2.2.1 11) 110 a b
theorem m_copyKingdom {a b : Nat} (ha : a < 5) (hb : b < 5) (hab : a ≠ b) : Wp (d + 1) md_184 0 [some (.ref 287), some (.int (nI a)), some (.int (nI b))] [] (mset M σ) (fun r M' => r = none ∧ ∃ σ', M' = mset M σ' ∧ CK σ σ' a b) := by
  refine Wp.n (pc' := 7) 5 rfl ?_
  refine Wp.ecallS (len := 3) rfl rfl rfl rfl (m_copyRow (k := 5) (m := 1) (a := a) (b := b) rfl rfl (by omega) (by omega) (by omega)) ?_
  refine Wp.n (pc' := 17) 5 rfl ?_
  refine Wp.ecallS (len := 3) rfl rfl rfl rfl (m_copyRow (k := 6) (m := 5) (a := a) (b := b) rfl rfl (by omega) (by omega) (by omega)) ?_
  refine Wp.n (pc' := 27) 5 rfl ?_
  refine Wp.ecallS (len := 3) rfl rfl rfl rfl (m_copyRow (k := 7) (m := 5) (a := a) (b := b) rfl rfl (by omega) (by omega) (by omega)) ?_
  refine Wp.n (pc' := 40) 6 rfl ?_
  refine Wp.mlaldN (j := a) (len := 1) rfl rfl rfl (by omega) ?_
  refine Wp.mlastN (j := b) (len := 1) rfl rfl rfl (by omega) ?_
  refine Wp.n (pc' := 50) 5 rfl ?_
  refine Wp.ecallS (len := 3) rfl rfl rfl rfl (m_copyRow (k := 9) (m := 36) (a := a) (b := b) rfl rfl (by omega) (by omega) (by omega)) ?_
  refine Wp.n (pc' := 61) 5 rfl ?_
  refine Wp.ecallS (len := 3) rfl rfl rfl rfl (m_copyRow (k := 10) (m := 63) (a := a) (b := b) rfl rfl (by omega) (by omega) (by omega)) ?_
  refine Wp.n (pc' := 72) 5 rfl ?_
  refine Wp.ecallS (len := 3) rfl rfl rfl rfl (m_copyRow (k := 11) (m := 110) (a := a) (b := b) rfl rfl (by omega) (by omega) (by omega)) ?_
  refine Wp.retV (len := 1) rfl rfl ?_
  refine ⟨rfl, _, rfl, rfl, rfl, fun k hk => ?_, fun k hk => va_up_ne _ _ hk, rfl, rfl, rfl, rfl, rfl, rfl, rfl⟩
  have e : ∀ j, List.elem j [5, 6, 7, 9, 10, 11] = true → k ≠ j := fun j hj c => by rw [c, hj] at hk; cases hk
  show va_up (va_up (va_up (va_up (va_up (va_up σ.2.2.1 5 _) 6 _) 7 _) 9 _) 10 _) 11 _ k = _
  rw [va_up_ne _ _ (e 11 rfl), va_up_ne _ _ (e 10 rfl), va_up_ne _ _ (e 9 rfl), va_up_ne _ _ (e 7 rfl), va_up_ne _ _ (e 6 rfl), va_up_ne _ _ (e 5 rfl)]

theorem cpy_t {f : Nat → Int32} {m a b j : Nat} (hj : j < m) : cpy f m a b (m * b + j) = f (m * a + j) := by
  unfold cpy
  rw [if_pos (by omega), show m * b + j - m * b = j by omega]
theorem cpy_o {f : Nat → Int32} {m a b j : Nat} (h : j < m * b ∨ m * b + m ≤ j) : cpy f m a b j = f j := by
  unfold cpy
  rw [if_neg (by omega)]
theorem CK_t {a b : Nat} (h : CK σ σ' a b) (ok : KOK K) (hR : RepM σ a K) : RepM σ' b K := by
  obtain ⟨e0, e1, e2, e3, e8, e5, e6, e7, e9, e10, e11⟩ := h
  obtain ⟨b0, b1, b2, b3, b4, b5, b6, b7, b8, b9, b10, b11, b12⟩ := ok_h ok
  refine ⟨fun j hj => ?_, fun h0 j hj => ?_, ?_, ?_, fun i hi j hj => ?_, fun i hi j hj => ?_, fun i hi => ⟨fun j hj => ?_, fun j hj => ?_⟩⟩
  · rw [e6, cpy_t hj]; exact hR.1 j hj
  · rw [e7, cpy_t hj]; exact hR.2.1 h0 j hj
  · have q := cpy_t (f := σ.2.2.1 5) (m := 1) (a := a) (b := b) (j := 0) (by decide)
    rw [Nat.one_mul, Nat.one_mul, Nat.add_zero, Nat.add_zero] at q
    rw [e5, q]; exact hR.2.2.1
  · rw [e8, lu_s]; exact hR.2.2.2.1
  · rw [e9, show 36 * b + 3 * i + j = 36 * b + (3 * i + j) by omega, cpy_t (by omega), show 36 * a + (3 * i + j) = 36 * a + 3 * i + j by omega]
    exact hR.2.2.2.2.1 i hi j hj
  · rw [e10, show 63 * b + 7 * i + j = 63 * b + (7 * i + j) by omega, cpy_t (by omega), show 63 * a + (7 * i + j) = 63 * a + 7 * i + j by omega]
    exact hR.2.2.2.2.2.1 i hi j hj
  · rw [e11, show 110 * b + 11 * i + j = 110 * b + (11 * i + j) by omega, cpy_t (by omega), show 110 * a + (11 * i + j) = 110 * a + 11 * i + j by omega]
    exact (hR.2.2.2.2.2.2 i hi).1 j hj
  · have t7 := (ok_walk ok hi).2.2.2.2.2.1
    rw [e11, show 110 * b + 11 * i + 4 + j = 110 * b + (11 * i + 4 + j) by omega, cpy_t (by omega), show 110 * a + (11 * i + 4 + j) = 110 * a + 11 * i + 4 + j by omega]
    exact (hR.2.2.2.2.2.2 i hi).2 j hj
theorem CK_o {a b s : Nat} (h : CK σ σ' a b) (ok : KOK K) (hs : s ≠ b) (hR : RepM σ s K) : RepM σ' s K := by
  obtain ⟨e0, e1, e2, e3, e8, e5, e6, e7, e9, e10, e11⟩ := h
  obtain ⟨b0, b1, b2, b3, b4, b5, b6, b7, b8, b9, b10, b11, b12⟩ := ok_h ok
  refine ⟨fun j hj => ?_, fun h0 j hj => ?_, ?_, ?_, fun i hi j hj => ?_, fun i hi j hj => ?_, fun i hi => ⟨fun j hj => ?_, fun j hj => ?_⟩⟩
  · rw [e6, cpy_o (by omega)]; exact hR.1 j hj
  · rw [e7, cpy_o (by omega)]; exact hR.2.1 h0 j hj
  · rw [e5, cpy_o (by omega)]; exact hR.2.2.1
  · rw [e8, lu_n hs]; exact hR.2.2.2.1
  · rw [e9, cpy_o (by omega)]
    exact hR.2.2.2.2.1 i hi j hj
  · rw [e10, cpy_o (by omega)]
    exact hR.2.2.2.2.2.1 i hi j hj
  · rw [e11, cpy_o (by omega)]
    exact (hR.2.2.2.2.2.2 i hi).1 j hj
  · have t7 := (ok_walk ok hi).2.2.2.2.2.1
    rw [e11, cpy_o (by omega)]
    exact (hR.2.2.2.2.2.2 i hi).2 j hj
/-- days with flood, slots with a row -/
def fldN (F : Nat) : Nat := fld (fun c y => c + (F.testBit y).toNat) 30 0 0
def sltN (S : SS) : Nat := fld (fun c s => if S.1 s = -1 then c else c + 1) 4 0 0
def countA (K : KD) (S : SS) (T : TP) (x : Int32) : Int32 := if isN 9 x = true then (match x.toNatClampNeg with | 5 => nI (fldN (kh K 12)) | 6 => nI (kh K 5) | 7 => nI T.1 | 8 => nI (sltN S) | k => nI (kh K k)) else -1
theorem m_count_5 (hM : MK σ K) {q : Nat} : ∀ (n y c : Nat), y + n = 30 → Wp d md_260 69 [some (.ref 287), some (.int (nI q)), some (.int (nI c)), some (.int (nI y))] [] (mset M σ) (IsR (some (.int (nI (fld (fun c y => c + ((kh K 12).testBit y).toNat) n y c)))) (mset M σ)) := by
  obtain ⟨b0, b1, b2, b3, b4, b5, b6, b7, b8, b9, b10, b11, b12⟩ := ok_h hM.2.1
  intro n
  induction n with
  | zero =>
    intro y c hy
    refine Wp.n (pc' := 72) 2 rfl ?_
    refine Wp.nc3 (x := y) (y := 30) (tgt := 95) (len := 3) rfl (by omega) (by omega) (fun h72 => ?_) (fun h72 => ?_)
    · skip
      refine Wp.n (pc' := 96) 1 rfl ?_
      refine Wp.retI (len := 1) rfl rfl ?_
      exact ⟨rfl, rfl⟩
    · omega
  | succ n ih =>
    intro y c hy
    show Wp _ _ _ _ _ _ (IsR (some (.int (nI (fld (fun c y => c + ((kh K 12).testBit y).toNat) n (y + 1) (c + ((kh K 12).testBit y).toNat))))) (mset M σ))
    refine Wp.n (pc' := 72) 2 rfl ?_
    refine Wp.nc3 (x := y) (y := 30) (tgt := 95) (len := 3) rfl (by omega) (by omega) (fun h72 => ?_) (fun h72 => ?_)
    · omega
    · skip
      refine Wp.n (pc' := 81) 4 rfl ?_
      refine Wp.mlaldN (j := 0) (len := 1) rfl rfl rfl (by omega) ?_
      refine Wp.topL (rm_fl hM.1) ?_
      refine Wp.n (pc' := 86) 4 rfl ?_
      refine Wp.topL (l_bit (by omega) (by omega)) ?_
      refine Wp.l2iM (x := ((kh K 12).testBit y).toNat) (len := 1) rfl ?_
      refine Wp.iaddN (x := c) (y := ((kh K 12).testBit y).toNat) (len := 1) rfl ?_
      refine Wp.n (pc' := 89) 1 rfl ?_
      refine Wp.incN (x := y) (len := 3) rfl rfl ?_
      refine Wp.n (pc' := 69) 1 rfl ?_
      exact ih (y + 1) _ (by omega)

theorem m_count_8 (hS : SM σ S) {q : Nat} : ∀ (n s c : Nat), s + n = 4 → Wp d md_260 111 [some (.ref 287), some (.int (nI q)), some (.int (nI c)), some (.int (nI s))] [] (mset M σ) (IsR (some (.int (nI (fld (fun c s => if S.1 s = -1 then c else c + 1) n s c)))) (mset M σ)) := by
  intro n
  induction n with
  | zero =>
    intro s c hs
    refine Wp.n (pc' := 113) 2 rfl ?_
    refine Wp.nc3 (x := s) (y := 4) (tgt := 140) (len := 3) rfl (by omega) (by omega) (fun h113 => ?_) (fun h113 => ?_)
    · skip
      refine Wp.n (pc' := 141) 1 rfl ?_
      refine Wp.retI (len := 1) rfl rfl ?_
      exact ⟨rfl, rfl⟩
    · omega
  | succ n ih =>
    intro s c hs
    have a1 := (hS.2 s (by omega)).1
    show Wp _ _ _ _ _ _ (IsR (some (.int (nI (fld (fun c s => if S.1 s = -1 then c else c + 1) n (s + 1) (if S.1 s = -1 then c else c + 1))))) (mset M σ))
    refine Wp.n (pc' := 113) 2 rfl ?_
    refine Wp.nc3 (x := s) (y := 4) (tgt := 140) (len := 3) rfl (by omega) (by omega) (fun h113 => ?_) (fun h113 => ?_)
    · omega
    · skip
      refine Wp.n (pc' := 122) 4 rfl ?_
      refine Wp.mialdN (j := s) (len := 1) rfl rfl rfl (by omega) ?_
      refine Wp.top a1 ?_
      refine Wp.n (pc' := 124) 1 rfl ?_
      refine Wp.ic1 (tgt := 131) (len := 3) rfl (fun h124 => ?_) (fun h124 => ?_)
      · skip
        refine Wp.n (pc' := 132) 1 rfl ?_
        refine Wp.iaddN (x := c) (y := 1) (len := 1) rfl ?_
        refine Wp.n (pc' := 134) 1 rfl ?_
        refine Wp.incN (x := s) (len := 3) rfl rfl ?_
        refine Wp.n (pc' := 111) 1 rfl ?_
        first
          | (rw [if_pos h124]; exact ih (s + 1) c (by omega))
          | (rw [if_neg h124]; exact ih (s + 1) (c + 1) (by omega))
      · skip
        refine Wp.n (pc' := 132) 2 rfl ?_
        refine Wp.iaddN (x := c) (y := 0) (len := 1) rfl ?_
        refine Wp.n (pc' := 134) 1 rfl ?_
        refine Wp.incN (x := s) (len := 3) rfl rfl ?_
        refine Wp.n (pc' := 111) 1 rfl ?_
        first
          | (rw [if_pos h124]; exact ih (s + 1) c (by omega))
          | (rw [if_neg h124]; exact ih (s + 1) (c + 1) (by omega))

theorem m_count (hM : MK σ K) (hS : SM σ S) (hT : TM σ T) (x : Int32) : Ev d md_260 0 [some (.ref 287), some (.int x), none, none] [] (mset M σ) (some (.int (countA K S T x)), mset M σ) := by
  refine Wp.toEv ?_
  have hσ0 := hM.2.2.2
  unfold countA
  refine Wp.n (pc' := 2) 2 rfl ?_
  refine Wp.mput0 (len := 3) rfl hσ0 ?_
  refine Wp.n (pc' := 8) 3 rfl ?_
  by_cases h : isN 9 x = true
  · rw [if_pos h]
    obtain ⟨k, hk, rfl⟩ := isN_of h
    rw [nI_clamp (by omega)]
    have ex : (nI k).toInt = (0 : Int) + k := by rw [nI_toInt (by omega)]; omega
    have hc : k < 5 → Wp d md_260 60 [some (.ref 287), some (.int (nI k)), some (.int (nI 0)), none] [] (mset M σ) (IsR (some (.int (nI (kh K k)))) (mset M σ)) := fun h5 => by
      refine Wp.n (pc' := 65) 3 rfl ?_
      refine Wp.mialdN (j := k) (len := 1) rfl rfl rfl (by omega) ?_
      refine Wp.top (r0_has hM.1 h5) ?_
      refine Wp.retI (len := 1) rfl rfl ?_
      exact ⟨rfl, rfl⟩
    match k, hk, ex, hc with
    | 0, _, ex, hc => exact Wp.sw (len := 52) (t := 60) rfl (sw_at rfl 0 ex rfl) (hc (by decide))
    | 1, _, ex, hc => exact Wp.sw (len := 52) (t := 60) rfl (sw_at rfl 1 ex rfl) (hc (by decide))
    | 2, _, ex, hc => exact Wp.sw (len := 52) (t := 60) rfl (sw_at rfl 2 ex rfl) (hc (by decide))
    | 3, _, ex, hc => exact Wp.sw (len := 52) (t := 60) rfl (sw_at rfl 3 ex rfl) (hc (by decide))
    | 4, _, ex, hc => exact Wp.sw (len := 52) (t := 60) rfl (sw_at rfl 4 ex rfl) (hc (by decide))
    | 5, _, ex, hc =>
      refine Wp.sw (len := 52) (t := 67) rfl (sw_at rfl 5 ex rfl) ?_
      refine Wp.n (pc' := 69) 2 rfl ?_
      exact m_count_5 hM 30 0 0 (by decide)
    | 6, _, ex, hc =>
      refine Wp.sw (len := 52) (t := 97) rfl (sw_at rfl 6 ex rfl) ?_
      refine Wp.n (pc' := 102) 3 rfl ?_
      refine Wp.mialdN (j := 0) (len := 1) rfl rfl rfl (by omega) ?_
      refine Wp.top (rm_ln hM.1) ?_
      refine Wp.retI (len := 1) rfl rfl ?_
      exact ⟨rfl, rfl⟩
    | 7, _, ex, hc =>
      refine Wp.sw (len := 52) (t := 104) rfl (sw_at rfl 7 ex rfl) ?_
      refine Wp.n (pc' := 108) 2 rfl ?_
      refine Wp.top hT.1 ?_
      refine Wp.retI (len := 1) rfl rfl ?_
      exact ⟨rfl, rfl⟩
    | 8, _, ex, hc =>
      refine Wp.sw (len := 52) (t := 109) rfl (sw_at rfl 8 ex rfl) ?_
      refine Wp.n (pc' := 111) 2 rfl ?_
      exact m_count_8 hS 4 0 0 (by decide)
  · rw [if_neg h]
    refine Wp.sw (len := 52) (t := 142) rfl (sw_def rfl ?_) ?_
    · by_cases c : x.toInt < 0
      · exact Or.inl c
      · refine Or.inr ?_
        show (0 : Int) + 9 ≤ x.toInt
        by_cases c2 : x.toInt < 9
        · exact absurd (isN_f c c2) h
        · omega
    · refine Wp.n (pc' := 143) 1 rfl ?_
      refine Wp.retI (len := 1) rfl rfl ?_
      exact ⟨rfl, rfl⟩
/-- a walk for which what was paid can be owed by no way -/
def frdP (K : KD) (c : Nat → Int64) (w : Nat) : Bool := decide ((c w).toInt < 0 ∨ 2000000000 < (c w).toInt ∨ (finP K 3 w (c w).toInt.toNat).1 = 0)
def fordA (K : KD) (S : SS) (x : Int32) : Int32 := if isN 4 x = true ∧ 0 < kh K 0 then (if S.1 x.toNatClampNeg = -1 then -6 else if S.2.1 x.toNatClampNeg ≠ kh K 4 then -7 else oI (fnd (frdP K (S.2.2 x.toNatClampNeg)) (kh K 4) 0)) else -2
theorem l_of {x : Int64} (h : 0 ≤ x.toInt) : ∃ m : Nat, x = lN m ∧ x.toInt = (m : Int) ∧ m < 2 ^ 63 := by
  have h1 := Int64.toInt_lt x
  have e : x.toInt.toNat < 2 ^ 63 := by omega
  refine ⟨x.toInt.toNat, ?_, by omega, e⟩
  rw [l_eq, l_toInt e]
  omega
theorem m_ford_l (hM : MK σ K) (hS : SM σ S) {s : Nat} (hs : s < 4) (hn : S.2.1 s = kh K 4) : ∀ (n w : Nat) (τ : MS) (z3 z4 : Option Value), w + n = kh K 4 → Scr σ τ → Wp (d + 15) md_254 55 [some (.ref 287), some (.int (nI s)), some (.int (nI w)), z3, z4] [] (mset M τ) (RI M σ (oI (fnd (frdP K (S.2.2 s)) n w))) := by
  have ok := hM.2.1
  obtain ⟨b0, b1, b2, b3, b4, b5, b6, b7, b8, b9, b10, b11, b12⟩ := ok_h ok
  intro n
  induction n with
  | zero =>
    intro w τ z3 z4 hw hT
    have hK := MK_scr hM hT
    refine Wp.n (pc' := 61) 4 rfl ?_
    refine Wp.mialdN (j := 4) (len := 1) rfl rfl rfl (by omega) ?_
    refine Wp.top (r0_has hK.1 (by decide)) ?_
    refine Wp.nc3 (x := w) (y := kh K 4) (tgt := 113) (len := 3) rfl (by omega) (by omega) (fun h62 => ?_) (fun h62 => ?_)
    · skip
      refine Wp.n (pc' := 114) 1 rfl ?_
      refine Wp.retI (len := 1) rfl rfl ?_
      exact RI_s hT rfl
    · omega
  | succ n ih =>
    intro w τ z3 z4 hw hT
    have hK := MK_scr hM hT
    have ev : τ.2.2.2 2 (60 * s + w) = S.2.2 s w := by rw [hT.2.2.2]; exact (hS.2 s hs).2.2 w (by omega)
    rw [show fnd (frdP K (S.2.2 s)) (n + 1) w = if frdP K (S.2.2 s) w = true then some w else fnd (frdP K (S.2.2 s)) n (w + 1) from rfl]
    refine Wp.n (pc' := 61) 4 rfl ?_
    refine Wp.mialdN (j := 4) (len := 1) rfl rfl rfl (by omega) ?_
    refine Wp.top (r0_has hK.1 (by decide)) ?_
    refine Wp.nc3 (x := w) (y := kh K 4) (tgt := 113) (len := 3) rfl (by omega) (by omega) (fun h62 => ?_) (fun h62 => ?_)
    · omega
    · skip
      refine Wp.n (pc' := 72) 4 rfl ?_
      refine Wp.imulN (x := 60) (y := s) (len := 1) rfl ?_
      refine Wp.n (pc' := 74) 1 rfl ?_
      refine Wp.iaddN (x := 60 * s) (y := w) (len := 1) rfl ?_
      refine Wp.mlaldN (j := (60 * s) + w) (len := 1) rfl rfl rfl (by omega) ?_
      refine Wp.topL ev ?_
      refine Wp.n (pc' := 82) 4 rfl ?_
      refine Wp.ecallS (len := 3) rfl rfl rfl rfl (m_in _ _ _) ?_
      refine Wp.ifb1 (tgt := 90) (len := 3) rfl (fun h85 => ?_) (fun h85 => ?_)
      · skip
        have h85' := of_decide_eq_true h85
        have hv1 : (0 : Int) ≤ (S.2.2 s w).toInt := h85'.1
        have hv2 : (S.2.2 s w).toInt ≤ 2000000000 := h85'.2
        obtain ⟨v, ev1, ev2, ev3⟩ := l_of hv1
        have hb := finP_b ok (how := 3) (dn := v) (w := w) (by omega)
        rw [ev1]
        refine Wp.n (pc' := 94) 4 rfl ?_
        refine Wp.l2iM (x := v) (len := 1) rfl ?_
        refine Wp.callV (len := 3) rfl rfl rfl (rfl) rfl (by decide) rfl (m_owing (how := 3) (dn := v) hK (w := w) (by omega) (by decide) (by omega)) ?_
        rintro _ _ ⟨rfl, τ2, rfl, hS2, hR⟩
        replace hR : MR τ2 (finP K 3 w v) := hR
        refine Wp.n (pc' := 102) 2 rfl ?_
        refine Wp.top hR.1 ?_
        refine Wp.nz1 (x := (finP K 3 w v).1) (tgt := 107) (len := 3) rfl (by omega) (fun h102 => ?_) (fun h102 => ?_)
        · skip
          refine Wp.incN (x := w) (len := 3) rfl rfl ?_
          refine Wp.n (pc' := 55) 1 rfl ?_
          rw [if_neg (show ¬ frdP K (S.2.2 s) w = true from fun q => by
            rcases of_decide_eq_true q with q | q | q
            · omega
            · omega
            · rw [ev2, Int.toNat_natCast] at q; exact h102 q)]
          exact ih (w + 1) τ2 _ _ (by omega) (Scr_t hT hS2)
        · skip
          refine Wp.n (pc' := 106) 1 rfl ?_
          refine Wp.retI (len := 1) rfl rfl ?_
          first
            | (rw [if_pos (show frdP K (S.2.2 s) w = true from decide_eq_true (Or.inr (Or.inr (by rw [ev2, Int.toNat_natCast]; exact h102))))]; exact RI_s (Scr_t hT hS2) rfl)
            | (rw [if_pos (show frdP K (S.2.2 s) w = true from decide_eq_true (by
                 have h85' := of_decide_eq_false h85
                 by_cases c : (S.2.2 s w).toInt < 0
                 · exact Or.inl c
                 · refine Or.inr (Or.inl ?_)
                   refine Decidable.byContradiction (fun c2 => h85' ⟨?_, ?_⟩)
                   · show (0 : Int) ≤ _; omega
                   · show _ ≤ (2000000000 : Int); omega))]; exact RI_s hT rfl)
      · skip
        refine Wp.n (pc' := 89) 1 rfl ?_
        refine Wp.retI (len := 1) rfl rfl ?_
        first
          | (rw [if_pos (show frdP K (S.2.2 s) w = true from decide_eq_true (Or.inr (Or.inr (by rw [ev2, Int.toNat_natCast]; exact h102))))]; exact RI_s (Scr_t hT hS2) rfl)
          | (rw [if_pos (show frdP K (S.2.2 s) w = true from decide_eq_true (by
               have h85' := of_decide_eq_false h85
               by_cases c : (S.2.2 s w).toInt < 0
               · exact Or.inl c
               · refine Or.inr (Or.inl ?_)
                 refine Decidable.byContradiction (fun c2 => h85' ⟨?_, ?_⟩)
                 · show (0 : Int) ≤ _; omega
                 · show _ ≤ (2000000000 : Int); omega))]; exact RI_s hT rfl)

theorem m_ford (hM : MK σ K) (hS : SM σ S) (x : Int32) : Wp (d + 15) md_254 0 [some (.ref 287), some (.int x), none, none, none] [] (mset M σ) (RI M σ (fordA K S x)) := by
  have ok := hM.2.1
  have hσ0 := hM.2.2.2
  obtain ⟨b0, b1, b2, b3, b4, b5, b6, b7, b8, b9, b10, b11, b12⟩ := ok_h ok
  unfold fordA
  refine Wp.n (pc' := 2) 2 rfl ?_
  refine Wp.mput0 (len := 3) rfl hσ0 ?_
  refine Wp.n (pc' := 6) 1 rfl ?_
  refine Wp.ecallS (len := 3) rfl rfl rfl rfl (m_isSlotN _) ?_
  refine Wp.ifb0 (tgt := 19) (len := 3) rfl (fun h9 => ?_) (fun h9 => ?_)
  · skip
    refine Wp.n (pc' := 21) 1 rfl ?_
    refine Wp.retI (len := 1) rfl rfl ?_
    first
      | (rw [if_neg (fun q => by rw [h9] at q; exact absurd q.1 (by decide))]; exact RI_r rfl)
      | (rw [if_neg (fun q => of_decide_eq_false h16 q.2)]; exact RI_r rfl)
      | (rw [if_pos h29]; exact RI_r rfl)
      | (rw [if_pos h47]; exact RI_r rfl)
  · skip
    refine Wp.n (pc' := 13) 1 rfl ?_
    refine Wp.ecallV (len := 3) rfl rfl rfl (rfl) rfl (by decide) rfl (m_isKingdom hM.1 ok) ?_
    refine Wp.ifb1 (tgt := 22) (len := 3) rfl (fun h16 => ?_) (fun h16 => ?_)
    · skip
      obtain ⟨s, hs, rfl⟩ := isN_of h9
      obtain ⟨a1, a2, a3⟩ := hS.2 s hs
      have s60 := hS.1 s hs
      rw [if_pos ⟨h9, of_decide_eq_true h16⟩, nI_clamp (by omega)]
      refine Wp.n (pc' := 27) 3 rfl ?_
      refine Wp.mialdN (j := s) (len := 1) rfl rfl rfl (by omega) ?_
      refine Wp.top a1 ?_
      refine Wp.n (pc' := 29) 1 rfl ?_
      refine Wp.ic1 (tgt := 35) (len := 3) rfl (fun h29 => ?_) (fun h29 => ?_)
      · skip
        rw [if_neg h29]
        refine Wp.n (pc' := 40) 3 rfl ?_
        refine Wp.mialdN (j := s) (len := 1) rfl rfl rfl (by omega) ?_
        refine Wp.top a2 ?_
        refine Wp.n (pc' := 46) 3 rfl ?_
        refine Wp.mialdN (j := 4) (len := 1) rfl rfl rfl (by omega) ?_
        refine Wp.top (r0_has hM.1 (by decide)) ?_
        refine Wp.nc0 (x := S.2.1 s) (y := kh K 4) (tgt := 53) (len := 3) rfl (by omega) (by omega) (fun h47 => ?_) (fun h47 => ?_)
        · skip
          rw [if_neg (fun q => q h47)]
          refine Wp.n (pc' := 55) 2 rfl ?_
          exact m_ford_l hM hS hs h47 (kh K 4) 0 σ _ _ (by omega) Scr_r
        · skip
          refine Wp.n (pc' := 52) 1 rfl ?_
          refine Wp.retI (len := 1) rfl rfl ?_
          first
            | (rw [if_neg (fun q => by rw [h9] at q; exact absurd q.1 (by decide))]; exact RI_r rfl)
            | (rw [if_neg (fun q => of_decide_eq_false h16 q.2)]; exact RI_r rfl)
            | (rw [if_pos h29]; exact RI_r rfl)
            | (rw [if_pos h47]; exact RI_r rfl)
      · skip
        refine Wp.n (pc' := 34) 1 rfl ?_
        refine Wp.retI (len := 1) rfl rfl ?_
        first
          | (rw [if_neg (fun q => by rw [h9] at q; exact absurd q.1 (by decide))]; exact RI_r rfl)
          | (rw [if_neg (fun q => of_decide_eq_false h16 q.2)]; exact RI_r rfl)
          | (rw [if_pos h29]; exact RI_r rfl)
          | (rw [if_pos h47]; exact RI_r rfl)
    · skip
      refine Wp.n (pc' := 21) 1 rfl ?_
      refine Wp.retI (len := 1) rfl rfl ?_
      first
        | (rw [if_neg (fun q => by rw [h9] at q; exact absurd q.1 (by decide))]; exact RI_r rfl)
        | (rw [if_neg (fun q => of_decide_eq_false h16 q.2)]; exact RI_r rfl)
        | (rw [if_pos h29]; exact RI_r rfl)
        | (rw [if_pos h47]; exact RI_r rfl)

end TAPE
end
section
/-! THE CLASS: its questions about told walks. -/
def hdl (ow : Int32) : List Value := [.ref 33, .ref 35, .ref 36, .ref 83, .ref 130, .ref 272, .ref 273, .ref 280, .ref 282, .ref 286, .int ow]
/-- the class's object -/
def HD (M : AM) : Prop := (∃ ow : Int32, M 32 = .inr (9, hdl ow)) ∧ ∃ f : Nat → Int32, M 286 = .inl (0, 10, .inl f)
theorem hd_to {M M2 : AM} (h1 : M2 32 = M 32) (h2 : M2 286 = M 286) (h : HD M) : HD M2 := by
  obtain ⟨⟨ow, q1⟩, f, q2⟩ := h
  exact ⟨⟨ow, h1.trans q1⟩, f, h2.trans q2⟩
theorem bitsC_0 {K : KD} (ok : KOK K) (h11 : kh K 11 = 0) {ls : List Nat} (h : ∀ l, l ∈ ls → LV K l) : bitsC K ls = bitsM ls := by
  have b3 := (ok_h ok).2.2.2.1
  unfold bitsC
  have e : ls.map (phL K) = ls := by
    induction ls with
    | nil => rfl
    | cons x t ih =>
      rw [List.map_cons, ih (fun l hl => h l (List.mem_cons_of_mem _ hl))]
      have hx := h x List.mem_cons_self
      rw [show phL K x = x from if_neg (by unfold LV at hx; omega)]
  rw [e]
def gcl : Nat → Nat → Nat → Nat
  | 0, x, _ => x
  | n + 1, x, y => if y = 0 then x else gcl n y (x % y)
theorem gcl_0 : ∀ (n x : Nat), gcl n x 0 = x
  | 0, _ => rfl
  | _ + 1, _ => if_pos rfl
theorem gcl_gcd : ∀ (k n x y : Nat), y < 2 ^ k → 2 * k ≤ n → gcl n x y = Nat.gcd x y
  | 0, n, x, y, hy, _ => by
    obtain rfl : y = 0 := by have : 2 ^ 0 = 1 := rfl; omega
    rw [gcl_0, Nat.gcd_zero_right]
  | k + 1, n, x, y, hy, hn => by
    obtain ⟨m, rfl⟩ : ∃ m, n = m + 2 := ⟨n - 2, by omega⟩
    by_cases h0 : y = 0
    · rw [h0, gcl_0, Nat.gcd_zero_right]
    · have e1 : Nat.gcd x y = Nat.gcd y (x % y) := by rw [Nat.gcd_comm x y, Nat.gcd_rec, Nat.gcd_comm]
      show (if y = 0 then x else gcl (m + 1) y (x % y)) = _
      rw [if_neg h0, e1]
      by_cases h1 : x % y = 0
      · rw [h1, gcl_0, Nat.gcd_zero_right]
      · have hlt : x % y < y := Nat.mod_lt _ (by omega)
        have e2 : Nat.gcd y (x % y) = Nat.gcd (x % y) (y % (x % y)) := by rw [Nat.gcd_comm y (x % y), Nat.gcd_rec, Nat.gcd_comm]
        show (if x % y = 0 then y else gcl m (x % y) (y % (x % y))) = _
        rw [if_neg h1, e2]
        refine gcl_gcd k m _ _ ?_ (by omega)
        have h2 : 2 ^ (k + 1) = 2 * 2 ^ k := by rw [Nat.pow_succ]; omega
        by_cases c : x % y ≤ 2 ^ k
        · exact Nat.lt_of_lt_of_le (Nat.mod_lt _ (by omega)) c
        · rw [Nat.mod_eq_sub_mod (by omega), Nat.mod_eq_of_lt (by omega)]
          omega
theorem bI_or (a b : Bool) : bI a ||| bI b = bI (b || a) := by cases a <;> cases b <;> rfl
/-- the class's scratch: ways, trip -/
def ScC (κ κ' : CS) : Prop := Fc [4, 11] [5, 6, 7, 8, 9, 10, 12] [2] κ κ'
theorem ScC_r {κ : CS} : ScC κ κ := Fc.r
theorem ScC_t {κ κ' κ'' : CS} (h : ScC κ κ') (h' : ScC κ' κ'') : ScC κ κ'' := Fc.t h h'
theorem ScC_11 {κ κ' : CS} (h : Fc [11] [12] [] κ κ') : ScC κ κ' := Fc.mono h rfl rfl rfl
def RCI (M : AM) (κ : CS) (a : Int32) : Option Value → AM → Prop := fun v M' => v = some (.int a) ∧ ∃ κ', M' = cset M κ' ∧ ScC κ κ'
def RCJ (M : AM) (κ : CS) (a : Int64) : Option Value → AM → Prop := fun v M' => v = some (.long a) ∧ ∃ κ', M' = cset M κ' ∧ ScC κ κ'
theorem RCI_s {M : AM} {κ κ' : CS} {a b : Int32} (e : ScC κ κ') (h : a = b) : RCI M κ b (some (.int a)) (cset M κ') := ⟨by rw [h], κ', rfl, e⟩
theorem RCI_r {M : AM} {κ : CS} {a b : Int32} (h : a = b) : RCI M κ b (some (.int a)) (cset M κ) := RCI_s ScC_r h
theorem RCJ_s {M : AM} {κ κ' : CS} {a b : Int64} (e : ScC κ κ') (h : a = b) : RCJ M κ b (some (.long a)) (cset M κ') := ⟨by rw [h], κ', rfl, e⟩
section QC
variable {d : Nat} {M : AM} {r : Nat} {K : KD} {κ κ' : CS} {Q : Option Value → AM → Prop}
theorem isN_lt {k : Nat} {x y : Int32} (hk : k < 2 ^ 31) (hy : y = nI k) : decide (0 ≤ x.toInt ∧ x.toInt < y.toInt) = isN k x := by
  rw [hy, nI_toInt hk]
  rfl
theorem isR_w {lo hi : Nat} {x a b : Int32} (ha : a = nI lo) (hb : b = nI hi) (h1 : lo < 2 ^ 31) (h2 : hi < 2 ^ 31) : decide (a.toInt ≤ x.toInt ∧ x.toInt ≤ b.toInt) = isR lo hi x := by
  rw [ha, hb, nI_toInt h1, nI_toInt h2]
  rfl
theorem isR_0 {hi : Nat} {x : Int32} : isR 0 hi x = isN (hi + 1) x := by
  unfold isR isN
  by_cases c : 0 ≤ x.toInt ∧ x.toInt < ((hi + 1 : Nat) : Int)
  · rw [decide_eq_true c, decide_eq_true (by omega)]
  · rw [decide_eq_false c, decide_eq_false (by omega)]

theorem k_hasPlace (hk : RK M r K) (x : Int32) : Ev d md_33 0 [some (.ref r), some (.int x)] [] M (some (.int (bI (isN (kh K 0) x))), M) := by
  obtain ⟨ρ, hR, hK, hDC, ok, hr1, hr2⟩ := id hk
  obtain ⟨b0, b1, b2, b3, b4, b5, b6, b7, b8, b9, b10, b11, b12⟩ := ok_h ok
  have w := ra_ev hR (c_hasPlace (d := d) (M := M) (r := r) (ρ := ρ) x)
  rw [isN_lt (k := kh K 0) (by omega) (rc_pl hK)] at w
  exact w
theorem k_hasDay (hk : RK M r K) (x : Int32) : Ev d md_38 0 [some (.ref r), some (.int x)] [] M (some (.int (bI (isN (kh K 1) x))), M) := by
  obtain ⟨ρ, hR, hK, hDC, ok, hr1, hr2⟩ := id hk
  obtain ⟨b0, b1, b2, b3, b4, b5, b6, b7, b8, b9, b10, b11, b12⟩ := ok_h ok
  have w := ra_ev hR (c_hasDay (d := d) (M := M) (r := r) (ρ := ρ) x)
  rw [isN_lt (k := kh K 1) (by omega) (rc_dy hK)] at w
  exact w
theorem k_hasRoad (hk : RK M r K) (x : Int32) : Ev d md_48 0 [some (.ref r), some (.int x)] [] M (some (.int (bI (isN (kh K 2) x))), M) := by
  obtain ⟨ρ, hR, hK, hDC, ok, hr1, hr2⟩ := id hk
  obtain ⟨b0, b1, b2, b3, b4, b5, b6, b7, b8, b9, b10, b11, b12⟩ := ok_h ok
  have w := ra_ev hR (c_hasRoad (d := d) (M := M) (r := r) (ρ := ρ) x)
  rw [isN_lt (k := kh K 2) (by omega) (rc_rd hK)] at w
  exact w
theorem k_hasLane (hk : RK M r K) (x : Int32) : Ev d md_37 0 [some (.ref r), some (.int x)] [] M (some (.int (bI (isN (kh K 3 + kh K 11) x))), M) := by
  obtain ⟨ρ, hR, hK, hDC, ok, hr1, hr2⟩ := id hk
  obtain ⟨b0, b1, b2, b3, b4, b5, b6, b7, b8, b9, b10, b11, b12⟩ := ok_h ok
  have w := ra_ev hR (c_hasLane (d := d) (M := M) (r := r) (ρ := ρ) x)
  rw [isN_lt (k := kh K 3 + kh K 11) (by omega) (rc_la hK)] at w
  exact w
theorem k_hasWalk (hk : RK M r K) (x : Int32) : Ev d md_41 0 [some (.ref r), some (.int x)] [] M (some (.int (bI (isN (kh K 4) x))), M) := by
  obtain ⟨ρ, hR, hK, hDC, ok, hr1, hr2⟩ := id hk
  obtain ⟨b0, b1, b2, b3, b4, b5, b6, b7, b8, b9, b10, b11, b12⟩ := ok_h ok
  have w := ra_ev hR (c_hasWalk (d := d) (M := M) (r := r) (ρ := ρ) x)
  rw [isN_lt (k := kh K 4) (by omega) (rc_wk hK)] at w
  exact w
theorem k_exists (hk : RK M r K) : Ev d md_42 0 [some (.ref r)] [] M (some (.int (bI (decide (0 < kh K 0)))), M) := by
  obtain ⟨ρ, hR, hK, hDC, ok, hr1, hr2⟩ := id hk
  obtain ⟨b0, b1, b2, b3, b4, b5, b6, b7, b8, b9, b10, b11, b12⟩ := ok_h ok
  have w := ra_ev hR (c_exists (d := d) (M := M) (r := r) (ρ := ρ))
  have e : decide (0 < (rhd ρ 0).toInt) = decide (0 < kh K 0) := by
    rw [rc_pl hK, nI_toInt (by omega)]
    by_cases c : 0 < kh K 0
    · rw [decide_eq_true c, decide_eq_true (by omega)]
    · rw [decide_eq_false c, decide_eq_false (by omega)]
  rw [e] at w
  exact w
def WSc (κ : CS) (ws : List Nat) : Prop := κ.1 11 7 = nI ws.length ∧ (∀ i, i < ws.length → κ.2.1 12 i = nI (ws.getD i 0))
theorem t_gcd_l {a b : Nat} : ∀ (n i x y : Nat) (z9 z10 : Option Value), i + n = 200 → x < 2 ^ 63 → y < 2 ^ 63 → Wp d md_66 9 [some (.long (lN a)), none, some (.long (lN b)), none, some (.long (lN x)), none, some (.long (lN y)), none, some (.int (nI i)), z9, z10] [] M (IsR (some (.long (lN (gcl n x y)))) M) := by
  intro n
  induction n with
  | zero =>
    intro i x y z9 z10 hi hx hy
    refine Wp.n (pc' := 14) 2 rfl ?_
    refine Wp.nc3 (x := i) (y := 200) (tgt := 45) (len := 3) rfl (by omega) (by omega) (fun h14 => ?_) (fun h14 => ?_)
    · skip
      refine Wp.n (pc' := 47) 1 rfl ?_
      refine Wp.retL (len := 1) rfl rfl ?_
      exact ⟨rfl, rfl⟩
    · omega
  | succ n ih =>
    intro i x y z9 z10 hi hx hy
    show Wp _ _ _ _ _ _ (IsR (some (.long (lN (if y = 0 then x else gcl n y (x % y))))) M)
    refine Wp.n (pc' := 14) 2 rfl ?_
    refine Wp.nc3 (x := i) (y := 200) (tgt := 45) (len := 3) rfl (by omega) (by omega) (fun h14 => ?_) (fun h14 => ?_)
    · omega
    · skip
      refine Wp.n (pc' := 21) 3 rfl ?_
      refine Wp.cz0 (x := y) (y := 0) (tgt := 45) (len := 3) rfl (by omega) (by omega) (fun h21 => ?_) (fun h21 => ?_)
      · skip
        refine Wp.n (pc' := 47) 1 rfl ?_
        refine Wp.retL (len := 1) rfl rfl ?_
        rw [if_pos h21]
        exact ⟨rfl, rfl⟩
      · skip
        refine Wp.n (pc' := 28) 2 rfl ?_
        refine Wp.lremM (x := x) (y := y) (len := 1) rfl (by omega) (by omega) (by omega) ?_
        refine Wp.n (pc' := 39) 5 rfl ?_
        refine Wp.incN (x := i) (len := 3) rfl rfl ?_
        refine Wp.n (pc' := 9) 1 rfl ?_
        rw [if_neg h21]
        exact ih (i + 1) y (x % y) _ _ (by omega) hy (Nat.lt_of_le_of_lt (Nat.mod_le _ _) hx)

theorem t_gcd {a b : Nat} (ha : a < 2 ^ 63) (hb : b < 2 ^ 40) : Ev d md_66 0 [some (.long (lN a)), none, some (.long (lN b)), none, none, none, none, none, none, none, none] [] M (some (.long (lN (Nat.gcd a b))), M) := by
  refine Wp.toEv ?_
  refine Wp.n (pc' := 9) 6 rfl ?_
  have w := t_gcd_l (d := d) (M := M) (a := a) (b := b) 200 0 a b none none (by omega) ha (by omega)
  rw [gcl_gcd 40 200 a b hb (by omega)] at w
  exact w
theorem t_frac_l {ws : List Nat} (hW : WSc κ ws) (hB : WB ws) {m what : Nat} : ∀ (n i : Nat) (z8 z9 z10 : Option Value), i + n = ws.length → (∀ z7 z8 z9 z10, Wp d md_65 45 [some (.ref 280), some (.int (nI m)), some (.int (nI what)), some (.long (lN (npr ws ws.length))), none, some (.long (lN (100 ^ ws.length))), none, z7, z8, z9, z10] [] (cset M κ) Q) → Wp d md_65 8 [some (.ref 280), some (.int (nI m)), some (.int (nI what)), some (.long (lN (npr ws i))), none, some (.long (lN (100 ^ i))), none, some (.int (nI i)), z8, z9, z10] [] (cset M κ) Q := by
  intro n
  induction n with
  | zero =>
    intro i z8 z9 z10 hi kk
    have h6 := hB.1
    refine Wp.n (pc' := 11) 2 rfl ?_
    refine Wp.get (len := 3) rfl (rfl) rfl ?_
    refine Wp.top hW.1 ?_
    refine Wp.nc3 (x := i) (y := ws.length) (tgt := 45) (len := 3) rfl (by omega) (by omega) (fun h14 => ?_) (fun h14 => ?_)
    · skip
      rw [show i = ws.length by omega]
      exact kk _ _ _ _
    · omega
  | succ n ih =>
    intro i z8 z9 z10 hi kk
    have h6 := hB.1
    have h100 := hB.2 i
    refine Wp.n (pc' := 11) 2 rfl ?_
    refine Wp.get (len := 3) rfl (rfl) rfl ?_
    refine Wp.top hW.1 ?_
    refine Wp.nc3 (x := i) (y := ws.length) (tgt := 45) (len := 3) rfl (by omega) (by omega) (fun h14 => ?_) (fun h14 => ?_)
    · omega
    · skip
      refine Wp.n (pc' := 21) 3 rfl ?_
      refine Wp.get (len := 3) rfl (rfl) rfl ?_
      refine Wp.n (pc' := 26) 1 rfl ?_
      refine Wp.ialdN (j := i) (len := 1) rfl (rfl) rfl (by omega) (by decide) ?_
      refine Wp.top (hW.2 i (by omega)) ?_
      refine Wp.isubN (x := 100) (y := ws.getD i 0) (len := 1) rfl (by omega) ?_
      refine Wp.i2lM (x := 100 - (ws.getD i 0)) (len := 1) rfl (by omega) ?_
      refine Wp.lmulM (x := npr ws i) (y := 100 - (ws.getD i 0)) (len := 1) rfl ?_
      refine Wp.n (pc' := 36) 3 rfl ?_
      refine Wp.lmulM (x := 100 ^ i) (y := 100) (len := 1) rfl ?_
      refine Wp.n (pc' := 39) 1 rfl ?_
      refine Wp.incN (x := i) (len := 3) rfl rfl ?_
      refine Wp.n (pc' := 8) 1 rfl ?_
      exact ih (i + 1) _ _ _ (by omega) kk

theorem t_frac {ws : List Nat} (hW : WSc κ ws) (hB : WB ws) {m what : Nat} (hm : m ≤ 689634) (hwh : what ≤ 1) : Ev (d + 1) md_65 0 [some (.ref 280), some (.int (nI m)), some (.int (nI what)), none, none, none, none, none, none, none, none] [] (cset M κ) (some (.long (lN (tellK ws m what))), cset M κ) := by
  refine Wp.toEv ?_
  refine Wp.n (pc' := 8) 6 rfl ?_
  refine t_frac_l hW hB ws.length 0 _ _ _ (by omega) (fun z7 z8 z9 z10 => ?_)
  have hp := pow6 hB.1
  have hnp := npr_le ws ws.length
  have hab : m * (100 ^ ws.length - npr ws ws.length) ≤ 689634 * 1000000000000 := Nat.mul_le_mul hm (by omega)
  have hg : 0 < Nat.gcd (m * (100 ^ ws.length - npr ws ws.length)) (100 ^ ws.length) := Nat.gcd_pos_of_pos_right _ (by omega)
  have hg2 : Nat.gcd (m * (100 ^ ws.length - npr ws ws.length)) (100 ^ ws.length) ≤ 100 ^ ws.length := Nat.gcd_le_right _ (by omega)
  unfold tellK
  rw [Nat.mul_comm (100 ^ ws.length - npr ws ws.length) m]
  refine Wp.n (pc' := 46) 1 rfl ?_
  refine Wp.i2lM (x := m) (len := 1) rfl (by omega) ?_
  refine Wp.n (pc' := 50) 2 rfl ?_
  refine Wp.lsubM (x := 100 ^ ws.length) (y := npr ws ws.length) (len := 1) rfl (by omega) ?_
  refine Wp.lmulM (x := m) (y := (100 ^ ws.length) - (npr ws ws.length)) (len := 1) rfl ?_
  refine Wp.n (pc' := 58) 3 rfl ?_
  refine Wp.ecallS (len := 3) rfl rfl rfl rfl (t_gcd (by omega) (by omega)) ?_
  refine Wp.n (pc' := 67) 4 rfl ?_
  refine Wp.cz1 (x := Nat.gcd (m * (100 ^ ws.length - npr ws ws.length)) (100 ^ ws.length)) (y := 0) (tgt := 73) (len := 3) rfl (by omega) (by omega) (fun h67 => ?_) (fun h67 => ?_)
  · skip
    refine Wp.n (pc' := 74) 1 rfl ?_
    refine Wp.nz1 (x := what) (tgt := 82) (len := 3) rfl (by omega) (fun h74 => ?_) (fun h74 => ?_)
    · skip
      refine Wp.n (pc' := 86) 2 rfl ?_
      refine Wp.ldivM (x := 100 ^ ws.length) (y := Nat.gcd (m * (100 ^ ws.length - npr ws ws.length)) (100 ^ ws.length)) (len := 1) rfl (by omega) (by omega) (by omega) ?_
      refine Wp.retL (len := 1) rfl rfl ?_
      first
        | exact ⟨by rw [if_pos h74], rfl⟩
        | exact ⟨by rw [if_neg h74], rfl⟩
    · skip
      refine Wp.n (pc' := 86) 3 rfl ?_
      refine Wp.ldivM (x := m * ((100 ^ ws.length) - (npr ws ws.length))) (y := Nat.gcd (m * (100 ^ ws.length - npr ws ws.length)) (100 ^ ws.length)) (len := 1) rfl (by omega) (by omega) (by omega) ?_
      refine Wp.retL (len := 1) rfl rfl ?_
      first
        | exact ⟨by rw [if_pos h74], rfl⟩
        | exact ⟨by rw [if_neg h74], rfl⟩
  · omega

theorem t_seen_l {ws : List Nat} (hW : WSc κ ws) (hB : WB ws) {x0 : Nat} : ∀ (n i x : Nat) (b : Bool), i + n = ws.length → x < 2147483648 → Wp d md_67 9 [some (.ref 280), some (.int (nI x0)), some (.long (lN x)), none, some (.int (bI b)), some (.int (nI i))] [] (cset M κ) (IsR (some (.int (bI (seenL ws n i x b)))) (cset M κ)) := by
  intro n
  have h6 := hB.1
  induction n with
  | zero =>
    intro i x b hi hx
    refine Wp.n (pc' := 12) 2 rfl ?_
    refine Wp.get (len := 3) rfl (rfl) rfl ?_
    refine Wp.top hW.1 ?_
    refine Wp.nc3 (x := i) (y := ws.length) (tgt := 69) (len := 3) rfl (by omega) (by omega) (fun h15 => ?_) (fun h15 => ?_)
    · skip
      refine Wp.n (pc' := 71) 1 rfl ?_
      refine Wp.retZ (len := 1) (c := b) rfl rfl rfl ?_
      exact ⟨rfl, rfl⟩
    · omega
  | succ n ih =>
    intro i x b hi hx
    have h100 := hB.2 i
    have hl := lcg_lt x
    have kk : ∀ c, (decide (lcg x / 65536 % 100 < ws.getD i 0) || b) = c → Wp d md_67 9 [some (.ref 280), some (.int (nI x0)), some (.long (lN (lcg x))), none, some (.int (bI c)), some (.int (nI (i + 1)))] [] (cset M κ) (IsR (some (.int (bI (seenL ws (n + 1) i x b)))) (cset M κ)) := by
      intro c hc
      show Wp _ _ _ _ _ _ (IsR (some (.int (bI (seenL ws n (i + 1) (lcg x) (decide (lcg x / 65536 % 100 < ws.getD i 0) || b))))) (cset M κ))
      rw [hc]
      exact ih (i + 1) (lcg x) _ (by omega) hl
    refine Wp.n (pc' := 12) 2 rfl ?_
    refine Wp.get (len := 3) rfl (rfl) rfl ?_
    refine Wp.top hW.1 ?_
    refine Wp.nc3 (x := i) (y := ws.length) (tgt := 69) (len := 3) rfl (by omega) (by omega) (fun h15 => ?_) (fun h15 => ?_)
    · omega
    · skip
      refine Wp.n (pc' := 22) 2 rfl ?_
      refine Wp.lmulM (x := 1103515245) (y := x) (len := 1) rfl ?_
      refine Wp.n (pc' := 26) 1 rfl ?_
      refine Wp.laddM (x := 1103515245 * x) (y := 12345) (len := 1) rfl ?_
      refine Wp.n (pc' := 30) 1 rfl ?_
      refine Wp.lremM (x := (1103515245 * x) + 12345) (y := 2147483648) (len := 1) rfl (by omega) (by omega) (by omega) ?_
      refine Wp.topL rfl ?_
      refine Wp.n (pc' := 38) 4 rfl ?_
      refine Wp.ldivM (x := lcg x) (y := 65536) (len := 1) rfl (by omega) (by omega) (by omega) ?_
      refine Wp.n (pc' := 42) 1 rfl ?_
      refine Wp.lremM (x := (lcg x) / 65536) (y := 100) (len := 1) rfl (by omega) (by omega) (by omega) ?_
      refine Wp.n (pc' := 44) 1 rfl ?_
      refine Wp.get (len := 3) rfl (rfl) rfl ?_
      refine Wp.n (pc' := 49) 1 rfl ?_
      refine Wp.ialdN (j := i) (len := 1) rfl (rfl) rfl (by omega) (by decide) ?_
      refine Wp.top (hW.2 i (by omega)) ?_
      refine Wp.i2lM (x := ws.getD i 0) (len := 1) rfl (by omega) ?_
      refine Wp.n (pc' := 52) 1 rfl ?_
      refine Wp.cz3 (x := ((lcg x) / 65536) % 100) (y := ws.getD i 0) (tgt := 59) (len := 3) rfl (by omega) (by omega) (fun h52 => ?_) (fun h52 => ?_)
      · skip
        refine Wp.n (pc' := 61) 2 rfl ?_
        refine Wp.top (show _ = bI (decide (lcg x / 65536 % 100 < ws.getD i 0) || b) from by first | (rw [decide_eq_true (by omega)]; exact bI_or b true) | (rw [decide_eq_false (by omega)]; exact bI_or b false)) ?_
        refine Wp.n (pc' := 63) 1 rfl ?_
        refine Wp.incN (x := i) (len := 3) rfl rfl ?_
        refine Wp.n (pc' := 9) 1 rfl ?_
        exact kk _ rfl
      · skip
        refine Wp.n (pc' := 61) 3 rfl ?_
        refine Wp.top (show _ = bI (decide (lcg x / 65536 % 100 < ws.getD i 0) || b) from by first | (rw [decide_eq_true (by omega)]; exact bI_or b true) | (rw [decide_eq_false (by omega)]; exact bI_or b false)) ?_
        refine Wp.n (pc' := 63) 1 rfl ?_
        refine Wp.incN (x := i) (len := 3) rfl rfl ?_
        refine Wp.n (pc' := 9) 1 rfl ?_
        exact kk _ rfl

theorem t_seen {ws : List Nat} (hW : WSc κ ws) (hB : WB ws) {x : Nat} (hx : x < 2147483648) : Ev d md_67 0 [some (.ref 280), some (.int (nI x)), none, none, none, none] [] (cset M κ) (some (.int (bI (seenK ws x))), cset M κ) := by
  refine Wp.toEv ?_
  refine Wp.n (pc' := 1) 1 rfl ?_
  refine Wp.i2lM (x := x) (len := 1) rfl (by omega) ?_
  refine Wp.n (pc' := 9) 5 rfl ?_
  exact t_seen_l hW hB ws.length 0 x false (by omega) hx
theorem TW_ws (ok : KOK K) {w : Nat} (hw : w < kh K 4) (h : TW κ K w) : WSc κ (wat K (TRr K w).2.2) ∧ WB (wat K (TRr K w).2.2) := ⟨⟨h.1.2.2.2.1, h.1.2.2.2.2⟩, wat_b ok (TRr_b ok hw).1.2.1 (TRr_b ok hw).1.2.2⟩
theorem k_isLawful (hD : HD M) (hk : RK M r K) {w : Nat} (hw : w < kh K 4) : Wp (d + 10) md_101 0 [some (.ref 32), some (.ref r), some (.int (nI w))] [] (cset M κ) (fun v M' => v = some (.int (bI (lawK K w))) ∧ ∃ κ', M' = cset M κ' ∧ Fc [11] [12] [] κ κ' ∧ TW κ' K w) := by
  obtain ⟨ow, hDo⟩ := hD.1
  have hO : ∀ κ : CS, cset M κ 32 = .inr (9, hdl ow) := fun κ => (cset_o (by omega)).trans hDo
  refine Wp.n (pc' := 1) 1 rfl ?_
  refine Wp.get (len := 3) rfl (hO _) rfl ?_
  refine Wp.n (pc' := 6) 2 rfl ?_
  refine Wp.callV (len := 3) rfl rfl rfl (rfl) rfl (by decide) rfl (t_follow hk hw) ?_
  rintro _ _ ⟨rfl, κ2, rfl, hF, hT⟩
  refine Wp.n (pc' := 10) 1 rfl ?_
  refine Wp.get (len := 3) rfl (hO _) rfl ?_
  refine Wp.get (len := 3) rfl (rfl) rfl ?_
  refine Wp.top hT.2.1 ?_
  refine Wp.retZ (len := 1) (c := lawK K w) rfl rfl rfl ?_
  exact ⟨rfl, κ2, rfl, hF, hT⟩

theorem k_refusal (hD : HD M) (hk : RK M 36 K) (x : Int32) : Wp (d + 11) md_104 0 [some (.ref 32), some (.int x)] [] (cset M κ) (fun v M' => ∃ κ', M' = cset M κ' ∧ Fc [11] [12] [] κ κ' ∧ ((isN (kh K 4) x = false ∧ v = some (.int (-2))) ∨ ∃ w, w < kh K 4 ∧ x = nI w ∧ TW κ' K w ∧ v = some (.int (bif lawK K w then 0 else -1)))) := by
  obtain ⟨ρ, hR, hK, hDC, ok, hr1, hr2⟩ := id hk
  obtain ⟨b0, b1, b2, b3, b4, b5, b6, b7, b8, b9, b10, b11, b12⟩ := ok_h ok
  obtain ⟨ow, hDo⟩ := hD.1
  have hO : ∀ κ : CS, cset M κ 32 = .inr (9, hdl ow) := fun κ => (cset_o (by omega)).trans hDo
  have hRc : ∀ κ : CS, RA (cset M κ) 36 ρ := fun κ => RA_c hR hr1 hr2
  refine Wp.n (pc' := 1) 1 rfl ?_
  refine Wp.get (len := 3) rfl (hO _) rfl ?_
  refine Wp.n (pc' := 5) 1 rfl ?_
  refine Wp.ecallV (len := 3) rfl rfl rfl (ra_obj (hRc _)) rfl (by decide) rfl (k_hasWalk (RK_c hk) _) ?_
  refine Wp.ifb1 (tgt := 14) (len := 3) rfl (fun h8 => ?_) (fun h8 => ?_)
  · skip
    obtain ⟨w, hw, rfl⟩ := isN_of h8
    refine Wp.n (pc' := 16) 2 rfl ?_
    refine Wp.get (len := 3) rfl (hO _) rfl ?_
    refine Wp.n (pc' := 20) 1 rfl ?_
    refine Wp.callV (len := 3) rfl rfl rfl (hO _) rfl (by decide) rfl (k_isLawful hD hk hw) ?_
    rintro _ _ ⟨rfl, κ2, rfl, hF, hT⟩
    refine Wp.ifb0 (tgt := 30) (len := 3) rfl (fun h23 => ?_) (fun h23 => ?_)
    · skip
      refine Wp.n (pc' := 31) 1 rfl ?_
      refine Wp.retI (len := 1) rfl rfl ?_
      first
        | exact ⟨κ2, rfl, hF, Or.inr ⟨w, hw, rfl, hT, by rw [h23]; rfl⟩⟩
        | exact ⟨κ, rfl, Fc.r, Or.inl ⟨h8, rfl⟩⟩
    · skip
      refine Wp.n (pc' := 31) 2 rfl ?_
      refine Wp.retI (len := 1) rfl rfl ?_
      first
        | exact ⟨κ2, rfl, hF, Or.inr ⟨w, hw, rfl, hT, by rw [h23]; rfl⟩⟩
        | exact ⟨κ, rfl, Fc.r, Or.inl ⟨h8, rfl⟩⟩
  · skip
    refine Wp.n (pc' := 13) 1 rfl ?_
    refine Wp.retI (len := 1) rfl rfl ?_
    first
      | exact ⟨κ2, rfl, hF, Or.inr ⟨w, hw, rfl, hT, by rw [h23]; rfl⟩⟩
      | exact ⟨κ, rfl, Fc.r, Or.inl ⟨h8, rfl⟩⟩


theorem k_length (hD : HD M) (hk : RK M 36 K) (h11 : kh K 11 = 0) (x : Int32) : Wp (d + 12) md_103 0 [some (.ref 32), some (.int x), none] [] (cset M κ) (RCI M κ (lengthA K x)) := by
  obtain ⟨ρ, hR, hK, hDC, ok, hr1, hr2⟩ := id hk
  obtain ⟨b0, b1, b2, b3, b4, b5, b6, b7, b8, b9, b10, b11, b12⟩ := ok_h ok
  obtain ⟨ow, hDo⟩ := hD.1
  have hO : ∀ κ : CS, cset M κ 32 = .inr (9, hdl ow) := fun κ => (cset_o (by omega)).trans hDo
  have hRc : ∀ κ : CS, RA (cset M κ) 36 ρ := fun κ => RA_c hR hr1 hr2
  unfold lengthA
  refine Wp.n (pc' := 2) 2 rfl ?_
  refine Wp.callV (len := 3) rfl rfl rfl (hO _) rfl (by decide) rfl (k_refusal hD hk x) ?_
  rintro _ _ ⟨κ2, rfl, hF, ⟨hN, rfl⟩ | ⟨w, hw, rfl, hT, rfl⟩⟩
  · rw [if_neg (by rw [hN]; decide)]
    refine Wp.n (pc' := 7) 2 rfl ?_
    refine Wp.if1 (tgt := 20) (len := 3) rfl (fun h7 => ?_) (fun h7 => ?_)
    · skip
      refine Wp.n (pc' := 21) 1 rfl ?_
      refine Wp.retI (len := 1) rfl rfl ?_
      exact RCI_s (ScC_11 hF) rfl
    · exact absurd h7 (by decide)
  · have hN : isN (kh K 4) (nI w) = true := by rw [isN_nI (by omega)]; exact decide_eq_true hw
    rw [if_pos hN, nI_clamp (by omega)]
    cases hL : lawK K w
    · skip
      refine Wp.n (pc' := 7) 2 rfl ?_
      refine Wp.if1 (tgt := 20) (len := 3) rfl (fun h7 => ?_) (fun h7 => ?_)
      · skip
        refine Wp.n (pc' := 21) 1 rfl ?_
        refine Wp.retI (len := 1) rfl rfl ?_
        exact RCI_s (ScC_11 hF) rfl
      · exact absurd h7 (by decide)
    · skip
      refine Wp.n (pc' := 7) 2 rfl ?_
      refine Wp.if1 (tgt := 20) (len := 3) rfl (fun h7 => ?_) (fun h7 => ?_)
      · exact absurd rfl h7
      · skip
        refine Wp.n (pc' := 11) 1 rfl ?_
        refine Wp.get (len := 3) rfl (hO _) rfl ?_
        refine Wp.get (len := 3) rfl (rfl) rfl ?_
        refine Wp.n (pc' := 21) 1 rfl ?_
        refine Wp.retI (len := 1) rfl rfl ?_
        exact RCI_s (ScC_11 hF) (hT.1.2.1)

theorem k_saved (hD : HD M) (hk : RK M 36 K) (h11 : kh K 11 = 0) (x : Int32) : Wp (d + 12) md_105 0 [some (.ref 32), some (.int x), none] [] (cset M κ) (RCI M κ (savedA K x)) := by
  obtain ⟨ρ, hR, hK, hDC, ok, hr1, hr2⟩ := id hk
  obtain ⟨b0, b1, b2, b3, b4, b5, b6, b7, b8, b9, b10, b11, b12⟩ := ok_h ok
  obtain ⟨ow, hDo⟩ := hD.1
  have hO : ∀ κ : CS, cset M κ 32 = .inr (9, hdl ow) := fun κ => (cset_o (by omega)).trans hDo
  have hRc : ∀ κ : CS, RA (cset M κ) 36 ρ := fun κ => RA_c hR hr1 hr2
  unfold savedA
  refine Wp.n (pc' := 2) 2 rfl ?_
  refine Wp.callV (len := 3) rfl rfl rfl (hO _) rfl (by decide) rfl (k_refusal hD hk x) ?_
  rintro _ _ ⟨κ2, rfl, hF, ⟨hN, rfl⟩ | ⟨w, hw, rfl, hT, rfl⟩⟩
  · rw [if_neg (by rw [hN]; decide)]
    refine Wp.n (pc' := 7) 2 rfl ?_
    refine Wp.if1 (tgt := 20) (len := 3) rfl (fun h7 => ?_) (fun h7 => ?_)
    · skip
      refine Wp.n (pc' := 21) 1 rfl ?_
      refine Wp.retI (len := 1) rfl rfl ?_
      exact RCI_s (ScC_11 hF) rfl
    · exact absurd h7 (by decide)
  · have hN : isN (kh K 4) (nI w) = true := by rw [isN_nI (by omega)]; exact decide_eq_true hw
    rw [if_pos hN, nI_clamp (by omega)]
    cases hL : lawK K w
    · skip
      refine Wp.n (pc' := 7) 2 rfl ?_
      refine Wp.if1 (tgt := 20) (len := 3) rfl (fun h7 => ?_) (fun h7 => ?_)
      · skip
        refine Wp.n (pc' := 21) 1 rfl ?_
        refine Wp.retI (len := 1) rfl rfl ?_
        exact RCI_s (ScC_11 hF) rfl
      · exact absurd h7 (by decide)
    · skip
      refine Wp.n (pc' := 7) 2 rfl ?_
      refine Wp.if1 (tgt := 20) (len := 3) rfl (fun h7 => ?_) (fun h7 => ?_)
      · exact absurd rfl h7
      · skip
        refine Wp.n (pc' := 11) 1 rfl ?_
        refine Wp.get (len := 3) rfl (hO _) rfl ?_
        refine Wp.get (len := 3) rfl (rfl) rfl ?_
        refine Wp.n (pc' := 21) 1 rfl ?_
        refine Wp.retI (len := 1) rfl rfl ?_
        exact RCI_s (ScC_11 hF) (hT.2.2.1)

theorem k_duty (hD : HD M) (hk : RK M 36 K) (h11 : kh K 11 = 0) (x : Int32) : Wp (d + 12) md_106 0 [some (.ref 32), some (.int x), none] [] (cset M κ) (RCI M κ (dutyA K x)) := by
  obtain ⟨ρ, hR, hK, hDC, ok, hr1, hr2⟩ := id hk
  obtain ⟨b0, b1, b2, b3, b4, b5, b6, b7, b8, b9, b10, b11, b12⟩ := ok_h ok
  obtain ⟨ow, hDo⟩ := hD.1
  have hO : ∀ κ : CS, cset M κ 32 = .inr (9, hdl ow) := fun κ => (cset_o (by omega)).trans hDo
  have hRc : ∀ κ : CS, RA (cset M κ) 36 ρ := fun κ => RA_c hR hr1 hr2
  unfold dutyA
  refine Wp.n (pc' := 2) 2 rfl ?_
  refine Wp.callV (len := 3) rfl rfl rfl (hO _) rfl (by decide) rfl (k_refusal hD hk x) ?_
  rintro _ _ ⟨κ2, rfl, hF, ⟨hN, rfl⟩ | ⟨w, hw, rfl, hT, rfl⟩⟩
  · rw [if_neg (by rw [hN]; decide)]
    refine Wp.n (pc' := 7) 2 rfl ?_
    refine Wp.if1 (tgt := 20) (len := 3) rfl (fun h7 => ?_) (fun h7 => ?_)
    · skip
      refine Wp.n (pc' := 21) 1 rfl ?_
      refine Wp.retI (len := 1) rfl rfl ?_
      exact RCI_s (ScC_11 hF) rfl
    · exact absurd h7 (by decide)
  · have hN : isN (kh K 4) (nI w) = true := by rw [isN_nI (by omega)]; exact decide_eq_true hw
    rw [if_pos hN, nI_clamp (by omega)]
    cases hL : lawK K w
    · skip
      refine Wp.n (pc' := 7) 2 rfl ?_
      refine Wp.if1 (tgt := 20) (len := 3) rfl (fun h7 => ?_) (fun h7 => ?_)
      · skip
        refine Wp.n (pc' := 21) 1 rfl ?_
        refine Wp.retI (len := 1) rfl rfl ?_
        exact RCI_s (ScC_11 hF) rfl
      · exact absurd h7 (by decide)
    · skip
      refine Wp.n (pc' := 7) 2 rfl ?_
      refine Wp.if1 (tgt := 20) (len := 3) rfl (fun h7 => ?_) (fun h7 => ?_)
      · exact absurd rfl h7
      · skip
        refine Wp.n (pc' := 11) 1 rfl ?_
        refine Wp.get (len := 3) rfl (hO _) rfl ?_
        refine Wp.get (len := 3) rfl (rfl) rfl ?_
        refine Wp.n (pc' := 21) 1 rfl ?_
        refine Wp.retI (len := 1) rfl rfl ?_
        exact RCI_s (ScC_11 hF) (hT.2.2.2)

theorem k_lanes (hD : HD M) (hk : RK M 36 K) (h11 : kh K 11 = 0) (x : Int32) : Wp (d + 12) md_107 0 [some (.ref 32), some (.int x), none] [] (cset M κ) (RCI M κ (lanesA K x)) := by
  obtain ⟨ρ, hR, hK, hDC, ok, hr1, hr2⟩ := id hk
  obtain ⟨b0, b1, b2, b3, b4, b5, b6, b7, b8, b9, b10, b11, b12⟩ := ok_h ok
  obtain ⟨ow, hDo⟩ := hD.1
  have hO : ∀ κ : CS, cset M κ 32 = .inr (9, hdl ow) := fun κ => (cset_o (by omega)).trans hDo
  have hRc : ∀ κ : CS, RA (cset M κ) 36 ρ := fun κ => RA_c hR hr1 hr2
  unfold lanesA
  refine Wp.n (pc' := 2) 2 rfl ?_
  refine Wp.callV (len := 3) rfl rfl rfl (hO _) rfl (by decide) rfl (k_refusal hD hk x) ?_
  rintro _ _ ⟨κ2, rfl, hF, ⟨hN, rfl⟩ | ⟨w, hw, rfl, hT, rfl⟩⟩
  · rw [if_neg (by rw [hN]; decide)]
    refine Wp.n (pc' := 7) 2 rfl ?_
    refine Wp.if1 (tgt := 20) (len := 3) rfl (fun h7 => ?_) (fun h7 => ?_)
    · skip
      refine Wp.n (pc' := 21) 1 rfl ?_
      refine Wp.retI (len := 1) rfl rfl ?_
      exact RCI_s (ScC_11 hF) rfl
    · exact absurd h7 (by decide)
  · have hN : isN (kh K 4) (nI w) = true := by rw [isN_nI (by omega)]; exact decide_eq_true hw
    rw [if_pos hN, nI_clamp (by omega)]
    cases hL : lawK K w
    · skip
      refine Wp.n (pc' := 7) 2 rfl ?_
      refine Wp.if1 (tgt := 20) (len := 3) rfl (fun h7 => ?_) (fun h7 => ?_)
      · skip
        refine Wp.n (pc' := 21) 1 rfl ?_
        refine Wp.retI (len := 1) rfl rfl ?_
        exact RCI_s (ScC_11 hF) rfl
      · exact absurd h7 (by decide)
    · skip
      refine Wp.n (pc' := 7) 2 rfl ?_
      refine Wp.if1 (tgt := 20) (len := 3) rfl (fun h7 => ?_) (fun h7 => ?_)
      · exact absurd rfl h7
      · skip
        refine Wp.n (pc' := 11) 1 rfl ?_
        refine Wp.get (len := 3) rfl (hO _) rfl ?_
        refine Wp.get (len := 3) rfl (rfl) rfl ?_
        refine Wp.n (pc' := 21) 1 rfl ?_
        refine Wp.retI (len := 1) rfl rfl ?_
        exact RCI_s (ScC_11 hF) (hT.1.2.2.1.trans (by rw [bitsC_0 ok h11 (TRr_b ok hw).1.2.2]; rfl))

theorem k_steps (hD : HD M) (hk : RK M 36 K) (x : Int32) : Wp (d + 12) md_102 0 [some (.ref 32), some (.int x)] [] (cset M κ) (RCI M κ (stepsA K x)) := by
  obtain ⟨ρ, hR, hK, hDC, ok, hr1, hr2⟩ := id hk
  obtain ⟨b0, b1, b2, b3, b4, b5, b6, b7, b8, b9, b10, b11, b12⟩ := ok_h ok
  obtain ⟨ow, hDo⟩ := hD.1
  have hO : ∀ κ : CS, cset M κ 32 = .inr (9, hdl ow) := fun κ => (cset_o (by omega)).trans hDo
  have hRc : ∀ κ : CS, RA (cset M κ) 36 ρ := fun κ => RA_c hR hr1 hr2
  unfold stepsA
  refine Wp.n (pc' := 1) 1 rfl ?_
  refine Wp.get (len := 3) rfl (hO _) rfl ?_
  refine Wp.n (pc' := 5) 1 rfl ?_
  refine Wp.ecallV (len := 3) rfl rfl rfl (ra_obj (hRc _)) rfl (by decide) rfl (k_hasWalk (RK_c hk) _) ?_
  refine Wp.ifb1 (tgt := 14) (len := 3) rfl (fun h8 => ?_) (fun h8 => ?_)
  · skip
    obtain ⟨w, hw, rfl⟩ := isN_of h8
    rw [if_pos h8, nI_clamp (by omega)]
    refine Wp.n (pc' := 15) 1 rfl ?_
    refine Wp.get (len := 3) rfl (hO _) rfl ?_
    refine Wp.n (pc' := 19) 1 rfl ?_
    refine Wp.get (len := 3) rfl (hO _) rfl ?_
    refine Wp.n (pc' := 23) 1 rfl ?_
    refine Wp.callV (len := 3) rfl rfl rfl (rfl) rfl (by decide) rfl (t_follow hk hw) ?_
    rintro _ _ ⟨rfl, κ2, rfl, hF, hT⟩
    refine Wp.n (pc' := 27) 1 rfl ?_
    refine Wp.get (len := 3) rfl (hO _) rfl ?_
    refine Wp.get (len := 3) rfl (rfl) rfl ?_
    refine Wp.retI (len := 1) rfl rfl ?_
    first
      | exact RCI_s (ScC_11 hF) hT.1.1
      | (rw [if_neg (by rw [h8]; decide)]; exact RCI_r rfl)
  · skip
    refine Wp.n (pc' := 13) 1 rfl ?_
    refine Wp.retI (len := 1) rfl rfl ?_
    first
      | exact RCI_s (ScC_11 hF) hT.1.1
      | (rw [if_neg (by rw [h8]; decide)]; exact RCI_r rfl)

theorem k_unlawful_l (hD : HD M) (hk : RK M 36 K) : ∀ (n w : Nat) (κ2 : CS), w + n = kh K 4 → ScC κ κ2 → Wp (d + 12) md_100 15 [some (.ref 32), some (.int (nI w))] [] (cset M κ2) (RCI M κ (oI (fnd (fun w => !(lawK K w)) n w))) := by
  obtain ⟨ρ, hR, hK, hDC, ok, hr1, hr2⟩ := id hk
  obtain ⟨b0, b1, b2, b3, b4, b5, b6, b7, b8, b9, b10, b11, b12⟩ := ok_h ok
  obtain ⟨ow, hDo⟩ := hD.1
  have hO : ∀ κ : CS, cset M κ 32 = .inr (9, hdl ow) := fun κ => (cset_o (by omega)).trans hDo
  have hRc : ∀ κ : CS, RA (cset M κ) 36 ρ := fun κ => RA_c hR hr1 hr2
  intro n
  induction n with
  | zero =>
    intro w κ2 hw hS
    refine Wp.n (pc' := 17) 2 rfl ?_
    refine Wp.get (len := 3) rfl (hO _) rfl ?_
    refine Wp.get (len := 3) rfl (ra_obj (hRc _)) rfl ?_
    refine Wp.top (rc_wk hK) ?_
    refine Wp.nc3 (x := w) (y := kh K 4) (tgt := 46) (len := 3) rfl (by omega) (by omega) (fun h23 => ?_) (fun h23 => ?_)
    · skip
      refine Wp.n (pc' := 47) 1 rfl ?_
      refine Wp.retI (len := 1) rfl rfl ?_
      exact RCI_s hS rfl
    · omega
  | succ n ih =>
    intro w κ2 hw hS
    rw [show fnd (fun w => !(lawK K w)) (n + 1) w = if (!(lawK K w)) = true then some w else fnd (fun w => !(lawK K w)) n (w + 1) from rfl]
    refine Wp.n (pc' := 17) 2 rfl ?_
    refine Wp.get (len := 3) rfl (hO _) rfl ?_
    refine Wp.get (len := 3) rfl (ra_obj (hRc _)) rfl ?_
    refine Wp.top (rc_wk hK) ?_
    refine Wp.nc3 (x := w) (y := kh K 4) (tgt := 46) (len := 3) rfl (by omega) (by omega) (fun h23 => ?_) (fun h23 => ?_)
    · omega
    · skip
      refine Wp.n (pc' := 28) 2 rfl ?_
      refine Wp.get (len := 3) rfl (hO _) rfl ?_
      refine Wp.n (pc' := 32) 1 rfl ?_
      refine Wp.callV (len := 3) rfl rfl rfl (hO _) rfl (by decide) rfl (k_isLawful hD hk (by omega)) ?_
      rintro _ _ ⟨rfl, κ3, rfl, hF, hT⟩
      refine Wp.ifb1 (tgt := 40) (len := 3) rfl (fun h35 => ?_) (fun h35 => ?_)
      · skip
        refine Wp.incN (x := w) (len := 3) rfl rfl ?_
        refine Wp.n (pc' := 15) 1 rfl ?_
        rw [h35, if_neg (by decide)]
        exact ih (w + 1) κ3 (by omega) (ScC_t hS (ScC_11 hF))
      · skip
        refine Wp.n (pc' := 39) 1 rfl ?_
        refine Wp.retI (len := 1) rfl rfl ?_
        rw [h35, if_pos (by decide)]
        exact RCI_s (ScC_t hS (ScC_11 hF)) rfl

theorem k_unlawful (hD : HD M) (hk : RK M 36 K) : Wp (d + 12) md_100 0 [some (.ref 32), none] [] (cset M κ) (RCI M κ (unlawfulA K)) := by
  obtain ⟨ρ, hR, hK, hDC, ok, hr1, hr2⟩ := id hk
  obtain ⟨b0, b1, b2, b3, b4, b5, b6, b7, b8, b9, b10, b11, b12⟩ := ok_h ok
  obtain ⟨ow, hDo⟩ := hD.1
  have hO : ∀ κ : CS, cset M κ 32 = .inr (9, hdl ow) := fun κ => (cset_o (by omega)).trans hDo
  have hRc : ∀ κ : CS, RA (cset M κ) 36 ρ := fun κ => RA_c hR hr1 hr2
  unfold unlawfulA
  refine Wp.n (pc' := 1) 1 rfl ?_
  refine Wp.get (len := 3) rfl (hO _) rfl ?_
  refine Wp.ecallV (len := 3) rfl rfl rfl (ra_obj (hRc _)) rfl (by decide) rfl (k_exists (RK_c hk)) ?_
  refine Wp.ifb1 (tgt := 13) (len := 3) rfl (fun h7 => ?_) (fun h7 => ?_)
  · skip
    refine Wp.n (pc' := 15) 2 rfl ?_
    rw [if_pos (of_decide_eq_true h7)]
    exact k_unlawful_l hD hk (kh K 4) 0 κ (by omega) ScC_r
  · skip
    refine Wp.n (pc' := 12) 1 rfl ?_
    refine Wp.retI (len := 1) rfl rfl ?_
    rw [if_neg (of_decide_eq_false h7)]
    exact RCI_r rfl

theorem k_dutySum_l (hD : HD M) (hk : RK M r K) (h32 : 32 ≤ r) (who y : Int32) : ∀ (n w s : Nat) (κ2 : CS) (z6 z7 : Option Value), w + n = kh K 4 → ScC κ κ2 → Wp (d + 11) md_109 6 [some (.ref 32), some (.ref r), some (.int who), some (.int y), some (.int (nI s)), some (.int (nI w)), z6, z7] [] (cset M κ2) (RCI M κ (nI (fld (sumD K who y) n w s))) := by
  obtain ⟨ρ, hR, hK, hDC, ok, hr1, hr2⟩ := id hk
  obtain ⟨b0, b1, b2, b3, b4, b5, b6, b7, b8, b9, b10, b11, b12⟩ := ok_h ok
  obtain ⟨ow, hDo⟩ := hD.1
  have hO : ∀ κ : CS, cset M κ 32 = .inr (9, hdl ow) := fun κ => (cset_o (by omega)).trans hDo
  have hRc : ∀ κ : CS, RA (cset M κ) r ρ := fun κ => RA_c hR hr1 hr2
  intro n
  induction n with
  | zero =>
    intro w s κ2 z6 z7 hw hS
    refine Wp.n (pc' := 9) 2 rfl ?_
    refine Wp.get (len := 3) rfl (ra_obj (hRc _)) rfl ?_
    refine Wp.top (rc_wk hK) ?_
    refine Wp.nc3 (x := w) (y := kh K 4) (tgt := 92) (len := 3) rfl (by omega) (by omega) (fun h12 => ?_) (fun h12 => ?_)
    · skip
      refine Wp.n (pc' := 94) 1 rfl ?_
      refine Wp.retI (len := 1) rfl rfl ?_
      exact RCI_s hS rfl
    · omega
  | succ n ih =>
    intro w s κ2 z6 z7 hw hS
    have q := rc_walk hK (i := w) (by omega)
    have hwk : ∀ κ : CS, cset M κ (r + 26 + 2 * w) = .inr (7, wfs (rwk ρ w) (r + 27 + 2 * w)) := fun κ => ra_walk (hRc κ) (by omega)
    have kn : cntW K who y w = false → Wp (d + 11) md_109 6 [some (.ref 32), some (.ref r), some (.int who), some (.int y), some (.int (nI s)), some (.int (nI (w + 1))), z6, z7] [] (cset M κ2) (RCI M κ (nI (fld (sumD K who y) (n + 1) w s))) := by
      intro h
      show Wp _ _ _ _ _ _ (RCI M κ (nI (fld (sumD K who y) n (w + 1) (sumD K who y s w))))
      rw [show sumD K who y s w = s by unfold sumD; rw [h]; rfl]
      exact ih (w + 1) s κ2 _ _ (by omega) hS
    show Wp _ _ _ _ _ _ (RCI M κ (nI (fld (sumD K who y) n (w + 1) (sumD K who y s w))))
    refine Wp.n (pc' := 9) 2 rfl ?_
    refine Wp.get (len := 3) rfl (ra_obj (hRc _)) rfl ?_
    refine Wp.top (rc_wk hK) ?_
    refine Wp.nc3 (x := w) (y := kh K 4) (tgt := 92) (len := 3) rfl (by omega) (by omega) (fun h12 => ?_) (fun h12 => ?_)
    · omega
    · skip
      refine Wp.n (pc' := 16) 1 rfl ?_
      refine Wp.get (len := 3) rfl (ra_obj (hRc _)) rfl ?_
      refine Wp.n (pc' := 21) 1 rfl ?_
      refine Wp.aaldN (j := w) (len := 1) rfl (ra_walks (hRc _)) rfl (by omega) (by decide) (if_pos (by omega)) ?_
      refine Wp.n (pc' := 26) 3 rfl ?_
      refine Wp.ic0 (tgt := 38) (len := 3) rfl (fun h26 => ?_) (fun h26 => ?_)
      · skip
        refine Wp.n (pc' := 40) 2 rfl ?_
        refine Wp.ic0 (tgt := 52) (len := 3) rfl (fun h40 => ?_) (fun h40 => ?_)
        · skip
          refine Wp.n (pc' := 61) 4 rfl ?_
          refine Wp.nz0 (x := 1) (tgt := 86) (len := 3) rfl (by omega) (fun h61 => ?_) (fun h61 => ?_)
          · omega
          · skip
            refine Wp.n (pc' := 68) 3 rfl ?_
            refine Wp.callV (len := 3) rfl rfl rfl (hO _) rfl (by decide) rfl (k_isLawful hD hk (by omega)) ?_
            rintro _ _ ⟨rfl, κ3, rfl, hF, hT⟩
            refine Wp.ifb0 (tgt := 86) (len := 3) rfl (fun h71 => ?_) (fun h71 => ?_)
            · skip
              refine Wp.incN (x := w) (len := 3) rfl rfl ?_
              refine Wp.n (pc' := 6) 1 rfl ?_
              have ew : ∀ b, cntW K who y w = b → sumD K who y s w = bif b then s + dutW K w else s := fun b hb => by unfold sumD; rw [hb]
              have cn0 : ∀ a b c, (decide (who = -1) || decide (nI (kw K w 0) = who)) = a → (decide (y = -1) || decide (nI (kw K w 2) = y)) = b → lawK K w = c → cntW K who y w = (a && b && c) := fun a b c h1 h2 h3 => by unfold cntW; rw [h1, h2, h3]
              first
                | (have a1 : (decide (who = -1) || decide (nI (kw K w 0) = who)) = true := by first | (rw [decide_eq_true h26]; rfl) | (rw [decide_eq_true h35, Bool.or_true])
                   have a2 : (decide (y = -1) || decide (nI (kw K w 2) = y)) = true := by first | (rw [decide_eq_true h40]; rfl) | (rw [decide_eq_true h49, Bool.or_true])
                   have a3 := cn0 true true _ a1 a2 h71
                   rw [ew _ a3]
                   exact ih (w + 1) _ κ3 _ _ (by omega) (ScC_t hS (ScC_11 hF)))
                | (have a1 : (decide (who = -1) || decide (nI (kw K w 0) = who)) = false := by rw [decide_eq_false h26, decide_eq_false h35]; rfl
                   have a3 := cn0 false _ _ a1 rfl rfl
                   rw [ew false (a3.trans rfl)]
                   exact ih (w + 1) _ κ2 _ _ (by omega) hS)
                | (have a2 : (decide (y = -1) || decide (nI (kw K w 2) = y)) = false := by rw [decide_eq_false h40, decide_eq_false h49]; rfl
                   have a3 := cn0 _ false _ rfl a2 rfl
                   rw [ew false (a3.trans (by rw [Bool.and_false, Bool.false_and]))]
                   exact ih (w + 1) _ κ2 _ _ (by omega) hS)
            · skip
              refine Wp.n (pc' := 77) 2 rfl ?_
              refine Wp.get (len := 3) rfl (hO _) rfl ?_
              refine Wp.get (len := 3) rfl (rfl) rfl ?_
              refine Wp.top hT.2.2.2 ?_
              refine Wp.iaddN (x := s) (y := dutW K w) (len := 1) rfl ?_
              refine Wp.n (pc' := 86) 1 rfl ?_
              refine Wp.incN (x := w) (len := 3) rfl rfl ?_
              refine Wp.n (pc' := 6) 1 rfl ?_
              have ew : ∀ b, cntW K who y w = b → sumD K who y s w = bif b then s + dutW K w else s := fun b hb => by unfold sumD; rw [hb]
              have cn0 : ∀ a b c, (decide (who = -1) || decide (nI (kw K w 0) = who)) = a → (decide (y = -1) || decide (nI (kw K w 2) = y)) = b → lawK K w = c → cntW K who y w = (a && b && c) := fun a b c h1 h2 h3 => by unfold cntW; rw [h1, h2, h3]
              first
                | (have a1 : (decide (who = -1) || decide (nI (kw K w 0) = who)) = true := by first | (rw [decide_eq_true h26]; rfl) | (rw [decide_eq_true h35, Bool.or_true])
                   have a2 : (decide (y = -1) || decide (nI (kw K w 2) = y)) = true := by first | (rw [decide_eq_true h40]; rfl) | (rw [decide_eq_true h49, Bool.or_true])
                   have a3 := cn0 true true _ a1 a2 h71
                   rw [ew _ a3]
                   exact ih (w + 1) _ κ3 _ _ (by omega) (ScC_t hS (ScC_11 hF)))
                | (have a1 : (decide (who = -1) || decide (nI (kw K w 0) = who)) = false := by rw [decide_eq_false h26, decide_eq_false h35]; rfl
                   have a3 := cn0 false _ _ a1 rfl rfl
                   rw [ew false (a3.trans rfl)]
                   exact ih (w + 1) _ κ2 _ _ (by omega) hS)
                | (have a2 : (decide (y = -1) || decide (nI (kw K w 2) = y)) = false := by rw [decide_eq_false h40, decide_eq_false h49]; rfl
                   have a3 := cn0 _ false _ rfl a2 rfl
                   rw [ew false (a3.trans (by rw [Bool.and_false, Bool.false_and]))]
                   exact ih (w + 1) _ κ2 _ _ (by omega) hS)
        · skip
          refine Wp.n (pc' := 45) 1 rfl ?_
          refine Wp.get (len := 3) rfl (hwk _) rfl ?_
          refine Wp.top q.2.2.1 ?_
          refine Wp.n (pc' := 49) 1 rfl ?_
          refine Wp.ic1 (tgt := 56) (len := 3) rfl (fun h49 => ?_) (fun h49 => ?_)
          · skip
            refine Wp.n (pc' := 61) 3 rfl ?_
            refine Wp.nz0 (x := 0) (tgt := 86) (len := 3) rfl (by omega) (fun h61 => ?_) (fun h61 => ?_)
            · skip
              refine Wp.incN (x := w) (len := 3) rfl rfl ?_
              refine Wp.n (pc' := 6) 1 rfl ?_
              have ew : ∀ b, cntW K who y w = b → sumD K who y s w = bif b then s + dutW K w else s := fun b hb => by unfold sumD; rw [hb]
              have cn0 : ∀ a b c, (decide (who = -1) || decide (nI (kw K w 0) = who)) = a → (decide (y = -1) || decide (nI (kw K w 2) = y)) = b → lawK K w = c → cntW K who y w = (a && b && c) := fun a b c h1 h2 h3 => by unfold cntW; rw [h1, h2, h3]
              first
                | (have a1 : (decide (who = -1) || decide (nI (kw K w 0) = who)) = true := by first | (rw [decide_eq_true h26]; rfl) | (rw [decide_eq_true h35, Bool.or_true])
                   have a2 : (decide (y = -1) || decide (nI (kw K w 2) = y)) = true := by first | (rw [decide_eq_true h40]; rfl) | (rw [decide_eq_true h49, Bool.or_true])
                   have a3 := cn0 true true _ a1 a2 h71
                   rw [ew _ a3]
                   exact ih (w + 1) _ κ3 _ _ (by omega) (ScC_t hS (ScC_11 hF)))
                | (have a1 : (decide (who = -1) || decide (nI (kw K w 0) = who)) = false := by rw [decide_eq_false h26, decide_eq_false h35]; rfl
                   have a3 := cn0 false _ _ a1 rfl rfl
                   rw [ew false (a3.trans rfl)]
                   exact ih (w + 1) _ κ2 _ _ (by omega) hS)
                | (have a2 : (decide (y = -1) || decide (nI (kw K w 2) = y)) = false := by rw [decide_eq_false h40, decide_eq_false h49]; rfl
                   have a3 := cn0 _ false _ rfl a2 rfl
                   rw [ew false (a3.trans (by rw [Bool.and_false, Bool.false_and]))]
                   exact ih (w + 1) _ κ2 _ _ (by omega) hS)
            · omega
          · skip
            refine Wp.n (pc' := 61) 4 rfl ?_
            refine Wp.nz0 (x := 1) (tgt := 86) (len := 3) rfl (by omega) (fun h61 => ?_) (fun h61 => ?_)
            · omega
            · skip
              refine Wp.n (pc' := 68) 3 rfl ?_
              refine Wp.callV (len := 3) rfl rfl rfl (hO _) rfl (by decide) rfl (k_isLawful hD hk (by omega)) ?_
              rintro _ _ ⟨rfl, κ3, rfl, hF, hT⟩
              refine Wp.ifb0 (tgt := 86) (len := 3) rfl (fun h71 => ?_) (fun h71 => ?_)
              · skip
                refine Wp.incN (x := w) (len := 3) rfl rfl ?_
                refine Wp.n (pc' := 6) 1 rfl ?_
                have ew : ∀ b, cntW K who y w = b → sumD K who y s w = bif b then s + dutW K w else s := fun b hb => by unfold sumD; rw [hb]
                have cn0 : ∀ a b c, (decide (who = -1) || decide (nI (kw K w 0) = who)) = a → (decide (y = -1) || decide (nI (kw K w 2) = y)) = b → lawK K w = c → cntW K who y w = (a && b && c) := fun a b c h1 h2 h3 => by unfold cntW; rw [h1, h2, h3]
                first
                  | (have a1 : (decide (who = -1) || decide (nI (kw K w 0) = who)) = true := by first | (rw [decide_eq_true h26]; rfl) | (rw [decide_eq_true h35, Bool.or_true])
                     have a2 : (decide (y = -1) || decide (nI (kw K w 2) = y)) = true := by first | (rw [decide_eq_true h40]; rfl) | (rw [decide_eq_true h49, Bool.or_true])
                     have a3 := cn0 true true _ a1 a2 h71
                     rw [ew _ a3]
                     exact ih (w + 1) _ κ3 _ _ (by omega) (ScC_t hS (ScC_11 hF)))
                  | (have a1 : (decide (who = -1) || decide (nI (kw K w 0) = who)) = false := by rw [decide_eq_false h26, decide_eq_false h35]; rfl
                     have a3 := cn0 false _ _ a1 rfl rfl
                     rw [ew false (a3.trans rfl)]
                     exact ih (w + 1) _ κ2 _ _ (by omega) hS)
                  | (have a2 : (decide (y = -1) || decide (nI (kw K w 2) = y)) = false := by rw [decide_eq_false h40, decide_eq_false h49]; rfl
                     have a3 := cn0 _ false _ rfl a2 rfl
                     rw [ew false (a3.trans (by rw [Bool.and_false, Bool.false_and]))]
                     exact ih (w + 1) _ κ2 _ _ (by omega) hS)
              · skip
                refine Wp.n (pc' := 77) 2 rfl ?_
                refine Wp.get (len := 3) rfl (hO _) rfl ?_
                refine Wp.get (len := 3) rfl (rfl) rfl ?_
                refine Wp.top hT.2.2.2 ?_
                refine Wp.iaddN (x := s) (y := dutW K w) (len := 1) rfl ?_
                refine Wp.n (pc' := 86) 1 rfl ?_
                refine Wp.incN (x := w) (len := 3) rfl rfl ?_
                refine Wp.n (pc' := 6) 1 rfl ?_
                have ew : ∀ b, cntW K who y w = b → sumD K who y s w = bif b then s + dutW K w else s := fun b hb => by unfold sumD; rw [hb]
                have cn0 : ∀ a b c, (decide (who = -1) || decide (nI (kw K w 0) = who)) = a → (decide (y = -1) || decide (nI (kw K w 2) = y)) = b → lawK K w = c → cntW K who y w = (a && b && c) := fun a b c h1 h2 h3 => by unfold cntW; rw [h1, h2, h3]
                first
                  | (have a1 : (decide (who = -1) || decide (nI (kw K w 0) = who)) = true := by first | (rw [decide_eq_true h26]; rfl) | (rw [decide_eq_true h35, Bool.or_true])
                     have a2 : (decide (y = -1) || decide (nI (kw K w 2) = y)) = true := by first | (rw [decide_eq_true h40]; rfl) | (rw [decide_eq_true h49, Bool.or_true])
                     have a3 := cn0 true true _ a1 a2 h71
                     rw [ew _ a3]
                     exact ih (w + 1) _ κ3 _ _ (by omega) (ScC_t hS (ScC_11 hF)))
                  | (have a1 : (decide (who = -1) || decide (nI (kw K w 0) = who)) = false := by rw [decide_eq_false h26, decide_eq_false h35]; rfl
                     have a3 := cn0 false _ _ a1 rfl rfl
                     rw [ew false (a3.trans rfl)]
                     exact ih (w + 1) _ κ2 _ _ (by omega) hS)
                  | (have a2 : (decide (y = -1) || decide (nI (kw K w 2) = y)) = false := by rw [decide_eq_false h40, decide_eq_false h49]; rfl
                     have a3 := cn0 _ false _ rfl a2 rfl
                     rw [ew false (a3.trans (by rw [Bool.and_false, Bool.false_and]))]
                     exact ih (w + 1) _ κ2 _ _ (by omega) hS)
      · skip
        refine Wp.n (pc' := 31) 1 rfl ?_
        refine Wp.get (len := 3) rfl (hwk _) rfl ?_
        refine Wp.top q.1 ?_
        refine Wp.n (pc' := 35) 1 rfl ?_
        refine Wp.ic1 (tgt := 56) (len := 3) rfl (fun h35 => ?_) (fun h35 => ?_)
        · skip
          refine Wp.n (pc' := 61) 3 rfl ?_
          refine Wp.nz0 (x := 0) (tgt := 86) (len := 3) rfl (by omega) (fun h61 => ?_) (fun h61 => ?_)
          · skip
            refine Wp.incN (x := w) (len := 3) rfl rfl ?_
            refine Wp.n (pc' := 6) 1 rfl ?_
            have ew : ∀ b, cntW K who y w = b → sumD K who y s w = bif b then s + dutW K w else s := fun b hb => by unfold sumD; rw [hb]
            have cn0 : ∀ a b c, (decide (who = -1) || decide (nI (kw K w 0) = who)) = a → (decide (y = -1) || decide (nI (kw K w 2) = y)) = b → lawK K w = c → cntW K who y w = (a && b && c) := fun a b c h1 h2 h3 => by unfold cntW; rw [h1, h2, h3]
            first
              | (have a1 : (decide (who = -1) || decide (nI (kw K w 0) = who)) = true := by first | (rw [decide_eq_true h26]; rfl) | (rw [decide_eq_true h35, Bool.or_true])
                 have a2 : (decide (y = -1) || decide (nI (kw K w 2) = y)) = true := by first | (rw [decide_eq_true h40]; rfl) | (rw [decide_eq_true h49, Bool.or_true])
                 have a3 := cn0 true true _ a1 a2 h71
                 rw [ew _ a3]
                 exact ih (w + 1) _ κ3 _ _ (by omega) (ScC_t hS (ScC_11 hF)))
              | (have a1 : (decide (who = -1) || decide (nI (kw K w 0) = who)) = false := by rw [decide_eq_false h26, decide_eq_false h35]; rfl
                 have a3 := cn0 false _ _ a1 rfl rfl
                 rw [ew false (a3.trans rfl)]
                 exact ih (w + 1) _ κ2 _ _ (by omega) hS)
              | (have a2 : (decide (y = -1) || decide (nI (kw K w 2) = y)) = false := by rw [decide_eq_false h40, decide_eq_false h49]; rfl
                 have a3 := cn0 _ false _ rfl a2 rfl
                 rw [ew false (a3.trans (by rw [Bool.and_false, Bool.false_and]))]
                 exact ih (w + 1) _ κ2 _ _ (by omega) hS)
          · omega
        · skip
          refine Wp.n (pc' := 40) 2 rfl ?_
          refine Wp.ic0 (tgt := 52) (len := 3) rfl (fun h40 => ?_) (fun h40 => ?_)
          · skip
            refine Wp.n (pc' := 61) 4 rfl ?_
            refine Wp.nz0 (x := 1) (tgt := 86) (len := 3) rfl (by omega) (fun h61 => ?_) (fun h61 => ?_)
            · omega
            · skip
              refine Wp.n (pc' := 68) 3 rfl ?_
              refine Wp.callV (len := 3) rfl rfl rfl (hO _) rfl (by decide) rfl (k_isLawful hD hk (by omega)) ?_
              rintro _ _ ⟨rfl, κ3, rfl, hF, hT⟩
              refine Wp.ifb0 (tgt := 86) (len := 3) rfl (fun h71 => ?_) (fun h71 => ?_)
              · skip
                refine Wp.incN (x := w) (len := 3) rfl rfl ?_
                refine Wp.n (pc' := 6) 1 rfl ?_
                have ew : ∀ b, cntW K who y w = b → sumD K who y s w = bif b then s + dutW K w else s := fun b hb => by unfold sumD; rw [hb]
                have cn0 : ∀ a b c, (decide (who = -1) || decide (nI (kw K w 0) = who)) = a → (decide (y = -1) || decide (nI (kw K w 2) = y)) = b → lawK K w = c → cntW K who y w = (a && b && c) := fun a b c h1 h2 h3 => by unfold cntW; rw [h1, h2, h3]
                first
                  | (have a1 : (decide (who = -1) || decide (nI (kw K w 0) = who)) = true := by first | (rw [decide_eq_true h26]; rfl) | (rw [decide_eq_true h35, Bool.or_true])
                     have a2 : (decide (y = -1) || decide (nI (kw K w 2) = y)) = true := by first | (rw [decide_eq_true h40]; rfl) | (rw [decide_eq_true h49, Bool.or_true])
                     have a3 := cn0 true true _ a1 a2 h71
                     rw [ew _ a3]
                     exact ih (w + 1) _ κ3 _ _ (by omega) (ScC_t hS (ScC_11 hF)))
                  | (have a1 : (decide (who = -1) || decide (nI (kw K w 0) = who)) = false := by rw [decide_eq_false h26, decide_eq_false h35]; rfl
                     have a3 := cn0 false _ _ a1 rfl rfl
                     rw [ew false (a3.trans rfl)]
                     exact ih (w + 1) _ κ2 _ _ (by omega) hS)
                  | (have a2 : (decide (y = -1) || decide (nI (kw K w 2) = y)) = false := by rw [decide_eq_false h40, decide_eq_false h49]; rfl
                     have a3 := cn0 _ false _ rfl a2 rfl
                     rw [ew false (a3.trans (by rw [Bool.and_false, Bool.false_and]))]
                     exact ih (w + 1) _ κ2 _ _ (by omega) hS)
              · skip
                refine Wp.n (pc' := 77) 2 rfl ?_
                refine Wp.get (len := 3) rfl (hO _) rfl ?_
                refine Wp.get (len := 3) rfl (rfl) rfl ?_
                refine Wp.top hT.2.2.2 ?_
                refine Wp.iaddN (x := s) (y := dutW K w) (len := 1) rfl ?_
                refine Wp.n (pc' := 86) 1 rfl ?_
                refine Wp.incN (x := w) (len := 3) rfl rfl ?_
                refine Wp.n (pc' := 6) 1 rfl ?_
                have ew : ∀ b, cntW K who y w = b → sumD K who y s w = bif b then s + dutW K w else s := fun b hb => by unfold sumD; rw [hb]
                have cn0 : ∀ a b c, (decide (who = -1) || decide (nI (kw K w 0) = who)) = a → (decide (y = -1) || decide (nI (kw K w 2) = y)) = b → lawK K w = c → cntW K who y w = (a && b && c) := fun a b c h1 h2 h3 => by unfold cntW; rw [h1, h2, h3]
                first
                  | (have a1 : (decide (who = -1) || decide (nI (kw K w 0) = who)) = true := by first | (rw [decide_eq_true h26]; rfl) | (rw [decide_eq_true h35, Bool.or_true])
                     have a2 : (decide (y = -1) || decide (nI (kw K w 2) = y)) = true := by first | (rw [decide_eq_true h40]; rfl) | (rw [decide_eq_true h49, Bool.or_true])
                     have a3 := cn0 true true _ a1 a2 h71
                     rw [ew _ a3]
                     exact ih (w + 1) _ κ3 _ _ (by omega) (ScC_t hS (ScC_11 hF)))
                  | (have a1 : (decide (who = -1) || decide (nI (kw K w 0) = who)) = false := by rw [decide_eq_false h26, decide_eq_false h35]; rfl
                     have a3 := cn0 false _ _ a1 rfl rfl
                     rw [ew false (a3.trans rfl)]
                     exact ih (w + 1) _ κ2 _ _ (by omega) hS)
                  | (have a2 : (decide (y = -1) || decide (nI (kw K w 2) = y)) = false := by rw [decide_eq_false h40, decide_eq_false h49]; rfl
                     have a3 := cn0 _ false _ rfl a2 rfl
                     rw [ew false (a3.trans (by rw [Bool.and_false, Bool.false_and]))]
                     exact ih (w + 1) _ κ2 _ _ (by omega) hS)
          · skip
            refine Wp.n (pc' := 45) 1 rfl ?_
            refine Wp.get (len := 3) rfl (hwk _) rfl ?_
            refine Wp.top q.2.2.1 ?_
            refine Wp.n (pc' := 49) 1 rfl ?_
            refine Wp.ic1 (tgt := 56) (len := 3) rfl (fun h49 => ?_) (fun h49 => ?_)
            · skip
              refine Wp.n (pc' := 61) 3 rfl ?_
              refine Wp.nz0 (x := 0) (tgt := 86) (len := 3) rfl (by omega) (fun h61 => ?_) (fun h61 => ?_)
              · skip
                refine Wp.incN (x := w) (len := 3) rfl rfl ?_
                refine Wp.n (pc' := 6) 1 rfl ?_
                have ew : ∀ b, cntW K who y w = b → sumD K who y s w = bif b then s + dutW K w else s := fun b hb => by unfold sumD; rw [hb]
                have cn0 : ∀ a b c, (decide (who = -1) || decide (nI (kw K w 0) = who)) = a → (decide (y = -1) || decide (nI (kw K w 2) = y)) = b → lawK K w = c → cntW K who y w = (a && b && c) := fun a b c h1 h2 h3 => by unfold cntW; rw [h1, h2, h3]
                first
                  | (have a1 : (decide (who = -1) || decide (nI (kw K w 0) = who)) = true := by first | (rw [decide_eq_true h26]; rfl) | (rw [decide_eq_true h35, Bool.or_true])
                     have a2 : (decide (y = -1) || decide (nI (kw K w 2) = y)) = true := by first | (rw [decide_eq_true h40]; rfl) | (rw [decide_eq_true h49, Bool.or_true])
                     have a3 := cn0 true true _ a1 a2 h71
                     rw [ew _ a3]
                     exact ih (w + 1) _ κ3 _ _ (by omega) (ScC_t hS (ScC_11 hF)))
                  | (have a1 : (decide (who = -1) || decide (nI (kw K w 0) = who)) = false := by rw [decide_eq_false h26, decide_eq_false h35]; rfl
                     have a3 := cn0 false _ _ a1 rfl rfl
                     rw [ew false (a3.trans rfl)]
                     exact ih (w + 1) _ κ2 _ _ (by omega) hS)
                  | (have a2 : (decide (y = -1) || decide (nI (kw K w 2) = y)) = false := by rw [decide_eq_false h40, decide_eq_false h49]; rfl
                     have a3 := cn0 _ false _ rfl a2 rfl
                     rw [ew false (a3.trans (by rw [Bool.and_false, Bool.false_and]))]
                     exact ih (w + 1) _ κ2 _ _ (by omega) hS)
              · omega
            · skip
              refine Wp.n (pc' := 61) 4 rfl ?_
              refine Wp.nz0 (x := 1) (tgt := 86) (len := 3) rfl (by omega) (fun h61 => ?_) (fun h61 => ?_)
              · omega
              · skip
                refine Wp.n (pc' := 68) 3 rfl ?_
                refine Wp.callV (len := 3) rfl rfl rfl (hO _) rfl (by decide) rfl (k_isLawful hD hk (by omega)) ?_
                rintro _ _ ⟨rfl, κ3, rfl, hF, hT⟩
                refine Wp.ifb0 (tgt := 86) (len := 3) rfl (fun h71 => ?_) (fun h71 => ?_)
                · skip
                  refine Wp.incN (x := w) (len := 3) rfl rfl ?_
                  refine Wp.n (pc' := 6) 1 rfl ?_
                  have ew : ∀ b, cntW K who y w = b → sumD K who y s w = bif b then s + dutW K w else s := fun b hb => by unfold sumD; rw [hb]
                  have cn0 : ∀ a b c, (decide (who = -1) || decide (nI (kw K w 0) = who)) = a → (decide (y = -1) || decide (nI (kw K w 2) = y)) = b → lawK K w = c → cntW K who y w = (a && b && c) := fun a b c h1 h2 h3 => by unfold cntW; rw [h1, h2, h3]
                  first
                    | (have a1 : (decide (who = -1) || decide (nI (kw K w 0) = who)) = true := by first | (rw [decide_eq_true h26]; rfl) | (rw [decide_eq_true h35, Bool.or_true])
                       have a2 : (decide (y = -1) || decide (nI (kw K w 2) = y)) = true := by first | (rw [decide_eq_true h40]; rfl) | (rw [decide_eq_true h49, Bool.or_true])
                       have a3 := cn0 true true _ a1 a2 h71
                       rw [ew _ a3]
                       exact ih (w + 1) _ κ3 _ _ (by omega) (ScC_t hS (ScC_11 hF)))
                    | (have a1 : (decide (who = -1) || decide (nI (kw K w 0) = who)) = false := by rw [decide_eq_false h26, decide_eq_false h35]; rfl
                       have a3 := cn0 false _ _ a1 rfl rfl
                       rw [ew false (a3.trans rfl)]
                       exact ih (w + 1) _ κ2 _ _ (by omega) hS)
                    | (have a2 : (decide (y = -1) || decide (nI (kw K w 2) = y)) = false := by rw [decide_eq_false h40, decide_eq_false h49]; rfl
                       have a3 := cn0 _ false _ rfl a2 rfl
                       rw [ew false (a3.trans (by rw [Bool.and_false, Bool.false_and]))]
                       exact ih (w + 1) _ κ2 _ _ (by omega) hS)
                · skip
                  refine Wp.n (pc' := 77) 2 rfl ?_
                  refine Wp.get (len := 3) rfl (hO _) rfl ?_
                  refine Wp.get (len := 3) rfl (rfl) rfl ?_
                  refine Wp.top hT.2.2.2 ?_
                  refine Wp.iaddN (x := s) (y := dutW K w) (len := 1) rfl ?_
                  refine Wp.n (pc' := 86) 1 rfl ?_
                  refine Wp.incN (x := w) (len := 3) rfl rfl ?_
                  refine Wp.n (pc' := 6) 1 rfl ?_
                  have ew : ∀ b, cntW K who y w = b → sumD K who y s w = bif b then s + dutW K w else s := fun b hb => by unfold sumD; rw [hb]
                  have cn0 : ∀ a b c, (decide (who = -1) || decide (nI (kw K w 0) = who)) = a → (decide (y = -1) || decide (nI (kw K w 2) = y)) = b → lawK K w = c → cntW K who y w = (a && b && c) := fun a b c h1 h2 h3 => by unfold cntW; rw [h1, h2, h3]
                  first
                    | (have a1 : (decide (who = -1) || decide (nI (kw K w 0) = who)) = true := by first | (rw [decide_eq_true h26]; rfl) | (rw [decide_eq_true h35, Bool.or_true])
                       have a2 : (decide (y = -1) || decide (nI (kw K w 2) = y)) = true := by first | (rw [decide_eq_true h40]; rfl) | (rw [decide_eq_true h49, Bool.or_true])
                       have a3 := cn0 true true _ a1 a2 h71
                       rw [ew _ a3]
                       exact ih (w + 1) _ κ3 _ _ (by omega) (ScC_t hS (ScC_11 hF)))
                    | (have a1 : (decide (who = -1) || decide (nI (kw K w 0) = who)) = false := by rw [decide_eq_false h26, decide_eq_false h35]; rfl
                       have a3 := cn0 false _ _ a1 rfl rfl
                       rw [ew false (a3.trans rfl)]
                       exact ih (w + 1) _ κ2 _ _ (by omega) hS)
                    | (have a2 : (decide (y = -1) || decide (nI (kw K w 2) = y)) = false := by rw [decide_eq_false h40, decide_eq_false h49]; rfl
                       have a3 := cn0 _ false _ rfl a2 rfl
                       rw [ew false (a3.trans (by rw [Bool.and_false, Bool.false_and]))]
                       exact ih (w + 1) _ κ2 _ _ (by omega) hS)

theorem k_dutySum (hD : HD M) (hk : RK M r K) (h32 : 32 ≤ r) (who y : Int32) : Wp (d + 11) md_109 0 [some (.ref 32), some (.ref r), some (.int who), some (.int y), none, none, none, none] [] (cset M κ) (RCI M κ (nI (fld (sumD K who y) (kh K 4) 0 0))) := by
  refine Wp.n (pc' := 6) 4 rfl ?_
  exact k_dutySum_l hD hk h32 who y (kh K 4) 0 0 κ _ _ (by omega) ScC_r
theorem k_owes (hD : HD M) (hk : RK M 36 K) (x : Int32) : Wp (d + 12) md_108 0 [some (.ref 32), some (.int x)] [] (cset M κ) (RCI M κ (owesA K x)) := by
  obtain ⟨ρ, hR, hK, hDC, ok, hr1, hr2⟩ := id hk
  obtain ⟨b0, b1, b2, b3, b4, b5, b6, b7, b8, b9, b10, b11, b12⟩ := ok_h ok
  obtain ⟨ow, hDo⟩ := hD.1
  have hO : ∀ κ : CS, cset M κ 32 = .inr (9, hdl ow) := fun κ => (cset_o (by omega)).trans hDo
  have hRc : ∀ κ : CS, RA (cset M κ) 36 ρ := fun κ => RA_c hR hr1 hr2
  unfold owesA
  refine Wp.n (pc' := 1) 1 rfl ?_
  refine Wp.get (len := 3) rfl (hO _) rfl ?_
  refine Wp.ecallV (len := 3) rfl rfl rfl (ra_obj (hRc _)) rfl (by decide) rfl (k_exists (RK_c hk)) ?_
  refine Wp.ifb0 (tgt := 19) (len := 3) rfl (fun h7 => ?_) (fun h7 => ?_)
  · skip
    refine Wp.n (pc' := 21) 1 rfl ?_
    refine Wp.retI (len := 1) rfl rfl ?_
    first
      | exact RCI_s hS rfl
      | (rw [if_neg (fun q => of_decide_eq_false h7 q.1)]; exact RCI_r rfl)
      | (rw [if_neg (fun q => by have := of_decide_eq_true q.2; have e1 : x.toInt < 0 := h11; omega)]; exact RCI_r rfl)
      | (rw [if_neg (fun q => by have := of_decide_eq_true q.2; have e1 : ¬ x.toInt ≤ 4 := h16; omega)]; exact RCI_r rfl)
  · skip
    refine Wp.n (pc' := 11) 1 rfl ?_
    refine Wp.if2 (tgt := 19) (len := 3) rfl (fun h11 => ?_) (fun h11 => ?_)
    · rw [i_lt] at h11
      refine Wp.n (pc' := 21) 1 rfl ?_
      refine Wp.retI (len := 1) rfl rfl ?_
      first
        | exact RCI_s hS rfl
        | (rw [if_neg (fun q => of_decide_eq_false h7 q.1)]; exact RCI_r rfl)
        | (rw [if_neg (fun q => by have := of_decide_eq_true q.2; have e1 : x.toInt < 0 := h11; omega)]; exact RCI_r rfl)
        | (rw [if_neg (fun q => by have := of_decide_eq_true q.2; have e1 : ¬ x.toInt ≤ 4 := h16; omega)]; exact RCI_r rfl)
    · rw [i_lt] at h11
      refine Wp.n (pc' := 16) 2 rfl ?_
      refine Wp.ic5 (tgt := 22) (len := 3) rfl (fun h16 => ?_) (fun h16 => ?_)
      · rw [i_le] at h16
        have hN : isN 5 x = true := decide_eq_true (by
          have e1 : ¬ x.toInt < 0 := h11
          have e2 : x.toInt ≤ 4 := h16
          omega)
        rw [if_pos ⟨of_decide_eq_true h7, hN⟩]
        refine Wp.n (pc' := 24) 2 rfl ?_
        refine Wp.get (len := 3) rfl (hO _) rfl ?_
        refine Wp.n (pc' := 29) 2 rfl ?_
        refine Wp.callV (len := 3) rfl rfl rfl (hO _) rfl (by decide) rfl (k_dutySum hD hk (by decide) x (-1)) ?_
        rintro _ _ ⟨rfl, κ2, rfl, hS⟩
        refine Wp.retI (len := 1) rfl rfl ?_
        first
          | exact RCI_s hS rfl
          | (rw [if_neg (fun q => of_decide_eq_false h7 q.1)]; exact RCI_r rfl)
          | (rw [if_neg (fun q => by have := of_decide_eq_true q.2; have e1 : x.toInt < 0 := h11; omega)]; exact RCI_r rfl)
          | (rw [if_neg (fun q => by have := of_decide_eq_true q.2; have e1 : ¬ x.toInt ≤ 4 := h16; omega)]; exact RCI_r rfl)
      · rw [i_le] at h16
        refine Wp.n (pc' := 21) 1 rfl ?_
        refine Wp.retI (len := 1) rfl rfl ?_
        first
          | exact RCI_s hS rfl
          | (rw [if_neg (fun q => of_decide_eq_false h7 q.1)]; exact RCI_r rfl)
          | (rw [if_neg (fun q => by have := of_decide_eq_true q.2; have e1 : x.toInt < 0 := h11; omega)]; exact RCI_r rfl)
          | (rw [if_neg (fun q => by have := of_decide_eq_true q.2; have e1 : ¬ x.toInt ≤ 4 := h16; omega)]; exact RCI_r rfl)

theorem k_takings (hD : HD M) (hk : RK M 36 K) (x : Int32) : Wp (d + 12) md_110 0 [some (.ref 32), some (.int x)] [] (cset M κ) (RCI M κ (takingsA K x)) := by
  obtain ⟨ρ, hR, hK, hDC, ok, hr1, hr2⟩ := id hk
  obtain ⟨b0, b1, b2, b3, b4, b5, b6, b7, b8, b9, b10, b11, b12⟩ := ok_h ok
  obtain ⟨ow, hDo⟩ := hD.1
  have hO : ∀ κ : CS, cset M κ 32 = .inr (9, hdl ow) := fun κ => (cset_o (by omega)).trans hDo
  have hRc : ∀ κ : CS, RA (cset M κ) 36 ρ := fun κ => RA_c hR hr1 hr2
  unfold takingsA
  refine Wp.n (pc' := 1) 1 rfl ?_
  refine Wp.get (len := 3) rfl (hO _) rfl ?_
  refine Wp.ecallV (len := 3) rfl rfl rfl (ra_obj (hRc _)) rfl (by decide) rfl (k_exists (RK_c hk)) ?_
  refine Wp.ifb0 (tgt := 26) (len := 3) rfl (fun h7 => ?_) (fun h7 => ?_)
  · skip
    refine Wp.n (pc' := 28) 1 rfl ?_
    refine Wp.retI (len := 1) rfl rfl ?_
    first
      | exact RCI_s hS rfl
      | (rw [if_neg (fun q => of_decide_eq_false h7 q.1)]; exact RCI_r rfl)
      | (rw [if_neg (fun q => by rcases q.2 with e | e; exact h12 e; rw [h23] at e; cases e)]; exact RCI_r rfl)
  · skip
    refine Wp.n (pc' := 12) 2 rfl ?_
    refine Wp.ic0 (tgt := 29) (len := 3) rfl (fun h12 => ?_) (fun h12 => ?_)
    · skip
      have hC : x = -1 ∨ isN (kh K 1) x = true := by first | exact Or.inl h12 | exact Or.inr h23
      rw [if_pos ⟨of_decide_eq_true h7, hC⟩]
      refine Wp.n (pc' := 31) 2 rfl ?_
      refine Wp.get (len := 3) rfl (hO _) rfl ?_
      refine Wp.n (pc' := 36) 2 rfl ?_
      refine Wp.callV (len := 3) rfl rfl rfl (hO _) rfl (by decide) rfl (k_dutySum hD hk (by decide) (-1) x) ?_
      rintro _ _ ⟨rfl, κ2, rfl, hS⟩
      refine Wp.retI (len := 1) rfl rfl ?_
      first
        | exact RCI_s hS rfl
        | (rw [if_neg (fun q => of_decide_eq_false h7 q.1)]; exact RCI_r rfl)
        | (rw [if_neg (fun q => by rcases q.2 with e | e; exact h12 e; rw [h23] at e; cases e)]; exact RCI_r rfl)
    · skip
      refine Wp.n (pc' := 16) 1 rfl ?_
      refine Wp.get (len := 3) rfl (hO _) rfl ?_
      refine Wp.n (pc' := 20) 1 rfl ?_
      refine Wp.ecallV (len := 3) rfl rfl rfl (ra_obj (hRc _)) rfl (by decide) rfl (k_hasDay (RK_c hk) _) ?_
      refine Wp.ifb1 (tgt := 29) (len := 3) rfl (fun h23 => ?_) (fun h23 => ?_)
      · skip
        have hC : x = -1 ∨ isN (kh K 1) x = true := by first | exact Or.inl h12 | exact Or.inr h23
        rw [if_pos ⟨of_decide_eq_true h7, hC⟩]
        refine Wp.n (pc' := 31) 2 rfl ?_
        refine Wp.get (len := 3) rfl (hO _) rfl ?_
        refine Wp.n (pc' := 36) 2 rfl ?_
        refine Wp.callV (len := 3) rfl rfl rfl (hO _) rfl (by decide) rfl (k_dutySum hD hk (by decide) (-1) x) ?_
        rintro _ _ ⟨rfl, κ2, rfl, hS⟩
        refine Wp.retI (len := 1) rfl rfl ?_
        first
          | exact RCI_s hS rfl
          | (rw [if_neg (fun q => of_decide_eq_false h7 q.1)]; exact RCI_r rfl)
          | (rw [if_neg (fun q => by rcases q.2 with e | e; exact h12 e; rw [h23] at e; cases e)]; exact RCI_r rfl)
      · skip
        refine Wp.n (pc' := 28) 1 rfl ?_
        refine Wp.retI (len := 1) rfl rfl ?_
        first
          | exact RCI_s hS rfl
          | (rw [if_neg (fun q => of_decide_eq_false h7 q.1)]; exact RCI_r rfl)
          | (rw [if_neg (fun q => by rcases q.2 with e | e; exact h12 e; rw [h23] at e; cases e)]; exact RCI_r rfl)


theorem k_chance (hD : HD M) (hk : RK M 36 K) (x y : Int32) : Wp (d + 12) md_111 0 [some (.ref 32), some (.int x), some (.int y), none] [] (cset M κ) (RCJ M κ (chanceA K x y)) := by
  obtain ⟨ρ, hR, hK, hDC, ok, hr1, hr2⟩ := id hk
  obtain ⟨b0, b1, b2, b3, b4, b5, b6, b7, b8, b9, b10, b11, b12⟩ := ok_h ok
  obtain ⟨ow, hDo⟩ := hD.1
  have hO : ∀ κ : CS, cset M κ 32 = .inr (9, hdl ow) := fun κ => (cset_o (by omega)).trans hDo
  have hRc : ∀ κ : CS, RA (cset M κ) 36 ρ := fun κ => RA_c hR hr1 hr2
  unfold chanceA
  refine Wp.n (pc' := 2) 2 rfl ?_
  refine Wp.callV (len := 3) rfl rfl rfl (hO _) rfl (by decide) rfl (k_refusal hD hk x) ?_
  rintro _ _ ⟨κ2, rfl, hF, ⟨hN, rfl⟩ | ⟨w, hw, rfl, hT, rfl⟩⟩
  · rw [if_neg (fun q => by rw [hN] at q; exact absurd q.1 (by decide))]
    refine Wp.n (pc' := 9) 3 rfl ?_
    refine Wp.ic0 (tgt := 21) (len := 3) rfl (fun h9 => ?_) (fun h9 => ?_)
    · skip
      refine Wp.n (pc' := 24) 1 rfl ?_
      refine Wp.retL (len := 1) rfl rfl ?_
      exact RCJ_s (ScC_11 hF) rfl
    · exact absurd rfl h9
  · have hN : isN (kh K 4) (nI w) = true := by rw [isN_nI (by omega)]; exact decide_eq_true hw
    have hws := TW_ws ok hw hT
    have hdw := dutW_b ok hw
    have e2 : isN 2 y = true ↔ ¬ y < 0 ∧ y ≤ 1 := by
      unfold isN
      rw [decide_eq_true_iff, i_lt, i_le]
      constructor
      · rintro ⟨p, q⟩
        exact ⟨fun c => by have c' : y.toInt < 0 := c; omega, by show y.toInt ≤ 1; omega⟩
      · rintro ⟨p, q⟩
        have p' : ¬ y.toInt < 0 := p
        have q' : y.toInt ≤ 1 := q
        omega
    cases hL : lawK K w
    · skip
      refine Wp.n (pc' := 9) 3 rfl ?_
      refine Wp.ic0 (tgt := 21) (len := 3) rfl (fun h9 => ?_) (fun h9 => ?_)
      · exact absurd h9 (by decide)
      · skip
        refine Wp.n (pc' := 13) 1 rfl ?_
        refine Wp.if2 (tgt := 21) (len := 3) rfl (fun h13 => ?_) (fun h13 => ?_)
        · skip
          refine Wp.n (pc' := 24) 1 rfl ?_
          refine Wp.retL (len := 1) rfl rfl ?_
          first
            | (rw [if_neg (fun q => (e2.mp q.2).1 h13)]; exact RCJ_s (ScC_11 hF) rfl)
            | (rw [if_neg (fun q => h18 (e2.mp q.2).2)]; exact RCJ_s (ScC_11 hF) rfl)
            | (rw [if_pos ⟨hN, e2.mpr ⟨h13, h18⟩⟩, nI_clamp (by omega), hL]; exact RCJ_s (ScC_11 hF) rfl)
        · skip
          refine Wp.n (pc' := 18) 2 rfl ?_
          refine Wp.ic5 (tgt := 25) (len := 3) rfl (fun h18 => ?_) (fun h18 => ?_)
          · skip
            refine Wp.n (pc' := 26) 1 rfl ?_
            refine Wp.if1 (tgt := 41) (len := 3) rfl (fun h26 => ?_) (fun h26 => ?_)
            · skip
              refine Wp.n (pc' := 43) 2 rfl ?_
              refine Wp.retL (len := 1) rfl rfl ?_
              first
                | (rw [if_neg (fun q => (e2.mp q.2).1 h13)]; exact RCJ_s (ScC_11 hF) rfl)
                | (rw [if_neg (fun q => h18 (e2.mp q.2).2)]; exact RCJ_s (ScC_11 hF) rfl)
                | (rw [if_pos ⟨hN, e2.mpr ⟨h13, h18⟩⟩, nI_clamp (by omega), hL]; exact RCJ_s (ScC_11 hF) rfl)
            · exact absurd h26 (by decide)
          · skip
            refine Wp.n (pc' := 24) 1 rfl ?_
            refine Wp.retL (len := 1) rfl rfl ?_
            first
              | (rw [if_neg (fun q => (e2.mp q.2).1 h13)]; exact RCJ_s (ScC_11 hF) rfl)
              | (rw [if_neg (fun q => h18 (e2.mp q.2).2)]; exact RCJ_s (ScC_11 hF) rfl)
              | (rw [if_pos ⟨hN, e2.mpr ⟨h13, h18⟩⟩, nI_clamp (by omega), hL]; exact RCJ_s (ScC_11 hF) rfl)
    · skip
      refine Wp.n (pc' := 9) 3 rfl ?_
      refine Wp.ic0 (tgt := 21) (len := 3) rfl (fun h9 => ?_) (fun h9 => ?_)
      · exact absurd h9 (by decide)
      · skip
        refine Wp.n (pc' := 13) 1 rfl ?_
        refine Wp.if2 (tgt := 21) (len := 3) rfl (fun h13 => ?_) (fun h13 => ?_)
        · skip
          refine Wp.n (pc' := 24) 1 rfl ?_
          refine Wp.retL (len := 1) rfl rfl ?_
          first
            | exact RCJ_s (ScC_11 hF) rfl
            | (rw [if_neg (fun q => (e2.mp q.2).1 h13)]; exact RCJ_s (ScC_11 hF) rfl)
            | (rw [if_neg (fun q => h18 (e2.mp q.2).2)]; exact RCJ_s (ScC_11 hF) rfl)
        · skip
          refine Wp.n (pc' := 18) 2 rfl ?_
          refine Wp.ic5 (tgt := 25) (len := 3) rfl (fun h18 => ?_) (fun h18 => ?_)
          · skip
            refine Wp.n (pc' := 26) 1 rfl ?_
            refine Wp.if1 (tgt := 41) (len := 3) rfl (fun h26 => ?_) (fun h26 => ?_)
            · exact absurd rfl h26
            · skip
              obtain ⟨v, hv, rfl⟩ := isN_of (e2.mpr ⟨h13, h18⟩)
              rw [if_pos ⟨hN, e2.mpr ⟨h13, h18⟩⟩, nI_clamp (by omega), nI_clamp (by omega), hL]
              refine Wp.n (pc' := 30) 1 rfl ?_
              refine Wp.get (len := 3) rfl (hO _) rfl ?_
              refine Wp.n (pc' := 35) 2 rfl ?_
              refine Wp.ecallV (len := 3) rfl rfl rfl (rfl) rfl (by decide) rfl (t_frac (m := 1) hws.1 hws.2 (by omega) (by omega)) ?_
              refine Wp.n (pc' := 43) 1 rfl ?_
              refine Wp.retL (len := 1) rfl rfl ?_
              first
                | exact RCJ_s (ScC_11 hF) rfl
                | (rw [if_neg (fun q => (e2.mp q.2).1 h13)]; exact RCJ_s (ScC_11 hF) rfl)
                | (rw [if_neg (fun q => h18 (e2.mp q.2).2)]; exact RCJ_s (ScC_11 hF) rfl)
          · skip
            refine Wp.n (pc' := 24) 1 rfl ?_
            refine Wp.retL (len := 1) rfl rfl ?_
            first
              | exact RCJ_s (ScC_11 hF) rfl
              | (rw [if_neg (fun q => (e2.mp q.2).1 h13)]; exact RCJ_s (ScC_11 hF) rfl)
              | (rw [if_neg (fun q => h18 (e2.mp q.2).2)]; exact RCJ_s (ScC_11 hF) rfl)

theorem k_hope (hD : HD M) (hk : RK M 36 K) (x y : Int32) : Wp (d + 12) md_112 0 [some (.ref 32), some (.int x), some (.int y), none] [] (cset M κ) (RCJ M κ (hopeA K x y)) := by
  obtain ⟨ρ, hR, hK, hDC, ok, hr1, hr2⟩ := id hk
  obtain ⟨b0, b1, b2, b3, b4, b5, b6, b7, b8, b9, b10, b11, b12⟩ := ok_h ok
  obtain ⟨ow, hDo⟩ := hD.1
  have hO : ∀ κ : CS, cset M κ 32 = .inr (9, hdl ow) := fun κ => (cset_o (by omega)).trans hDo
  have hRc : ∀ κ : CS, RA (cset M κ) 36 ρ := fun κ => RA_c hR hr1 hr2
  unfold hopeA
  refine Wp.n (pc' := 2) 2 rfl ?_
  refine Wp.callV (len := 3) rfl rfl rfl (hO _) rfl (by decide) rfl (k_refusal hD hk x) ?_
  rintro _ _ ⟨κ2, rfl, hF, ⟨hN, rfl⟩ | ⟨w, hw, rfl, hT, rfl⟩⟩
  · rw [if_neg (fun q => by rw [hN] at q; exact absurd q.1 (by decide))]
    refine Wp.n (pc' := 9) 3 rfl ?_
    refine Wp.ic0 (tgt := 21) (len := 3) rfl (fun h9 => ?_) (fun h9 => ?_)
    · skip
      refine Wp.n (pc' := 24) 1 rfl ?_
      refine Wp.retL (len := 1) rfl rfl ?_
      exact RCJ_s (ScC_11 hF) rfl
    · exact absurd rfl h9
  · have hN : isN (kh K 4) (nI w) = true := by rw [isN_nI (by omega)]; exact decide_eq_true hw
    have hws := TW_ws ok hw hT
    have hdw := dutW_b ok hw
    have e2 : isN 2 y = true ↔ ¬ y < 0 ∧ y ≤ 1 := by
      unfold isN
      rw [decide_eq_true_iff, i_lt, i_le]
      constructor
      · rintro ⟨p, q⟩
        exact ⟨fun c => by have c' : y.toInt < 0 := c; omega, by show y.toInt ≤ 1; omega⟩
      · rintro ⟨p, q⟩
        have p' : ¬ y.toInt < 0 := p
        have q' : y.toInt ≤ 1 := q
        omega
    cases hL : lawK K w
    · skip
      refine Wp.n (pc' := 9) 3 rfl ?_
      refine Wp.ic0 (tgt := 21) (len := 3) rfl (fun h9 => ?_) (fun h9 => ?_)
      · exact absurd h9 (by decide)
      · skip
        refine Wp.n (pc' := 13) 1 rfl ?_
        refine Wp.if2 (tgt := 21) (len := 3) rfl (fun h13 => ?_) (fun h13 => ?_)
        · skip
          refine Wp.n (pc' := 24) 1 rfl ?_
          refine Wp.retL (len := 1) rfl rfl ?_
          first
            | (rw [if_neg (fun q => (e2.mp q.2).1 h13)]; exact RCJ_s (ScC_11 hF) rfl)
            | (rw [if_neg (fun q => h18 (e2.mp q.2).2)]; exact RCJ_s (ScC_11 hF) rfl)
            | (rw [if_pos ⟨hN, e2.mpr ⟨h13, h18⟩⟩, nI_clamp (by omega), hL]; exact RCJ_s (ScC_11 hF) rfl)
        · skip
          refine Wp.n (pc' := 18) 2 rfl ?_
          refine Wp.ic5 (tgt := 25) (len := 3) rfl (fun h18 => ?_) (fun h18 => ?_)
          · skip
            refine Wp.n (pc' := 26) 1 rfl ?_
            refine Wp.if1 (tgt := 47) (len := 3) rfl (fun h26 => ?_) (fun h26 => ?_)
            · skip
              refine Wp.n (pc' := 49) 2 rfl ?_
              refine Wp.retL (len := 1) rfl rfl ?_
              first
                | (rw [if_neg (fun q => (e2.mp q.2).1 h13)]; exact RCJ_s (ScC_11 hF) rfl)
                | (rw [if_neg (fun q => h18 (e2.mp q.2).2)]; exact RCJ_s (ScC_11 hF) rfl)
                | (rw [if_pos ⟨hN, e2.mpr ⟨h13, h18⟩⟩, nI_clamp (by omega), hL]; exact RCJ_s (ScC_11 hF) rfl)
            · exact absurd h26 (by decide)
          · skip
            refine Wp.n (pc' := 24) 1 rfl ?_
            refine Wp.retL (len := 1) rfl rfl ?_
            first
              | (rw [if_neg (fun q => (e2.mp q.2).1 h13)]; exact RCJ_s (ScC_11 hF) rfl)
              | (rw [if_neg (fun q => h18 (e2.mp q.2).2)]; exact RCJ_s (ScC_11 hF) rfl)
              | (rw [if_pos ⟨hN, e2.mpr ⟨h13, h18⟩⟩, nI_clamp (by omega), hL]; exact RCJ_s (ScC_11 hF) rfl)
    · skip
      refine Wp.n (pc' := 9) 3 rfl ?_
      refine Wp.ic0 (tgt := 21) (len := 3) rfl (fun h9 => ?_) (fun h9 => ?_)
      · exact absurd h9 (by decide)
      · skip
        refine Wp.n (pc' := 13) 1 rfl ?_
        refine Wp.if2 (tgt := 21) (len := 3) rfl (fun h13 => ?_) (fun h13 => ?_)
        · skip
          refine Wp.n (pc' := 24) 1 rfl ?_
          refine Wp.retL (len := 1) rfl rfl ?_
          first
            | exact RCJ_s (ScC_11 hF) rfl
            | (rw [if_neg (fun q => (e2.mp q.2).1 h13)]; exact RCJ_s (ScC_11 hF) rfl)
            | (rw [if_neg (fun q => h18 (e2.mp q.2).2)]; exact RCJ_s (ScC_11 hF) rfl)
        · skip
          refine Wp.n (pc' := 18) 2 rfl ?_
          refine Wp.ic5 (tgt := 25) (len := 3) rfl (fun h18 => ?_) (fun h18 => ?_)
          · skip
            refine Wp.n (pc' := 26) 1 rfl ?_
            refine Wp.if1 (tgt := 47) (len := 3) rfl (fun h26 => ?_) (fun h26 => ?_)
            · exact absurd rfl h26
            · skip
              obtain ⟨v, hv, rfl⟩ := isN_of (e2.mpr ⟨h13, h18⟩)
              rw [if_pos ⟨hN, e2.mpr ⟨h13, h18⟩⟩, nI_clamp (by omega), nI_clamp (by omega), hL]
              refine Wp.n (pc' := 30) 1 rfl ?_
              refine Wp.get (len := 3) rfl (hO _) rfl ?_
              refine Wp.n (pc' := 34) 1 rfl ?_
              refine Wp.get (len := 3) rfl (hO _) rfl ?_
              refine Wp.get (len := 3) rfl (rfl) rfl ?_
              refine Wp.top hT.2.2.2 ?_
              refine Wp.n (pc' := 41) 1 rfl ?_
              refine Wp.ecallV (len := 3) rfl rfl rfl (rfl) rfl (by decide) rfl (t_frac (m := dutW K w) hws.1 hws.2 (by omega) (by omega)) ?_
              refine Wp.n (pc' := 49) 1 rfl ?_
              refine Wp.retL (len := 1) rfl rfl ?_
              first
                | exact RCJ_s (ScC_11 hF) rfl
                | (rw [if_neg (fun q => (e2.mp q.2).1 h13)]; exact RCJ_s (ScC_11 hF) rfl)
                | (rw [if_neg (fun q => h18 (e2.mp q.2).2)]; exact RCJ_s (ScC_11 hF) rfl)
          · skip
            refine Wp.n (pc' := 24) 1 rfl ?_
            refine Wp.retL (len := 1) rfl rfl ?_
            first
              | exact RCJ_s (ScC_11 hF) rfl
              | (rw [if_neg (fun q => (e2.mp q.2).1 h13)]; exact RCJ_s (ScC_11 hF) rfl)
              | (rw [if_neg (fun q => h18 (e2.mp q.2).2)]; exact RCJ_s (ScC_11 hF) rfl)

theorem k_isWithinN {hi : Nat} (x : Int32) (h : hi < 2 ^ 31) : Ev d md_117 0 [some (.int x), some (.int 0), some (.int (nI hi))] [] M (some (.int (bI (isN (hi + 1) x))), M) := by
  have w := c_isWithin (d := d) (M := M) x (nI 0) (nI hi)
  rw [isR_w (lo := 0) (hi := hi) rfl rfl (by decide) h, isR_0] at w
  exact w
theorem k_isWithinR {lo hi : Nat} (x : Int32) (h1 : lo < 2 ^ 31) (h2 : hi < 2 ^ 31) : Ev d md_117 0 [some (.int x), some (.int (nI lo)), some (.int (nI hi))] [] M (some (.int (bI (isR lo hi x))), M) := by
  have w := c_isWithin (d := d) (M := M) x (nI lo) (nI hi)
  rw [isR_w (lo := lo) (hi := hi) rfl rfl h1 h2] at w
  exact w
theorem k_seen (hD : HD M) (hk : RK M 36 K) (x y : Int32) : Wp (d + 12) md_141 0 [some (.ref 32), some (.int x), some (.int y), none] [] (cset M κ) (RCI M κ (seenA K x y)) := by
  obtain ⟨ρ, hR, hK, hDC, ok, hr1, hr2⟩ := id hk
  obtain ⟨b0, b1, b2, b3, b4, b5, b6, b7, b8, b9, b10, b11, b12⟩ := ok_h ok
  obtain ⟨ow, hDo⟩ := hD.1
  have hO : ∀ κ : CS, cset M κ 32 = .inr (9, hdl ow) := fun κ => (cset_o (by omega)).trans hDo
  have hRc : ∀ κ : CS, RA (cset M κ) 36 ρ := fun κ => RA_c hR hr1 hr2
  unfold seenA
  refine Wp.n (pc' := 2) 2 rfl ?_
  refine Wp.callV (len := 3) rfl rfl rfl (hO _) rfl (by decide) rfl (k_refusal hD hk y) ?_
  rintro _ _ ⟨κ2, rfl, hF, ⟨hN, rfl⟩ | ⟨w, hw, rfl, hT, rfl⟩⟩
  · rw [if_neg (fun q => by rw [hN] at q; exact absurd q.2 (by decide))]
    refine Wp.n (pc' := 9) 3 rfl ?_
    refine Wp.ic0 (tgt := 23) (len := 3) rfl (fun h9 => ?_) (fun h9 => ?_)
    · skip
      refine Wp.n (pc' := 25) 1 rfl ?_
      refine Wp.retI (len := 1) rfl rfl ?_
      exact RCI_s (ScC_11 hF) rfl
    · exact absurd rfl h9
  · have hN : isN (kh K 4) (nI w) = true := by rw [isN_nI (by omega)]; exact decide_eq_true hw
    have hws := TW_ws ok hw hT
    cases hL : lawK K w
    · skip
      refine Wp.n (pc' := 9) 3 rfl ?_
      refine Wp.ic0 (tgt := 23) (len := 3) rfl (fun h9 => ?_) (fun h9 => ?_)
      · exact absurd h9 (by decide)
      · skip
        refine Wp.n (pc' := 17) 3 rfl ?_
        refine Wp.ecallS (len := 3) rfl rfl rfl rfl (k_isWithinN (hi := 2000000000) x (by decide)) ?_
        refine Wp.ifb1 (tgt := 26) (len := 3) rfl (fun h20 => ?_) (fun h20 => ?_)
        · skip
          refine Wp.n (pc' := 27) 1 rfl ?_
          refine Wp.if0 (tgt := 32) (len := 3) rfl (fun h27 => ?_) (fun h27 => ?_)
          · exact absurd h27 (by decide)
          · skip
            refine Wp.n (pc' := 31) 1 rfl ?_
            refine Wp.retI (len := 1) rfl rfl ?_
            first
              | (rw [if_neg (fun q => by rw [h20] at q; exact absurd q.1 (by decide))]; exact RCI_s (ScC_11 hF) rfl)
              | (rw [if_pos ⟨h20, hN⟩, nI_clamp (by omega), hL]; exact RCI_s (ScC_11 hF) rfl)
        · skip
          refine Wp.n (pc' := 25) 1 rfl ?_
          refine Wp.retI (len := 1) rfl rfl ?_
          first
            | (rw [if_neg (fun q => by rw [h20] at q; exact absurd q.1 (by decide))]; exact RCI_s (ScC_11 hF) rfl)
            | (rw [if_pos ⟨h20, hN⟩, nI_clamp (by omega), hL]; exact RCI_s (ScC_11 hF) rfl)
    · skip
      refine Wp.n (pc' := 9) 3 rfl ?_
      refine Wp.ic0 (tgt := 23) (len := 3) rfl (fun h9 => ?_) (fun h9 => ?_)
      · exact absurd h9 (by decide)
      · skip
        refine Wp.n (pc' := 17) 3 rfl ?_
        refine Wp.ecallS (len := 3) rfl rfl rfl rfl (k_isWithinN (hi := 2000000000) x (by decide)) ?_
        refine Wp.ifb1 (tgt := 26) (len := 3) rfl (fun h20 => ?_) (fun h20 => ?_)
        · skip
          obtain ⟨v, hv, rfl⟩ := isN_of h20
          rw [if_pos ⟨h20, hN⟩, nI_clamp (by omega), nI_clamp (by omega), hL]
          refine Wp.n (pc' := 27) 1 rfl ?_
          refine Wp.if0 (tgt := 32) (len := 3) rfl (fun h27 => ?_) (fun h27 => ?_)
          · skip
            refine Wp.n (pc' := 33) 1 rfl ?_
            refine Wp.get (len := 3) rfl (hO _) rfl ?_
            refine Wp.n (pc' := 37) 1 rfl ?_
            refine Wp.ecallV (len := 3) rfl rfl rfl (rfl) rfl (by decide) rfl (t_seen hws.1 hws.2 (by omega)) ?_
            refine Wp.ifb0 (tgt := 47) (len := 3) rfl (fun h40 => ?_) (fun h40 => ?_)
            · skip
              refine Wp.n (pc' := 48) 1 rfl ?_
              refine Wp.retI (len := 1) rfl rfl ?_
              first
                | exact RCI_s (ScC_11 hF) (by rw [h40]; rfl)
                | (rw [if_neg (fun q => by rw [h20] at q; exact absurd q.1 (by decide))]; exact RCI_s (ScC_11 hF) rfl)
            · skip
              refine Wp.n (pc' := 48) 2 rfl ?_
              refine Wp.retI (len := 1) rfl rfl ?_
              first
                | exact RCI_s (ScC_11 hF) (by rw [h40]; rfl)
                | (rw [if_neg (fun q => by rw [h20] at q; exact absurd q.1 (by decide))]; exact RCI_s (ScC_11 hF) rfl)
          · exact absurd rfl h27
        · skip
          refine Wp.n (pc' := 25) 1 rfl ?_
          refine Wp.retI (len := 1) rfl rfl ?_
          first
            | exact RCI_s (ScC_11 hF) (by rw [h40]; rfl)
            | (rw [if_neg (fun q => by rw [h20] at q; exact absurd q.1 (by decide))]; exact RCI_s (ScC_11 hF) rfl)

theorem k_ct_i {w seed m : Nat} (hD : HD M) (ok : KOK K) (hw : w < kh K 4) (hs : seed < 2000000001) (hm : m ≤ 20) (hT : TW κ K w) : ∀ (n k s : Nat), k + n = m → (Wp (d + 11) md_142 107 [some (.ref 32), some (.int (nI seed)), some (.int (nI m)), some (.int (nI (fld (ctI K seed w) n k s))), some (.int (nI w)), some (.int (nI m))] [] (cset M κ) Q) → Wp (d + 11) md_142 67 [some (.ref 32), some (.int (nI seed)), some (.int (nI m)), some (.int (nI s)), some (.int (nI w)), some (.int (nI k))] [] (cset M κ) Q := by
  obtain ⟨ow, hDo⟩ := hD.1
  have hO : ∀ κ : CS, cset M κ 32 = .inr (9, hdl ow) := fun κ => (cset_o (by omega)).trans hDo
  have hws := TW_ws ok hw hT
  intro n
  induction n with
  | zero =>
    intro k s hk2 kk
    refine Wp.n (pc' := 70) 2 rfl ?_
    refine Wp.nc3 (x := k) (y := m) (tgt := 107) (len := 3) rfl (by omega) (by omega) (fun h70 => ?_) (fun h70 => ?_)
    · skip
      rw [show k = m by omega]
      exact kk
    · omega
  | succ n ih =>
    intro k s hk2 kk
    have kk2 : Wp (d + 11) md_142 67 [some (.ref 32), some (.int (nI seed)), some (.int (nI m)), some (.int (nI (ctI K seed w s k))), some (.int (nI w)), some (.int (nI (k + 1)))] [] (cset M κ) Q := ih (k + 1) _ (by omega) kk
    refine Wp.n (pc' := 70) 2 rfl ?_
    refine Wp.nc3 (x := k) (y := m) (tgt := 107) (len := 3) rfl (by omega) (by omega) (fun h70 => ?_) (fun h70 => ?_)
    · omega
    · skip
      refine Wp.n (pc' := 75) 2 rfl ?_
      refine Wp.get (len := 3) rfl (hO _) rfl ?_
      refine Wp.n (pc' := 81) 2 rfl ?_
      refine Wp.iaddN (x := seed) (y := k) (len := 1) rfl ?_
      refine Wp.ecallV (len := 3) rfl rfl rfl (rfl) rfl (by decide) rfl (t_seen hws.1 hws.2 (by omega)) ?_
      refine Wp.ifb0 (tgt := 98) (len := 3) rfl (fun h85 => ?_) (fun h85 => ?_)
      · skip
        refine Wp.n (pc' := 99) 1 rfl ?_
        refine Wp.iaddN (x := s) (y := 0) (len := 1) rfl ?_
        refine Wp.n (pc' := 101) 1 rfl ?_
        refine Wp.incN (x := k) (len := 3) rfl rfl ?_
        refine Wp.n (pc' := 67) 1 rfl ?_
        first
          | (rw [show ctI K seed w s k = s + dutW K w by unfold ctI; rw [h85]; rfl] at kk2; exact kk2)
          | (rw [show ctI K seed w s k = s + 0 by unfold ctI; rw [h85]; rfl] at kk2; exact kk2)
      · skip
        refine Wp.n (pc' := 89) 1 rfl ?_
        refine Wp.get (len := 3) rfl (hO _) rfl ?_
        refine Wp.get (len := 3) rfl (rfl) rfl ?_
        refine Wp.top hT.2.2.2 ?_
        refine Wp.n (pc' := 99) 1 rfl ?_
        refine Wp.iaddN (x := s) (y := dutW K w) (len := 1) rfl ?_
        refine Wp.n (pc' := 101) 1 rfl ?_
        refine Wp.incN (x := k) (len := 3) rfl rfl ?_
        refine Wp.n (pc' := 67) 1 rfl ?_
        first
          | (rw [show ctI K seed w s k = s + dutW K w by unfold ctI; rw [h85]; rfl] at kk2; exact kk2)
          | (rw [show ctI K seed w s k = s + 0 by unfold ctI; rw [h85]; rfl] at kk2; exact kk2)

theorem k_ct_o (hD : HD M) (hk : RK M 36 K) {seed m : Nat} (hs : seed < 2000000001) (hm : m ≤ 20) : ∀ (n w s : Nat) (κ2 : CS) (z : Option Value), w + n = kh K 4 → ScC κ κ2 → Wp (d + 11) md_142 39 [some (.ref 32), some (.int (nI seed)), some (.int (nI m)), some (.int (nI s)), some (.int (nI w)), z] [] (cset M κ2) (RCI M κ (nI (fld (ctO K seed m) n w s))) := by
  obtain ⟨ρ, hR, hK, hDC, ok, hr1, hr2⟩ := id hk
  obtain ⟨b0, b1, b2, b3, b4, b5, b6, b7, b8, b9, b10, b11, b12⟩ := ok_h ok
  obtain ⟨ow, hDo⟩ := hD.1
  have hO : ∀ κ : CS, cset M κ 32 = .inr (9, hdl ow) := fun κ => (cset_o (by omega)).trans hDo
  have hRc : ∀ κ : CS, RA (cset M κ) 36 ρ := fun κ => RA_c hR hr1 hr2
  intro n
  induction n with
  | zero =>
    intro w s κ2 z hw hS
    refine Wp.n (pc' := 42) 2 rfl ?_
    refine Wp.get (len := 3) rfl (hO _) rfl ?_
    refine Wp.get (len := 3) rfl (ra_obj (hRc _)) rfl ?_
    refine Wp.top (rc_wk hK) ?_
    refine Wp.nc3 (x := w) (y := kh K 4) (tgt := 113) (len := 3) rfl (by omega) (by omega) (fun h48 => ?_) (fun h48 => ?_)
    · skip
      refine Wp.n (pc' := 114) 1 rfl ?_
      refine Wp.retI (len := 1) rfl rfl ?_
      exact RCI_s hS rfl
    · omega
  | succ n ih =>
    intro w s κ2 z hw hS
    rw [show fld (ctO K seed m) (n + 1) w s = fld (ctO K seed m) n (w + 1) (ctO K seed m s w) from rfl]
    refine Wp.n (pc' := 42) 2 rfl ?_
    refine Wp.get (len := 3) rfl (hO _) rfl ?_
    refine Wp.get (len := 3) rfl (ra_obj (hRc _)) rfl ?_
    refine Wp.top (rc_wk hK) ?_
    refine Wp.nc3 (x := w) (y := kh K 4) (tgt := 113) (len := 3) rfl (by omega) (by omega) (fun h48 => ?_) (fun h48 => ?_)
    · omega
    · skip
      refine Wp.n (pc' := 53) 2 rfl ?_
      refine Wp.get (len := 3) rfl (hO _) rfl ?_
      refine Wp.n (pc' := 58) 1 rfl ?_
      refine Wp.callV (len := 3) rfl rfl rfl (hO _) rfl (by decide) rfl (k_isLawful hD hk (by omega)) ?_
      rintro _ _ ⟨rfl, κ3, rfl, hF, hT⟩
      refine Wp.ifb0 (tgt := 107) (len := 3) rfl (fun h61 => ?_) (fun h61 => ?_)
      · skip
        refine Wp.incN (x := w) (len := 3) rfl rfl ?_
        refine Wp.n (pc' := 39) 1 rfl ?_
        rw [show ctO K seed m s w = s by unfold ctO; rw [h61]; rfl]
        exact ih (w + 1) s κ3 _ (by omega) (ScC_t hS (ScC_11 hF))
      · skip
        refine Wp.n (pc' := 67) 2 rfl ?_
        rw [show ctO K seed m s w = fld (ctI K seed w) m 0 s by unfold ctO; rw [h61]; rfl]
        refine k_ct_i hD ok (by omega) hs hm hT m 0 s (by omega) ?_
        refine Wp.incN (x := w) (len := 3) rfl rfl ?_
        refine Wp.n (pc' := 39) 1 rfl ?_
        exact ih (w + 1) _ κ3 _ (by omega) (ScC_t hS (ScC_11 hF))
        

theorem k_caught (hD : HD M) (hk : RK M 36 K) (x y : Int32) : Wp (d + 11) md_142 0 [some (.ref 32), some (.int x), some (.int y), none, none, none] [] (cset M κ) (RCI M κ (caughtA K x y)) := by
  obtain ⟨ρ, hR, hK, hDC, ok, hr1, hr2⟩ := id hk
  obtain ⟨b0, b1, b2, b3, b4, b5, b6, b7, b8, b9, b10, b11, b12⟩ := ok_h ok
  obtain ⟨ow, hDo⟩ := hD.1
  have hO : ∀ κ : CS, cset M κ 32 = .inr (9, hdl ow) := fun κ => (cset_o (by omega)).trans hDo
  have hRc : ∀ κ : CS, RA (cset M κ) 36 ρ := fun κ => RA_c hR hr1 hr2
  unfold caughtA
  refine Wp.n (pc' := 1) 1 rfl ?_
  refine Wp.get (len := 3) rfl (hO _) rfl ?_
  refine Wp.ecallV (len := 3) rfl rfl rfl (ra_obj (hRc _)) rfl (by decide) rfl (k_exists (RK_c hk)) ?_
  refine Wp.ifb0 (tgt := 31) (len := 3) rfl (fun h7 => ?_) (fun h7 => ?_)
  · skip
    refine Wp.n (pc' := 33) 1 rfl ?_
    refine Wp.retI (len := 1) rfl rfl ?_
    first
      | (rw [if_neg (fun q => of_decide_eq_false h7 q.1)]; exact RCI_r rfl)
      | (rw [if_neg (fun q => by rw [h18] at q; exact absurd q.2.1 (by decide))]; exact RCI_r rfl)
      | (rw [if_neg (fun q => of_decide_eq_false h28 q.2.2)]; exact RCI_r rfl)
  · skip
    refine Wp.n (pc' := 15) 3 rfl ?_
    refine Wp.ecallS (len := 3) rfl rfl rfl rfl (k_isWithinN (hi := 2000000000) x (by decide)) ?_
    refine Wp.ifb0 (tgt := 31) (len := 3) rfl (fun h18 => ?_) (fun h18 => ?_)
    · skip
      refine Wp.n (pc' := 33) 1 rfl ?_
      refine Wp.retI (len := 1) rfl rfl ?_
      first
        | (rw [if_neg (fun q => of_decide_eq_false h7 q.1)]; exact RCI_r rfl)
        | (rw [if_neg (fun q => by rw [h18] at q; exact absurd q.2.1 (by decide))]; exact RCI_r rfl)
        | (rw [if_neg (fun q => of_decide_eq_false h28 q.2.2)]; exact RCI_r rfl)
    · skip
      refine Wp.n (pc' := 25) 3 rfl ?_
      refine Wp.ecallS (len := 3) rfl rfl rfl rfl (k_isWithinR (lo := 1) (hi := 20) y (by decide) (by decide)) ?_
      refine Wp.ifb1 (tgt := 34) (len := 3) rfl (fun h28 => ?_) (fun h28 => ?_)
      · skip
        have hy := of_decide_eq_true h28
        rw [if_pos ⟨of_decide_eq_true h7, h18, hy⟩]
        obtain ⟨v, hv, rfl⟩ := isN_of h18
        obtain ⟨m, hm1, hm20, hm, rfl⟩ := isR_of h28
        rw [nI_clamp (by omega), nI_clamp hm]
        refine Wp.n (pc' := 39) 4 rfl ?_
        exact k_ct_o hD hk hv hm20 (kh K 4) 0 0 κ _ (by omega) ScC_r
      · skip
        refine Wp.n (pc' := 33) 1 rfl ?_
        refine Wp.retI (len := 1) rfl rfl ?_
        first
          | (rw [if_neg (fun q => of_decide_eq_false h7 q.1)]; exact RCI_r rfl)
          | (rw [if_neg (fun q => by rw [h18] at q; exact absurd q.2.1 (by decide))]; exact RCI_r rfl)
          | (rw [if_neg (fun q => of_decide_eq_false h28 q.2.2)]; exact RCI_r rfl)

end QC
end
section
/-! THE CLASS: all ways. -/
theorem smod_k : ∀ k, k < 32 → ((nI k &&& 31).toBitVec.smod 32).toNat = k := by decide +kernel
theorem n_shl {a k : Nat} (hk : k < 32) (h : a * 2 ^ k < 2 ^ 32) : nI a <<< (nI k &&& 31) = nI (a * 2 ^ k) := pk_shlN _ k (smod_k k hk) h
theorem n_shr {a k : Nat} (hk : k < 32) (h : a < 2 ^ 31) : nI a >>> (nI k &&& 31) = nI (a / 2 ^ k) := pk_shrN h _ k (smod_k k hk)
/-- a row of places in three bits each -/
def rowE : List Nat → Nat
  | [] => 0
  | p :: t => p + 8 * rowE t
theorem rowE_lt : ∀ {ps : List Nat}, (∀ p, p ∈ ps → p < 8) → rowE ps < 8 ^ ps.length
  | [], _ => Nat.one_pos
  | p :: t, h => by
    have h1 := rowE_lt (ps := t) (fun q hq => h q (List.mem_cons_of_mem _ hq))
    have h2 := h p List.mem_cons_self
    show p + 8 * rowE t < 8 ^ (t.length + 1)
    rw [Nat.pow_succ]
    omega
theorem rowE_app (x : Nat) : ∀ (ps : List Nat), rowE (ps ++ [x]) = rowE ps + x * 8 ^ ps.length
  | [] => by show x + 8 * 0 = 0 + x * 1; omega
  | p :: t => by
    show p + 8 * rowE (t ++ [x]) = p + 8 * rowE t + x * 8 ^ (t.length + 1)
    rw [rowE_app x t, Nat.pow_succ, Nat.mul_add, ← Nat.mul_assoc, Nat.mul_comm 8 x, Nat.mul_assoc x 8, Nat.mul_comm 8 (8 ^ t.length)]
    omega
theorem rowE_get : ∀ {ps : List Nat} {i : Nat}, (∀ p, p ∈ ps → p < 8) → i < ps.length → rowE ps / 8 ^ i % 8 = ps.getD i 0
  | p :: t, 0, h, _ => by
    have h2 := h p List.mem_cons_self
    show (p + 8 * rowE t) / 1 % 8 = p
    omega
  | p :: t, i + 1, h, hi => by
    have h2 := h p List.mem_cons_self
    have ih := rowE_get (ps := t) (i := i) (fun q hq => h q (List.mem_cons_of_mem _ hq)) (Nat.lt_of_succ_lt_succ hi)
    show (p + 8 * rowE t) / 8 ^ (i + 1) % 8 = t.getD i 0
    rw [← ih, Nat.pow_succ, Nat.mul_comm (8 ^ i) 8, ← Nat.div_div_eq_div_mul, show (p + 8 * rowE t) / 8 = rowE t by omega]
def spnO (K : KD) : Option Nat → Nat
  | none => 0
  | some j => spanJ K j
def bitO (K : KD) : Option Nat → Nat
  | none => 0
  | some j => bitJ K j
theorem btw_ab (x y a b : Nat) : btw x y a b = btw x y b a := by
  cases h : btw x y a b with
  | true => exact (btw_sym h).symm
  | false =>
    cases h2 : btw x y b a with
    | false => rfl
    | true => rw [btw_sym h2] at h; cases h
theorem joinK_sym (K : KD) (a b y : Nat) : joinK K a b y = joinK K b a y := by
  have e1 : roadK K a b = roadK K b a := by
    unfold roadK
    rw [show (fun i => btw (kr K i 0) (kr K i 1) a b) = (fun i => btw (kr K i 0) (kr K i 1) b a) from funext (fun i => btw_ab _ _ _ _)]
  have e2 : joinStep K a b y = joinStep K b a y := by
    funext c l
    unfold joinStep
    rw [btw_ab (kl K l 0) (kl K l 1) a b]
  unfold joinK
  rw [e1, e2]
/-- the steps that the class has reckoned -/
def ST (κ : CS) (K : KD) (y : Nat) : Prop := ∀ a b, a < kh K 0 → b < kh K 0 → a ≠ b → κ.2.1 9 (7 * a + b) = nI (spnO K (joinK K a b y)) ∧ κ.2.1 10 (7 * a + b) = nI (bitO K (joinK K a b y))
def SI (κ : CS) (K : KD) (y a b : Nat) : Prop := ∀ p q, p < q → q < kh K 0 → (p < a ∨ (p = a ∧ q < b)) → κ.2.1 9 (7 * p + q) = nI (spnO K (joinK K p q y)) ∧ κ.2.1 10 (7 * p + q) = nI (bitO K (joinK K p q y)) ∧ κ.2.1 9 (7 * q + p) = nI (spnO K (joinK K p q y)) ∧ κ.2.1 10 (7 * q + p) = nI (bitO K (joinK K p q y))
theorem ca_ca {κ : CS} {s : Nat} {f g : Nat → Int32} : ca (ca κ s f) s g = ca κ s g := by
  unfold ca
  have e : va_up (va_up κ.2.1 s f) s g = va_up κ.2.1 s g := by
    funext j
    by_cases c : j = s
    · rw [c, va_up_self, va_up_self]
    · rw [va_up_ne _ _ c, va_up_ne _ _ c, va_up_ne _ _ c]
  rw [show (κ.1, va_up κ.2.1 s f, κ.2.2).2.1 = va_up κ.2.1 s f from rfl, e]
theorem ST_of {κ : CS} {K : KD} {y a b : Nat} (h : SI κ K y a b) (ha : kh K 0 ≤ a) : ST κ K y := by
  intro p q hp hq hpq
  by_cases c : p < q
  · obtain ⟨h1, h2, _, _⟩ := h p q c hq (Or.inl (by omega))
    exact ⟨h1, h2⟩
  · obtain ⟨_, _, h3, h4⟩ := h q p (by omega) hp (Or.inl (by omega))
    rw [joinK_sym K p q]
    exact ⟨h3, h4⟩
theorem SI_s {κ : CS} {K : KD} {y a b s t : Nat} {f g : Nat → Int32} (h0 : kh K 0 ≤ 7) (hab : a < b) (hb : b < kh K 0) (h : SI κ K y a b) (hs : s = spnO K (joinK K a b y)) (ht : t = bitO K (joinK K a b y)) (hf : f = upd (upd (κ.2.1 9) (7 * a + b) (nI s)) (7 * b + a) (nI s)) (hg : g = upd (upd (κ.2.1 10) (7 * a + b) (nI t)) (7 * b + a) (nI t)) : SI (ca (ca κ 9 f) 10 g) K y a (b + 1) := by
  intro p q hpq hq hc
  rw [show (ca (ca κ 9 f) 10 g).2.1 9 = f from (ca_ne (by decide)).trans ca_get, ca_get, hf, hg]
  by_cases e : p = a ∧ q = b
  · obtain ⟨rfl, rfl⟩ := e
    refine ⟨?_, ?_, ?_, ?_⟩
    · rw [pk_un (by omega), pk_us, hs]
    · rw [pk_un (by omega), pk_us, ht]
    · rw [pk_us, hs]
    · rw [pk_us, ht]
  · obtain ⟨h1, h2, h3, h4⟩ := h p q hpq hq (by omega)
    rw [pk_un (by omega), pk_un (by omega), pk_un (by omega), pk_un (by omega), pk_un (by omega), pk_un (by omega), pk_un (by omega), pk_un (by omega)]
    exact ⟨h1, h2, h3, h4⟩
/-- what the ways are sought for -/
def WK (κ : CS) (K : KD) (r a t y load : Nat) : Prop := κ.2.2.2 2 = some r ∧ κ.1 4 8 = dI (distK K a t) ∧ κ.1 4 9 = nI (boatC K) ∧ κ.1 4 10 = nI t ∧ κ.1 4 11 = nI y ∧ κ.1 4 12 = nI load
abbrev WY : Type := List Nat × Nat × List Nat
def wy0 : WY := ([], 0, [])
/-- the ways that were noted -/
def NT (κ : CS) (K : KD) (ws : List WY) : Prop := κ.1 4 4 = nI ws.length ∧ ∀ i, i < ws.length → κ.2.1 7 i = nI (ws.getD i wy0).1.length ∧ κ.2.1 5 i = nI (ws.getD i wy0).2.1 ∧ κ.2.1 6 i = nI (bitsC K (ws.getD i wy0).2.2) ∧ κ.2.1 8 i = nI (rowE (ws.getD i wy0).1)
theorem getDw_app {ws : List WY} {x : WY} {i : Nat} (h : i < ws.length) : (ws ++ [x]).getD i wy0 = ws.getD i wy0 := by
  rw [List.getD_eq_getElem?_getD, List.getD_eq_getElem?_getD, List.getElem?_append_left h]
theorem getDw_end {ws : List WY} {x : WY} : (ws ++ [x]).getD ws.length wy0 = x := by
  rw [List.getD_eq_getElem?_getD, List.getElem?_append_right (Nat.le_refl _), Nat.sub_self]
  rfl
/-- found alone and the rows of what was found -/
def FW (κ κ' : CS) : Prop := Fc [4] [5, 6, 7, 8] [] κ κ' ∧ ∀ j, j ≠ 4 → κ'.1 4 j = κ.1 4 j
theorem FW.r {κ : CS} : FW κ κ := ⟨Fc.r, fun _ _ => rfl⟩
theorem FW.t {κ κ' κ'' : CS} (h : FW κ κ') (h' : FW κ' κ'') : FW κ κ'' := ⟨h.1.t h'.1, fun j hj => (h'.2 j hj).trans (h.2 j hj)⟩
theorem WK_fw {κ κ' : CS} {K : KD} {r a t y load : Nat} (h : WK κ K r a t y load) (e : FW κ κ') : WK κ' K r a t y load := ⟨by rw [e.1.2.2.1 2 rfl]; exact h.1, by rw [e.2 8 (by decide)]; exact h.2.1, by rw [e.2 9 (by decide)]; exact h.2.2.1, by rw [e.2 10 (by decide)]; exact h.2.2.2.1, by rw [e.2 11 (by decide)]; exact h.2.2.2.2.1, by rw [e.2 12 (by decide)]; exact h.2.2.2.2.2⟩
theorem ST_fw {κ κ' : CS} {K : KD} {y : Nat} (h : ST κ K y) (e : FW κ κ') : ST κ' K y := fun a b ha hb hab => by rw [e.1.2.1 9 rfl, e.1.2.1 10 rfl]; exact h a b ha hb hab
section WAYS
variable {d : Nat} {M : AM} {r : Nat} {K : KD} {κ κ' : CS} {Q : Option Value → AM → Prop}
theorem k_placeIn {w i : Nat} (hw : w < 2 ^ 31) (hi : i ≤ 10) : Ev d md_77 0 [some (.int (nI w)), some (.int (nI i))] [] M (some (.int (nI (w / 8 ^ i % 8))), M) := by
  have e := c_placeIn (d := d) (M := M) (nI w) (nI i)
  rw [show (3 : Int32) = nI 3 from rfl, pk_mul, n_shr (by omega) hw, show (7 : Int32) = nI 7 from rfl, n_and, show 7 = 2 ^ 3 - 1 from rfl, Nat.and_two_pow_sub_one_eq_mod, Nat.pow_mul] at e
  exact e

/-- a reference on the stack is another -/
theorem Wp.topR {X : MD} {pc : Nat} {l : AL} {st : List Value} {o : Option Nat} {k : Nat} (h : o = some k) (w : Wp d X pc l (.ref k :: st) M Q) : Wp d X pc l (va_rf o :: st) M Q := by rw [h]; exact w
/-- only the steps differ -/
def FS (κ κ' : CS) : Prop := Fc [] [9, 10] [] κ κ'
theorem k_rs_b (hk : RK M r K) {y a : Nat} (hy : y < 31) : ∀ (n b : Nat) (κ : CS) (z3 z4 z5 : Option Value), b + n = kh K 0 → a < b → κ.2.2.2 2 = some r → κ.1 4 11 = nI y → SI κ K y a b → (∀ κ' z3' z4' z5', FS κ κ' → SI κ' K y a (kh K 0) → Wp (d + 2) md_75 124 [some (.ref 273), some (.int (nI a)), some (.int (nI (kh K 0))), z3', z4', z5'] [] (cset M κ') Q) → Wp (d + 2) md_75 17 [some (.ref 273), some (.int (nI a)), some (.int (nI b)), z3, z4, z5] [] (cset M κ) Q := by
  obtain ⟨ρ, hR, hK, hDC, ok, hr1, hr2⟩ := id hk
  obtain ⟨b0, b1, b2, b3, b4, b5, b6, b7, b8, b9, b10, b11, b12⟩ := ok_h ok
  have hRc : ∀ κ : CS, RA (cset M κ) r ρ := fun κ => RA_c hR hr1 hr2
  intro n
  induction n with
  | zero =>
    intro b κ z3 z4 z5 hb hab hr hyy hI kk
    refine Wp.n (pc' := 19) 2 rfl ?_
    refine Wp.get (len := 3) rfl (rfl) rfl ?_
    refine Wp.topR hr ?_
    refine Wp.get (len := 3) rfl (ra_obj (hRc _)) rfl ?_
    refine Wp.top (rc_pl hK) ?_
    refine Wp.nc3 (x := b) (y := kh K 0) (tgt := 124) (len := 3) rfl (by omega) (by omega) (fun h25 => ?_) (fun h25 => ?_)
    · skip
      obtain rfl : b = kh K 0 := by omega
      exact kk κ _ _ _ Fc.r hI
    · omega
  | succ n ih =>
    intro b κ z3 z4 z5 hb hab hr hyy hI kk
    have kn : ∀ (z3 z4 z5 : Option Value), Wp (d + 2) md_75 17 [some (.ref 273), some (.int (nI a)), some (.int (nI (b + 1))), z3, z4, z5] [] (cset M (ca (ca κ 9 (upd (upd (κ.2.1 9) (7 * a + b) (nI (spnO K (joinK K a b y)))) (7 * b + a) (nI (spnO K (joinK K a b y))))) 10 (upd (upd (κ.2.1 10) (7 * a + b) (nI (bitO K (joinK K a b y)))) (7 * b + a) (nI (bitO K (joinK K a b y)))))) Q := by
      intro z3 z4 z5
      refine ih (b + 1) _ _ _ _ (by omega) (by omega) hr hyy (SI_s b0 hab (by omega) hI rfl rfl rfl rfl) (fun κ' z3' z4' z5' hF hI' => kk κ' z3' z4' z5' (Fc.t ((Fc.r.a rfl).a rfl) hF) hI')
    have ef : ca (ca (ca (ca κ 9 (upd (κ.2.1 9) (7 * a + b) (nI (spnO K (joinK K a b y))))) 9 (upd (upd (κ.2.1 9) (7 * a + b) (nI (spnO K (joinK K a b y)))) (7 * b + a) (nI (spnO K (joinK K a b y))))) 10 (upd (κ.2.1 10) (7 * a + b) (nI (bitO K (joinK K a b y))))) 10 (upd (upd (κ.2.1 10) (7 * a + b) (nI (bitO K (joinK K a b y)))) (7 * b + a) (nI (bitO K (joinK K a b y)))) = ca (ca κ 9 (upd (upd (κ.2.1 9) (7 * a + b) (nI (spnO K (joinK K a b y)))) (7 * b + a) (nI (spnO K (joinK K a b y))))) 10 (upd (upd (κ.2.1 10) (7 * a + b) (nI (bitO K (joinK K a b y)))) (7 * b + a) (nI (bitO K (joinK K a b y)))) := by
      rw [ca_ca, ca_ca]
    have kn2 : ∀ (z3 z4 z5 : Option Value), Wp (d + 2) md_75 17 [some (.ref 273), some (.int (nI a)), some (.int (nI (b + 1))), z3, z4, z5] [] (cset M (ca (ca (ca (ca κ 9 (upd (κ.2.1 9) (7 * a + b) (nI (spnO K (joinK K a b y))))) 9 (upd (upd (κ.2.1 9) (7 * a + b) (nI (spnO K (joinK K a b y)))) (7 * b + a) (nI (spnO K (joinK K a b y))))) 10 (upd (κ.2.1 10) (7 * a + b) (nI (bitO K (joinK K a b y))))) 10 (upd (upd (κ.2.1 10) (7 * a + b) (nI (bitO K (joinK K a b y)))) (7 * b + a) (nI (bitO K (joinK K a b y)))))) Q := by
      intro z3 z4 z5
      rw [ef]
      exact kn z3 z4 z5
    clear kn ef
    refine Wp.n (pc' := 19) 2 rfl ?_
    refine Wp.get (len := 3) rfl (rfl) rfl ?_
    refine Wp.topR hr ?_
    refine Wp.get (len := 3) rfl (ra_obj (hRc _)) rfl ?_
    refine Wp.top (rc_pl hK) ?_
    refine Wp.nc3 (x := b) (y := kh K 0) (tgt := 124) (len := 3) rfl (by omega) (by omega) (fun h25 => ?_) (fun h25 => ?_)
    · omega
    · skip
      refine Wp.n (pc' := 29) 1 rfl ?_
      refine Wp.get (len := 3) rfl (rfl) rfl ?_
      refine Wp.topR hr ?_
      refine Wp.n (pc' := 35) 3 rfl ?_
      refine Wp.get (len := 3) rfl (rfl) rfl ?_
      refine Wp.top hyy ?_
      refine Wp.ecallV (len := 3) rfl rfl rfl (ra_obj (hRc _)) rfl (by omega) rfl (k_linkOf (hRc _) hK ok (by omega) (by omega) (by omega) hy) ?_
      rcases hj : joinK K a b y with _ | j
      · rw [hj] at kn2
        refine Wp.n (pc' := 43) 2 rfl ?_
        refine Wp.s (pc' := 46) rfl ?_
        refine Wp.n (pc' := 57) 4 rfl ?_
        refine Wp.s (pc' := 60) rfl ?_
        refine Wp.n (pc' := 71) 4 rfl ?_
        refine Wp.get (len := 3) rfl (rfl) rfl ?_
        refine Wp.n (pc' := 76) 2 rfl ?_
        refine Wp.ecallS (len := 3) rfl rfl rfl rfl (c_pairOf _ _) ?_
        refine Wp.n (pc' := 81) 1 rfl ?_
        refine Wp.ciastN (s := 9) (n := 49) (j := 7 * a + b) (len := 1) rfl rfl rfl rfl (by omega) ?_
        refine Wp.n (pc' := 83) 1 rfl ?_
        refine Wp.get (len := 3) rfl (rfl) rfl ?_
        refine Wp.n (pc' := 88) 2 rfl ?_
        refine Wp.ecallS (len := 3) rfl rfl rfl rfl (c_pairOf _ _) ?_
        refine Wp.n (pc' := 93) 1 rfl ?_
        refine Wp.ciastN (s := 9) (n := 49) (j := 7 * b + a) (len := 1) rfl rfl rfl rfl (by omega) ?_
        refine Wp.n (pc' := 95) 1 rfl ?_
        refine Wp.get (len := 3) rfl (rfl) rfl ?_
        refine Wp.n (pc' := 100) 2 rfl ?_
        refine Wp.ecallS (len := 3) rfl rfl rfl rfl (c_pairOf _ _) ?_
        refine Wp.n (pc' := 105) 1 rfl ?_
        refine Wp.ciastN (s := 10) (n := 49) (j := 7 * a + b) (len := 1) rfl rfl rfl rfl (by omega) ?_
        refine Wp.n (pc' := 107) 1 rfl ?_
        refine Wp.get (len := 3) rfl (rfl) rfl ?_
        refine Wp.n (pc' := 112) 2 rfl ?_
        refine Wp.ecallS (len := 3) rfl rfl rfl rfl (c_pairOf _ _) ?_
        refine Wp.n (pc' := 117) 1 rfl ?_
        refine Wp.ciastN (s := 10) (n := 49) (j := 7 * b + a) (len := 1) rfl rfl rfl rfl (by omega) ?_
        refine Wp.incN (x := b) (len := 3) rfl rfl ?_
        refine Wp.n (pc' := 17) 1 rfl ?_
        exact kn2 _ _ _
      · have hjv := joinK_v ok hj
        obtain ⟨n0, f0, q1, hf3, _, _⟩ := j_obj hR hK ok hjv
        have hjm : ∀ κ : CS, cset M κ (jad K r j) = .inr (1, kfs n0 f0) := fun κ => by
          rw [← q1]
          refine cset_o (Or.inr (Or.inl ?_))
          unfold jad
          rcases hjv with h | ⟨h, h5⟩
          · rw [if_pos (by omega)]; omega
          · have := LV_ph ok h5
            rw [if_neg (by omega)]; omega
        rw [hj] at kn2
        refine Wp.n (pc' := 43) 2 rfl ?_
        refine Wp.s (pc' := 50) rfl ?_
        refine Wp.n (pc' := 51) 1 rfl ?_
        refine Wp.get (len := 3) rfl (hjm _) rfl ?_
        refine Wp.top hf3 ?_
        refine Wp.n (pc' := 57) 2 rfl ?_
        refine Wp.s (pc' := 64) rfl ?_
        refine Wp.n (pc' := 65) 1 rfl ?_
        refine Wp.ecallV (len := 3) rfl rfl rfl (hjm _) rfl (jad_32 (by omega)) rfl (k_laneBit (hRc _) hK ok hjv) ?_
        refine Wp.n (pc' := 71) 2 rfl ?_
        refine Wp.get (len := 3) rfl (rfl) rfl ?_
        refine Wp.n (pc' := 76) 2 rfl ?_
        refine Wp.ecallS (len := 3) rfl rfl rfl rfl (c_pairOf _ _) ?_
        refine Wp.n (pc' := 81) 1 rfl ?_
        refine Wp.ciastN (s := 9) (n := 49) (j := 7 * a + b) (len := 1) rfl rfl rfl rfl (by omega) ?_
        refine Wp.n (pc' := 83) 1 rfl ?_
        refine Wp.get (len := 3) rfl (rfl) rfl ?_
        refine Wp.n (pc' := 88) 2 rfl ?_
        refine Wp.ecallS (len := 3) rfl rfl rfl rfl (c_pairOf _ _) ?_
        refine Wp.n (pc' := 93) 1 rfl ?_
        refine Wp.ciastN (s := 9) (n := 49) (j := 7 * b + a) (len := 1) rfl rfl rfl rfl (by omega) ?_
        refine Wp.n (pc' := 95) 1 rfl ?_
        refine Wp.get (len := 3) rfl (rfl) rfl ?_
        refine Wp.n (pc' := 100) 2 rfl ?_
        refine Wp.ecallS (len := 3) rfl rfl rfl rfl (c_pairOf _ _) ?_
        refine Wp.n (pc' := 105) 1 rfl ?_
        refine Wp.ciastN (s := 10) (n := 49) (j := 7 * a + b) (len := 1) rfl rfl rfl rfl (by omega) ?_
        refine Wp.n (pc' := 107) 1 rfl ?_
        refine Wp.get (len := 3) rfl (rfl) rfl ?_
        refine Wp.n (pc' := 112) 2 rfl ?_
        refine Wp.ecallS (len := 3) rfl rfl rfl rfl (c_pairOf _ _) ?_
        refine Wp.n (pc' := 117) 1 rfl ?_
        refine Wp.ciastN (s := 10) (n := 49) (j := 7 * b + a) (len := 1) rfl rfl rfl rfl (by omega) ?_
        refine Wp.incN (x := b) (len := 3) rfl rfl ?_
        refine Wp.n (pc' := 17) 1 rfl ?_
        exact kn2 _ _ _


theorem k_rs_a (hk : RK M r K) {y : Nat} (hy : y < 31) : ∀ (n a : Nat) (κ : CS) (z2 z3 z4 z5 : Option Value), a + n = kh K 0 → κ.2.2.2 2 = some r → κ.1 4 11 = nI y → SI κ K y a 0 → Wp (d + 2) md_75 2 [some (.ref 273), some (.int (nI a)), z2, z3, z4, z5] [] (cset M κ) (fun v M' => v = none ∧ ∃ κ', M' = cset M κ' ∧ FS κ κ' ∧ ST κ' K y) := by
  obtain ⟨ρ, hR, hK, hDC, ok, hr1, hr2⟩ := id hk
  obtain ⟨b0, b1, b2, b3, b4, b5, b6, b7, b8, b9, b10, b11, b12⟩ := ok_h ok
  have hRc : ∀ κ : CS, RA (cset M κ) r ρ := fun κ => RA_c hR hr1 hr2
  intro n
  induction n with
  | zero =>
    intro a κ z2 z3 z4 z5 ha hr hyy hI
    refine Wp.n (pc' := 4) 2 rfl ?_
    refine Wp.get (len := 3) rfl (rfl) rfl ?_
    refine Wp.topR hr ?_
    refine Wp.get (len := 3) rfl (ra_obj (hRc _)) rfl ?_
    refine Wp.top (rc_pl hK) ?_
    refine Wp.nc3 (x := a) (y := kh K 0) (tgt := 130) (len := 3) rfl (by omega) (by omega) (fun h10 => ?_) (fun h10 => ?_)
    · skip
      refine Wp.retV (len := 1) rfl rfl ?_
      exact ⟨rfl, κ, rfl, Fc.r, ST_of hI (by omega)⟩
    · omega
  | succ n ih =>
    intro a κ z2 z3 z4 z5 ha hr hyy hI
    refine Wp.n (pc' := 4) 2 rfl ?_
    refine Wp.get (len := 3) rfl (rfl) rfl ?_
    refine Wp.topR hr ?_
    refine Wp.get (len := 3) rfl (ra_obj (hRc _)) rfl ?_
    refine Wp.top (rc_pl hK) ?_
    refine Wp.nc3 (x := a) (y := kh K 0) (tgt := 130) (len := 3) rfl (by omega) (by omega) (fun h10 => ?_) (fun h10 => ?_)
    · omega
    · skip
      refine Wp.n (pc' := 15) 2 rfl ?_
      refine Wp.iaddN (x := a) (y := 1) (len := 1) rfl ?_
      refine Wp.n (pc' := 17) 1 rfl ?_
      refine k_rs_b hk hy (kh K 0 - (a + 1)) (a + 1) κ _ _ _ (by omega) (by omega) hr hyy (fun p q hpq hq hc => hI p q hpq hq (by omega)) (fun κ2 z3' z4' z5' hF hI2 => ?_)
      refine Wp.incN (x := a) (len := 3) rfl rfl ?_
      refine Wp.n (pc' := 2) 1 rfl ?_
      refine Wp.mono (ih (a + 1) κ2 _ _ _ _ (by omega) (by rw [hF.2.2.1 2 rfl]; exact hr) (by rw [hF.1 4 rfl]; exact hyy) (fun p q hpq hq hc => hI2 p q hpq hq (by omega))) ?_
      rintro _ _ ⟨rfl, κ3, rfl, hF3, hS3⟩
      exact ⟨rfl, κ3, rfl, Fc.t hF hF3, hS3⟩

theorem k_reckonSteps (hk : RK M r K) {y : Nat} (hy : y < 31) (hr : κ.2.2.2 2 = some r) (hyy : κ.1 4 11 = nI y) : Wp (d + 2) md_75 0 [some (.ref 273), none, none, none, none, none] [] (cset M κ) (fun v M' => v = none ∧ ∃ κ', M' = cset M κ' ∧ FS κ κ' ∧ ST κ' K y) := by
  refine Wp.n (pc' := 2) 2 rfl ?_
  exact k_rs_a hk hy (kh K 0) 0 κ _ _ _ _ (by omega) hr hyy (fun p q hpq hq hc => by omega)
theorem k_note {ws : List WY} {w : WY} (hN : NT κ K ws) (h : ws.length < 326) : Wp d md_78 0 [some (.ref 273), some (.int (nI (w.1.length))), some (.int (nI (w.2.1))), some (.int (nI (bitsC K w.2.2))), some (.int (nI (rowE w.1)))] [] (cset M κ) (fun v M' => v = none ∧ ∃ κ', M' = cset M κ' ∧ FW κ κ' ∧ NT κ' K (ws ++ [w])) := by
  have h1 := hN.1
  refine Wp.n (pc' := 1) 1 rfl ?_
  refine Wp.get (len := 3) rfl (rfl) rfl ?_
  refine Wp.top h1 ?_
  refine Wp.n (pc' := 7) 1 rfl ?_
  refine Wp.nc3 (x := ws.length) (y := 326) (tgt := 61) (len := 3) rfl (by omega) (by omega) (fun h7 => ?_) (fun h7 => ?_)
  · omega
  · skip
    refine Wp.n (pc' := 11) 1 rfl ?_
    refine Wp.get (len := 3) rfl (rfl) rfl ?_
    refine Wp.n (pc' := 15) 1 rfl ?_
    refine Wp.get (len := 3) rfl (rfl) rfl ?_
    refine Wp.top h1 ?_
    refine Wp.n (pc' := 19) 1 rfl ?_
    refine Wp.ciastN (s := 7) (n := 326) (j := ws.length) (len := 1) rfl rfl rfl rfl (by omega) ?_
    refine Wp.n (pc' := 21) 1 rfl ?_
    refine Wp.get (len := 3) rfl (rfl) rfl ?_
    refine Wp.n (pc' := 25) 1 rfl ?_
    refine Wp.get (len := 3) rfl (rfl) rfl ?_
    refine Wp.top h1 ?_
    refine Wp.n (pc' := 29) 1 rfl ?_
    refine Wp.ciastN (s := 5) (n := 326) (j := ws.length) (len := 1) rfl rfl rfl rfl (by omega) ?_
    refine Wp.n (pc' := 31) 1 rfl ?_
    refine Wp.get (len := 3) rfl (rfl) rfl ?_
    refine Wp.n (pc' := 35) 1 rfl ?_
    refine Wp.get (len := 3) rfl (rfl) rfl ?_
    refine Wp.top h1 ?_
    refine Wp.n (pc' := 39) 1 rfl ?_
    refine Wp.ciastN (s := 6) (n := 326) (j := ws.length) (len := 1) rfl rfl rfl rfl (by omega) ?_
    refine Wp.n (pc' := 41) 1 rfl ?_
    refine Wp.get (len := 3) rfl (rfl) rfl ?_
    refine Wp.n (pc' := 45) 1 rfl ?_
    refine Wp.get (len := 3) rfl (rfl) rfl ?_
    refine Wp.top h1 ?_
    refine Wp.n (pc' := 50) 1 rfl ?_
    refine Wp.ciastN (s := 8) (n := 326) (j := ws.length) (len := 1) rfl rfl rfl rfl (by omega) ?_
    refine Wp.n (pc' := 53) 2 rfl ?_
    refine Wp.get (len := 3) rfl (rfl) rfl ?_
    refine Wp.top h1 ?_
    refine Wp.n (pc' := 57) 1 rfl ?_
    refine Wp.iaddN (x := ws.length) (y := 1) (len := 1) rfl ?_
    refine Wp.cput4 4 rfl (len := 3) rfl ?_
    refine Wp.retV (len := 1) rfl rfl ?_
    refine ⟨rfl, _, rfl, ⟨((((Fc.r.a rfl).a rfl).a rfl).a rfl).f rfl, fun j hj => pk_un hj⟩, ?_, fun i hi => ?_⟩
    · show upd (κ.1 4) 4 (nI (ws.length + 1)) 4 = _
      rw [pk_us, List.length_append]
      rfl
    · have hi' : i < ws.length + 1 := by rw [List.length_append] at hi; exact hi
      show upd (κ.2.1 7) ws.length _ i = _ ∧ upd (κ.2.1 5) ws.length _ i = _ ∧ upd (κ.2.1 6) ws.length _ i = _ ∧ upd (κ.2.1 8) ws.length _ i = _
      by_cases c : i = ws.length
      · subst c
        rw [pk_us, pk_us, pk_us, pk_us, getDw_end]
        exact ⟨rfl, rfl, rfl, rfl⟩
      · rw [pk_un c, pk_un c, pk_un c, pk_un c, getDw_app (by omega)]
        exact hN.2 i (by omega)

theorem PV_mem {y q : Nat} {ps : List Nat} {s : Nat × List Nat} (h : PV K y ps q s) : q ∈ ps := by
  have h1 := h.1
  have h2 := h.2.1
  rw [List.getD_eq_getElem?_getD, List.getElem?_eq_getElem (by omega)] at h2
  rw [← h2]
  exact List.getElem_mem _
theorem row_or {ps : List Nat} {p : Nat} (h : ∀ x, x ∈ ps → x < 8) {k : Nat} (hk : k = ps.length) : rowE ps ||| p * 2 ^ (3 * k) = rowE (ps ++ [p]) := by
  have h1 := rowE_lt h
  rw [show (8 : Nat) = 2 ^ 3 from rfl, ← Nat.pow_mul] at h1
  rw [hk, rowE_app, Nat.or_comm, Nat.mul_comm p, ← Nat.two_pow_add_eq_or_of_lt h1, Nat.pow_mul, Nat.add_comm, Nat.mul_comm]
theorem loopL_nil {α : Type} {g : Nat → List α} : ∀ {n p : Nat}, (∀ q, p ≤ q → q < p + n → g q = []) → loopL g n p = []
  | 0, _, _ => rfl
  | n + 1, p, h => by
    show g p ++ loopL g n (p + 1) = []
    rw [h p (Nat.le_refl _) (by omega), loopL_nil (fun q h1 h2 => h q (by omega) (by omega))]
    rfl
set_option maxRecDepth 20000 in
theorem t_ex_p {f r a t y load e0 : Nat} {κ0 : CS} (hk : RK M r K) (hy : y < 31) (ht : t < kh K 0) (hW : WK κ0 K r a t y load) (hST : ST κ0 K y) (hfe : f ≤ e0) (ih : ∀ (ps : List Nat) (q : Nat) (s : Nat × List Nat) (ws : List WY) (κ : CS) (e : Nat), f + 2 ≤ e → f + ps.length = 8 → PV K y ps q s → FW κ0 κ → NT κ K ws → ws.length + (dfs K y t f ps q s).length ≤ 326 → Wp e md_76 0 [some (.ref 273), some (.int (nI (ps.length - 1))), some (.int (nI (bitsM ps))), some (.int (nI s.1)), some (.int (nI (bitsC K s.2))), some (.int (nI (rowE ps))), none, none, none, none, none] [] (cset M κ) (fun v M' => v = none ∧ ∃ κ', M' = cset M κ' ∧ FW κ0 κ' ∧ NT κ' K (ws ++ dfs K y t f ps q s))) {ps : List Nat} {q : Nat} {s : Nat × List Nat} (hf : f + 1 + ps.length = 8) (hP : PV K y ps q s) : ∀ (n p : Nat) (ws : List WY) (κ : CS) (z8 z9 z10 : Option Value), p + n = kh K 0 → FW κ0 κ → NT κ K ws → ws.length + (loopL (fun p => if ps.contains p = true then [] else match joinK K q p y with | none => [] | some j => dfs K y t f (ps ++ [p]) p (addJ K s j)) n p).length ≤ 326 → Wp (e0 + 3) md_76 33 [some (.ref 273), some (.int (nI (ps.length - 1))), some (.int (nI (bitsM ps))), some (.int (nI s.1)), some (.int (nI (bitsC K s.2))), some (.int (nI (rowE ps))), some (.int (nI q)), some (.int (nI p)), z8, z9, z10] [] (cset M κ) (fun v M' => v = none ∧ ∃ κ', M' = cset M κ' ∧ FW κ0 κ' ∧ NT κ' K (ws ++ loopL (fun p => if ps.contains p = true then [] else match joinK K q p y with | none => [] | some j => dfs K y t f (ps ++ [p]) p (addJ K s j)) n p)) := by
  obtain ⟨ρ, hR, hK, hDC, ok, hr1, hr2⟩ := id hk
  obtain ⟨b0, b1, b2, b3, b4, b5, b6, b7, b8, b9, b10, b11, b12⟩ := ok_h ok
  have hRc : ∀ κ : CS, RA (cset M κ) r ρ := fun κ => RA_c hR hr1 hr2
  have hl := PV_len ok hP
  have h1 := hP.1
  have hq := PV_q hP
  have hsb := PV_sb ok hP
  have hbt : bitsM ps < 2 ^ 9 := bits_lt (fun l hl => by have := hP.2.2.2.1 l hl; omega)
  have h8 : ∀ x, x ∈ ps → x < 8 := fun x hx => by have := hP.2.2.2.1 x hx; omega
  intro n
  induction n with
  | zero =>
    intro p ws κ z8 z9 z10 hp hF hN hlen
    have hWk := WK_fw hW hF
    rw [show loopL (fun p => if ps.contains p = true then [] else match joinK K q p y with | none => [] | some j => dfs K y t f (ps ++ [p]) p (addJ K s j)) 0 p = [] from rfl, List.append_nil]
    refine Wp.n (pc' := 36) 2 rfl ?_
    refine Wp.get (len := 3) rfl (rfl) rfl ?_
    refine Wp.topR hWk.1 ?_
    refine Wp.get (len := 3) rfl (ra_obj (hRc _)) rfl ?_
    refine Wp.top (rc_pl hK) ?_
    refine Wp.nc3 (x := p) (y := kh K 0) (tgt := 144) (len := 3) rfl (by omega) (by omega) (fun h42 => ?_) (fun h42 => ?_)
    · skip
      refine Wp.retV (len := 1) rfl rfl ?_
      exact ⟨rfl, κ, rfl, hF, hN⟩
    · omega
  | succ n ihn =>
    intro p ws κ z8 z9 z10 hp hF hN hlen
    have hWk := WK_fw hW hF
    have hSk := ST_fw hST hF
    have ht2 := bits_tb ps p
    have hnt := n_tb (bitsM ps) p
    have hnd : bitsM ps &&& 2 ^ p < 2 ^ 31 := Nat.lt_of_le_of_lt Nat.and_le_left (by omega)
    have eL : loopL (fun p => if ps.contains p = true then [] else match joinK K q p y with | none => [] | some j => dfs K y t f (ps ++ [p]) p (addJ K s j)) (n + 1) p = (fun p => if ps.contains p = true then [] else match joinK K q p y with | none => [] | some j => dfs K y t f (ps ++ [p]) p (addJ K s j)) p ++ loopL (fun p => if ps.contains p = true then [] else match joinK K q p y with | none => [] | some j => dfs K y t f (ps ++ [p]) p (addJ K s j)) n (p + 1) := rfl
    have kf : ∀ (z8 z9 z10 : Option Value), (fun p => if ps.contains p = true then [] else match joinK K q p y with | none => [] | some j => dfs K y t f (ps ++ [p]) p (addJ K s j)) p = [] → Wp (e0 + 3) md_76 33 [some (.ref 273), some (.int (nI (ps.length - 1))), some (.int (nI (bitsM ps))), some (.int (nI s.1)), some (.int (nI (bitsC K s.2))), some (.int (nI (rowE ps))), some (.int (nI q)), some (.int (nI (p + 1))), z8, z9, z10] [] (cset M κ) (fun v M' => v = none ∧ ∃ κ', M' = cset M κ' ∧ FW κ0 κ' ∧ NT κ' K (ws ++ loopL (fun p => if ps.contains p = true then [] else match joinK K q p y with | none => [] | some j => dfs K y t f (ps ++ [p]) p (addJ K s j)) (n + 1) p)) := by
      intro z8 z9 z10 e
      rw [eL, e, List.nil_append] at hlen ⊢
      exact ihn (p + 1) ws κ _ _ _ (by omega) hF hN hlen
    refine Wp.n (pc' := 36) 2 rfl ?_
    refine Wp.get (len := 3) rfl (rfl) rfl ?_
    refine Wp.topR hWk.1 ?_
    refine Wp.get (len := 3) rfl (ra_obj (hRc _)) rfl ?_
    refine Wp.top (rc_pl hK) ?_
    refine Wp.nc3 (x := p) (y := kh K 0) (tgt := 144) (len := 3) rfl (by first | omega | exact hnd) (by first | omega | exact hnd) (fun h42 => ?_) (fun h42 => ?_)
    · omega
    · skip
      refine Wp.n (pc' := 48) 2 rfl ?_
      refine Wp.nc3 (x := ps.length - 1) (y := 6) (tgt := 144) (len := 3) rfl (by first | omega | exact hnd) (by first | omega | exact hnd) (fun h48 => ?_) (fun h48 => ?_)
      · skip
        refine Wp.retV (len := 1) rfl rfl ?_
        rw [show loopL (fun p => if ps.contains p = true then [] else match joinK K q p y with | none => [] | some j => dfs K y t f (ps ++ [p]) p (addJ K s j)) (n + 1) p = [] from loopL_nil (fun x hx1 hx2 => if_pos (PV_full hP (by omega) (by omega))), List.append_nil]
        exact ⟨rfl, κ, rfl, hF, hN⟩
      · skip
        refine Wp.n (pc' := 55) 2 rfl ?_
        refine Wp.ecallS (len := 3) rfl rfl rfl rfl (c_pairOf _ _) ?_
        refine Wp.n (pc' := 65) 5 rfl ?_
        refine Wp.top (n_sh1 p (by omega)) ?_
        refine Wp.n (pc' := 66) 1 rfl ?_
        refine Wp.top (n_and _ _) ?_
        refine Wp.nz1 (x := bitsM ps &&& 2 ^ p) (tgt := 73) (len := 3) rfl (by first | omega | exact hnd) (fun h66 => ?_) (fun h66 => ?_)
        · skip
          refine Wp.n (pc' := 78) 3 rfl ?_
          refine Wp.nz0 (x := 0) (tgt := 138) (len := 3) rfl (by first | omega | exact hnd) (fun h78 => ?_) (fun h78 => ?_)
          · skip
            refine Wp.incN (x := p) (len := 3) rfl rfl ?_
            refine Wp.n (pc' := 33) 1 rfl ?_
            first
              | (have hc1 : ps.contains p = true := by rw [← ht2]; exact Bool.of_not_eq_false (fun e => h66 (hnt.mpr e))
                 exact kf _ _ _ (if_pos hc1))
              | (have hc2 : joinK K q p y = none := by
                   cases e : joinK K q p y with
                   | none => rfl
                   | some j => rw [e] at h88; have := spanJ_b ok (joinK_v ok e); exact absurd (show spanJ K j = 0 from h88) (by omega)
                 exact kf _ _ _ ((if_neg (by rw [hc]; decide)).trans (by rw [hc2])))
              | (rw [eL, eG, ← List.append_assoc]
                 exact ihn (p + 1) _ κ2 _ _ _ (by omega) hF2 hN2 (by rw [List.length_append]; omega))
          · omega
        · skip
          refine Wp.n (pc' := 78) 4 rfl ?_
          refine Wp.nz0 (x := 1) (tgt := 138) (len := 3) rfl (by first | omega | exact hnd) (fun h78 => ?_) (fun h78 => ?_)
          · omega
          · skip
            have hc : ps.contains p = false := by rw [← ht2]; exact hnt.mp h66
            have hqp : q ≠ p := fun e => by
              have := List.contains_iff_mem.mpr (PV_mem hP)
              rw [e, hc] at this
              cases this
            have hsp : spnO K (joinK K q p y) ≤ 129 := by
              cases e : joinK K q p y with
              | none => exact Nat.zero_le _
              | some j => exact (spanJ_b ok (joinK_v ok e)).2
            refine Wp.n (pc' := 82) 1 rfl ?_
            refine Wp.get (len := 3) rfl (rfl) rfl ?_
            refine Wp.n (pc' := 87) 1 rfl ?_
            refine Wp.ialdN (j := 7 * q + p) (len := 1) rfl (rfl) rfl (by omega) (by decide) ?_
            refine Wp.top (hSk q p hq (by omega) hqp).1 ?_
            refine Wp.nz5 (x := spnO K (joinK K q p y)) (tgt := 138) (len := 3) rfl (by first | omega | exact hnd) (fun h88 => ?_) (fun h88 => ?_)
            · skip
              refine Wp.incN (x := p) (len := 3) rfl rfl ?_
              refine Wp.n (pc' := 33) 1 rfl ?_
              first
                | (have hc1 : ps.contains p = true := by rw [← ht2]; exact Bool.of_not_eq_false (fun e => h66 (hnt.mpr e))
                   exact kf _ _ _ (if_pos hc1))
                | (have hc2 : joinK K q p y = none := by
                     cases e : joinK K q p y with
                     | none => rfl
                     | some j => rw [e] at h88; have := spanJ_b ok (joinK_v ok e); exact absurd (show spanJ K j = 0 from h88) (by omega)
                   exact kf _ _ _ ((if_neg (by rw [hc]; decide)).trans (by rw [hc2])))
                | (rw [eL, eG, ← List.append_assoc]
                   exact ihn (p + 1) _ κ2 _ _ _ (by omega) hF2 hN2 (by rw [List.length_append]; omega))
            · skip
              obtain ⟨j, hj⟩ : ∃ j, joinK K q p y = some j := by
                cases e : joinK K q p y with
                | none => rw [e] at h88; exact absurd h88 (Nat.lt_irrefl 0)
                | some j => exact ⟨j, rfl⟩
              have hjv := joinK_v ok hj
              obtain ⟨hj1, hj2⟩ := hSk q p hq (by omega) hqp
              rw [hj] at hj1 hj2
              have hPs := PV_s hP (by omega) hc hj
              have hlp := PV_len ok hPs
              have hpl : (ps ++ [p]).length = ps.length + 1 := by rw [List.length_append]; rfl
              rw [hpl] at hlp
              have hsh : p * 2 ^ (3 * (ps.length - 1 + 1)) < 2 ^ 32 := by
                have e1 : 2 ^ (3 * (ps.length - 1 + 1)) ≤ 2 ^ 18 := Nat.pow_le_pow_right (by decide) (by omega)
                have e2 : p * 2 ^ (3 * (ps.length - 1 + 1)) ≤ 7 * 2 ^ 18 := Nat.mul_le_mul (by omega) e1
                omega
              have eG : (fun p => if ps.contains p = true then [] else match joinK K q p y with | none => [] | some j => dfs K y t f (ps ++ [p]) p (addJ K s j)) p = dfs K y t f (ps ++ [p]) p (addJ K s j) := (if_neg (by rw [hc]; decide)).trans (by rw [hj])
              rw [eL, eG, List.length_append] at hlen
              have wI := ih (ps ++ [p]) p (addJ K s j) ws κ (e0 + 2) (by omega) (by rw [hpl]; omega) hPs hF hN (by omega)
              rw [bitsM_app, bitsC_add, hpl, show ps.length + 1 - 1 = ps.length - 1 + 1 by omega] at wI
              refine Wp.n (pc' := 98) 5 rfl ?_
              refine Wp.iaddN (x := ps.length - 1) (y := 1) (len := 1) rfl ?_
              refine Wp.imulN (x := 3) (y := (ps.length - 1) + 1) (len := 1) rfl ?_
              refine Wp.n (pc' := 101) 1 rfl ?_
              refine Wp.top (n_shl (by omega) hsh) ?_
              refine Wp.n (pc' := 102) 1 rfl ?_
              refine Wp.top (by rw [n_or, row_or h8 (by omega)]) ?_
              refine Wp.n (pc' := 107) 4 rfl ?_
              refine Wp.iaddN (x := ps.length - 1) (y := 1) (len := 1) rfl ?_
              refine Wp.n (pc' := 113) 4 rfl ?_
              refine Wp.top (n_sh1 p (by omega)) ?_
              refine Wp.n (pc' := 114) 1 rfl ?_
              refine Wp.top (n_or _ _) ?_
              refine Wp.n (pc' := 116) 2 rfl ?_
              refine Wp.get (len := 3) rfl (rfl) rfl ?_
              refine Wp.n (pc' := 121) 1 rfl ?_
              refine Wp.ialdN (j := 7 * q + p) (len := 1) rfl (rfl) rfl (by omega) (by decide) ?_
              refine Wp.top hj1 ?_
              refine Wp.iaddN (x := s.1) (y := spanJ K j) (len := 1) rfl ?_
              refine Wp.n (pc' := 126) 2 rfl ?_
              refine Wp.get (len := 3) rfl (rfl) rfl ?_
              refine Wp.n (pc' := 131) 1 rfl ?_
              refine Wp.ialdN (j := 7 * q + p) (len := 1) rfl (rfl) rfl (by omega) (by decide) ?_
              refine Wp.top hj2 ?_
              refine Wp.n (pc' := 133) 1 rfl ?_
              refine Wp.top (n_or _ _) ?_
              refine Wp.n (pc' := 135) 1 rfl ?_
              refine Wp.callS (len := 3) rfl rfl rfl rfl (wI) ?_
              rintro _ _ ⟨rfl, κ2, rfl, hF2, hN2⟩
              refine Wp.incN (x := p) (len := 3) rfl rfl ?_
              refine Wp.n (pc' := 33) 1 rfl ?_
              first
                | (have hc1 : ps.contains p = true := by rw [← ht2]; exact Bool.of_not_eq_false (fun e => h66 (hnt.mpr e))
                   exact kf _ _ _ (if_pos hc1))
                | (have hc2 : joinK K q p y = none := by
                     cases e : joinK K q p y with
                     | none => rfl
                     | some j => rw [e] at h88; have := spanJ_b ok (joinK_v ok e); exact absurd (show spanJ K j = 0 from h88) (by omega)
                   exact kf _ _ _ ((if_neg (by rw [hc]; decide)).trans (by rw [hc2])))
                | (rw [eL, eG, ← List.append_assoc]
                   exact ihn (p + 1) _ κ2 _ _ _ (by omega) hF2 hN2 (by rw [List.length_append]; omega))


end WAYS
end
section
/-! THE CLASS: extend, find, and what is asked of the ways. -/
section WAYS2
variable {d : Nat} {M : AM} {r : Nat} {K : KD} {κ κ' : CS} {Q : Option Value → AM → Prop}
theorem t_extend {r a t y load : Nat} {κ0 : CS} (hk : RK M r K) (hy : y < 31) (ht : t < kh K 0) (hW : WK κ0 K r a t y load) (hST : ST κ0 K y) : ∀ (f : Nat) (ps : List Nat) (q : Nat) (s : Nat × List Nat) (ws : List WY) (κ : CS) (e : Nat), f + 2 ≤ e → f + ps.length = 8 → PV K y ps q s → FW κ0 κ → NT κ K ws → ws.length + (dfs K y t f ps q s).length ≤ 326 → Wp e md_76 0 [some (.ref 273), some (.int (nI (ps.length - 1))), some (.int (nI (bitsM ps))), some (.int (nI s.1)), some (.int (nI (bitsC K s.2))), some (.int (nI (rowE ps))), none, none, none, none, none] [] (cset M κ) (fun v M' => v = none ∧ ∃ κ', M' = cset M κ' ∧ FW κ0 κ' ∧ NT κ' K (ws ++ dfs K y t f ps q s)) := by
  obtain ⟨ρ, hR, hK, hDC, ok, hr1, hr2⟩ := id hk
  obtain ⟨b0, b1, b2, b3, b4, b5, b6, b7, b8, b9, b10, b11, b12⟩ := ok_h ok
  have hRc : ∀ κ : CS, RA (cset M κ) r ρ := fun κ => RA_c hR hr1 hr2
  intro f
  induction f with
  | zero =>
    intro ps q s ws κ e he hf hP
    have := PV_len ok hP
    omega
  | succ f ih =>
    intro ps q s ws κ e he hf hP hF hN hlen
    obtain ⟨e0, rfl⟩ : ∃ e0, e = e0 + 3 := ⟨e - 3, by omega⟩
    have hl := PV_len ok hP
    have h1 := hP.1
    have hq := PV_q hP
    have hWk := WK_fw hW hF
    have h8 : ∀ x, x ∈ ps → x < 8 := fun x hx => by have := hP.2.2.2.1 x hx; omega
    have hrl : rowE ps < 2 ^ 31 := by
      have e1 := rowE_lt h8
      have e2 : 8 ^ ps.length ≤ 8 ^ 7 := Nat.pow_le_pow_right (by decide) (by omega)
      omega
    have eD : dfs K y t (f + 1) ps q s = if q = t then [(ps, s)] else loopL (fun p => if ps.contains p = true then [] else match joinK K q p y with | none => [] | some j => dfs K y t f (ps ++ [p]) p (addJ K s j)) (kh K 0) 0 := rfl
    rw [eD] at hlen ⊢
    refine Wp.n (pc' := 3) 2 rfl ?_
    refine Wp.ecallS (len := 3) rfl rfl rfl rfl (k_placeIn hrl (by omega)) ?_
    refine Wp.top (show _ = nI q from by rw [rowE_get h8 (by omega), hP.2.1]) ?_
    refine Wp.n (pc' := 11) 3 rfl ?_
    refine Wp.get (len := 3) rfl (rfl) rfl ?_
    refine Wp.top hWk.2.2.2.1 ?_
    refine Wp.nc1 (x := q) (y := t) (tgt := 30) (len := 3) rfl (by omega) (by omega) (fun h14 => ?_) (fun h14 => ?_)
    · skip
      refine Wp.n (pc' := 33) 2 rfl ?_
      rw [if_neg h14] at hlen ⊢
      exact t_ex_p hk hy ht hW hST (by omega) ih (by omega) hP (kh K 0) 0 ws κ _ _ _ (by omega) hF hN hlen
    · skip
      refine Wp.n (pc' := 20) 3 rfl ?_
      refine Wp.iaddN (x := ps.length - 1) (y := 1) (len := 1) rfl ?_
      refine Wp.n (pc' := 26) 3 rfl ?_
      refine Wp.callV (len := 3) rfl rfl rfl (rfl) rfl (by decide) rfl (by
        have w := k_note (d := e0 + 2) (M := M) (w := (ps, s)) hN (by rw [if_pos h14] at hlen; exact hlen)
        rw [show (ps, s).1.length = ps.length - 1 + 1 from by show ps.length = _; omega] at w
        exact w) ?_
      rintro _ _ ⟨rfl, κ2, rfl, hF2, hN2⟩
      refine Wp.retV (len := 1) rfl rfl ?_
      rw [if_pos h14]
      exact ⟨rfl, κ2, rfl, hF.t hF2, hN2⟩

/-- the ways stand there -/
def WR (κ : CS) (K : KD) (r a t y load : Nat) : Prop := WK κ K r a t y load ∧ NT κ K (allW K y a t)
set_option maxRecDepth 20000 in
theorem t_find {a t y load : Nat} (hk : RK M r K) (ha : a < kh K 0) (ht : t < kh K 0) (hy : y < 31) : Wp (d + 11) md_74 0 [some (.ref 273), some (.ref r), some (.int (nI a)), some (.int (nI t)), some (.int (nI y)), some (.int (nI load))] [] (cset M κ) (fun v M' => v = none ∧ ∃ κ', M' = cset M κ' ∧ ScC κ κ' ∧ WR κ' K r a t y load) := by
  obtain ⟨ρ, hR, hK, hDC, ok, hr1, hr2⟩ := id hk
  obtain ⟨b0, b1, b2, b3, b4, b5, b6, b7, b8, b9, b10, b11, b12⟩ := ok_h ok
  have hRc : ∀ κ : CS, RA (cset M κ) r ρ := fun κ => RA_c hR hr1 hr2
  refine Wp.n (pc' := 2) 2 rfl ?_
  refine Wp.cputR (len := 3) rfl ?_
  refine Wp.n (pc' := 9) 4 rfl ?_
  refine Wp.ecallV (len := 3) rfl rfl rfl (ra_obj (hRc _)) rfl (by omega) rfl (k_byRoad (hRc _) hDC ok ha ht) ?_
  refine Wp.cput4 8 rfl (len := 3) rfl ?_
  refine Wp.n (pc' := 17) 2 rfl ?_
  refine Wp.ecallV (len := 3) rfl rfl rfl (ra_obj (hRc _)) rfl (by omega) rfl (k_boatLanes (hRc _) hK ok) ?_
  refine Wp.cput4 9 rfl (len := 3) rfl ?_
  refine Wp.n (pc' := 25) 2 rfl ?_
  refine Wp.cput4 10 rfl (len := 3) rfl ?_
  refine Wp.n (pc' := 31) 2 rfl ?_
  refine Wp.cput4 11 rfl (len := 3) rfl ?_
  refine Wp.n (pc' := 37) 2 rfl ?_
  refine Wp.cput4 12 rfl (len := 3) rfl ?_
  refine Wp.n (pc' := 42) 2 rfl ?_
  refine Wp.cput4 4 rfl (len := 3) rfl ?_
  refine Wp.n (pc' := 46) 1 rfl ?_
  refine Wp.callV (len := 3) rfl rfl rfl (rfl) rfl (by decide) rfl (k_reckonSteps (y := y) hk hy rfl rfl) ?_
  rintro _ _ ⟨rfl, κ2, rfl, hF2, hS2⟩
  have hW2 : WK κ2 K r a t y load := ⟨(hF2.2.2.1 2 rfl).trans rfl, by rw [hF2.1 4 rfl]; rfl, by rw [hF2.1 4 rfl]; rfl, by rw [hF2.1 4 rfl]; rfl, by rw [hF2.1 4 rfl]; rfl, by rw [hF2.1 4 rfl]; rfl⟩
  have hN2 : NT κ2 K [] := ⟨by rw [hF2.1 4 rfl]; rfl, fun i hi => absurd hi (Nat.not_lt_zero i)⟩
  refine Wp.n (pc' := 54) 5 rfl ?_
  refine Wp.top (show _ = nI (bitsM [a]) from by rw [n_sh1 _ (by omega)]; rw [show bitsM [a] = 0 ||| 2 ^ a from rfl, Nat.zero_or]) ?_
  refine Wp.n (pc' := 57) 3 rfl ?_
  refine Wp.callS (len := 3) rfl rfl rfl rfl (t_extend hk hy ht hW2 hS2 7 [a] a (0, []) [] κ2 (d + 10) (by omega) rfl (PV_1 ha) FW.r hN2 (by rw [List.length_nil, Nat.zero_add]; exact allW_len ok ha ht)) ?_
  rintro _ _ ⟨rfl, κ3, rfl, hF3, hN3⟩
  refine Wp.retV (len := 1) rfl rfl ?_
  refine ⟨rfl, κ3, rfl, ?_, WK_fw hW2 hF3, hN3⟩
  exact Fc.t (Fc.mono (Fc.t (F := [4]) (A := [9, 10]) (G := [2]) (((((((Fc.r.g rfl).f rfl).f rfl).f rfl).f rfl).f rfl).f rfl) (Fc.mono hF2 rfl rfl rfl)) rfl rfl rfl) (Fc.mono hF3.1 rfl rfl rfl)

def dX (K : KD) (a t y load : Nat) (s : Nat × List Nat) (m : Nat) : Nat := dutyS K (boatK K s.2) (savK K a t (s.1 + m)) y load
theorem dX_0 {a t y load : Nat} {s : Nat × List Nat} : dX K a t y load s 0 = dW K a t y load s := rfl
theorem getDw_mem {ws : List WY} {i : Nat} (h : i < ws.length) : ws.getD i wy0 ∈ ws := by
  rw [List.getD_eq_getElem?_getD, List.getElem?_eq_getElem h]
  exact List.getElem_mem _
section ASK
variable {a t y load : Nat}
theorem allW_b (ok : KOK K) (ha : a < kh K 0) {w : WY} (hw : w ∈ allW K y a t) : w.2.1 ≤ 774 ∧ (∀ l, l ∈ w.2.2 → LV K l) ∧ bitsC K w.2.2 < 2 ^ 9 ∧ w.1.length ≤ 7 ∧ 1 ≤ w.1.length ∧ (∀ p, p ∈ w.1 → p < kh K 0) := by
  have hp := (allW_pv ha hw).1
  have hs := PV_sb ok hp
  have hl := PV_len ok hp
  have h0 := (ok_h ok).1
  exact ⟨hs.1, hs.2.2, bitsC_lt ok hs.2.2, by omega, hp.1, hp.2.2.2.1⟩
theorem t_dutyOf (hk : RK M r K) (ha : a < kh K 0) (hy : y < 31) (hl : load ≤ 9) (hW : WR κ K r a t y load) {i m : Nat} (hi : i < (allW K y a t).length) (h3 : (allW K y a t).length ≤ 326) (hm : m ≤ 1000) : Ev (d + 9) md_82 0 [some (.ref 273), some (.int (nI i)), some (.int (nI m))] [] (cset M κ) (some (.int (nI (dX K a t y load ((allW K y a t).getD i wy0).2 m))), cset M κ) := by
  obtain ⟨ρ, hR, hK, hDC, ok, hr1, hr2⟩ := id hk
  obtain ⟨b0, b1, b2, b3, b4, b5, b6, b7, b8, b9, b10, b11, b12⟩ := ok_h ok
  have hRc : ∀ κ : CS, RA (cset M κ) r ρ := fun κ => RA_c hR hr1 hr2
  refine Wp.toEv ?_
  obtain ⟨w, hw⟩ : ∃ w, (allW K y a t).getD i wy0 = w := ⟨_, rfl⟩
  obtain ⟨n1, n2, n3, n4⟩ := hW.2.2 i hi
  have hb := allW_b ok ha (getDw_mem hi)
  rw [hw] at n2 n3 hb ⊢
  obtain ⟨hb1, hb2, hb3, _⟩ := hb
  have hnd : bitsC K w.2.2 &&& boatC K < 2 ^ 31 := Nat.lt_of_le_of_lt Nat.and_le_left (by omega)
  have hsv := savK_b ok (b := t) (len := w.2.1 + m) ha
  refine Wp.n (pc' := 1) 1 rfl ?_
  refine Wp.get (len := 3) rfl (rfl) rfl ?_
  refine Wp.n (pc' := 5) 1 rfl ?_
  refine Wp.ialdN (j := i) (len := 1) rfl (rfl) rfl (by omega) (by decide) ?_
  refine Wp.top n3 ?_
  refine Wp.n (pc' := 7) 1 rfl ?_
  refine Wp.get (len := 3) rfl (rfl) rfl ?_
  refine Wp.top hW.1.2.2.1 ?_
  refine Wp.n (pc' := 11) 1 rfl ?_
  refine Wp.top (n_and _ _) ?_
  refine Wp.nz0 (x := bitsC K w.2.2 &&& boatC K) (tgt := 16) (len := 3) rfl (by first | omega | exact hnd) (fun h11 => ?_) (fun h11 => ?_)
  · skip
    refine Wp.n (pc' := 17) 1 rfl ?_
    refine Wp.get (len := 3) rfl (rfl) rfl ?_
    refine Wp.topR hW.1.1 ?_
    refine Wp.get (len := 3) rfl (ra_obj (hRc _)) rfl ?_
    refine Wp.n (pc' := 24) 1 rfl ?_
    refine Wp.get (len := 3) rfl (rfl) rfl ?_
    refine Wp.top hW.1.2.1 ?_
    refine Wp.n (pc' := 28) 1 rfl ?_
    refine Wp.get (len := 3) rfl (rfl) rfl ?_
    refine Wp.n (pc' := 32) 1 rfl ?_
    refine Wp.ialdN (j := i) (len := 1) rfl (rfl) rfl (by omega) (by decide) ?_
    refine Wp.top n2 ?_
    refine Wp.n (pc' := 34) 1 rfl ?_
    refine Wp.iaddN (x := w.2.1) (y := m) (len := 1) rfl ?_
    refine Wp.ecallS (len := 3) rfl rfl rfl rfl (k_sparedOf ok ha (by omega)) ?_
    refine Wp.n (pc' := 39) 1 rfl ?_
    refine Wp.get (len := 3) rfl (rfl) rfl ?_
    refine Wp.top hW.1.2.2.2.2.2 ?_
    refine Wp.n (pc' := 43) 1 rfl ?_
    refine Wp.get (len := 3) rfl (rfl) rfl ?_
    refine Wp.top hW.1.2.2.2.2.1 ?_
    refine Wp.ecallV (len := 3) rfl rfl rfl (ra_law (hRc _)) rfl (by omega) rfl (k_dutyOn (hRc _) hK ok (by omega) hsv hl hy) ?_
    refine Wp.retI (len := 1) rfl rfl ?_
    unfold dX
    first
      | (have hbt : boatK K w.2.2 = false := (boatC_and ok hb2).mp h11
         rw [hbt]
         exact ⟨rfl, rfl⟩)
      | (have hbt : boatK K w.2.2 = true := Bool.of_not_eq_false (fun e => h11 ((boatC_and ok hb2).mpr e))
         rw [hbt]
         unfold dutyS
         rw [if_pos (Or.inl rfl)]
         exact ⟨rfl, rfl⟩)
  · skip
    refine Wp.n (pc' := 15) 1 rfl ?_
    refine Wp.retI (len := 1) rfl rfl ?_
    unfold dX
    first
      | (have hbt : boatK K w.2.2 = false := (boatC_and ok hb2).mp h11
         rw [hbt]
         exact ⟨rfl, rfl⟩)
      | (have hbt : boatK K w.2.2 = true := Bool.of_not_eq_false (fun e => h11 ((boatC_and ok hb2).mpr e))
         rw [hbt]
         unfold dutyS
         rw [if_pos (Or.inl rfl)]
         exact ⟨rfl, rfl⟩)

def cstW (K : KD) (a t y load : Nat) (w : WY) : Nat := cW K 2 (dW K a t y load w.2) w.2
theorem t_costOf (hk : RK M r K) (ha : a < kh K 0) (hy : y < 31) (hl : load ≤ 9) (hW : WR κ K r a t y load) {i : Nat} (hi : i < (allW K y a t).length) (h3 : (allW K y a t).length ≤ 326) : Ev (d + 10) md_81 0 [some (.ref 273), some (.int (nI i))] [] (cset M κ) (some (.int (nI (cstW K a t y load ((allW K y a t).getD i wy0)))), cset M κ) := by
  obtain ⟨ρ, hR, hK, hDC, ok, hr1, hr2⟩ := id hk
  obtain ⟨b0, b1, b2, b3, b4, b5, b6, b7, b8, b9, b10, b11, b12⟩ := ok_h ok
  have hRc : ∀ κ : CS, RA (cset M κ) r ρ := fun κ => RA_c hR hr1 hr2
  refine Wp.toEv ?_
  obtain ⟨n1, n2, n3, n4⟩ := hW.2.2 i hi
  refine Wp.n (pc' := 1) 1 rfl ?_
  refine Wp.get (len := 3) rfl (rfl) rfl ?_
  refine Wp.topR hW.1.1 ?_
  refine Wp.get (len := 3) rfl (ra_obj (hRc _)) rfl ?_
  refine Wp.get (len := 3) rfl (ra_law (hRc _)) rfl ?_
  refine Wp.top (rc_law hK (by omega) (j := 2) (by decide)) ?_
  refine Wp.n (pc' := 11) 1 rfl ?_
  refine Wp.get (len := 3) rfl (rfl) rfl ?_
  refine Wp.n (pc' := 15) 1 rfl ?_
  refine Wp.ialdN (j := i) (len := 1) rfl (rfl) rfl (by omega) (by decide) ?_
  refine Wp.top n2 ?_
  refine Wp.imulN (x := kh K 8) (y := ((allW K y a t).getD i wy0).2.1) (len := 1) rfl ?_
  refine Wp.n (pc' := 20) 3 rfl ?_
  refine Wp.ecallV (len := 3) rfl rfl rfl (rfl) rfl (by decide) rfl (t_dutyOf hk ha hy hl hW hi h3 (m := 0) (by decide)) ?_
  refine Wp.iaddN (x := (kh K 8) * (((allW K y a t).getD i wy0).2.1)) (y := dW K a t y load ((allW K y a t).getD i wy0).2) (len := 1) rfl ?_
  refine Wp.retI (len := 1) rfl rfl ?_
  exact ⟨rfl, rfl⟩

theorem fld_list {α β : Type} (g : β → α → β) (d0 : α) (l : List α) (c : β) : fld (fun c i => g c (l.getD i d0)) l.length 0 c = List.foldl g c l := by
  have h : ∀ n i c, i + n = l.length → fld (fun c i => g c (l.getD i d0)) n i c = List.foldl g c (l.drop i) := by
    intro n
    induction n with
    | zero => intro i c hi; rw [List.drop_eq_nil_of_le (by omega)]; rfl
    | succ n ih =>
      intro i c hi
      rw [List.drop_eq_getElem_cons (by omega : i < l.length), List.foldl_cons]
      show fld _ n (i + 1) (g c (l.getD i d0)) = _
      rw [ih (i + 1) _ (by omega), List.getD_eq_getElem?_getD, List.getElem?_eq_getElem (by omega : i < l.length)]
      rfl
  exact (h l.length 0 c (by omega)).trans (by rw [List.drop_zero])
def ltO (c : Option Nat) (x : Nat) : Bool := match c with | none => true | some z => decide (x < z)
def lst1 (P : WY → Bool) (c : Option Nat) (w : WY) : Option Nat := if P w = true ∧ ltO c w.2.1 = true then some w.2.1 else c
theorem t_least_l {ws : List WY} (hN : NT κ K ws) (h3 : ws.length ≤ 326) {sh : Nat} {P : WY → Bool} (hP : ∀ w, w ∈ ws → (bitsC K w.2.2 &&& sh = 0 ↔ P w = true)) (hb : ∀ w, w ∈ ws → w.2.1 ≤ 774 ∧ bitsC K w.2.2 < 2 ^ 9) : ∀ (n i : Nat) (c : Option Nat), i + n = ws.length → (∀ x, c = some x → x ≤ 774) → Wp d md_79 4 [some (.ref 273), some (.int (nI sh)), some (.int (oI c)), some (.int (nI i))] [] (cset M κ) (IsR (some (.int (oI (fld (fun c i => lst1 P c (ws.getD i wy0)) n i c)))) (cset M κ)) := by
  intro n
  induction n with
  | zero =>
    intro i c hi hc
    refine Wp.n (pc' := 6) 2 rfl ?_
    refine Wp.get (len := 3) rfl (rfl) rfl ?_
    refine Wp.top hN.1 ?_
    refine Wp.nc3 (x := i) (y := ws.length) (tgt := 51) (len := 3) rfl (by omega) (by omega) (fun h9 => ?_) (fun h9 => ?_)
    · skip
      refine Wp.n (pc' := 52) 1 rfl ?_
      refine Wp.retI (len := 1) rfl rfl ?_
      exact ⟨rfl, rfl⟩
    · omega
  | succ n ih =>
    intro i c hi hc
    obtain ⟨n1, n2, n3, n4⟩ := hN.2 i (by omega)
    have hm := getDw_mem (ws := ws) (i := i) (by omega)
    obtain ⟨w, hw⟩ : ∃ w, ws.getD i wy0 = w := ⟨_, rfl⟩
    rw [hw] at n2 n3 hm
    have hPw := hP w hm
    obtain ⟨hb1, hb2⟩ := hb w hm
    have hnd : bitsC K w.2.2 &&& sh < 2 ^ 31 := Nat.lt_of_le_of_lt Nat.and_le_left (by omega)
    have kk : ∀ c', lst1 P c w = c' → (∀ x, c' = some x → x ≤ 774) → Wp d md_79 4 [some (.ref 273), some (.int (nI sh)), some (.int (oI c')), some (.int (nI (i + 1)))] [] (cset M κ) (IsR (some (.int (oI (fld (fun c i => lst1 P c (ws.getD i wy0)) (n + 1) i c)))) (cset M κ)) := by
      intro c' e hc'
      show Wp _ _ _ _ _ _ (IsR (some (.int (oI (fld (fun c i => lst1 P c (ws.getD i wy0)) n (i + 1) (lst1 P c (ws.getD i wy0)))))) (cset M κ))
      rw [hw, e]
      exact ih (i + 1) c' (by omega) hc'
    refine Wp.n (pc' := 6) 2 rfl ?_
    refine Wp.get (len := 3) rfl (rfl) rfl ?_
    refine Wp.top hN.1 ?_
    refine Wp.nc3 (x := i) (y := ws.length) (tgt := 51) (len := 3) rfl (by first | omega | exact hnd) (by first | omega | exact hnd) (fun h9 => ?_) (fun h9 => ?_)
    · omega
    · skip
      refine Wp.n (pc' := 13) 1 rfl ?_
      refine Wp.get (len := 3) rfl (rfl) rfl ?_
      refine Wp.n (pc' := 17) 1 rfl ?_
      refine Wp.ialdN (j := i) (len := 1) rfl (rfl) rfl (by omega) (by decide) ?_
      refine Wp.top n3 ?_
      refine Wp.n (pc' := 20) 2 rfl ?_
      refine Wp.top (n_and _ _) ?_
      refine Wp.nz1 (x := bitsC K w.2.2 &&& sh) (tgt := 45) (len := 3) rfl (by first | omega | exact hnd) (fun h20 => ?_) (fun h20 => ?_)
      · skip
        refine Wp.incN (x := i) (len := 3) rfl rfl ?_
        refine Wp.n (pc' := 4) 1 rfl ?_
        first
          | (have e : lst1 P c w = c := if_neg (fun q => h20 (hPw.mpr q.1))
             exact kk c e hc)
          | (have e : lst1 P none w = some w.2.1 := if_pos ⟨hPw.mp h20, rfl⟩
             exact kk (some w.2.1) e (fun x hx => by cases hx; exact hb1))
          | (have e : lst1 P (some z) w = some z := if_neg (fun q => by have := of_decide_eq_true q.2; omega)
             exact kk (some z) e hc)
          | (have e : lst1 P (some z) w = some w.2.1 := if_pos ⟨hPw.mp h20, decide_eq_true h35⟩
             exact kk (some w.2.1) e (fun x hx => by cases hx; exact hb1))
      · skip
        rcases c with _ | z
        · skip
          refine Wp.n (pc' := 25) 2 rfl ?_
          refine Wp.ic0 (tgt := 38) (len := 3) rfl (fun h25 => ?_) (fun h25 => ?_)
          · skip
            refine Wp.n (pc' := 39) 1 rfl ?_
            refine Wp.get (len := 3) rfl (rfl) rfl ?_
            refine Wp.n (pc' := 43) 1 rfl ?_
            refine Wp.ialdN (j := i) (len := 1) rfl (rfl) rfl (by omega) (by decide) ?_
            refine Wp.top n2 ?_
            refine Wp.n (pc' := 45) 1 rfl ?_
            refine Wp.incN (x := i) (len := 3) rfl rfl ?_
            refine Wp.n (pc' := 4) 1 rfl ?_
            first
              | (have e : lst1 P c w = c := if_neg (fun q => h20 (hPw.mpr q.1))
                 exact kk c e hc)
              | (have e : lst1 P none w = some w.2.1 := if_pos ⟨hPw.mp h20, rfl⟩
                 exact kk (some w.2.1) e (fun x hx => by cases hx; exact hb1))
              | (have e : lst1 P (some z) w = some z := if_neg (fun q => by have := of_decide_eq_true q.2; omega)
                 exact kk (some z) e hc)
              | (have e : lst1 P (some z) w = some w.2.1 := if_pos ⟨hPw.mp h20, decide_eq_true h35⟩
                 exact kk (some w.2.1) e (fun x hx => by cases hx; exact hb1))
          · exact absurd rfl h25
        · have hz := hc z rfl
          refine Wp.n (pc' := 25) 2 rfl ?_
          refine Wp.ic0 (tgt := 38) (len := 3) rfl (fun h25 => ?_) (fun h25 => ?_)
          · exact absurd h25 (oI_ne (by omega))
          · skip
            refine Wp.n (pc' := 29) 1 rfl ?_
            refine Wp.get (len := 3) rfl (rfl) rfl ?_
            refine Wp.n (pc' := 33) 1 rfl ?_
            refine Wp.ialdN (j := i) (len := 1) rfl (rfl) rfl (by omega) (by decide) ?_
            refine Wp.top n2 ?_
            refine Wp.n (pc' := 35) 1 rfl ?_
            refine Wp.nc3 (x := w.2.1) (y := z) (tgt := 45) (len := 3) rfl (by first | omega | exact hnd) (by first | omega | exact hnd) (fun h35 => ?_) (fun h35 => ?_)
            · skip
              refine Wp.incN (x := i) (len := 3) rfl rfl ?_
              refine Wp.n (pc' := 4) 1 rfl ?_
              first
                | (have e : lst1 P c w = c := if_neg (fun q => h20 (hPw.mpr q.1))
                   exact kk c e hc)
                | (have e : lst1 P none w = some w.2.1 := if_pos ⟨hPw.mp h20, rfl⟩
                   exact kk (some w.2.1) e (fun x hx => by cases hx; exact hb1))
                | (have e : lst1 P (some z) w = some z := if_neg (fun q => by have := of_decide_eq_true q.2; omega)
                   exact kk (some z) e hc)
                | (have e : lst1 P (some z) w = some w.2.1 := if_pos ⟨hPw.mp h20, decide_eq_true h35⟩
                   exact kk (some w.2.1) e (fun x hx => by cases hx; exact hb1))
            · skip
              refine Wp.n (pc' := 39) 1 rfl ?_
              refine Wp.get (len := 3) rfl (rfl) rfl ?_
              refine Wp.n (pc' := 43) 1 rfl ?_
              refine Wp.ialdN (j := i) (len := 1) rfl (rfl) rfl (by omega) (by decide) ?_
              refine Wp.top n2 ?_
              refine Wp.n (pc' := 45) 1 rfl ?_
              refine Wp.incN (x := i) (len := 3) rfl rfl ?_
              refine Wp.n (pc' := 4) 1 rfl ?_
              first
                | (have e : lst1 P c w = c := if_neg (fun q => h20 (hPw.mpr q.1))
                   exact kk c e hc)
                | (have e : lst1 P none w = some w.2.1 := if_pos ⟨hPw.mp h20, rfl⟩
                   exact kk (some w.2.1) e (fun x hx => by cases hx; exact hb1))
                | (have e : lst1 P (some z) w = some z := if_neg (fun q => by have := of_decide_eq_true q.2; omega)
                   exact kk (some z) e hc)
                | (have e : lst1 P (some z) w = some w.2.1 := if_pos ⟨hPw.mp h20, decide_eq_true h35⟩
                   exact kk (some w.2.1) e (fun x hx => by cases hx; exact hb1))

theorem t_least {ws : List WY} (hN : NT κ K ws) (h3 : ws.length ≤ 326) {sh : Nat} {P : WY → Bool} (hP : ∀ w, w ∈ ws → (bitsC K w.2.2 &&& sh = 0 ↔ P w = true)) (hb : ∀ w, w ∈ ws → w.2.1 ≤ 774 ∧ bitsC K w.2.2 < 2 ^ 9) : Ev d md_79 0 [some (.ref 273), some (.int (nI sh)), none, none] [] (cset M κ) (some (.int (oI (List.foldl (lst1 P) none ws))), cset M κ) := by
  refine Wp.toEv ?_
  refine Wp.n (pc' := 4) 4 rfl ?_
  have w := t_least_l (d := d) (M := M) hN h3 hP hb ws.length 0 none (by omega) (fun x hx => by cases hx)
  rw [fld_list (lst1 P) wy0] at w
  exact w
/-- the search for the best -/
def bstC (K : KD) (a t y load : Nat) (ws : List WY) (c : Option Nat × Nat) (i : Nat) : Bool := match c.1 with | none => true | some b => decide (cstW K a t y load (ws.getD i wy0) < c.2 ∨ (cstW K a t y load (ws.getD i wy0) = c.2 ∧ (ws.getD i wy0).2.1 < (ws.getD b wy0).2.1))
def bst (K : KD) (a t y load : Nat) (ws : List WY) (c : Option Nat × Nat) (i : Nat) : Option Nat × Nat := if bstC K a t y load ws c i = true then (some i, cstW K a t y load (ws.getD i wy0)) else c
theorem cstW_b (ok : KOK K) (ha : a < kh K 0) (hl : load ≤ 9) {w : WY} (hw : w ∈ allW K y a t) : cstW K a t y load w ≤ 766260 := cW_b2 ok (allW_b ok ha hw).1 (dutyS_b ok (savK_b ok ha) hl)
theorem t_best_l (hk : RK M r K) (ha : a < kh K 0) (hy : y < 31) (hl : load ≤ 9) (hW : WR κ K r a t y load) (h3 : (allW K y a t).length ≤ 326) : ∀ (n i : Nat) (c : Option Nat × Nat) (z4 z5 : Option Value), i + n = (allW K y a t).length → (∀ b, c.1 = some b → b < (allW K y a t).length) → c.2 ≤ 766260 → Wp (d + 11) md_80 6 [some (.ref 273), some (.int (oI c.1)), some (.int (nI (c.2))), some (.int (nI i)), z4, z5] [] (cset M κ) (IsR (some (.int (oI (fld (bst K a t y load (allW K y a t)) n i c).1))) (cset M κ)) := by
  obtain ⟨ρ, hR, hK, hDC, ok, hr1, hr2⟩ := id hk
  obtain ⟨b0, b1, b2, b3, b4, b5, b6, b7, b8, b9, b10, b11, b12⟩ := ok_h ok
  have hRc : ∀ κ : CS, RA (cset M κ) r ρ := fun κ => RA_c hR hr1 hr2
  intro n
  induction n with
  | zero =>
    intro i c z4 z5 hi hc hc2
    refine Wp.n (pc' := 8) 2 rfl ?_
    refine Wp.get (len := 3) rfl (rfl) rfl ?_
    refine Wp.top hW.2.1 ?_
    refine Wp.nc3 (x := i) (y := (allW K y a t).length) (tgt := 76) (len := 3) rfl (by omega) (by omega) (fun h11 => ?_) (fun h11 => ?_)
    · skip
      refine Wp.n (pc' := 77) 1 rfl ?_
      refine Wp.retI (len := 1) rfl rfl ?_
      exact ⟨rfl, rfl⟩
    · omega
  | succ n ih =>
    intro i c z4 z5 hi hc hc2
    have hil : i < (allW K y a t).length := by omega
    obtain ⟨n1, n2, n3, n4⟩ := hW.2.2 i hil
    have hcb := cstW_b (load := load) ok ha hl (getDw_mem hil)
    have hib := (allW_b ok ha (getDw_mem hil)).1
    have kk : ∀ (c' : Option Nat × Nat) (z4 z5 : Option Value), bst K a t y load (allW K y a t) c i = c' → (∀ b, c'.1 = some b → b < (allW K y a t).length) → c'.2 ≤ 766260 → Wp (d + 11) md_80 6 [some (.ref 273), some (.int (oI c'.1)), some (.int (nI (c'.2))), some (.int (nI (i + 1))), z4, z5] [] (cset M κ) (IsR (some (.int (oI (fld (bst K a t y load (allW K y a t)) (n + 1) i c).1))) (cset M κ)) := by
      intro c' z4 z5 e h1 h2
      show Wp _ _ _ _ _ _ (IsR (some (.int (oI (fld (bst K a t y load (allW K y a t)) n (i + 1) (bst K a t y load (allW K y a t) c i)).1))) (cset M κ))
      rw [e]
      exact ih (i + 1) c' _ _ (by omega) h1 h2
    obtain ⟨cb, cl⟩ := c
    have hcn : ∀ b, bstC K a t y load (allW K y a t) (cb, cl) i = b → bst K a t y load (allW K y a t) (cb, cl) i = if b = true then (some i, cstW K a t y load ((allW K y a t).getD i wy0)) else (cb, cl) := fun b hb => by unfold bst; rw [hb]
    replace hc2 : cl ≤ 766260 := hc2
    refine Wp.n (pc' := 8) 2 rfl ?_
    refine Wp.get (len := 3) rfl (rfl) rfl ?_
    refine Wp.top hW.2.1 ?_
    refine Wp.nc3 (x := i) (y := (allW K y a t).length) (tgt := 76) (len := 3) rfl (by omega) (by omega) (fun h11 => ?_) (fun h11 => ?_)
    · omega
    · skip
      refine Wp.n (pc' := 16) 2 rfl ?_
      refine Wp.ecallV (len := 3) rfl rfl rfl (rfl) rfl (by decide) rfl (t_costOf hk ha hy hl hW hil h3) ?_
      refine Wp.n (pc' := 21) 1 rfl ?_
      rcases cb with _ | b
      · skip
        refine Wp.n (pc' := 23) 2 rfl ?_
        refine Wp.ic0 (tgt := 53) (len := 3) rfl (fun h23 => ?_) (fun h23 => ?_)
        · skip
          refine Wp.n (pc' := 62) 4 rfl ?_
          refine Wp.nz0 (x := 1) (tgt := 70) (len := 3) rfl (by omega) (fun h62 => ?_) (fun h62 => ?_)
          · omega
          · skip
            refine Wp.n (pc' := 70) 4 rfl ?_
            refine Wp.incN (x := i) (len := 3) rfl rfl ?_
            refine Wp.n (pc' := 6) 1 rfl ?_
            first
              | (have e := hcn true rfl
                 exact kk _ _ _ e (fun b hb => by cases hb; exact hil) hcb)
              | (have e := hcn true (decide_eq_true (Or.inl h29))
                 exact kk _ _ _ e (fun b hb => by cases hb; exact hil) hcb)
              | (have e := hcn true (decide_eq_true (Or.inr ⟨h35, h50⟩))
                 exact kk _ _ _ e (fun b hb => by cases hb; exact hil) hcb)
              | (have e := hcn false (decide_eq_false (fun q => by rcases q with q | q; exact absurd q (Nat.not_lt.mpr h29); exact h35 q.1))
                 exact kk _ _ _ e hc hc2)
              | (have e := hcn false (decide_eq_false (fun q => by rcases q with q | q; exact absurd q (Nat.not_lt.mpr h29); exact absurd q.2 (Nat.not_lt.mpr h50)))
                 exact kk _ _ _ e hc hc2)
        · exact absurd rfl h23
      · have hb := hc b rfl
        obtain ⟨m1, m2, m3, m4⟩ := hW.2.2 b hb
        have hbb := (allW_b ok ha (getDw_mem hb)).1
        refine Wp.n (pc' := 23) 2 rfl ?_
        refine Wp.ic0 (tgt := 53) (len := 3) rfl (fun h23 => ?_) (fun h23 => ?_)
        · exact absurd h23 (oI_ne (by omega))
        · skip
          refine Wp.n (pc' := 29) 2 rfl ?_
          refine Wp.nc2 (x := cstW K a t y load ((allW K y a t).getD i wy0)) (y := cl) (tgt := 53) (len := 3) rfl (by omega) (by omega) (fun h29 => ?_) (fun h29 => ?_)
          · skip
            refine Wp.n (pc' := 62) 4 rfl ?_
            refine Wp.nz0 (x := 1) (tgt := 70) (len := 3) rfl (by omega) (fun h62 => ?_) (fun h62 => ?_)
            · omega
            · skip
              refine Wp.n (pc' := 70) 4 rfl ?_
              refine Wp.incN (x := i) (len := 3) rfl rfl ?_
              refine Wp.n (pc' := 6) 1 rfl ?_
              first
                | (have e := hcn true rfl
                   exact kk _ _ _ e (fun b hb => by cases hb; exact hil) hcb)
                | (have e := hcn true (decide_eq_true (Or.inl h29))
                   exact kk _ _ _ e (fun b hb => by cases hb; exact hil) hcb)
                | (have e := hcn true (decide_eq_true (Or.inr ⟨h35, h50⟩))
                   exact kk _ _ _ e (fun b hb => by cases hb; exact hil) hcb)
                | (have e := hcn false (decide_eq_false (fun q => by rcases q with q | q; exact absurd q (Nat.not_lt.mpr h29); exact h35 q.1))
                   exact kk _ _ _ e hc hc2)
                | (have e := hcn false (decide_eq_false (fun q => by rcases q with q | q; exact absurd q (Nat.not_lt.mpr h29); exact absurd q.2 (Nat.not_lt.mpr h50)))
                   exact kk _ _ _ e hc hc2)
          · skip
            refine Wp.n (pc' := 35) 2 rfl ?_
            refine Wp.nc1 (x := cstW K a t y load ((allW K y a t).getD i wy0)) (y := cl) (tgt := 57) (len := 3) rfl (by omega) (by omega) (fun h35 => ?_) (fun h35 => ?_)
            · skip
              refine Wp.n (pc' := 62) 3 rfl ?_
              refine Wp.nz0 (x := 0) (tgt := 70) (len := 3) rfl (by omega) (fun h62 => ?_) (fun h62 => ?_)
              · skip
                refine Wp.incN (x := i) (len := 3) rfl rfl ?_
                refine Wp.n (pc' := 6) 1 rfl ?_
                first
                  | (have e := hcn true rfl
                     exact kk _ _ _ e (fun b hb => by cases hb; exact hil) hcb)
                  | (have e := hcn true (decide_eq_true (Or.inl h29))
                     exact kk _ _ _ e (fun b hb => by cases hb; exact hil) hcb)
                  | (have e := hcn true (decide_eq_true (Or.inr ⟨h35, h50⟩))
                     exact kk _ _ _ e (fun b hb => by cases hb; exact hil) hcb)
                  | (have e := hcn false (decide_eq_false (fun q => by rcases q with q | q; exact absurd q (Nat.not_lt.mpr h29); exact h35 q.1))
                     exact kk _ _ _ e hc hc2)
                  | (have e := hcn false (decide_eq_false (fun q => by rcases q with q | q; exact absurd q (Nat.not_lt.mpr h29); exact absurd q.2 (Nat.not_lt.mpr h50)))
                     exact kk _ _ _ e hc hc2)
              · omega
            · skip
              refine Wp.n (pc' := 39) 1 rfl ?_
              refine Wp.get (len := 3) rfl (rfl) rfl ?_
              refine Wp.n (pc' := 43) 1 rfl ?_
              refine Wp.ialdN (j := i) (len := 1) rfl (rfl) rfl (by omega) (by decide) ?_
              refine Wp.top n2 ?_
              refine Wp.n (pc' := 45) 1 rfl ?_
              refine Wp.get (len := 3) rfl (rfl) rfl ?_
              refine Wp.n (pc' := 49) 1 rfl ?_
              refine Wp.ialdN (j := b) (len := 1) rfl (rfl) rfl (by omega) (by decide) ?_
              refine Wp.top m2 ?_
              refine Wp.nc3 (x := ((allW K y a t).getD i wy0).2.1) (y := ((allW K y a t).getD b wy0).2.1) (tgt := 57) (len := 3) rfl (by omega) (by omega) (fun h50 => ?_) (fun h50 => ?_)
              · skip
                refine Wp.n (pc' := 62) 3 rfl ?_
                refine Wp.nz0 (x := 0) (tgt := 70) (len := 3) rfl (by omega) (fun h62 => ?_) (fun h62 => ?_)
                · skip
                  refine Wp.incN (x := i) (len := 3) rfl rfl ?_
                  refine Wp.n (pc' := 6) 1 rfl ?_
                  first
                    | (have e := hcn true rfl
                       exact kk _ _ _ e (fun b hb => by cases hb; exact hil) hcb)
                    | (have e := hcn true (decide_eq_true (Or.inl h29))
                       exact kk _ _ _ e (fun b hb => by cases hb; exact hil) hcb)
                    | (have e := hcn true (decide_eq_true (Or.inr ⟨h35, h50⟩))
                       exact kk _ _ _ e (fun b hb => by cases hb; exact hil) hcb)
                    | (have e := hcn false (decide_eq_false (fun q => by rcases q with q | q; exact absurd q (Nat.not_lt.mpr h29); exact h35 q.1))
                       exact kk _ _ _ e hc hc2)
                    | (have e := hcn false (decide_eq_false (fun q => by rcases q with q | q; exact absurd q (Nat.not_lt.mpr h29); exact absurd q.2 (Nat.not_lt.mpr h50)))
                       exact kk _ _ _ e hc hc2)
                · omega
              · skip
                refine Wp.n (pc' := 62) 4 rfl ?_
                refine Wp.nz0 (x := 1) (tgt := 70) (len := 3) rfl (by omega) (fun h62 => ?_) (fun h62 => ?_)
                · omega
                · skip
                  refine Wp.n (pc' := 70) 4 rfl ?_
                  refine Wp.incN (x := i) (len := 3) rfl rfl ?_
                  refine Wp.n (pc' := 6) 1 rfl ?_
                  first
                    | (have e := hcn true rfl
                       exact kk _ _ _ e (fun b hb => by cases hb; exact hil) hcb)
                    | (have e := hcn true (decide_eq_true (Or.inl h29))
                       exact kk _ _ _ e (fun b hb => by cases hb; exact hil) hcb)
                    | (have e := hcn true (decide_eq_true (Or.inr ⟨h35, h50⟩))
                       exact kk _ _ _ e (fun b hb => by cases hb; exact hil) hcb)
                    | (have e := hcn false (decide_eq_false (fun q => by rcases q with q | q; exact absurd q (Nat.not_lt.mpr h29); exact h35 q.1))
                       exact kk _ _ _ e hc hc2)
                    | (have e := hcn false (decide_eq_false (fun q => by rcases q with q | q; exact absurd q (Nat.not_lt.mpr h29); exact absurd q.2 (Nat.not_lt.mpr h50)))
                       exact kk _ _ _ e hc hc2)

def bstK (K : KD) (a t y load : Nat) : Option Nat := (fld (bst K a t y load (allW K y a t)) (allW K y a t).length 0 (none, 0)).1
theorem t_best (hk : RK M r K) (ha : a < kh K 0) (hy : y < 31) (hl : load ≤ 9) (hW : WR κ K r a t y load) (h3 : (allW K y a t).length ≤ 326) : Ev (d + 11) md_80 0 [some (.ref 273), none, none, none, none, none] [] (cset M κ) (some (.int (oI (bstK K a t y load))), cset M κ) := by
  refine Wp.toEv ?_
  refine Wp.n (pc' := 6) 6 rfl ?_
  exact t_best_l hk ha hy hl hW h3 (allW K y a t).length 0 (none, 0) none none (by omega) (fun b hb => by cases hb) (Nat.zero_le _)
def plO (ws : List WY) (c : Option Nat) (x : Int32) : Int32 := match c with | none => -1 | some b => if isN (ws.getD b wy0).1.length x = true then nI ((ws.getD b wy0).1.getD x.toNatClampNeg 0) else -1
theorem t_placeOf (ok : KOK K) (ha : a < kh K 0) (hW : WR κ K r a t y load) (h3 : (allW K y a t).length ≤ 326) {c : Option Nat} (hc : ∀ b, c = some b → b < (allW K y a t).length) (x : Int32) : Ev (d + 1) md_83 0 [some (.ref 273), some (.int (oI c)), some (.int x)] [] (cset M κ) (some (.int (plO (allW K y a t) c x)), cset M κ) := by
  have h0 := (ok_h ok).1
  refine Wp.toEv ?_
  rcases c with _ | b
  · skip
    refine Wp.n (pc' := 1) 1 rfl ?_
    refine Wp.if2 (tgt := 26) (len := 3) rfl (fun h1 => ?_) (fun h1 => ?_)
    · skip
      refine Wp.n (pc' := 27) 1 rfl ?_
      refine Wp.retI (len := 1) rfl rfl ?_
      exact ⟨rfl, rfl⟩
    · exact absurd (by decide) h1
  · have hb := hc b rfl
    obtain ⟨n1, n2, n3, n4⟩ := hW.2.2 b hb
    have hm := allW_b ok ha (getDw_mem hb)
    obtain ⟨w, hw⟩ : ∃ w, (allW K y a t).getD b wy0 = w := ⟨_, rfl⟩
    rw [hw] at n1 n4 hm
    obtain ⟨_, _, _, hm7, hm1, hmp⟩ := hm
    have h8 : ∀ x, x ∈ w.1 → x < 8 := fun x hx => by have := hmp x hx; omega
    have hrl : rowE w.1 < 2 ^ 31 := by
      have e1 := rowE_lt h8
      have e2 : 8 ^ w.1.length ≤ 8 ^ 7 := Nat.pow_le_pow_right (by decide) hm7
      omega
    show Wp _ _ _ _ _ _ (IsR (some (.int (if isN ((allW K y a t).getD b wy0).1.length x = true then nI (((allW K y a t).getD b wy0).1.getD x.toNatClampNeg 0) else -1))) (cset M κ))
    rw [hw]
    have en : isN w.1.length x = true ↔ ¬ x < 0 ∧ x < nI w.1.length := by
      unfold isN
      rw [decide_eq_true_iff, i_lt, i_lt, nI_toInt (by omega)]
      constructor
      · rintro ⟨p, q⟩
        exact ⟨fun c => by have c' : x.toInt < 0 := c; omega, q⟩
      · rintro ⟨p, q⟩
        have p' : ¬ x.toInt < 0 := p
        omega
    refine Wp.n (pc' := 1) 1 rfl ?_
    refine Wp.nz2 (x := b) (tgt := 26) (len := 3) rfl (by omega) ?_
    refine Wp.n (pc' := 6) 2 rfl ?_
    refine Wp.get (len := 3) rfl (rfl) rfl ?_
    refine Wp.top hW.2.1 ?_
    refine Wp.nc3 (x := b) (y := (allW K y a t).length) (tgt := 26) (len := 3) rfl (by omega) (by omega) (fun h9 => ?_) (fun h9 => ?_)
    · omega
    · skip
      refine Wp.n (pc' := 13) 1 rfl ?_
      refine Wp.if2 (tgt := 26) (len := 3) rfl (fun h13 => ?_) (fun h13 => ?_)
      · skip
        refine Wp.n (pc' := 27) 1 rfl ?_
        refine Wp.retI (len := 1) rfl rfl ?_
        first
          | exact ⟨rfl, rfl⟩
          | (rw [if_neg (fun q => (en.mp q).1 h13)]; exact ⟨rfl, rfl⟩)
          | (rw [if_neg (fun q => h23 (en.mp q).2)]; exact ⟨rfl, rfl⟩)
      · skip
        refine Wp.n (pc' := 18) 2 rfl ?_
        refine Wp.get (len := 3) rfl (rfl) rfl ?_
        refine Wp.n (pc' := 22) 1 rfl ?_
        refine Wp.ialdN (j := b) (len := 1) rfl (rfl) rfl (by omega) (by decide) ?_
        refine Wp.top n1 ?_
        refine Wp.ic2 (tgt := 28) (len := 3) rfl (fun h23 => ?_) (fun h23 => ?_)
        · skip
          obtain ⟨j, hj, rfl⟩ := isN_of (en.mpr ⟨h13, h23⟩)
          rw [if_pos (en.mpr ⟨h13, h23⟩), nI_clamp (by omega)]
          refine Wp.n (pc' := 29) 1 rfl ?_
          refine Wp.get (len := 3) rfl (rfl) rfl ?_
          refine Wp.n (pc' := 33) 1 rfl ?_
          refine Wp.ialdN (j := b) (len := 1) rfl (rfl) rfl (by omega) (by decide) ?_
          refine Wp.top n4 ?_
          refine Wp.n (pc' := 35) 1 rfl ?_
          refine Wp.ecallS (len := 3) rfl rfl rfl rfl (k_placeIn hrl (by omega)) ?_
          refine Wp.top (show _ = nI (w.1.getD j 0) from by rw [rowE_get h8 hj]) ?_
          refine Wp.retI (len := 1) rfl rfl ?_
          first
            | exact ⟨rfl, rfl⟩
            | (rw [if_neg (fun q => (en.mp q).1 h13)]; exact ⟨rfl, rfl⟩)
            | (rw [if_neg (fun q => h23 (en.mp q).2)]; exact ⟨rfl, rfl⟩)
        · skip
          refine Wp.n (pc' := 27) 1 rfl ?_
          refine Wp.retI (len := 1) rfl rfl ?_
          first
            | exact ⟨rfl, rfl⟩
            | (rw [if_neg (fun q => (en.mp q).1 h13)]; exact ⟨rfl, rfl⟩)
            | (rw [if_neg (fun q => h23 (en.mp q).2)]; exact ⟨rfl, rfl⟩)

def cnt1 (K : KD) (a t y load : Nat) (v : Int64) (c : Nat) (w : WY) : Nat := if lN (dW K a t y load w.2) = v then c + 1 else c
theorem t_count_l (hk : RK M r K) (ha : a < kh K 0) (hy : y < 31) (hl : load ≤ 9) (hW : WR κ K r a t y load) (h3 : (allW K y a t).length ≤ 326) (v : Int64) : ∀ (n i c : Nat), i + n = (allW K y a t).length → Wp (d + 10) md_84 5 [some (.ref 273), some (.long v), none, some (.int (nI c)), some (.int (nI i))] [] (cset M κ) (IsR (some (.int (nI (fld (fun c i => cnt1 K a t y load v c ((allW K y a t).getD i wy0)) n i c)))) (cset M κ)) := by
  obtain ⟨ρ, hR, hK, hDC, ok, hr1, hr2⟩ := id hk
  obtain ⟨b0, b1, b2, b3, b4, b5, b6, b7, b8, b9, b10, b11, b12⟩ := ok_h ok
  have hRc : ∀ κ : CS, RA (cset M κ) r ρ := fun κ => RA_c hR hr1 hr2
  intro n
  induction n with
  | zero =>
    intro i c hi
    refine Wp.n (pc' := 8) 2 rfl ?_
    refine Wp.get (len := 3) rfl (rfl) rfl ?_
    refine Wp.top hW.2.1 ?_
    refine Wp.nc3 (x := i) (y := (allW K y a t).length) (tgt := 41) (len := 3) rfl (by omega) (by omega) (fun h11 => ?_) (fun h11 => ?_)
    · skip
      refine Wp.n (pc' := 42) 1 rfl ?_
      refine Wp.retI (len := 1) rfl rfl ?_
      exact ⟨rfl, rfl⟩
    · omega
  | succ n ih =>
    intro i c hi
    have hil : i < (allW K y a t).length := by omega
    have hdb : dW K a t y load ((allW K y a t).getD i wy0).2 ≤ 689634 := dutyS_b ok (savK_b ok ha) hl
    show Wp _ _ _ _ _ _ (IsR (some (.int (nI (fld (fun c i => cnt1 K a t y load v c ((allW K y a t).getD i wy0)) n (i + 1) (cnt1 K a t y load v c ((allW K y a t).getD i wy0)))))) (cset M κ))
    refine Wp.n (pc' := 8) 2 rfl ?_
    refine Wp.get (len := 3) rfl (rfl) rfl ?_
    refine Wp.top hW.2.1 ?_
    refine Wp.nc3 (x := i) (y := (allW K y a t).length) (tgt := 41) (len := 3) rfl (by omega) (by omega) (fun h11 => ?_) (fun h11 => ?_)
    · omega
    · skip
      refine Wp.n (pc' := 19) 4 rfl ?_
      refine Wp.ecallV (len := 3) rfl rfl rfl (rfl) rfl (by decide) rfl (t_dutyOf hk ha hy hl hW hil h3 (m := 0) (by decide)) ?_
      refine Wp.i2lM (x := dW K a t y load ((allW K y a t).getD i wy0).2) (len := 1) rfl (by omega) ?_
      refine Wp.n (pc' := 25) 2 rfl ?_
      refine Wp.if1 (tgt := 32) (len := 3) rfl (fun h25 => ?_) (fun h25 => ?_)
      · skip
        refine Wp.n (pc' := 33) 1 rfl ?_
        refine Wp.iaddN (x := c) (y := 0) (len := 1) rfl ?_
        refine Wp.n (pc' := 35) 1 rfl ?_
        refine Wp.incN (x := i) (len := 3) rfl rfl ?_
        refine Wp.n (pc' := 5) 1 rfl ?_
        first
          | (have e : cnt1 K a t y load v c ((allW K y a t).getD i wy0) = c + 1 := if_pos ((cmp_eq _ _).mp h25)
             rw [e]
             exact ih (i + 1) (c + 1) (by omega))
          | (have e : cnt1 K a t y load v c ((allW K y a t).getD i wy0) = c := if_neg (fun q => h25 ((cmp_eq _ _).mpr q))
             rw [e]
             exact ih (i + 1) c (by omega))
      · skip
        refine Wp.n (pc' := 33) 2 rfl ?_
        refine Wp.iaddN (x := c) (y := 1) (len := 1) rfl ?_
        refine Wp.n (pc' := 35) 1 rfl ?_
        refine Wp.incN (x := i) (len := 3) rfl rfl ?_
        refine Wp.n (pc' := 5) 1 rfl ?_
        first
          | (have e : cnt1 K a t y load v c ((allW K y a t).getD i wy0) = c + 1 := if_pos ((cmp_eq _ _).mp h25)
             rw [e]
             exact ih (i + 1) (c + 1) (by omega))
          | (have e : cnt1 K a t y load v c ((allW K y a t).getD i wy0) = c := if_neg (fun q => h25 ((cmp_eq _ _).mpr q))
             rw [e]
             exact ih (i + 1) c (by omega))

theorem t_count (hk : RK M r K) (ha : a < kh K 0) (hy : y < 31) (hl : load ≤ 9) (hW : WR κ K r a t y load) (h3 : (allW K y a t).length ≤ 326) (v : Int64) : Ev (d + 10) md_84 0 [some (.ref 273), some (.long v), none, none, none] [] (cset M κ) (some (.int (nI (List.foldl (cnt1 K a t y load v) 0 (allW K y a t)))), cset M κ) := by
  refine Wp.toEv ?_
  refine Wp.n (pc' := 5) 4 rfl ?_
  have w := t_count_l (d := d) hk ha hy hl hW h3 v (allW K y a t).length 0 0 (by omega)
  rw [fld_list (cnt1 K a t y load v) wy0] at w
  exact w
def com1 (K : KD) (a t y load dn : Nat) (c : Option Nat) (w : WY) : Option Nat := if dW K a t y load w.2 = dn then some (match c with | none => bitsC K w.2.2 | some b => b &&& bitsC K w.2.2) else c
theorem t_common_l (hk : RK M r K) (ha : a < kh K 0) (hy : y < 31) (hl : load ≤ 9) (hW : WR κ K r a t y load) (h3 : (allW K y a t).length ≤ 326) {dn : Nat} (hdn : dn < 2 ^ 31) : ∀ (n i : Nat) (c : Option Nat), i + n = (allW K y a t).length → (∀ x, c = some x → x < 512) → Wp (d + 10) md_85 4 [some (.ref 273), some (.int (nI dn)), some (.int (oI c)), some (.int (nI i))] [] (cset M κ) (IsR (some (.int (oI (fld (fun c i => com1 K a t y load dn c ((allW K y a t).getD i wy0)) n i c)))) (cset M κ)) := by
  obtain ⟨ρ, hR, hK, hDC, ok, hr1, hr2⟩ := id hk
  obtain ⟨b0, b1, b2, b3, b4, b5, b6, b7, b8, b9, b10, b11, b12⟩ := ok_h ok
  have hRc : ∀ κ : CS, RA (cset M κ) r ρ := fun κ => RA_c hR hr1 hr2
  intro n
  induction n with
  | zero =>
    intro i c hi hc
    refine Wp.n (pc' := 6) 2 rfl ?_
    refine Wp.get (len := 3) rfl (rfl) rfl ?_
    refine Wp.top hW.2.1 ?_
    refine Wp.nc3 (x := i) (y := (allW K y a t).length) (tgt := 51) (len := 3) rfl (by omega) (by omega) (fun h9 => ?_) (fun h9 => ?_)
    · skip
      refine Wp.n (pc' := 52) 1 rfl ?_
      refine Wp.retI (len := 1) rfl rfl ?_
      exact ⟨rfl, rfl⟩
    · omega
  | succ n ih =>
    intro i c hi hc
    have hil : i < (allW K y a t).length := by omega
    obtain ⟨n1, n2, n3, n4⟩ := hW.2.2 i hil
    have hbl := (allW_b ok ha (getDw_mem hil)).2.2.1
    have hdb : dW K a t y load ((allW K y a t).getD i wy0).2 ≤ 689634 := dutyS_b ok (savK_b ok ha) hl
    show Wp _ _ _ _ _ _ (IsR (some (.int (oI (fld (fun c i => com1 K a t y load dn c ((allW K y a t).getD i wy0)) n (i + 1) (com1 K a t y load dn c ((allW K y a t).getD i wy0)))))) (cset M κ))
    refine Wp.n (pc' := 6) 2 rfl ?_
    refine Wp.get (len := 3) rfl (rfl) rfl ?_
    refine Wp.top hW.2.1 ?_
    refine Wp.nc3 (x := i) (y := (allW K y a t).length) (tgt := 51) (len := 3) rfl (by omega) (by omega) (fun h9 => ?_) (fun h9 => ?_)
    · omega
    · skip
      refine Wp.n (pc' := 15) 3 rfl ?_
      refine Wp.ecallV (len := 3) rfl rfl rfl (rfl) rfl (by decide) rfl (t_dutyOf hk ha hy hl hW hil h3 (m := 0) (by decide)) ?_
      refine Wp.n (pc' := 19) 1 rfl ?_
      refine Wp.nc1 (x := dW K a t y load ((allW K y a t).getD i wy0).2) (y := dn) (tgt := 45) (len := 3) rfl (by omega) (by omega) (fun h19 => ?_) (fun h19 => ?_)
      · skip
        refine Wp.incN (x := i) (len := 3) rfl rfl ?_
        refine Wp.n (pc' := 4) 1 rfl ?_
        first
          | (have e : com1 K a t y load dn c ((allW K y a t).getD i wy0) = c := if_neg h19
             rw [e]
             exact ih (i + 1) c (by omega) hc)
          | (have e : com1 K a t y load dn none ((allW K y a t).getD i wy0) = some (bitsC K ((allW K y a t).getD i wy0).2.2) := if_pos h19
             rw [e]
             exact ih (i + 1) (some (bitsC K ((allW K y a t).getD i wy0).2.2)) (by omega) (fun x hx => by cases hx; exact hbl))
          | (have e : com1 K a t y load dn (some b) ((allW K y a t).getD i wy0) = some (b &&& bitsC K ((allW K y a t).getD i wy0).2.2) := if_pos h19
             rw [e]
             exact ih (i + 1) (some (b &&& bitsC K ((allW K y a t).getD i wy0).2.2)) (by omega) (fun x hx => by cases hx; exact Nat.lt_of_le_of_lt Nat.and_le_left hz))
      · skip
        rcases c with _ | b
        · skip
          refine Wp.n (pc' := 24) 2 rfl ?_
          refine Wp.ic1 (tgt := 36) (len := 3) rfl (fun h24 => ?_) (fun h24 => ?_)
          · exact absurd rfl h24
          · skip
            refine Wp.n (pc' := 28) 1 rfl ?_
            refine Wp.get (len := 3) rfl (rfl) rfl ?_
            refine Wp.n (pc' := 32) 1 rfl ?_
            refine Wp.ialdN (j := i) (len := 1) rfl (rfl) rfl (by omega) (by decide) ?_
            refine Wp.top n3 ?_
            refine Wp.n (pc' := 45) 2 rfl ?_
            refine Wp.incN (x := i) (len := 3) rfl rfl ?_
            refine Wp.n (pc' := 4) 1 rfl ?_
            first
              | (have e : com1 K a t y load dn c ((allW K y a t).getD i wy0) = c := if_neg h19
                 rw [e]
                 exact ih (i + 1) c (by omega) hc)
              | (have e : com1 K a t y load dn none ((allW K y a t).getD i wy0) = some (bitsC K ((allW K y a t).getD i wy0).2.2) := if_pos h19
                 rw [e]
                 exact ih (i + 1) (some (bitsC K ((allW K y a t).getD i wy0).2.2)) (by omega) (fun x hx => by cases hx; exact hbl))
              | (have e : com1 K a t y load dn (some b) ((allW K y a t).getD i wy0) = some (b &&& bitsC K ((allW K y a t).getD i wy0).2.2) := if_pos h19
                 rw [e]
                 exact ih (i + 1) (some (b &&& bitsC K ((allW K y a t).getD i wy0).2.2)) (by omega) (fun x hx => by cases hx; exact Nat.lt_of_le_of_lt Nat.and_le_left hz))
        · have hz := hc b rfl
          refine Wp.n (pc' := 24) 2 rfl ?_
          refine Wp.ic1 (tgt := 36) (len := 3) rfl (fun h24 => ?_) (fun h24 => ?_)
          · skip
            refine Wp.n (pc' := 38) 2 rfl ?_
            refine Wp.get (len := 3) rfl (rfl) rfl ?_
            refine Wp.n (pc' := 42) 1 rfl ?_
            refine Wp.ialdN (j := i) (len := 1) rfl (rfl) rfl (by omega) (by decide) ?_
            refine Wp.top n3 ?_
            refine Wp.n (pc' := 44) 1 rfl ?_
            refine Wp.top (n_and _ _) ?_
            refine Wp.n (pc' := 45) 1 rfl ?_
            refine Wp.incN (x := i) (len := 3) rfl rfl ?_
            refine Wp.n (pc' := 4) 1 rfl ?_
            first
              | (have e : com1 K a t y load dn c ((allW K y a t).getD i wy0) = c := if_neg h19
                 rw [e]
                 exact ih (i + 1) c (by omega) hc)
              | (have e : com1 K a t y load dn none ((allW K y a t).getD i wy0) = some (bitsC K ((allW K y a t).getD i wy0).2.2) := if_pos h19
                 rw [e]
                 exact ih (i + 1) (some (bitsC K ((allW K y a t).getD i wy0).2.2)) (by omega) (fun x hx => by cases hx; exact hbl))
              | (have e : com1 K a t y load dn (some b) ((allW K y a t).getD i wy0) = some (b &&& bitsC K ((allW K y a t).getD i wy0).2.2) := if_pos h19
                 rw [e]
                 exact ih (i + 1) (some (b &&& bitsC K ((allW K y a t).getD i wy0).2.2)) (by omega) (fun x hx => by cases hx; exact Nat.lt_of_le_of_lt Nat.and_le_left hz))
          · exact absurd h24 (oI_ne (by omega))

theorem t_common (hk : RK M r K) (ha : a < kh K 0) (hy : y < 31) (hl : load ≤ 9) (hW : WR κ K r a t y load) (h3 : (allW K y a t).length ≤ 326) {dn : Nat} (hdn : dn < 2 ^ 31) : Ev (d + 10) md_85 0 [some (.ref 273), some (.int (nI dn)), none, none] [] (cset M κ) (some (.int (oI (List.foldl (com1 K a t y load dn) none (allW K y a t)))), cset M κ) := by
  refine Wp.toEv ?_
  refine Wp.n (pc' := 4) 4 rfl ?_
  have w := t_common_l (d := d) hk ha hy hl hW h3 hdn (allW K y a t).length 0 none (by omega) (fun x hx => by cases hx)
  rw [fld_list (com1 K a t y load dn) wy0] at w
  exact w
def canP (K : KD) (a t y load lb m dn : Nat) (w : WY) : Bool := decide (bitsC K w.2.2 &&& lb ≠ 0 ∧ dX K a t y load w.2 m = dn)
theorem t_can_l (hk : RK M r K) (ha : a < kh K 0) (hy : y < 31) (hl : load ≤ 9) (hW : WR κ K r a t y load) (h3 : (allW K y a t).length ≤ 326) {lb m dn : Nat} (hdn : dn < 2 ^ 31) (hm : m ≤ 1000) : ∀ (n i : Nat), i + n = (allW K y a t).length → Wp (d + 10) md_86 3 [some (.ref 273), some (.int (nI lb)), some (.int (nI m)), some (.int (nI dn)), some (.int (nI i))] [] (cset M κ) (IsR (some (.int (bI ((fnd (fun i => canP K a t y load lb m dn ((allW K y a t).getD i wy0)) n i).isSome)))) (cset M κ)) := by
  obtain ⟨ρ, hR, hK, hDC, ok, hr1, hr2⟩ := id hk
  obtain ⟨b0, b1, b2, b3, b4, b5, b6, b7, b8, b9, b10, b11, b12⟩ := ok_h ok
  have hRc : ∀ κ : CS, RA (cset M κ) r ρ := fun κ => RA_c hR hr1 hr2
  intro n
  induction n with
  | zero =>
    intro i hi
    refine Wp.n (pc' := 6) 2 rfl ?_
    refine Wp.get (len := 3) rfl (rfl) rfl ?_
    refine Wp.top hW.2.1 ?_
    refine Wp.nc3 (x := i) (y := (allW K y a t).length) (tgt := 43) (len := 3) rfl (by omega) (by omega) (fun h9 => ?_) (fun h9 => ?_)
    · skip
      refine Wp.n (pc' := 44) 1 rfl ?_
      refine Wp.retZ (len := 1) (c := false) rfl rfl rfl ?_
      exact ⟨rfl, rfl⟩
    · omega
  | succ n ih =>
    intro i hi
    have hil : i < (allW K y a t).length := by omega
    obtain ⟨n1, n2, n3, n4⟩ := hW.2.2 i hil
    have hbl := (allW_b ok ha (getDw_mem hil)).2.2.1
    have hdb : dX K a t y load ((allW K y a t).getD i wy0).2 m ≤ 689634 := dutyS_b ok (savK_b ok ha) hl
    have hnd : bitsC K ((allW K y a t).getD i wy0).2.2 &&& lb < 2 ^ 31 := Nat.lt_of_le_of_lt Nat.and_le_left (by omega)
    rw [show fnd (fun i => canP K a t y load lb m dn ((allW K y a t).getD i wy0)) (n + 1) i = if canP K a t y load lb m dn ((allW K y a t).getD i wy0) = true then some i else fnd (fun i => canP K a t y load lb m dn ((allW K y a t).getD i wy0)) n (i + 1) from rfl]
    refine Wp.n (pc' := 6) 2 rfl ?_
    refine Wp.get (len := 3) rfl (rfl) rfl ?_
    refine Wp.top hW.2.1 ?_
    refine Wp.nc3 (x := i) (y := (allW K y a t).length) (tgt := 43) (len := 3) rfl (by first | omega | exact hnd) (by first | omega | exact hnd) (fun h9 => ?_) (fun h9 => ?_)
    · omega
    · skip
      refine Wp.n (pc' := 13) 1 rfl ?_
      refine Wp.get (len := 3) rfl (rfl) rfl ?_
      refine Wp.n (pc' := 18) 1 rfl ?_
      refine Wp.ialdN (j := i) (len := 1) rfl (rfl) rfl (by omega) (by decide) ?_
      refine Wp.top n3 ?_
      refine Wp.n (pc' := 21) 2 rfl ?_
      refine Wp.top (n_and _ _) ?_
      refine Wp.nz0 (x := bitsC K ((allW K y a t).getD i wy0).2.2 &&& lb) (tgt := 37) (len := 3) rfl (by first | omega | exact hnd) (fun h21 => ?_) (fun h21 => ?_)
      · skip
        refine Wp.incN (x := i) (len := 3) rfl rfl ?_
        refine Wp.n (pc' := 3) 1 rfl ?_
        first
          | (rw [if_neg (show ¬ canP K a t y load lb m dn ((allW K y a t).getD i wy0) = true from fun q => (of_decide_eq_true q).1 h21)]
             exact ih (i + 1) (by omega))
          | (rw [if_neg (show ¬ canP K a t y load lb m dn ((allW K y a t).getD i wy0) = true from fun q => h32 (of_decide_eq_true q).2)]
             exact ih (i + 1) (by omega))
      · skip
        refine Wp.n (pc' := 28) 3 rfl ?_
        refine Wp.ecallV (len := 3) rfl rfl rfl (rfl) rfl (by decide) rfl (t_dutyOf hk ha hy hl hW hil h3 hm) ?_
        refine Wp.n (pc' := 32) 1 rfl ?_
        refine Wp.nc1 (x := dX K a t y load ((allW K y a t).getD i wy0).2 m) (y := dn) (tgt := 37) (len := 3) rfl (by first | omega | exact hnd) (by first | omega | exact hnd) (fun h32 => ?_) (fun h32 => ?_)
        · skip
          refine Wp.incN (x := i) (len := 3) rfl rfl ?_
          refine Wp.n (pc' := 3) 1 rfl ?_
          first
            | (rw [if_neg (show ¬ canP K a t y load lb m dn ((allW K y a t).getD i wy0) = true from fun q => (of_decide_eq_true q).1 h21)]
               exact ih (i + 1) (by omega))
            | (rw [if_neg (show ¬ canP K a t y load lb m dn ((allW K y a t).getD i wy0) = true from fun q => h32 (of_decide_eq_true q).2)]
               exact ih (i + 1) (by omega))
        · skip
          refine Wp.n (pc' := 36) 1 rfl ?_
          refine Wp.retZ (len := 1) (c := true) rfl rfl rfl ?_
          rw [if_pos (show canP K a t y load lb m dn ((allW K y a t).getD i wy0) = true from decide_eq_true ⟨h21, h32⟩)]
          exact ⟨rfl, rfl⟩

theorem fnd_any {p : Nat → Bool} : ∀ (n i : Nat), (fnd p n i).isSome = true ↔ ∃ j, i ≤ j ∧ j < i + n ∧ p j = true := by
  intro n i
  constructor
  · intro h
    cases e : fnd p n i with
    | none => rw [e] at h; cases h
    | some j => exact ⟨j, fnd_lt e⟩
  · rintro ⟨j, h1, h2, h3⟩
    obtain ⟨k, hk⟩ := fnd_some h1 h2 h3
    rw [hk]
    rfl
theorem t_can (hk : RK M r K) (ha : a < kh K 0) (hy : y < 31) (hl : load ≤ 9) (hW : WR κ K r a t y load) (h3 : (allW K y a t).length ≤ 326) {lb m dn : Nat} (hdn : dn < 2 ^ 31) (hm : m ≤ 1000) : Ev (d + 10) md_86 0 [some (.ref 273), some (.int (nI lb)), some (.int (nI m)), some (.int (nI dn)), none] [] (cset M κ) (some (.int (bI ((allW K y a t).any (canP K a t y load lb m dn)))), cset M κ) := by
  refine Wp.toEv ?_
  refine Wp.n (pc' := 3) 2 rfl ?_
  have w := t_can_l (d := d) (lb := lb) hk ha hy hl hW h3 hdn hm (allW K y a t).length 0 (by omega)
  have e : (fnd (fun i => canP K a t y load lb m dn ((allW K y a t).getD i wy0)) (allW K y a t).length 0).isSome = (allW K y a t).any (canP K a t y load lb m dn) := by
    rw [Bool.eq_iff_iff, fnd_any, List.any_eq_true]
    constructor
    · rintro ⟨j, h1, h2, h4⟩
      exact ⟨_, getDw_mem (by omega), h4⟩
    · rintro ⟨x, hx, h4⟩
      obtain ⟨j, hj, hjx⟩ := List.getElem_of_mem hx
      refine ⟨j, Nat.zero_le _, by omega, ?_⟩
      rw [List.getD_eq_getElem?_getD, List.getElem?_eq_getElem hj]
      show canP K a t y load lb m dn ((allW K y a t)[j]) = true
      rw [hjx]
      exact h4
  rw [e] at w
  exact w
end ASK
end WAYS2
end
