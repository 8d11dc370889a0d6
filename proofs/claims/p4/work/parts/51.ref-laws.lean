/-! OTHER LAWS, WHAT WAS PAID, WATCHERS, THE HIDDEN LANE: the reference. -/
def takeK (K : KD) : Nat := fld (sumD K (-1) (-1)) (kh K 4) 0 0
theorem sumD_b {K : KD} (ok : KOK K) {who y : Int32} : ∀ (n w s : Nat), w + n ≤ kh K 4 → fld (sumD K who y) n w s ≤ s + n * 689634
  | 0, _, _, _ => by show _ ≤ _; rw [Nat.zero_mul]; exact Nat.le_refl _
  | n + 1, w, s, h => by
    have h1 := sumD_b ok (who := who) (y := y) n (w + 1) (sumD K who y s w) (by omega)
    have h2 := dutW_b ok (w := w) (by omega)
    have h3 : sumD K who y s w ≤ s + 689634 := by
      unfold sumD
      cases cntW K who y w
      · show s ≤ _; omega
      · show s + dutW K w ≤ _; omega
    show fld (sumD K who y) n (w + 1) (sumD K who y s w) ≤ _
    rw [Nat.add_mul]
    omega
theorem takeK_b {K : KD} (ok : KOK K) : takeK K ≤ 6896340 := by
  have h := sumD_b ok (who := -1) (y := -1) (kh K 4) 0 0 (by omega)
  have b4 := (ok_h ok).2.2.2.2.1
  have := Nat.mul_le_mul_right 689634 b4
  unfold takeK
  omega
section LAWS
variable {d : Nat} {M : AM} {σ σ' : MS} {K : KD} {Q : Option Value → AM → Prop}
theorem laws_rep (h : RepM σ 0 K) {r f : Nat} : RepM (aset σ 7 (upd (upd (σ.2.2.1 7) 0 (nI r)) 1 (nI f))) 0 (lawsK K r f) := by
  refine ⟨fun j hj => ?_, fun h0 j hj => ?_, h.2.2.1, h.2.2.2.1, h.2.2.2.2.1, h.2.2.2.2.2.1, h.2.2.2.2.2.2⟩
  · rw [show kh (lawsK K r f) j = kh K j from (if_neg (by omega)).trans (if_neg (by omega))]
    exact h.1 j hj
  · rw [aset_get]
    have h1 := h.2.1 h0 j hj
    match j, hj with
    | 0, _ => rfl
    | 1, _ => rfl
    | 2, _ => exact h1
    | 3, _ => exact h1
    | 4, _ => exact h1
theorem Scr_7 {g : Nat → Int32} (h : Scr (aset σ 7 g) σ') : Scr σ (aset σ' 7 (σ.2.2.1 7)) := by
  refine ⟨h.1, fun k hk => ?_, h.2.2.1, h.2.2.2⟩
  by_cases c : k = 7
  · subst c; rw [aset_get]
  · show va_up σ'.2.2.1 7 _ k = _
    rw [va_up_ne _ _ c, h.2.1 k hk]
    exact va_up_ne _ _ c
theorem m_takingsBy (hM : MK σ K) {r f : Nat} (hr : r ≤ 99) (hf : f ≤ 99) : Wp (d + 6) md_248 0 [some (.ref 287), some (.int (nI r)), some (.int (nI f)), none, none, none] [] (mset M σ) (RI M σ (nI (takeK (lawsK K r f)))) := by
  have ok := hM.2.1
  have hσ0 := hM.2.2.2
  obtain ⟨b0, b1, b2, b3, b4, b5, b6, b7, b8, b9, b10, b11, b12⟩ := ok_h ok
  refine Wp.n (pc' := 5) 3 rfl ?_
  refine Wp.mialdN (j := 0) (len := 1) rfl rfl rfl (by omega) ?_
  refine Wp.n (pc' := 12) 4 rfl ?_
  refine Wp.mialdN (j := 1) (len := 1) rfl rfl rfl (by omega) ?_
  refine Wp.n (pc' := 21) 5 rfl ?_
  refine Wp.miastN (j := 0) (len := 1) rfl rfl rfl (by omega) ?_
  refine Wp.n (pc' := 28) 4 rfl ?_
  refine Wp.miastN (j := 1) (len := 1) rfl rfl rfl (by omega) ?_
  refine Wp.n (pc' := 32) 3 rfl ?_
  refine Wp.callV (len := 3) rfl rfl rfl (rfl) rfl (by decide) rfl (by
    have e : aset (aset σ 7 (upd (σ.2.2.1 7) 0 (nI r))) 7 (upd ((aset σ 7 (upd (σ.2.2.1 7) 0 (nI r))).2.2.1 7) 1 (nI f)) = aset σ 7 (upd (upd (σ.2.2.1 7) 0 (nI r)) 1 (nI f)) := by rw [aset_get, aset_aset]
    rw [e]
    exact m_sumOf (K := lawsK K r f) ⟨laws_rep hM.1, lawsK_ok ok hr hf, hM.2.2.1, hσ0⟩ (-1) (-1)) ?_
  rintro _ _ ⟨rfl, τ, rfl, hS⟩
  refine Wp.n (pc' := 43) 5 rfl ?_
  refine Wp.miastN (j := 0) (len := 1) rfl rfl rfl (by omega) ?_
  refine Wp.n (pc' := 51) 4 rfl ?_
  refine Wp.miastN (j := 1) (len := 1) rfl rfl rfl (by omega) ?_
  refine Wp.n (pc' := 54) 1 rfl ?_
  refine Wp.retI (len := 1) rfl rfl ?_
  have e7 : τ.2.2.1 7 = upd (upd (σ.2.2.1 7) 0 (nI r)) 1 (nI f) := (hS.2.1 7 rfl).trans aset_get
  have e : aset (aset τ 7 (upd (τ.2.2.1 7) 0 (σ.2.2.1 7 0))) 7 (upd ((aset τ 7 (upd (τ.2.2.1 7) 0 (σ.2.2.1 7 0))).2.2.1 7) 1 (σ.2.2.1 7 1)) = aset τ 7 (σ.2.2.1 7) := by
    rw [aset_get, aset_aset, e7]
    congr 1
    funext j
    by_cases c1 : j = 1
    · rw [c1, pk_us]
    · by_cases c0 : j = 0
      · rw [c0, pk_un (by decide), pk_us]
      · rw [pk_un c1, pk_un c0, pk_un c1, pk_un c0]
  rw [e]
  exact RI_s (Scr_7 hS) rfl

def byA (K : KD) (x y : Int32) : Int32 := if 0 < kh K 0 ∧ isN 100 x = true ∧ isN 100 y = true then nI (takeK (lawsK K x.toNatClampNeg y.toNatClampNeg)) else -2
theorem e99 : (99 : Int64).toInt + 1 = ((100 : Nat) : Int) := by decide
theorem m_inN {k : Nat} {hi : Int64} (x : Int32) (h : hi.toInt + 1 = (k : Int)) : Ev d md_152 0 [some (.long x.toInt64), none, some (.long 0), none, some (.long hi), none] [] M (some (.int (bI (isN k x))), M) := by
  have w := m_in (d := d) (M := M) x.toInt64 0 hi
  rw [in_isN h] at w
  exact w
theorem m_by (hM : MK σ K) (x y : Int32) : Wp (d + 7) md_247 0 [some (.ref 287), some (.int x), some (.int y)] [] (mset M σ) (RI M σ (byA K x y)) := by
  have ok := hM.2.1
  have hσ0 := hM.2.2.2
  obtain ⟨b0, b1, b2, b3, b4, b5, b6, b7, b8, b9, b10, b11, b12⟩ := ok_h ok
  unfold byA
  refine Wp.n (pc' := 2) 2 rfl ?_
  refine Wp.mput0 (len := 3) rfl hσ0 ?_
  refine Wp.n (pc' := 6) 1 rfl ?_
  refine Wp.ecallV (len := 3) rfl rfl rfl (rfl) rfl (by decide) rfl (m_isKingdom hM.1 ok) ?_
  refine Wp.ifb0 (tgt := 45) (len := 3) rfl (fun h9 => ?_) (fun h9 => ?_)
  · skip
    refine Wp.n (pc' := 47) 1 rfl ?_
    refine Wp.retI (len := 1) rfl rfl ?_
    first
      | exact RI_s hS rfl
      | (rw [if_neg (fun q => of_decide_eq_false h9 q.1)]; exact RI_r rfl)
      | (rw [if_neg (fun q => by rw [h21] at q; exact absurd q.2.1 (by decide))]; exact RI_r rfl)
      | (rw [if_neg (fun q => by rw [h33] at q; exact absurd q.2.2 (by decide))]; exact RI_r rfl)
  · skip
    refine Wp.n (pc' := 18) 4 rfl ?_
    refine Wp.ecallS (len := 3) rfl rfl rfl rfl (m_inN x e99) ?_
    refine Wp.ifb0 (tgt := 45) (len := 3) rfl (fun h21 => ?_) (fun h21 => ?_)
    · skip
      refine Wp.n (pc' := 47) 1 rfl ?_
      refine Wp.retI (len := 1) rfl rfl ?_
      first
        | exact RI_s hS rfl
        | (rw [if_neg (fun q => of_decide_eq_false h9 q.1)]; exact RI_r rfl)
        | (rw [if_neg (fun q => by rw [h21] at q; exact absurd q.2.1 (by decide))]; exact RI_r rfl)
        | (rw [if_neg (fun q => by rw [h33] at q; exact absurd q.2.2 (by decide))]; exact RI_r rfl)
    · skip
      refine Wp.n (pc' := 30) 4 rfl ?_
      refine Wp.ecallS (len := 3) rfl rfl rfl rfl (m_inN y e99) ?_
      refine Wp.ifb0 (c := isN 100 y) (d := d + 7) (X := md_247) (pc := 33) (st := []) (tgt := 45) (len := 3) rfl (fun h33 => ?_) (fun h33 => ?_)
      · skip
        refine Wp.n (pc' := 47) 1 rfl ?_
        refine Wp.retI (len := 1) rfl rfl ?_
        first
          | exact RI_s hS rfl
          | (rw [if_neg (fun q => of_decide_eq_false h9 q.1)]; exact RI_r rfl)
          | (rw [if_neg (fun q => by rw [h21] at q; exact absurd q.2.1 (by decide))]; exact RI_r rfl)
          | (rw [if_neg (fun q => by rw [h33] at q; exact absurd q.2.2 (by decide))]; exact RI_r rfl)
      · skip
        obtain ⟨r, hr, rfl⟩ := isN_of h21
        obtain ⟨f, hf, rfl⟩ := isN_of h33
        rw [if_pos ⟨of_decide_eq_true h9, h21, h33⟩, nI_clamp (by omega), nI_clamp (by omega)]
        refine Wp.n (pc' := 39) 3 rfl ?_
        refine Wp.callV (len := 3) rfl rfl rfl (rfl) rfl (by decide) rfl (m_takingsBy hM (by omega) (by omega)) ?_
        rintro _ _ ⟨rfl, τ, rfl, hS⟩
        refine Wp.n (pc' := 47) 1 rfl ?_
        refine Wp.retI (len := 1) rfl rfl ?_
        first
          | exact RI_s hS rfl
          | (rw [if_neg (fun q => of_decide_eq_false h9 q.1)]; exact RI_r rfl)
          | (rw [if_neg (fun q => by rw [h21] at q; exact absurd q.2.1 (by decide))]; exact RI_r rfl)
          | (rw [if_neg (fun q => by rw [h33] at q; exact absurd q.2.2 (by decide))]; exact RI_r rfl)

def rateP (K : KD) (m r : Nat) : Bool := decide (m ≤ takeK (lawsK K r (kh K 7)))
def rateA (K : KD) (x : Int32) : Int32 := if 0 < kh K 0 ∧ isR 1 999999 x = true then oI (fnd (rateP K x.toNatClampNeg) 100 0) else -2
theorem m_rate_l (hM : MK σ K) (h0 : 0 < kh K 0) {m : Nat} (hm : m ≤ 999999) : ∀ (n r : Nat) (τ : MS), r + n = 100 → Scr σ τ → Wp (d + 7) md_249 29 [some (.ref 287), some (.int (nI m)), some (.int (nI r))] [] (mset M τ) (RI M σ (oI (fnd (rateP K m) n r))) := by
  have ok := hM.2.1
  have hσ0 := hM.2.2.2
  obtain ⟨b0, b1, b2, b3, b4, b5, b6, b7, b8, b9, b10, b11, b12⟩ := ok_h ok
  intro n
  induction n with
  | zero =>
    intro r τ hr hS
    refine Wp.n (pc' := 32) 2 rfl ?_
    refine Wp.nc4 (x := r) (y := 99) (tgt := 58) (len := 3) rfl (by omega) (by omega) (fun h32 => ?_) (fun h32 => ?_)
    · skip
      refine Wp.n (pc' := 59) 1 rfl ?_
      refine Wp.retI (len := 1) rfl rfl ?_
      exact RI_s hS rfl
    · omega
  | succ n ih =>
    intro r τ hr hS
    have hK := MK_scr hM hS
    have hb := takeK_b (lawsK_ok ok (r := r) (f := kh K 7) (by omega) b7)
    rw [show fnd (rateP K m) (n + 1) r = if rateP K m r = true then some r else fnd (rateP K m) n (r + 1) from rfl]
    refine Wp.n (pc' := 32) 2 rfl ?_
    refine Wp.nc4 (x := r) (y := 99) (tgt := 58) (len := 3) rfl (by omega) (by omega) (fun h32 => ?_) (fun h32 => ?_)
    · omega
    · skip
      refine Wp.n (pc' := 42) 5 rfl ?_
      refine Wp.mialdN (j := 1) (len := 1) rfl rfl rfl (by omega) ?_
      refine Wp.top (r0_law hK.1 h0 (j := 1) (by decide)) ?_
      refine Wp.callV (len := 3) rfl rfl rfl (rfl) rfl (by decide) rfl (m_takingsBy hK (r := r) (f := kh K 7) (by omega) b7) ?_
      rintro _ _ ⟨rfl, τ2, rfl, hS2⟩
      refine Wp.n (pc' := 47) 1 rfl ?_
      refine Wp.nc2 (x := takeK (lawsK K r (kh K 7))) (y := m) (tgt := 52) (len := 3) rfl (by omega) (by omega) (fun h47 => ?_) (fun h47 => ?_)
      · skip
        refine Wp.incN (x := r) (len := 3) rfl rfl ?_
        refine Wp.n (pc' := 29) 1 rfl ?_
        rw [if_neg (show ¬ rateP K m r = true from fun q => by have := of_decide_eq_true q; omega)]
        exact ih (r + 1) τ2 (by omega) (Scr_t hS hS2)
      · skip
        refine Wp.n (pc' := 51) 1 rfl ?_
        refine Wp.retI (len := 1) rfl rfl ?_
        rw [if_pos (show rateP K m r = true from decide_eq_true (by omega))]
        exact RI_s (Scr_t hS hS2) rfl

theorem m_rate (hM : MK σ K) (x : Int32) : Wp (d + 7) md_249 0 [some (.ref 287), some (.int x), none] [] (mset M σ) (RI M σ (rateA K x)) := by
  have ok := hM.2.1
  have hσ0 := hM.2.2.2
  obtain ⟨b0, b1, b2, b3, b4, b5, b6, b7, b8, b9, b10, b11, b12⟩ := ok_h ok
  unfold rateA
  refine Wp.n (pc' := 2) 2 rfl ?_
  refine Wp.mput0 (len := 3) rfl hσ0 ?_
  refine Wp.n (pc' := 6) 1 rfl ?_
  refine Wp.ecallV (len := 3) rfl rfl rfl (rfl) rfl (by decide) rfl (m_isKingdom hM.1 ok) ?_
  refine Wp.ifb0 (tgt := 24) (len := 3) rfl (fun h9 => ?_) (fun h9 => ?_)
  · skip
    refine Wp.n (pc' := 26) 1 rfl ?_
    refine Wp.retI (len := 1) rfl rfl ?_
    first
      | (rw [if_neg (fun q => of_decide_eq_false h9 q.1)]; exact RI_r rfl)
      | (rw [if_neg (fun q => by rw [show isR 1 999999 x = false from h21] at q; exact absurd q.2 (by decide))]; exact RI_r rfl)
  · skip
    refine Wp.n (pc' := 18) 4 rfl ?_
    refine Wp.ecallS (len := 3) rfl rfl rfl rfl (m_in _ _ _) ?_
    refine Wp.ifb1 (tgt := 27) (len := 3) rfl (fun h21 => ?_) (fun h21 => ?_)
    · rw [il_toInt] at h21
      obtain ⟨m, hm1, hm9, hm, rfl⟩ := isR_of (lo := 1) (hi := 999999) h21
      rw [if_pos ⟨of_decide_eq_true h9, h21⟩, nI_clamp hm]
      refine Wp.n (pc' := 29) 2 rfl ?_
      exact m_rate_l hM (of_decide_eq_true h9) hm9 100 0 σ (by omega) Scr_r
    · rw [il_toInt] at h21
      refine Wp.n (pc' := 26) 1 rfl ?_
      refine Wp.retI (len := 1) rfl rfl ?_
      first
        | (rw [if_neg (fun q => of_decide_eq_false h9 q.1)]; exact RI_r rfl)
        | (rw [if_neg (fun q => by rw [show isR 1 999999 x = false from h21] at q; exact absurd q.2 (by decide))]; exact RI_r rfl)

/-- one number of the law is another from now on -/
def setK (K : KD) (w m : Nat) : KD := (fun i => if i = 6 + w then m else kh K i, kr K, kl K, kw K)
def lawC (K : KD) (x y : Int32) : Bool := decide (0 < kh K 0) && isN 5 x && isN (if x.toInt < 3 then 100 else 2) y
def lawA (K : KD) (x y : Int32) : Int32 := if lawC K x y = true then nI (kh K (6 + x.toNatClampNeg)) else -2
def lawN (K : KD) (x y : Int32) : KD := if lawC K x y = true then setK K x.toNatClampNeg y.toNatClampNeg else K
theorem setK_ok (ok : KOK K) {w m : Nat} (hw : w < 5) (hm : m < if w < 3 then 100 else 2) : KOK (setK K w m) := by
  obtain ⟨c0, c1, c2, c3, c4, c5, c6, c7, c8, c9, c10, c11, c12, c13, c14, c15, c16, c17⟩ := id ok
  match w, hw with
  | 0, _ => exact ⟨c0, c1, c2, c3, c4, c5, Nat.le_of_lt_succ hm, c7, c8, c9, c10, c11, c12, c13, c14, c15, c16, c17⟩
  | 1, _ => exact ⟨c0, c1, c2, c3, c4, c5, c6, Nat.le_of_lt_succ hm, c8, c9, c10, c11, c12, c13, c14, c15, c16, c17⟩
  | 2, _ => exact ⟨c0, c1, c2, c3, c4, c5, c6, c7, Nat.le_of_lt_succ hm, c9, c10, c11, c12, c13, c14, c15, c16, c17⟩
  | 3, _ => exact ⟨c0, c1, c2, c3, c4, c5, c6, c7, c8, Nat.le_of_lt_succ hm, c10, c11, c12, c13, c14, c15, c16, c17⟩
  | 4, _ => exact ⟨c0, c1, c2, c3, c4, c5, c6, c7, c8, c9, Nat.le_of_lt_succ hm, c11, c12, c13, c14, c15, c16, c17⟩
theorem set_rep (h : RepM σ 0 K) {w m : Nat} (hw : w < 5) : RepM (aset σ 7 (upd (σ.2.2.1 7) w (nI m))) 0 (setK K w m) := by
  have e : ∀ i, i < 6 ∨ 11 ≤ i → kh (setK K w m) i = kh K i := fun i hi => if_neg (by omega)
  refine ⟨fun j hj => ?_, fun h0 j hj => ?_, ?_, ?_, ?_, ?_, ?_⟩
  · rw [e j (by omega)]
    exact h.1 j hj
  · rw [aset_get]
    rw [e 0 (by omega)] at h0
    have h1 := h.2.1 h0 j hj
    show upd (σ.2.2.1 7) w (nI m) (5 * 0 + j) = nI (if 6 + j = 6 + w then m else kh K (6 + j))
    by_cases c : j = w
    · rw [if_pos (by omega), show 5 * 0 + j = w by omega, pk_us]
    · rw [if_neg (by omega), pk_un (by omega)]
      exact h1
  · rw [e 5 (by omega)]; exact h.2.2.1
  · rw [e 12 (by omega)]; exact h.2.2.2.1
  · rw [e 2 (by omega)]; exact h.2.2.2.2.1
  · rw [e 3 (by omega), e 11 (by omega)]; exact h.2.2.2.2.2.1
  · rw [e 4 (by omega)]; exact h.2.2.2.2.2.2
theorem lawC_of {x y : Int32} (h : lawC K x y = true) : 0 < kh K 0 ∧ ∃ w m : Nat, w < 5 ∧ (m < if w < 3 then 100 else 2) ∧ x = nI w ∧ y = nI m ∧ m < 100 := by
  unfold lawC at h
  simp only [Bool.and_eq_true] at h
  obtain ⟨⟨h1, h2⟩, h3⟩ := h
  obtain ⟨w, hw, rfl⟩ := isN_of h2
  obtain ⟨m, hm, rfl⟩ := isN_of h3
  rw [nI_toInt (by omega)] at hm
  have e : (if (w : Int) < 3 then 100 else 2) = if w < 3 then 100 else 2 := by
    by_cases c : w < 3
    · rw [if_pos c, if_pos (by omega)]
    · rw [if_neg c, if_neg (by omega)]
  rw [e] at hm
  refine ⟨of_decide_eq_true h1, w, m, hw, hm, rfl, rfl, ?_⟩
  split at hm <;> omega
theorem m_law (hM : MK σ K) (x y : Int32) : Wp (d + 2) md_250 0 [some (.ref 287), some (.int x), some (.int y), none] [] (mset M σ) (fun v M' => v = some (.int (lawA K x y)) ∧ ∃ σ', M' = mset M σ' ∧ Fr [] [7] σ σ' ∧ (∀ j, 5 ≤ j → σ'.2.2.1 7 j = σ.2.2.1 7 j) ∧ MK σ' (lawN K x y)) := by
  have ok := hM.2.1
  have hσ0 := hM.2.2.2
  obtain ⟨b0, b1, b2, b3, b4, b5, b6, b7, b8, b9, b10, b11, b12⟩ := ok_h ok
  unfold lawA lawN
  have kn : lawC K x y = false → (∃ σ', mset M σ = mset M σ' ∧ Fr [] [7] σ σ' ∧ (∀ j, 5 ≤ j → σ'.2.2.1 7 j = σ.2.2.1 7 j) ∧ MK σ' K) := fun _ => ⟨σ, rfl, Fr.rfl', fun _ _ => rfl, hM⟩
  refine Wp.n (pc' := 2) 2 rfl ?_
  refine Wp.mput0 (len := 3) rfl hσ0 ?_
  refine Wp.n (pc' := 6) 1 rfl ?_
  refine Wp.ecallV (len := 3) rfl rfl rfl (rfl) rfl (by decide) rfl (m_isKingdom hM.1 ok) ?_
  refine Wp.ifb0 (tgt := 45) (len := 3) rfl (fun h9 => ?_) (fun h9 => ?_)
  · skip
    refine Wp.n (pc' := 47) 1 rfl ?_
    refine Wp.retI (len := 1) rfl rfl ?_
    have hC : lawC K x y = false := by
      unfold lawC
      first
        | (rw [h9, Bool.false_and, Bool.false_and])
        | (rw [h21, Bool.and_false, Bool.false_and])
        | (rw [in_isN (k := 2) (by decide)] at h42; rw [if_neg (by rw [i_le] at h29; have : (3 : Int) ≤ x.toInt := h29; omega), h42, Bool.and_false])
        | (rw [in_isN (k := 100) (by decide)] at h42; rw [if_pos (by rw [i_le] at h29; have : ¬ (3 : Int) ≤ x.toInt := h29; omega), h42, Bool.and_false])
    rw [if_neg (by rw [hC]; decide), if_neg (by rw [hC]; decide)]
    exact ⟨rfl, kn hC⟩
  · skip
    refine Wp.n (pc' := 18) 4 rfl ?_
    refine Wp.ecallS (len := 3) rfl rfl rfl rfl (m_in _ _ _) ?_
    refine Wp.ifb0 (tgt := 45) (len := 3) rfl (fun h21 => ?_) (fun h21 => ?_)
    · rw [in_isN (k := 5) (by decide)] at h21
      refine Wp.n (pc' := 47) 1 rfl ?_
      refine Wp.retI (len := 1) rfl rfl ?_
      have hC : lawC K x y = false := by
        unfold lawC
        first
          | (rw [h9, Bool.false_and, Bool.false_and])
          | (rw [h21, Bool.and_false, Bool.false_and])
          | (rw [in_isN (k := 2) (by decide)] at h42; rw [if_neg (by rw [i_le] at h29; have : (3 : Int) ≤ x.toInt := h29; omega), h42, Bool.and_false])
          | (rw [in_isN (k := 100) (by decide)] at h42; rw [if_pos (by rw [i_le] at h29; have : ¬ (3 : Int) ≤ x.toInt := h29; omega), h42, Bool.and_false])
      rw [if_neg (by rw [hC]; decide), if_neg (by rw [hC]; decide)]
      exact ⟨rfl, kn hC⟩
    · rw [in_isN (k := 5) (by decide)] at h21
      refine Wp.n (pc' := 29) 5 rfl ?_
      refine Wp.ic3 (tgt := 38) (len := 3) rfl (fun h29 => ?_) (fun h29 => ?_)
      · skip
        refine Wp.n (pc' := 39) 1 rfl ?_
        refine Wp.ecallS (len := 3) rfl rfl rfl rfl (m_in _ _ _) ?_
        refine Wp.ifb1 (tgt := 48) (len := 3) rfl (fun h42 => ?_) (fun h42 => ?_)
        · skip
          have hC : lawC K x y = true := by
            unfold lawC
            rw [h9, h21]
            first
              | (rw [in_isN (k := 2) (by decide)] at h42; rw [if_neg (by rw [i_le] at h29; have : (3 : Int) ≤ x.toInt := h29; omega), h42]; rfl)
              | (rw [in_isN (k := 100) (by decide)] at h42; rw [if_pos (by rw [i_le] at h29; have : ¬ (3 : Int) ≤ x.toInt := h29; omega), h42]; rfl)
          obtain ⟨h0, w, m, hw, hm, rfl, rfl, hm1⟩ := lawC_of hC
          rw [if_pos hC, if_pos hC, nI_clamp (by omega), nI_clamp (by omega)]
          refine Wp.n (pc' := 53) 3 rfl ?_
          refine Wp.mialdN (j := w) (len := 1) rfl rfl rfl (by omega) ?_
          refine Wp.top (r0_law hM.1 h0 hw) ?_
          refine Wp.n (pc' := 61) 5 rfl ?_
          refine Wp.miastN (j := w) (len := 1) rfl rfl rfl (by omega) ?_
          refine Wp.n (pc' := 63) 1 rfl ?_
          refine Wp.retI (len := 1) rfl rfl ?_
          refine ⟨rfl, _, rfl, Fr.rfl'.aset rfl, fun j hj => ?_, set_rep hM.1 hw, setK_ok ok hw hm, ?_, hσ0⟩
          · rw [aset_get]
            exact pk_un (by omega)
          · show σ.1 25 = nI (if 11 = 6 + w then m else kh K 11)
            rw [if_neg (by omega)]
            exact hM.2.2.1
        · skip
          refine Wp.n (pc' := 47) 1 rfl ?_
          refine Wp.retI (len := 1) rfl rfl ?_
          have hC : lawC K x y = false := by
            unfold lawC
            first
              | (rw [h9, Bool.false_and, Bool.false_and])
              | (rw [h21, Bool.and_false, Bool.false_and])
              | (rw [in_isN (k := 2) (by decide)] at h42; rw [if_neg (by rw [i_le] at h29; have : (3 : Int) ≤ x.toInt := h29; omega), h42, Bool.and_false])
              | (rw [in_isN (k := 100) (by decide)] at h42; rw [if_pos (by rw [i_le] at h29; have : ¬ (3 : Int) ≤ x.toInt := h29; omega), h42, Bool.and_false])
          rw [if_neg (by rw [hC]; decide), if_neg (by rw [hC]; decide)]
          exact ⟨rfl, kn hC⟩
      · skip
        refine Wp.n (pc' := 39) 2 rfl ?_
        refine Wp.ecallS (len := 3) rfl rfl rfl rfl (m_in _ _ _) ?_
        refine Wp.ifb1 (tgt := 48) (len := 3) rfl (fun h42 => ?_) (fun h42 => ?_)
        · skip
          have hC : lawC K x y = true := by
            unfold lawC
            rw [h9, h21]
            first
              | (rw [in_isN (k := 2) (by decide)] at h42; rw [if_neg (by rw [i_le] at h29; have : (3 : Int) ≤ x.toInt := h29; omega), h42]; rfl)
              | (rw [in_isN (k := 100) (by decide)] at h42; rw [if_pos (by rw [i_le] at h29; have : ¬ (3 : Int) ≤ x.toInt := h29; omega), h42]; rfl)
          obtain ⟨h0, w, m, hw, hm, rfl, rfl, hm1⟩ := lawC_of hC
          rw [if_pos hC, if_pos hC, nI_clamp (by omega), nI_clamp (by omega)]
          refine Wp.n (pc' := 53) 3 rfl ?_
          refine Wp.mialdN (j := w) (len := 1) rfl rfl rfl (by omega) ?_
          refine Wp.top (r0_law hM.1 h0 hw) ?_
          refine Wp.n (pc' := 61) 5 rfl ?_
          refine Wp.miastN (j := w) (len := 1) rfl rfl rfl (by omega) ?_
          refine Wp.n (pc' := 63) 1 rfl ?_
          refine Wp.retI (len := 1) rfl rfl ?_
          refine ⟨rfl, _, rfl, Fr.rfl'.aset rfl, fun j hj => ?_, set_rep hM.1 hw, setK_ok ok hw hm, ?_, hσ0⟩
          · rw [aset_get]
            exact pk_un (by omega)
          · show σ.1 25 = nI (if 11 = 6 + w then m else kh K 11)
            rw [if_neg (by omega)]
            exact hM.2.2.1
        · skip
          refine Wp.n (pc' := 47) 1 rfl ?_
          refine Wp.retI (len := 1) rfl rfl ?_
          have hC : lawC K x y = false := by
            unfold lawC
            first
              | (rw [h9, Bool.false_and, Bool.false_and])
              | (rw [h21, Bool.and_false, Bool.false_and])
              | (rw [in_isN (k := 2) (by decide)] at h42; rw [if_neg (by rw [i_le] at h29; have : (3 : Int) ≤ x.toInt := h29; omega), h42, Bool.and_false])
              | (rw [in_isN (k := 100) (by decide)] at h42; rw [if_pos (by rw [i_le] at h29; have : ¬ (3 : Int) ≤ x.toInt := h29; omega), h42, Bool.and_false])
          rw [if_neg (by rw [hC]; decide), if_neg (by rw [hC]; decide)]
          exact ⟨rfl, kn hC⟩

theorem m_owing (hM : MK σ K) {how w dn : Nat} (hw : w < kh K 4) (hh : how ≤ 4) (hdn : dn < 2 ^ 31) : Wp (d + 14) md_252 0 [some (.ref 287), some (.int (nI how)), some (.int (nI w)), some (.int (nI dn))] [] (mset M σ) (fun v M' => v = none ∧ ∃ τ, M' = mset M τ ∧ Scr σ τ ∧ MR τ (fin K how (kw K w 4) (kw K w (3 + kw K w 3)) (kw K w 2) (kw K w 1) dn)) := by
  have ok := hM.2.1
  have hσ0 := hM.2.2.2
  obtain ⟨b0, b1, b2, b3, b4, b5, b6, b7, b8, b9, b10, b11, b12⟩ := ok_h ok
  have tw := ok_walk ok hw
  have p0 := tw.2.2.2.2.2.2.1 0 (by omega)
  have p1 := tw.2.2.2.2.2.2.1 (kw K w 3 - 1) (by omega)
  rw [show 4 + (kw K w 3 - 1) = 3 + kw K w 3 by omega] at p1
  refine Wp.n (pc' := 2) 2 rfl ?_
  refine Wp.mput (len := 3) rfl rfl ?_
  have hS : Scr σ (fset σ 36 (nI dn)) := Scr_r.fset rfl
  have hK := MK_scr hM hS
  refine Wp.n (pc' := 9) 4 rfl ?_
  refine Wp.ecallV (len := 3) rfl rfl rfl (rfl) rfl (by decide) rfl (m_from hK.1 ok hw) ?_
  refine Wp.n (pc' := 14) 2 rfl ?_
  refine Wp.ecallV (len := 3) rfl rfl rfl (rfl) rfl (by decide) rfl (m_to hK.1 ok hw) ?_
  refine Wp.n (pc' := 20) 3 rfl ?_
  refine Wp.ecallV (len := 3) rfl rfl rfl (rfl) rfl (by decide) rfl (m_of _ w 2 (by omega)) ?_
  refine Wp.top (r0_walk hK.1 hw (by decide) rfl) ?_
  refine Wp.n (pc' := 26) 3 rfl ?_
  refine Wp.ecallV (len := 3) rfl rfl rfl (rfl) rfl (by decide) rfl (m_of _ w 1 (by omega)) ?_
  refine Wp.top (r0_walk hK.1 hw (by decide) rfl) ?_
  refine Wp.callV (len := 3) rfl rfl rfl (rfl) rfl (by decide) rfl (m_seeks (dn := dn) hh p1 (by omega) (by omega) hdn p0 hK (fun _ => rfl)) ?_
  rintro _ _ ⟨rfl, τ, rfl, hS2, hR⟩
  refine Wp.retV (len := 1) rfl rfl ?_
  exact ⟨rfl, τ, rfl, Scr_t hS hS2, hR⟩

def finP (K : KD) (how w dn : Nat) : MT := fin K how (kw K w 4) (kw K w (3 + kw K w 3)) (kw K w 2) (kw K w 1) dn
theorem finP_b (ok : KOK K) {how w dn : Nat} (hw : w < kh K 4) : (finP K how w dn).1 ≤ 326 := by
  have tw := ok_walk ok hw
  have p0 := tw.2.2.2.2.2.2.1 0 (by omega)
  have p1 := tw.2.2.2.2.2.2.1 (kw K w 3 - 1) (by omega)
  rw [show 4 + (kw K w 3 - 1) = 3 + kw K w 3 by omega] at p1
  exact (fin_i ok (aim := how) (y := kw K w 2) (load := kw K w 1) (dn := dn) p0 p1 (by omega)).2.1
def paidA (K : KD) (x y : Int32) : Int32 := if isN (kh K 4) x = true ∧ 0 ≤ y then nI (finP K 3 x.toNatClampNeg y.toNatClampNeg).1 else -2
def sureA (K : KD) (x y : Int32) : Int32 := if isN (kh K 4) x = true ∧ 0 ≤ y then (if (finP K 3 x.toNatClampNeg y.toNatClampNeg).1 = 0 then -1 else oI (finP K 3 x.toNatClampNeg y.toNatClampNeg).2.2.2.1) else -2
theorem ge_of {y : Int32} (h : 0 ≤ y) : ∃ m : Nat, m < 2 ^ 31 ∧ y = nI m := nI_of (x := y) (fun q => by rw [i_lt] at q; rw [i_le] at h; have h1 : (0 : Int) ≤ y.toInt := h; have q1 : y.toInt < 0 := q; omega)

theorem m_paid (hM : MK σ K) (x y : Int32) : Wp (d + 15) md_251 0 [some (.ref 287), some (.int x), some (.int y)] [] (mset M σ) (RI M σ (paidA K x y)) := by
  have ok := hM.2.1
  have hσ0 := hM.2.2.2
  obtain ⟨b0, b1, b2, b3, b4, b5, b6, b7, b8, b9, b10, b11, b12⟩ := ok_h ok
  unfold paidA
  refine Wp.n (pc' := 2) 2 rfl ?_
  refine Wp.mput0 (len := 3) rfl hσ0 ?_
  refine Wp.n (pc' := 7) 2 rfl ?_
  refine Wp.ecallV (len := 3) rfl rfl rfl (rfl) rfl (by decide) rfl (m_isWalkK hM.1 ok _) ?_
  refine Wp.ifb0 (tgt := 17) (len := 3) rfl (fun h10 => ?_) (fun h10 => ?_)
  · skip
    refine Wp.n (pc' := 19) 1 rfl ?_
    refine Wp.retI (len := 1) rfl rfl ?_
    first
      | exact RI_s hS rfl
      | exact RI_s hS (by rw [if_pos h31])
      | exact RI_s hS (by rw [if_neg h31])
      | (rw [if_neg (fun q => by rw [h10] at q; exact absurd q.1 (by decide))]; exact RI_r rfl)
      | (rw [if_neg (fun q => h14 q.2)]; exact RI_r rfl)
  · skip
    refine Wp.n (pc' := 14) 1 rfl ?_
    refine Wp.if3 (tgt := 20) (len := 3) rfl (fun h14 => ?_) (fun h14 => ?_)
    · skip
      obtain ⟨w, hw, rfl⟩ := isN_of h10
      obtain ⟨m, hm, rfl⟩ := ge_of h14
      have hb := finP_b ok (how := 3) (dn := m) hw
      rw [if_pos ⟨h10, h14⟩, nI_clamp (by omega), nI_clamp hm]
      refine Wp.n (pc' := 24) 4 rfl ?_
      refine Wp.callV (len := 3) rfl rfl rfl (rfl) rfl (by decide) rfl (m_owing (how := 3) (dn := m) hM hw (by decide) hm) ?_
      rintro _ _ ⟨rfl, τ, rfl, hS, hR⟩
      replace hR : MR τ (finP K 3 w m) := hR
      refine Wp.n (pc' := 31) 2 rfl ?_
      refine Wp.top hR.1 ?_
      refine Wp.retI (len := 1) rfl rfl ?_
      first
        | exact RI_s hS rfl
        | exact RI_s hS (by rw [if_pos h31])
        | exact RI_s hS (by rw [if_neg h31])
        | (rw [if_neg (fun q => by rw [h10] at q; exact absurd q.1 (by decide))]; exact RI_r rfl)
        | (rw [if_neg (fun q => h14 q.2)]; exact RI_r rfl)
    · skip
      refine Wp.n (pc' := 19) 1 rfl ?_
      refine Wp.retI (len := 1) rfl rfl ?_
      first
        | exact RI_s hS rfl
        | exact RI_s hS (by rw [if_pos h31])
        | exact RI_s hS (by rw [if_neg h31])
        | (rw [if_neg (fun q => by rw [h10] at q; exact absurd q.1 (by decide))]; exact RI_r rfl)
        | (rw [if_neg (fun q => h14 q.2)]; exact RI_r rfl)

theorem m_sure (hM : MK σ K) (x y : Int32) : Wp (d + 15) md_253 0 [some (.ref 287), some (.int x), some (.int y)] [] (mset M σ) (RI M σ (sureA K x y)) := by
  have ok := hM.2.1
  have hσ0 := hM.2.2.2
  obtain ⟨b0, b1, b2, b3, b4, b5, b6, b7, b8, b9, b10, b11, b12⟩ := ok_h ok
  unfold sureA
  refine Wp.n (pc' := 2) 2 rfl ?_
  refine Wp.mput0 (len := 3) rfl hσ0 ?_
  refine Wp.n (pc' := 7) 2 rfl ?_
  refine Wp.ecallV (len := 3) rfl rfl rfl (rfl) rfl (by decide) rfl (m_isWalkK hM.1 ok _) ?_
  refine Wp.ifb0 (tgt := 17) (len := 3) rfl (fun h10 => ?_) (fun h10 => ?_)
  · skip
    refine Wp.n (pc' := 19) 1 rfl ?_
    refine Wp.retI (len := 1) rfl rfl ?_
    first
      | exact RI_s hS rfl
      | exact RI_s hS (by rw [if_pos h31])
      | exact RI_s hS (by rw [if_neg h31])
      | (rw [if_neg (fun q => by rw [h10] at q; exact absurd q.1 (by decide))]; exact RI_r rfl)
      | (rw [if_neg (fun q => h14 q.2)]; exact RI_r rfl)
  · skip
    refine Wp.n (pc' := 14) 1 rfl ?_
    refine Wp.if3 (tgt := 20) (len := 3) rfl (fun h14 => ?_) (fun h14 => ?_)
    · skip
      obtain ⟨w, hw, rfl⟩ := isN_of h10
      obtain ⟨m, hm, rfl⟩ := ge_of h14
      have hb := finP_b ok (how := 3) (dn := m) hw
      rw [if_pos ⟨h10, h14⟩, nI_clamp (by omega), nI_clamp hm]
      refine Wp.n (pc' := 24) 4 rfl ?_
      refine Wp.callV (len := 3) rfl rfl rfl (rfl) rfl (by decide) rfl (m_owing (how := 3) (dn := m) hM hw (by decide) hm) ?_
      rintro _ _ ⟨rfl, τ, rfl, hS, hR⟩
      replace hR : MR τ (finP K 3 w m) := hR
      refine Wp.n (pc' := 31) 2 rfl ?_
      refine Wp.top hR.1 ?_
      refine Wp.nz1 (x := (finP K 3 w m).1) (tgt := 38) (len := 3) rfl (by omega) (fun h31 => ?_) (fun h31 => ?_)
      · skip
        refine Wp.n (pc' := 42) 2 rfl ?_
        refine Wp.top hR.2.2.2.1 ?_
        refine Wp.retI (len := 1) rfl rfl ?_
        first
          | exact RI_s hS rfl
          | exact RI_s hS (by rw [if_pos h31])
          | exact RI_s hS (by rw [if_neg h31])
          | (rw [if_neg (fun q => by rw [h10] at q; exact absurd q.1 (by decide))]; exact RI_r rfl)
          | (rw [if_neg (fun q => h14 q.2)]; exact RI_r rfl)
      · skip
        refine Wp.n (pc' := 42) 2 rfl ?_
        refine Wp.retI (len := 1) rfl rfl ?_
        first
          | exact RI_s hS rfl
          | exact RI_s hS (by rw [if_pos h31])
          | exact RI_s hS (by rw [if_neg h31])
          | (rw [if_neg (fun q => by rw [h10] at q; exact absurd q.1 (by decide))]; exact RI_r rfl)
          | (rw [if_neg (fun q => h14 q.2)]; exact RI_r rfl)
    · skip
      refine Wp.n (pc' := 19) 1 rfl ?_
      refine Wp.retI (len := 1) rfl rfl ?_
      first
        | exact RI_s hS rfl
        | exact RI_s hS (by rw [if_pos h31])
        | exact RI_s hS (by rw [if_neg h31])
        | (rw [if_neg (fun q => by rw [h10] at q; exact absurd q.1 (by decide))]; exact RI_r rfl)
        | (rw [if_neg (fun q => h14 q.2)]; exact RI_r rfl)

def mustP (K : KD) (a b w dn m : Nat) : Bool := decide (0 < (finP (laneK K a b m 30) 4 w dn).1)
def mustA (K : KD) (x y z u : Int32) : Int32 := if areT K x y = true ∧ isN (kh K 4) z = true ∧ 0 ≤ u then oI (fnd (mustP K x.toNatClampNeg y.toNatClampNeg z.toNatClampNeg u.toNatClampNeg) 99 1) else -2
theorem m_must_l (hM : MK σ K) (h11 : kh K 11 = 0) {a b w dn : Nat} (ha : a < kh K 0) (hb : b < kh K 0) (hab : a ≠ b) (hw : w < kh K 4) (hdn : dn < 2 ^ 31) : ∀ (n m : Nat) (τ : MS), m + n = 100 → 1 ≤ m → Scl σ (fset τ 25 0) → (∀ τ' i z, Scl σ (fset τ' 25 0) → i = fnd (mustP K a b w dn) n m → Wp (d + 15) md_255 86 [some (.ref 287), some (.int (nI a)), some (.int (nI b)), some (.int (nI w)), some (.int (nI dn)), some (.int (oI i)), z] [] (mset M τ') Q) → Wp (d + 15) md_255 36 [some (.ref 287), some (.int (nI a)), some (.int (nI b)), some (.int (nI w)), some (.int (nI dn)), some (.int (-1)), some (.int (nI m))] [] (mset M τ) Q := by
  have ok := hM.2.1
  have hσ0 := hM.2.2.2
  obtain ⟨b0, b1, b2, b3, b4, b5, b6, b7, b8, b9, b10, b11, b12⟩ := ok_h ok
  intro n
  induction n with
  | zero =>
    intro m τ hm h1 hS kk
    refine Wp.n (pc' := 40) 2 rfl ?_
    refine Wp.nc4 (x := m) (y := 99) (tgt := 86) (len := 3) rfl (by omega) (by omega) (fun h40 => ?_) (fun h40 => ?_)
    · skip
      exact kk τ none _ hS rfl
    · omega
  | succ n ih =>
    intro m τ hm h1 hS kk
    have hK0 := MK_scl hM h11 hS
    have hK : RepM τ 0 K := hK0.1
    have hLo := laneK_ok ok (e := 30) ha hb hab h1 (n := m) (by omega) (Nat.le_refl _)
    have hfb := finP_b hLo (how := 4) (dn := dn) (w := w) hw
    refine Wp.n (pc' := 40) 2 rfl ?_
    refine Wp.nc4 (x := m) (y := 99) (tgt := 86) (len := 3) rfl (by omega) (by omega) (fun h40 => ?_) (fun h40 => ?_)
    · omega
    · skip
      refine Wp.n (pc' := 46) 2 rfl ?_
      refine Wp.ic1 (tgt := 86) (len := 3) rfl (fun h46 => ?_) (fun h46 => ?_)
      · exact absurd rfl h46
      · skip
        refine Wp.n (pc' := 54) 4 rfl ?_
        refine Wp.callV (len := 3) rfl rfl rfl (rfl) rfl (by decide) rfl (m_thinks (d := d + 14) (M := M) (σ := τ) (a := a) (b := b) (m := m)) ?_
        rintro _ _ ⟨rfl, g, rfl, hg, g0, g1, g2, g3, g4, g5, g6⟩
        have hM2 : MK (fset (aset τ 10 g) 25 1) (laneK K a b m 30) := ⟨laneK_rep hK b3 hg g0 g1 g2 g3 g4 g5 g6, hLo, rfl, hK0.2.2.2⟩
        refine Wp.n (pc' := 62) 4 rfl ?_
        refine Wp.callV (len := 3) rfl rfl rfl (rfl) rfl (by decide) rfl (m_owing (how := 4) (dn := dn) hM2 (w := w) hw (by decide) hdn) ?_
        rintro _ _ ⟨rfl, τ2, rfl, hS2, hR⟩
        replace hR : MR τ2 (finP (laneK K a b m 30) 4 w dn) := hR
        have hS3 : Scl (fset τ 25 0) (fset τ2 25 0) := by
          refine ⟨g, hg, ⟨fun j hj => ?_, hS2.2.1, hS2.2.2.1, hS2.2.2.2⟩⟩
          show upd τ2.1 25 0 j = upd τ.1 25 0 j
          by_cases c : j = 25
          · rw [c, pk_us, pk_us]
          · rw [pk_un c, pk_un c, hS2.1 j hj]
            exact pk_un c
        refine Wp.n (pc' := 69) 2 rfl ?_
        refine Wp.top hR.1 ?_
        refine Wp.nz5 (x := (finP (laneK K a b m 30) 4 w dn).1) (tgt := 77) (len := 3) rfl (by omega) (fun h69 => ?_) (fun h69 => ?_)
        · skip
          refine Wp.n (pc' := 80) 2 rfl ?_
          refine Wp.incN (x := m) (len := 3) rfl rfl ?_
          refine Wp.n (pc' := 36) 1 rfl ?_
          first
            | (have e : mustP K a b w dn m = true := decide_eq_true h69
               refine Wp.n (pc' := 40) 2 rfl ?_
               by_cases c : m + 1 ≤ 99
               · refine Wp.nc4 (x := m + 1) (y := 99) (tgt := 86) (len := 3) rfl (by omega) (by omega) (fun q => by omega) (fun q => ?_)
                 refine Wp.n (pc' := 46) 2 rfl ?_
                 refine Wp.ic1 (tgt := 86) (len := 3) rfl (fun q => ?_) (fun q => absurd q (oI_ne (by omega)))
                 exact kk τ2 (some m) _ (Scl_t hS hS3) (by show _ = if mustP K a b w dn m = true then _ else _; rw [if_pos e])
               · refine Wp.nc4 (x := m + 1) (y := 99) (tgt := 86) (len := 3) rfl (by omega) (by omega) (fun q => ?_) (fun q => by omega)
                 exact kk τ2 (some m) _ (Scl_t hS hS3) (by show _ = if mustP K a b w dn m = true then _ else _; rw [if_pos e]))
            | (have e : ¬ mustP K a b w dn m = true := fun q => by have := of_decide_eq_true q; omega
               refine ih (m + 1) τ2 (by omega) (by omega) (Scl_t hS hS3) (fun τ3 i z h3 hi => kk τ3 i z h3 ?_)
               show i = if mustP K a b w dn m = true then _ else _
               rw [if_neg e]
               exact hi)
        · skip
          refine Wp.n (pc' := 80) 3 rfl ?_
          refine Wp.incN (x := m) (len := 3) rfl rfl ?_
          refine Wp.n (pc' := 36) 1 rfl ?_
          first
            | (have e : mustP K a b w dn m = true := decide_eq_true h69
               refine Wp.n (pc' := 40) 2 rfl ?_
               by_cases c : m + 1 ≤ 99
               · refine Wp.nc4 (x := m + 1) (y := 99) (tgt := 86) (len := 3) rfl (by omega) (by omega) (fun q => by omega) (fun q => ?_)
                 refine Wp.n (pc' := 46) 2 rfl ?_
                 refine Wp.ic1 (tgt := 86) (len := 3) rfl (fun q => ?_) (fun q => absurd q (oI_ne (by omega)))
                 exact kk τ2 (some m) _ (Scl_t hS hS3) (by show _ = if mustP K a b w dn m = true then _ else _; rw [if_pos e])
               · refine Wp.nc4 (x := m + 1) (y := 99) (tgt := 86) (len := 3) rfl (by omega) (by omega) (fun q => ?_) (fun q => by omega)
                 exact kk τ2 (some m) _ (Scl_t hS hS3) (by show _ = if mustP K a b w dn m = true then _ else _; rw [if_pos e]))
            | (have e : ¬ mustP K a b w dn m = true := fun q => by have := of_decide_eq_true q; omega
               refine ih (m + 1) τ2 (by omega) (by omega) (Scl_t hS hS3) (fun τ3 i z h3 hi => kk τ3 i z h3 ?_)
               show i = if mustP K a b w dn m = true then _ else _
               rw [if_neg e]
               exact hi)

theorem m_must (hM : MK σ K) (h11 : kh K 11 = 0) (x y z u : Int32) : Wp (d + 15) md_255 0 [some (.ref 287), some (.int x), some (.int y), some (.int z), some (.int u), none, none] [] (mset M σ) (RI2 M σ (mustA K x y z u)) := by
  have ok := hM.2.1
  have hσ0 := hM.2.2.2
  obtain ⟨b0, b1, b2, b3, b4, b5, b6, b7, b8, b9, b10, b11, b12⟩ := ok_h ok
  unfold mustA
  have h25 : fset σ 25 0 = σ := by
    have e : σ.1 25 = 0 := by rw [hM.2.2.1, h11]; rfl
    unfold fset
    rw [show upd σ.1 25 0 = σ.1 from by
      funext j
      by_cases c : j = 25
      · rw [c, pk_us, e]
      · rw [pk_un c]]
  refine Wp.n (pc' := 2) 2 rfl ?_
  refine Wp.mput0 (len := 3) rfl hσ0 ?_
  refine Wp.n (pc' := 8) 3 rfl ?_
  refine Wp.ecallV (len := 3) rfl rfl rfl (rfl) rfl (by decide) rfl (m_areTwo hM.1 ok _ _) ?_
  refine Wp.ifb0 (tgt := 27) (len := 3) rfl (fun h11_ => ?_) (fun h11_ => ?_)
  · skip
    refine Wp.n (pc' := 29) 1 rfl ?_
    refine Wp.retI (len := 1) rfl rfl ?_
    first
      | (rw [if_neg (fun q => by rw [h11_] at q; exact absurd q.1 (by decide))]; exact RI2_s Scl_r rfl)
      | (rw [if_neg (fun q => by rw [h19] at q; exact absurd q.2.1 (by decide))]; exact RI2_s Scl_r rfl)
      | (rw [if_neg (fun q => h24 q.2.2)]; exact RI2_s Scl_r rfl)
  · skip
    refine Wp.n (pc' := 16) 2 rfl ?_
    refine Wp.ecallV (len := 3) rfl rfl rfl (rfl) rfl (by decide) rfl (m_isWalkK hM.1 ok _) ?_
    refine Wp.ifb0 (tgt := 27) (len := 3) rfl (fun h19 => ?_) (fun h19 => ?_)
    · skip
      refine Wp.n (pc' := 29) 1 rfl ?_
      refine Wp.retI (len := 1) rfl rfl ?_
      first
        | (rw [if_neg (fun q => by rw [h11_] at q; exact absurd q.1 (by decide))]; exact RI2_s Scl_r rfl)
        | (rw [if_neg (fun q => by rw [h19] at q; exact absurd q.2.1 (by decide))]; exact RI2_s Scl_r rfl)
        | (rw [if_neg (fun q => h24 q.2.2)]; exact RI2_s Scl_r rfl)
    · skip
      refine Wp.n (pc' := 24) 1 rfl ?_
      refine Wp.if3 (tgt := 30) (len := 3) rfl (fun h24 => ?_) (fun h24 => ?_)
      · skip
        obtain ⟨a, b, ha, hb, hab, rfl, rfl⟩ := areT_of h11_
        obtain ⟨w, hw, rfl⟩ := isN_of h19
        obtain ⟨dn, hdn, rfl⟩ := ge_of h24
        rw [if_pos ⟨h11_, h19, h24⟩, nI_clamp (by omega), nI_clamp (by omega), nI_clamp (by omega), nI_clamp hdn]
        refine Wp.n (pc' := 36) 4 rfl ?_
        refine m_must_l hM h11 ha hb hab hw hdn 99 1 σ (by omega) (Nat.le_refl _) (by rw [h25]; exact Scl_r) (fun τ i z hS hi => ?_)
        refine Wp.n (pc' := 88) 2 rfl ?_
        refine Wp.mputZ (len := 3) rfl rfl rfl ?_
        refine Wp.n (pc' := 93) 1 rfl ?_
        refine Wp.retI (len := 1) rfl rfl ?_
        exact RI2_s hS (by rw [hi])
        
      · skip
        refine Wp.n (pc' := 29) 1 rfl ?_
        refine Wp.retI (len := 1) rfl rfl ?_
        first
          | (rw [if_neg (fun q => by rw [h11_] at q; exact absurd q.1 (by decide))]; exact RI2_s Scl_r rfl)
          | (rw [if_neg (fun q => by rw [h19] at q; exact absurd q.2.1 (by decide))]; exact RI2_s Scl_r rfl)
          | (rw [if_neg (fun q => h24 q.2.2)]; exact RI2_s Scl_r rfl)

def pop (v : Nat) : Nat := v % 2 + v / 2 % 2 + v / 4 % 2 + v / 8 % 2 + v / 16 % 2 + v / 32 % 2 + v / 64 % 2 + v / 128 % 2
theorem pop_tab : ∀ v, v < 256 → v = 0 ∨ (1 ≤ pop v ∧ pop (v &&& (v - 1)) + 1 = pop v ∧ (v &&& (v - 1)) < v) := by decide +kernel
theorem pop_b {v : Nat} : pop v ≤ 8 := by
  unfold pop
  omega
theorem m_sizeOf_l {s : Nat} : ∀ (v c : Nat), v < 256 → Wp d md_246 4 [some (.int (nI s)), some (.int (nI c)), some (.int (nI v))] [] M (IsR (some (.int (nI (c + pop v)))) M) := by
  intro v
  induction v using Nat.strongRecOn with
  | _ v ih =>
    intro c hv
    refine Wp.n (pc' := 5) 1 rfl ?_
    refine Wp.nz0 (x := v) (tgt := 20) (len := 3) rfl (by omega) (fun h5 => ?_) (fun h5 => ?_)
    · skip
      refine Wp.n (pc' := 21) 1 rfl ?_
      refine Wp.retI (len := 1) rfl rfl ?_
      subst h5
      exact ⟨rfl, rfl⟩
    · skip
      have pt := (pop_tab v hv).resolve_left h5
      refine Wp.incN (x := c) (len := 3) rfl rfl ?_
      refine Wp.n (pc' := 14) 3 rfl ?_
      refine Wp.isubN (x := v) (y := 1) (len := 1) rfl (by omega) ?_
      refine Wp.n (pc' := 16) 1 rfl ?_
      refine Wp.top (n_and _ _) ?_
      refine Wp.n (pc' := 4) 2 rfl ?_
      have w := ih (v &&& (v - 1)) pt.2.2 (c + 1) (by omega)
      rw [show c + 1 + pop (v &&& (v - 1)) = c + pop v by omega] at w
      exact w

theorem m_sizeOf {s : Nat} (hs : s < 256) : Ev d md_246 0 [some (.int (nI s)), none, none] [] M (some (.int (nI (pop s))), M) := by
  refine Wp.toEv ?_
  refine Wp.n (pc' := 4) 4 rfl ?_
  have w := m_sizeOf_l (d := d) (M := M) (s := s) s 0 hs
  rw [Nat.zero_add] at w
  exact w
/-- the lanes of walks that owe -/
def owl (K : KD) (acc : List Nat) (w : Nat) : List Nat := if lawK K w = true ∧ dutW K w ≠ 0 then acc ++ [bitsM (TRr K w).2.2] else acc
def owlK (K : KD) : List Nat := fld (owl K) (kh K 4) 0 []
def cB (c : Option Nat) (s : Nat) : Bool := match c with | none => true | some b => decide (pop s < pop b)
def wE (q : Nat) (c : Option Nat) : Int32 := match c with | none => -1 | some b => if q = 1 then nI b else nI (pop b)
def wst (ls : List Nat) (c : Option Nat) (s : Nat) : Option Nat := if cB c s = true ∧ ls.all (fun l => decide (l &&& s ≠ 0)) = true then some s else c
def watK (K : KD) : Option Nat := fld (wst (owlK K)) (2 ^ kh K 3) 0 none
def watA (K : KD) (x : Int32) : Int32 := if 0 < kh K 0 ∧ isN 2 x = true then (match watK K with | none => -1 | some b => if x = 1 then nI b else nI (pop b)) else -2
set_option maxRecDepth 20000 in
theorem m_goesAs17 (hM : MK σ K) {w : Nat} (hw : w < kh K 4) : Wp (d + 4) md_206 0 [some (.ref 287), some (.int (nI w)), none] [] (mset M σ) (fun v M' => v = some (.int (bI (lawK K w))) ∧ ∃ σ', M' = mset M σ' ∧ Scr σ σ' ∧ GA σ' K w ∧ σ'.2.2.1 17 = σ.2.2.1 17) := by
  have ok := hM.2.1
  have t := ok_walk ok hw
  obtain ⟨b0, b1, b2, b3, b4, b5, b6, b7, b8, b9, b10, b11, b12⟩ := ok_h ok
  have tb := (TRr_b ok hw).2
  refine Wp.n (pc' := 3) 3 rfl ?_
  refine Wp.ecallV (len := 3) rfl rfl rfl (rfl) rfl (by decide) rfl (m_many0 hM.1 ok hw) ?_
  refine Wp.mput (len := 3) rfl rfl ?_
  refine Wp.n (pc' := 11) 2 rfl ?_
  refine m_ga_l hM hw (kw K w 3) 0 _ (by omega) (Fr.rfl'.fset rfl) rfl (fun j hj => absurd hj (Nat.not_lt_zero j)) (fun τ hF hW => ?_)
  have hK := MK_scr hM (Fr.mono hF rfl rfl)
  have e := r0_walk hK.1 hw (j := 2) (q := 11 * w + 2) (by decide) (by omega)
  refine Wp.n (pc' := 43) 4 rfl ?_
  refine Wp.ecallV (len := 3) rfl rfl rfl (rfl) rfl (by decide) rfl (m_of τ w 2 (by omega)) ?_
  refine Wp.top e ?_
  refine Wp.callV (len := 3) rfl rfl rfl (rfl) rfl (by decide) rfl (m_looks hK hW.1 (by omega) (by omega) (by omega) (fun i hi => ⟨hW.2 i hi, by have := t.2.2.2.2.2.2.1 i hi; omega⟩)) ?_
  rintro _ _ ⟨τ', rfl, rfl, hF', hL'⟩
  refine Wp.n (pc' := 53) 2 rfl ?_
  refine Wp.top ((hF'.1 27 rfl).trans hW.1) ?_
  refine Wp.n (pc' := 54) 1 rfl ?_
  refine Wp.isubN (x := kw K w 3) (y := 1) (len := 1) rfl (by omega) ?_
  refine Wp.nc1 (x := (TRr K w).1) (y := (kw K w 3) - 1) (tgt := 62) (len := 3) rfl (by omega) (by omega) (fun h55 => ?_) (fun h55 => ?_)
  · skip
    refine Wp.n (pc' := 63) 1 rfl ?_
    refine Wp.retZ (len := 1) (c := false) rfl rfl rfl ?_
    refine ⟨?_, τ', rfl, Scr_t (Fr.mono hF rfl rfl) (Fr.mono hF' rfl rfl), ⟨⟨(hF'.1 27 rfl).trans hW.1, fun i hi => ?_⟩, hL'⟩, (hF'.2.1 17 rfl).trans (hF.2.1 17 rfl)⟩
    · unfold lawK
      first | rw [decide_eq_true (by omega)] | rw [decide_eq_false (by omega)]
    · rw [hF'.2.1 14 rfl]
      exact hW.2 i hi
  · skip
    refine Wp.n (pc' := 63) 2 rfl ?_
    refine Wp.retZ (len := 1) (c := true) rfl rfl rfl ?_
    refine ⟨?_, τ', rfl, Scr_t (Fr.mono hF rfl rfl) (Fr.mono hF' rfl rfl), ⟨⟨(hF'.1 27 rfl).trans hW.1, fun i hi => ?_⟩, hL'⟩, (hF'.2.1 17 rfl).trans (hF.2.1 17 rfl)⟩
    · unfold lawK
      first | rw [decide_eq_true (by omega)] | rw [decide_eq_false (by omega)]
    · rw [hF'.2.1 14 rfl]
      exact hW.2 i hi
set_option maxRecDepth 20000 in
theorem m_wa_1 (hM : MK σ K) {q : Nat} : ∀ (n w : Nat) (acc : List Nat) (τ : MS), w + n = kh K 4 → Scr σ τ → acc.length ≤ w → (∀ i, i < acc.length → τ.2.2.1 17 i = nI (acc.getD i 0)) → (∀ l, l ∈ acc → l < 512) → (∀ τ' acc' z, acc' = fld (owl K) n w acc → Scr σ τ' → acc'.length ≤ 10 → (∀ i, i < acc'.length → τ'.2.2.1 17 i = nI (acc'.getD i 0)) → (∀ l, l ∈ acc' → l < 512) → Wp (d + 5) md_245 77 [some (.ref 287), some (.int (nI q)), some (.int (nI (acc'.length))), z, none, none, none] [] (mset M τ') Q) → Wp (d + 5) md_245 29 [some (.ref 287), some (.int (nI q)), some (.int (nI (acc.length))), some (.int (nI w)), none, none, none] [] (mset M τ) Q := by
  have ok := hM.2.1
  have hσ0 := hM.2.2.2
  obtain ⟨b0, b1, b2, b3, b4, b5, b6, b7, b8, b9, b10, b11, b12⟩ := ok_h ok
  intro n
  induction n with
  | zero =>
    intro w acc τ hw hS hl ha hb kk
    have hK := MK_scr hM hS
    refine Wp.n (pc' := 35) 4 rfl ?_
    refine Wp.mialdN (j := 4) (len := 1) rfl rfl rfl (by omega) ?_
    refine Wp.top (r0_has hK.1 (by decide)) ?_
    refine Wp.nc3 (x := w) (y := kh K 4) (tgt := 77) (len := 3) rfl (by omega) (by omega) (fun h36 => ?_) (fun h36 => ?_)
    · skip
      exact kk τ acc _ rfl hS (by omega) ha hb
    · omega
  | succ n ih =>
    intro w acc τ hw hS hl ha hb kk
    have hK := MK_scr hM hS
    have hdw := dutW_b ok (w := w) (by omega)
    have k2 : ∀ τ2, Scr σ τ2 → τ2.2.2.1 17 = τ.2.2.1 17 → ¬ (lawK K w = true ∧ dutW K w ≠ 0) → Wp (d + 5) md_245 29 [some (.ref 287), some (.int (nI q)), some (.int (nI (acc.length))), some (.int (nI (w + 1))), none, none, none] [] (mset M τ2) Q := by
      intro τ2 hS2 e2 hn
      refine ih (w + 1) acc τ2 (by omega) hS2 (by omega) (fun i hi => by rw [e2]; exact ha i hi) hb (fun τ3 acc3 z3 e3 => kk τ3 acc3 z3 (e3.trans ?_))
      show _ = fld (owl K) n (w + 1) (owl K acc w)
      rw [show owl K acc w = acc from if_neg hn]
    refine Wp.n (pc' := 35) 4 rfl ?_
    refine Wp.mialdN (j := 4) (len := 1) rfl rfl rfl (by omega) ?_
    refine Wp.top (r0_has hK.1 (by decide)) ?_
    refine Wp.nc3 (x := w) (y := kh K 4) (tgt := 77) (len := 3) rfl (by omega) (by omega) (fun h36 => ?_) (fun h36 => ?_)
    · omega
    · skip
      refine Wp.n (pc' := 41) 2 rfl ?_
      refine Wp.callV (len := 3) rfl rfl rfl (rfl) rfl (by decide) rfl (m_goesAs17 hK (w := w) (by omega)) ?_
      rintro _ _ ⟨rfl, τ2, rfl, hS2, hG, h17⟩
      refine Wp.ifb0 (tgt := 71) (len := 3) rfl (fun h44 => ?_) (fun h44 => ?_)
      · skip
        refine Wp.incN (x := w) (len := 3) rfl rfl ?_
        refine Wp.n (pc' := 29) 1 rfl ?_
        first
          | exact k2 τ2 (Scr_t hS hS2) h17 (fun q => by rw [h44] at q; exact absurd q.1 (by decide))
          | exact k2 (aset τ2 13 h) (Scr_13 (Scr_t hS hS2)) h17 (fun q => q.2 h52)
          | (have hbt := SB_bits ok (TRr_b ok (w := w) (by omega)).1
             have w2 := ih (w + 1) (acc ++ [bitsM (TRr K w).2.2]) (aset (aset τ2 13 h) 17 (upd (τ2.2.2.1 17) acc.length (nI (bitsM (TRr K w).2.2)))) (by omega) (Fr.aset (Scr_13 (Scr_t hS hS2)) rfl) (by rw [List.length_append]; show acc.length + 1 ≤ _; omega) (fun i hi => by
               rw [aset_get]
               rw [List.length_append] at hi
               have hi' : i < acc.length + 1 := hi
               by_cases c : i = acc.length
               · rw [c, pk_us, getD_end]
               · rw [pk_un c, getD_app (by omega), h17]
                 exact ha i (by omega)) (fun l hl => by
               rcases List.mem_append.mp hl with q | q
               · exact hb l q
               · rw [List.mem_singleton] at q; omega) (fun τ3 acc3 z3 e3 => kk τ3 acc3 z3 (e3.trans (by
               show _ = fld (owl K) n (w + 1) (owl K acc w)
               rw [show owl K acc w = acc ++ [bitsM (TRr K w).2.2] from if_pos ⟨h44, h52⟩])))
             rw [List.length_append] at w2
             exact w2)
      · skip
        refine Wp.n (pc' := 49) 2 rfl ?_
        refine Wp.callV (len := 3) rfl rfl rfl (rfl) rfl (by decide) rfl (m_dutyOf1 (MK_scr hK hS2) (by omega) rfl hG.1 (TRr_b ok (by omega)).1 hG.2) ?_
        rintro _ _ ⟨rfl, h, rfl⟩
        refine Wp.nz1 (x := dutW K w) (tgt := 58) (len := 3) rfl (by omega) (fun h52 => ?_) (fun h52 => ?_)
        · skip
          refine Wp.n (pc' := 67) 5 rfl ?_
          refine Wp.top (show _ = nI _ from hG.2.2.1) ?_
          refine Wp.miastN (j := acc.length) (len := 1) rfl rfl rfl (by omega) ?_
          refine Wp.incN (x := acc.length) (len := 3) rfl rfl ?_
          refine Wp.incN (x := w) (len := 3) rfl rfl ?_
          refine Wp.n (pc' := 29) 1 rfl ?_
          first
            | exact k2 τ2 (Scr_t hS hS2) h17 (fun q => by rw [h44] at q; exact absurd q.1 (by decide))
            | exact k2 (aset τ2 13 h) (Scr_13 (Scr_t hS hS2)) h17 (fun q => q.2 h52)
            | (have hbt := SB_bits ok (TRr_b ok (w := w) (by omega)).1
               have w2 := ih (w + 1) (acc ++ [bitsM (TRr K w).2.2]) (aset (aset τ2 13 h) 17 (upd (τ2.2.2.1 17) acc.length (nI (bitsM (TRr K w).2.2)))) (by omega) (Fr.aset (Scr_13 (Scr_t hS hS2)) rfl) (by rw [List.length_append]; show acc.length + 1 ≤ _; omega) (fun i hi => by
                 rw [aset_get]
                 rw [List.length_append] at hi
                 have hi' : i < acc.length + 1 := hi
                 by_cases c : i = acc.length
                 · rw [c, pk_us, getD_end]
                 · rw [pk_un c, getD_app (by omega), h17]
                   exact ha i (by omega)) (fun l hl => by
                 rcases List.mem_append.mp hl with q | q
                 · exact hb l q
                 · rw [List.mem_singleton] at q; omega) (fun τ3 acc3 z3 e3 => kk τ3 acc3 z3 (e3.trans (by
                 show _ = fld (owl K) n (w + 1) (owl K acc w)
                 rw [show owl K acc w = acc ++ [bitsM (TRr K w).2.2] from if_pos ⟨h44, h52⟩])))
               rw [List.length_append] at w2
               exact w2)
        · skip
          refine Wp.n (pc' := 71) 1 rfl ?_
          refine Wp.incN (x := w) (len := 3) rfl rfl ?_
          refine Wp.n (pc' := 29) 1 rfl ?_
          first
            | exact k2 τ2 (Scr_t hS hS2) h17 (fun q => by rw [h44] at q; exact absurd q.1 (by decide))
            | exact k2 (aset τ2 13 h) (Scr_13 (Scr_t hS hS2)) h17 (fun q => q.2 h52)
            | (have hbt := SB_bits ok (TRr_b ok (w := w) (by omega)).1
               have w2 := ih (w + 1) (acc ++ [bitsM (TRr K w).2.2]) (aset (aset τ2 13 h) 17 (upd (τ2.2.2.1 17) acc.length (nI (bitsM (TRr K w).2.2)))) (by omega) (Fr.aset (Scr_13 (Scr_t hS hS2)) rfl) (by rw [List.length_append]; show acc.length + 1 ≤ _; omega) (fun i hi => by
                 rw [aset_get]
                 rw [List.length_append] at hi
                 have hi' : i < acc.length + 1 := hi
                 by_cases c : i = acc.length
                 · rw [c, pk_us, getD_end]
                 · rw [pk_un c, getD_app (by omega), h17]
                   exact ha i (by omega)) (fun l hl => by
                 rcases List.mem_append.mp hl with q | q
                 · exact hb l q
                 · rw [List.mem_singleton] at q; omega) (fun τ3 acc3 z3 e3 => kk τ3 acc3 z3 (e3.trans (by
                 show _ = fld (owl K) n (w + 1) (owl K acc w)
                 rw [show owl K acc w = acc ++ [bitsM (TRr K w).2.2] from if_pos ⟨h44, h52⟩])))
               rw [List.length_append] at w2
               exact w2)

theorem m_wa_2 (hM : MK σ K) {q s : Nat} {bs : Option Nat} {ls : List Nat} (hs : s < 256) (h10 : ls.length ≤ 10) (ha : ∀ i, i < ls.length → σ.2.2.1 17 i = nI (ls.getD i 0)) (hb : ∀ l, l ∈ ls → l < 512) : ∀ (n i : Nat) (b : Bool), i + n = ls.length → (∀ z, Wp d md_245 159 [some (.ref 287), some (.int (nI q)), some (.int (nI (ls.length))), some (.int (oI bs)), some (.int (nI s)), some (.int (bI (b && (ls.drop i).all (fun l => decide (l &&& s ≠ 0))))), z] [] (mset M σ) Q) → Wp d md_245 122 [some (.ref 287), some (.int (nI q)), some (.int (nI (ls.length))), some (.int (oI bs)), some (.int (nI s)), some (.int (bI b)), some (.int (nI i))] [] (mset M σ) Q := by
  have ok := hM.2.1
  have hσ0 := hM.2.2.2
  obtain ⟨b0, b1, b2, b3, b4, b5, b6, b7, b8, b9, b10, b11, b12⟩ := ok_h ok
  intro n
  induction n with
  | zero =>
    intro i b hi kk
    refine Wp.n (pc' := 125) 2 rfl ?_
    refine Wp.nc3 (x := i) (y := ls.length) (tgt := 159) (len := 3) rfl (by omega) (by omega) (fun h125 => ?_) (fun h125 => ?_)
    · skip
      have w := kk (some (.int (nI i)))
      rw [List.drop_eq_nil_of_le (by omega), List.all_nil, Bool.and_true] at w
      exact w
    · omega
  | succ n ih =>
    intro i b hi kk
    have hil : i < ls.length := by omega
    have hl5 : ls.getD i 0 < 512 := by
      rw [List.getD_eq_getElem?_getD, List.getElem?_eq_getElem hil]
      exact hb _ (List.getElem_mem _)
    have ed : (ls.drop i).all (fun l => decide (l &&& s ≠ 0)) = (decide (ls.getD i 0 &&& s ≠ 0) && (ls.drop (i + 1)).all (fun l => decide (l &&& s ≠ 0))) := by
      rw [List.drop_eq_getElem_cons hil, List.all_cons, List.getD_eq_getElem?_getD, List.getElem?_eq_getElem hil]
      rfl
    have hnd : ls.getD i 0 &&& s < 2 ^ 31 := Nat.lt_of_le_of_lt Nat.and_le_left (by omega)
    rw [ed] at kk
    refine Wp.n (pc' := 125) 2 rfl ?_
    refine Wp.nc3 (x := i) (y := ls.length) (tgt := 159) (len := 3) rfl (by first | omega | exact hnd) (by first | omega | exact hnd) (fun h125 => ?_) (fun h125 => ?_)
    · omega
    · skip
      refine Wp.n (pc' := 130) 1 rfl ?_
      refine Wp.ifb0 (tgt := 159) (len := 3) rfl (fun h130 => ?_) (fun h130 => ?_)
      · skip
        subst h130
        exact kk _
      · skip
        refine Wp.n (pc' := 139) 3 rfl ?_
        refine Wp.mialdN (j := i) (len := 1) rfl rfl rfl (by omega) ?_
        refine Wp.top (ha i (by omega)) ?_
        refine Wp.n (pc' := 143) 2 rfl ?_
        refine Wp.top (n_and _ _) ?_
        refine Wp.nz0 (x := ls.getD i 0 &&& s) (tgt := 150) (len := 3) rfl (by first | omega | exact hnd) (fun h143 => ?_) (fun h143 => ?_)
        · skip
          refine Wp.n (pc' := 153) 2 rfl ?_
          refine Wp.incN (x := i) (len := 3) rfl rfl ?_
          refine Wp.n (pc' := 122) 1 rfl ?_
          subst h130
          first
            | exact ih (i + 1) false (by omega) (fun z => by have w := kk z; rw [decide_eq_false (fun q => q h143)] at w; exact w)
            | exact ih (i + 1) true (by omega) (fun z => by have w := kk z; rw [decide_eq_true h143] at w; exact w)
        · skip
          refine Wp.n (pc' := 153) 3 rfl ?_
          refine Wp.incN (x := i) (len := 3) rfl rfl ?_
          refine Wp.n (pc' := 122) 1 rfl ?_
          subst h130
          first
            | exact ih (i + 1) false (by omega) (fun z => by have w := kk z; rw [decide_eq_false (fun q => q h143)] at w; exact w)
            | exact ih (i + 1) true (by omega) (fun z => by have w := kk z; rw [decide_eq_true h143] at w; exact w)

theorem m_wa_3 (hM : MK σ K) {q : Nat} {ls : List Nat} (hq : q < 2) (h10 : ls.length ≤ 10) (ha : ∀ i, i < ls.length → σ.2.2.1 17 i = nI (ls.getD i 0)) (hb : ∀ l, l ∈ ls → l < 512) : ∀ (n s : Nat) (c : Option Nat) (z5 z6 : Option Value), s + n = 2 ^ kh K 3 → (∀ b, c = some b → b < 256) → Wp (d + 1) md_245 82 [some (.ref 287), some (.int (nI q)), some (.int (nI (ls.length))), some (.int (oI c)), some (.int (nI s)), z5, z6] [] (mset M σ) (IsR (some (.int (wE q (fld (wst ls) n s c)))) (mset M σ)) := by
  have ok := hM.2.1
  have hσ0 := hM.2.2.2
  obtain ⟨b0, b1, b2, b3, b4, b5, b6, b7, b8, b9, b10, b11, b12⟩ := ok_h ok
  have h28 : 2 ^ kh K 3 ≤ 256 := Nat.pow_le_pow_right (by decide) b3
  intro n
  induction n with
  | zero =>
    intro s c z5 z6 hs hc
    show Wp _ _ _ _ _ _ (IsR (some (.int (wE q c))) (mset M σ))
    refine Wp.n (pc' := 90) 5 rfl ?_
    refine Wp.mialdN (j := 3) (len := 1) rfl rfl rfl (by omega) ?_
    refine Wp.top (r0_has hM.1 (by decide)) ?_
    refine Wp.n (pc' := 92) 1 rfl ?_
    refine Wp.top (n_sh1 _ (by omega)) ?_
    refine Wp.nc3 (x := s) (y := 2 ^ kh K 3) (tgt := 177) (len := 3) rfl (by omega) (by omega) (fun h92 => ?_) (fun h92 => ?_)
    · skip
      rcases c with _ | b
      · skip
        refine Wp.n (pc' := 179) 2 rfl ?_
        refine Wp.ic0 (tgt := 187) (len := 3) rfl (fun h179 => ?_) (fun h179 => ?_)
        · skip
          refine Wp.n (pc' := 195) 2 rfl ?_
          refine Wp.retI (len := 1) rfl rfl ?_
          first
            | exact ⟨rfl, rfl⟩
            | exact ⟨by show _ = some (Value.int (if q = 1 then nI b else nI (pop b))); rw [if_pos h184]; rfl, rfl⟩
            | exact ⟨by show _ = some (Value.int (if q = 1 then nI b else nI (pop b))); rw [if_neg h184], rfl⟩
        · exact absurd rfl h179
      · have hb2 := hc b rfl
        refine Wp.n (pc' := 179) 2 rfl ?_
        refine Wp.ic0 (tgt := 187) (len := 3) rfl (fun h179 => ?_) (fun h179 => ?_)
        · exact absurd h179 (oI_ne (by omega))
        · skip
          refine Wp.n (pc' := 184) 2 rfl ?_
          refine Wp.nc1 (x := q) (y := 1) (tgt := 191) (len := 3) rfl (by omega) (by omega) (fun h184 => ?_) (fun h184 => ?_)
          · skip
            refine Wp.n (pc' := 192) 1 rfl ?_
            refine Wp.ecallS (len := 3) rfl rfl rfl rfl (m_sizeOf hb2) ?_
            refine Wp.retI (len := 1) rfl rfl ?_
            first
              | exact ⟨rfl, rfl⟩
              | exact ⟨by show _ = some (Value.int (if q = 1 then nI b else nI (pop b))); rw [if_pos h184]; rfl, rfl⟩
              | exact ⟨by show _ = some (Value.int (if q = 1 then nI b else nI (pop b))); rw [if_neg h184], rfl⟩
          · skip
            refine Wp.n (pc' := 195) 2 rfl ?_
            refine Wp.retI (len := 1) rfl rfl ?_
            first
              | exact ⟨rfl, rfl⟩
              | exact ⟨by show _ = some (Value.int (if q = 1 then nI b else nI (pop b))); rw [if_pos h184]; rfl, rfl⟩
              | exact ⟨by show _ = some (Value.int (if q = 1 then nI b else nI (pop b))); rw [if_neg h184], rfl⟩
    · omega
  | succ n ih =>
    intro s c z5 z6 hs hc
    have hs2 : s < 256 := by omega
    have kk : ∀ (b : Bool) (z5 z6 : Option Value), cB c s = b → Wp (d + 1) md_245 122 [some (.ref 287), some (.int (nI q)), some (.int (nI (ls.length))), some (.int (oI c)), some (.int (nI s)), some (.int (bI b)), some (.int (nI 0))] [] (mset M σ) (IsR (some (.int (wE q (fld (wst ls) (n + 1) s c)))) (mset M σ)) := by
      intro b z5 z6 hbb
      refine m_wa_2 hM hs2 h10 ha hb ls.length 0 b (by omega) (fun z => ?_)
      rw [List.drop_zero]
      show Wp _ _ _ _ _ _ (IsR (some (.int (wE q (fld (wst ls) n (s + 1) (wst ls c s))))) (mset M σ))
      refine Wp.n (pc' := 161) 1 rfl ?_
      refine Wp.ifb0 (tgt := 169) (len := 3) rfl (fun h161 => ?_) (fun h161 => ?_)
      · skip
        refine Wp.n (pc' := 171) 2 rfl ?_
        refine Wp.incN (x := s) (len := 3) rfl rfl ?_
        refine Wp.n (pc' := 82) 1 rfl ?_
        first
          | (have e : wst ls c s = some s := by unfold wst; rw [if_pos]; rw [hbb]; exact Bool.and_eq_true_iff.mp h161
             rw [e]
             exact ih (s + 1) (some s) _ _ (by omega) (fun b q => by cases q; exact hs2))
          | (have e : wst ls c s = c := by unfold wst; rw [if_neg]; rw [hbb]; exact fun q => by rw [Bool.and_eq_true_iff.mpr q] at h161; cases h161
             rw [e]
             exact ih (s + 1) c _ _ (by omega) hc)
      · skip
        refine Wp.n (pc' := 171) 3 rfl ?_
        refine Wp.incN (x := s) (len := 3) rfl rfl ?_
        refine Wp.n (pc' := 82) 1 rfl ?_
        first
          | (have e : wst ls c s = some s := by unfold wst; rw [if_pos]; rw [hbb]; exact Bool.and_eq_true_iff.mp h161
             rw [e]
             exact ih (s + 1) (some s) _ _ (by omega) (fun b q => by cases q; exact hs2))
          | (have e : wst ls c s = c := by unfold wst; rw [if_neg]; rw [hbb]; exact fun q => by rw [Bool.and_eq_true_iff.mpr q] at h161; cases h161
             rw [e]
             exact ih (s + 1) c _ _ (by omega) hc)
    refine Wp.n (pc' := 90) 5 rfl ?_
    refine Wp.mialdN (j := 3) (len := 1) rfl rfl rfl (by omega) ?_
    refine Wp.top (r0_has hM.1 (by decide)) ?_
    refine Wp.n (pc' := 92) 1 rfl ?_
    refine Wp.top (n_sh1 _ (by omega)) ?_
    refine Wp.nc3 (x := s) (y := 2 ^ kh K 3) (tgt := 177) (len := 3) rfl (by omega) (by omega) (fun h92 => ?_) (fun h92 => ?_)
    · omega
    · skip
      rcases c with _ | b
      · skip
        refine Wp.n (pc' := 97) 2 rfl ?_
        refine Wp.ic0 (tgt := 112) (len := 3) rfl (fun h97 => ?_) (fun h97 => ?_)
        · skip
          refine Wp.n (pc' := 122) 5 rfl ?_
          first
            | exact kk true none none rfl
            | exact kk true none none (decide_eq_true h109)
            | exact kk false none none (decide_eq_false (by omega))
        · exact absurd rfl h97
      · have hb2 := hc b rfl
        have pb1 := pop_b (v := b)
        have pb2 := pop_b (v := s)
        refine Wp.n (pc' := 97) 2 rfl ?_
        refine Wp.ic0 (tgt := 112) (len := 3) rfl (fun h97 => ?_) (fun h97 => ?_)
        · exact absurd h97 (oI_ne (by omega))
        · skip
          refine Wp.n (pc' := 102) 1 rfl ?_
          refine Wp.ecallS (len := 3) rfl rfl rfl rfl (m_sizeOf hs2) ?_
          refine Wp.n (pc' := 106) 1 rfl ?_
          refine Wp.ecallS (len := 3) rfl rfl rfl rfl (m_sizeOf hb2) ?_
          refine Wp.nc3 (x := pop s) (y := pop b) (tgt := 116) (len := 3) rfl (by omega) (by omega) (fun h109 => ?_) (fun h109 => ?_)
          · skip
            refine Wp.n (pc' := 122) 4 rfl ?_
            first
              | exact kk true none none rfl
              | exact kk true none none (decide_eq_true h109)
              | exact kk false none none (decide_eq_false (by omega))
          · skip
            refine Wp.n (pc' := 122) 5 rfl ?_
            first
              | exact kk true none none rfl
              | exact kk true none none (decide_eq_true h109)
              | exact kk false none none (decide_eq_false (by omega))

theorem m_watchers (hM : MK σ K) (x : Int32) : Wp (d + 5) md_245 0 [some (.ref 287), some (.int x), none, none, none, none, none] [] (mset M σ) (RI M σ (watA K x)) := by
  have ok := hM.2.1
  have hσ0 := hM.2.2.2
  obtain ⟨b0, b1, b2, b3, b4, b5, b6, b7, b8, b9, b10, b11, b12⟩ := ok_h ok
  unfold watA
  refine Wp.n (pc' := 2) 2 rfl ?_
  refine Wp.mput0 (len := 3) rfl hσ0 ?_
  refine Wp.n (pc' := 6) 1 rfl ?_
  refine Wp.ecallV (len := 3) rfl rfl rfl (rfl) rfl (by decide) rfl (m_isKingdom hM.1 ok) ?_
  refine Wp.ifb0 (tgt := 22) (len := 3) rfl (fun h9 => ?_) (fun h9 => ?_)
  · skip
    refine Wp.n (pc' := 24) 1 rfl ?_
    refine Wp.retI (len := 1) rfl rfl ?_
    first
      | (rw [if_neg (fun q => of_decide_eq_false h9 q.1)]; exact RI_r rfl)
      | (rw [if_neg (fun q => by rw [h19] at q; exact absurd q.2 (by decide))]; exact RI_r rfl)
  · skip
    refine Wp.n (pc' := 16) 4 rfl ?_
    refine Wp.ecallS (len := 3) rfl rfl rfl rfl (m_in _ _ _) ?_
    refine Wp.ifb1 (tgt := 25) (len := 3) rfl (fun h19 => ?_) (fun h19 => ?_)
    · rw [in_isN (k := 2) (by decide)] at h19
      obtain ⟨k, hk, rfl⟩ := isN_of h19
      rw [if_pos ⟨of_decide_eq_true h9, h19⟩]
      refine Wp.n (pc' := 29) 4 rfl ?_
      refine m_wa_1 hM (kh K 4) 0 [] σ (by omega) Scr_r (Nat.le_refl _) (fun i hi => absurd hi (Nat.not_lt_zero i)) (fun l hl => absurd hl List.not_mem_nil) (fun τ ls z e1 hS hl ha hb => ?_)
      refine Wp.n (pc' := 82) 4 rfl ?_
      refine Wp.mono (m_wa_3 (d := d + 4) (MK_scr hM hS) hk hl ha hb (2 ^ kh K 3) 0 none _ _ (by omega) (fun b q => by cases q)) ?_
      rintro _ _ ⟨rfl, rfl⟩
      refine RI_s hS ?_
      unfold watK owlK wE
      rw [← e1]
      have ek : (nI k = (1 : Int32)) ↔ k = 1 := nI_eq (b := 1) (by omega) (by decide)
      cases fld (wst ls) (2 ^ kh K 3) 0 none with
      | none => rfl
      | some b =>
        dsimp only
        by_cases c : k = 1
        · rw [if_pos c, if_pos (ek.mpr c)]
        · rw [if_neg c, if_neg (fun q => c (ek.mp q))]
    · rw [in_isN (k := 2) (by decide)] at h19
      refine Wp.n (pc' := 24) 1 rfl ?_
      refine Wp.retI (len := 1) rfl rfl ?_
      first
        | (rw [if_neg (fun q => of_decide_eq_false h9 q.1)]; exact RI_r rfl)
        | (rw [if_neg (fun q => by rw [h19] at q; exact absurd q.2 (by decide))]; exact RI_r rfl)

end LAWS
