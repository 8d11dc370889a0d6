/-! laysFar, byRoad. -/
theorem aset_get {σ : MS} {k : Nat} {f : Nat → Int32} : (aset σ k f).2.2.1 k = f := va_up_self _ _ _
theorem aset_aset {σ : MS} {k : Nat} {f g : Nat → Int32} : aset (aset σ k f) k g = aset σ k g := by
  unfold aset
  have : va_up (va_up σ.2.2.1 k f) k g = va_up σ.2.2.1 k g := by
    funext j
    by_cases h : j = k
    · rw [h, va_up_self, va_up_self]
    · rw [va_up_ne _ _ h, va_up_ne _ _ h, va_up_ne _ _ h]
  rw [this]
theorem aset_same {σ : MS} {k : Nat} : aset σ k (σ.2.2.1 k) = σ := by
  unfold aset
  have : va_up σ.2.2.1 k (σ.2.2.1 k) = σ.2.2.1 := by
    funext j
    by_cases h : j = k
    · rw [h, va_up_self]
    · rw [va_up_ne _ _ h]
  rw [this]
def FR (h : Nat → Int32) (g : Nat → Nat) : Prop := ∀ p, p < 7 → h p = nI (g p)
theorem FR_up {h : Nat → Int32} {g : Nat → Nat} {a v : Nat} {x : Int32} (hh : FR h g) (hx : x = nI v) : FR (upd h a x) (va_up g a v) := by
  intro p hp
  by_cases e : p = a
  · rw [e, pk_us, va_up_self, hx]
  · rw [pk_un e, va_up_ne _ _ e, hh p hp]
def dI (n : Nat) : Int32 := if n < 1000000 then nI n else -1
section FAR
variable {d : Nat} {M : AM} {σ : MS} {K : KD} {Q : Option Value → AM → Prop}

theorem m_lf_i {t : Nat} (ht : t < 7) : ∀ (n p : Nat) (h : Nat → Int32), p + n = 7 → (∀ q, q < p → h q = nI (bfI t q)) → (∀ h', FR h' (bfI t) → Wp d md_189 31 [some (.ref 287), some (.int (nI t)), some (.int (nI 7)), none, none, none] [] (mset M (aset σ 13 h')) Q) → Wp d md_189 2 [some (.ref 287), some (.int (nI t)), some (.int (nI p)), none, none, none] [] (mset M (aset σ 13 h)) Q := by
  intro n
  induction n with
  | zero =>
    intro p h hp hh k
    refine Wp.n (pc' := 5) 2 rfl ?_
    refine Wp.nc3 (x := p) (y := 7) (tgt := 31) (len := 3) rfl (by omega) (by omega) (fun h5 => ?_) (fun h5 => ?_)
    · skip
      have e : p = 7 := by omega
      subst e
      exact k h hh
    · omega
  | succ n ih =>
    intro p h hp hh k
    refine Wp.n (pc' := 5) 2 rfl ?_
    refine Wp.nc3 (x := p) (y := 7) (tgt := 31) (len := 3) rfl (by omega) (by omega) (fun h5 => ?_) (fun h5 => ?_)
    · omega
    · skip
      refine Wp.n (pc' := 15) 5 rfl ?_
      refine Wp.nc1 (x := p) (y := t) (tgt := 22) (len := 3) rfl (by omega) (by omega) (fun h15 => ?_) (fun h15 => ?_)
      · skip
        refine Wp.n (pc' := 24) 1 rfl ?_
        refine Wp.miastN (j := p) (len := 1) rfl rfl rfl (by omega) ?_
        rw [aset_get, aset_aset]
        refine Wp.incN (x := p) (len := 3) rfl rfl ?_
        refine Wp.n (pc' := 2) 1 rfl ?_
        refine ih (p + 1) _ (by omega) (fun q hq => ?_) k
        by_cases e : q = p
        · rw [e, pk_us]
          unfold bfI
          first | (rw [if_pos (by omega)]; rfl) | (rw [if_neg (by omega)]; rfl)
        · rw [pk_un e]
          exact hh q (by omega)
      · skip
        refine Wp.n (pc' := 24) 2 rfl ?_
        refine Wp.miastN (j := p) (len := 1) rfl rfl rfl (by omega) ?_
        rw [aset_get, aset_aset]
        refine Wp.incN (x := p) (len := 3) rfl rfl ?_
        refine Wp.n (pc' := 2) 1 rfl ?_
        refine ih (p + 1) _ (by omega) (fun q hq => ?_) k
        by_cases e : q = p
        · rw [e, pk_us]
          unfold bfI
          first | (rw [if_pos (by omega)]; rfl) | (rw [if_neg (by omega)]; rfl)
        · rw [pk_un e]
          exact hh q (by omega)

theorem m_lf_2 (hM : RepM σ 0 K) (ok : KOK K) {t r i : Nat} (hi : i < kh K 2) {h : Nat → Int32} {g : Nat → Nat} (hh : FR h g) (hg : ∀ p, g p ≤ 1000000) (k : ∀ h', FR h' (va_up g (kr K i 1) (min (g (kr K i 1)) (g (kr K i 0) + kr K i 2))) → Wp d md_189 203 [some (.ref 287), some (.int (nI t)), some (.int (nI r)), some (.int (nI i)), some (.int (nI (kr K i 0))), some (.int (nI (kr K i 1)))] [] (mset M (aset σ 13 h')) Q) : Wp d md_189 140 [some (.ref 287), some (.int (nI t)), some (.int (nI r)), some (.int (nI i)), some (.int (nI (kr K i 0))), some (.int (nI (kr K i 1)))] [] (mset M (aset σ 13 h)) Q := by
  obtain ⟨b0, b1, b2, b3, b4, b5, b6, b7, b8, b9, b10, b11, b12⟩ := ok_h ok
  have hr := ok_road ok hi
  have g0 := hg (kr K i 0)
  have g1 := hg (kr K i 1)
  have e2 := r0_road hM hi (j := 2) (q := 3 * i + 2) (by decide) (by omega)
  have f0 := hh (kr K i 0) (by omega)
  have f1 := hh (kr K i 1) (by omega)
  refine Wp.n (pc' := 152) 6 rfl ?_
  refine Wp.mialdN (j := kr K i 0) (len := 1) rfl rfl rfl (by omega) ?_
  refine Wp.top f0 ?_
  refine Wp.n (pc' := 159) 4 rfl ?_
  refine Wp.imulN (x := 3) (y := i) (len := 1) rfl ?_
  refine Wp.n (pc' := 161) 1 rfl ?_
  refine Wp.iaddN (x := 3 * i) (y := 2) (len := 1) rfl ?_
  refine Wp.mialdN (j := (3 * i) + 2) (len := 1) rfl rfl rfl (by omega) ?_
  refine Wp.top e2 ?_
  refine Wp.iaddN (x := g (kr K i 0)) (y := kr K i 2) (len := 1) rfl ?_
  refine Wp.n (pc' := 170) 3 rfl ?_
  refine Wp.mialdN (j := kr K i 1) (len := 1) rfl rfl rfl (by omega) ?_
  refine Wp.top f1 ?_
  refine Wp.nc3 (x := (g (kr K i 0)) + (kr K i 2)) (y := g (kr K i 1)) (tgt := 195) (len := 3) rfl (by omega) (by omega) (fun h171 => ?_) (fun h171 => ?_)
  · skip
    refine Wp.n (pc' := 201) 3 rfl ?_
    refine Wp.mialdN (j := kr K i 1) (len := 1) rfl rfl rfl (by omega) ?_
    refine Wp.top f1 ?_
    refine Wp.miastN (j := kr K i 1) (len := 1) rfl rfl rfl (by omega) ?_
    rw [aset_get, aset_aset]
    refine k _ (FR_up hh ?_)
    first | rw [Nat.min_eq_left (by omega)] | rw [Nat.min_eq_right (by omega)]
  · skip
    refine Wp.n (pc' := 180) 3 rfl ?_
    refine Wp.mialdN (j := kr K i 0) (len := 1) rfl rfl rfl (by omega) ?_
    refine Wp.top f0 ?_
    refine Wp.n (pc' := 187) 4 rfl ?_
    refine Wp.imulN (x := 3) (y := i) (len := 1) rfl ?_
    refine Wp.n (pc' := 189) 1 rfl ?_
    refine Wp.iaddN (x := 3 * i) (y := 2) (len := 1) rfl ?_
    refine Wp.mialdN (j := (3 * i) + 2) (len := 1) rfl rfl rfl (by omega) ?_
    refine Wp.top e2 ?_
    refine Wp.iaddN (x := g (kr K i 0)) (y := kr K i 2) (len := 1) rfl ?_
    refine Wp.n (pc' := 202) 1 rfl ?_
    refine Wp.miastN (j := kr K i 1) (len := 1) rfl rfl rfl (by omega) ?_
    rw [aset_get, aset_aset]
    refine k _ (FR_up hh ?_)
    first | rw [Nat.min_eq_left (by omega)] | rw [Nat.min_eq_right (by omega)]

theorem m_lf_k (hM : RepM σ 0 K) (ok : KOK K) {t r : Nat} : ∀ (n i : Nat) (h : Nat → Int32) (g : Nat → Nat) (z4 z5 : Option Value), i + n = kh K 2 → FR h g → (∀ p, g p ≤ 1000000) → (∀ h' z4' z5', FR h' (fld (rlx K) n i g) → Wp d md_189 209 [some (.ref 287), some (.int (nI t)), some (.int (nI r)), some (.int (nI (kh K 2))), z4', z5'] [] (mset M (aset σ 13 h')) Q) → Wp d md_189 45 [some (.ref 287), some (.int (nI t)), some (.int (nI r)), some (.int (nI i)), z4, z5] [] (mset M (aset σ 13 h)) Q := by
  intro n
  obtain ⟨b0, b1, b2, b3, b4, b5, b6, b7, b8, b9, b10, b11, b12⟩ := ok_h ok
  induction n with
  | zero =>
    intro i h g z4 z5 hi hh hg k
    refine Wp.n (pc' := 51) 4 rfl ?_
    refine Wp.mialdN (j := 2) (len := 1) rfl rfl rfl (by omega) ?_
    refine Wp.top (r0_has hM (by decide)) ?_
    refine Wp.nc3 (x := i) (y := kh K 2) (tgt := 209) (len := 3) rfl (by omega) (by omega) (fun h52 => ?_) (fun h52 => ?_)
    · skip
      have e : i = kh K 2 := by omega
      rw [e]
      exact k h z4 z5 hh
    · omega
  | succ n ih =>
    intro i h g z4 z5 hi hh hg k
    have hr := ok_road ok (i := i) (by omega)
    have g0 := hg (kr K i 0)
    have g1 := hg (kr K i 1)
    have q0 := r0_road hM (i := i) (by omega) (j := 0) (q := 3 * i) (by decide) (by omega)
    have q1 := r0_road hM (i := i) (by omega) (j := 1) (q := 3 * i + 1) (by decide) (by omega)
    have e2 := r0_road hM (i := i) (by omega) (j := 2) (q := 3 * i + 2) (by decide) (by omega)
    have f0 := hh (kr K i 0) (by omega)
    have f1 := hh (kr K i 1) (by omega)
    have hm := rlx_mono ok (i := i) (by omega) g
    refine Wp.n (pc' := 51) 4 rfl ?_
    refine Wp.mialdN (j := 2) (len := 1) rfl rfl rfl (by omega) ?_
    refine Wp.top (r0_has hM (by decide)) ?_
    refine Wp.nc3 (x := i) (y := kh K 2) (tgt := 209) (len := 3) rfl (by omega) (by omega) (fun h52 => ?_) (fun h52 => ?_)
    · omega
    · skip
      refine Wp.n (pc' := 61) 4 rfl ?_
      refine Wp.imulN (x := 3) (y := i) (len := 1) rfl ?_
      refine Wp.mialdN (j := 3 * i) (len := 1) rfl rfl rfl (by omega) ?_
      refine Wp.top q0 ?_
      refine Wp.n (pc' := 71) 5 rfl ?_
      refine Wp.imulN (x := 3) (y := i) (len := 1) rfl ?_
      refine Wp.n (pc' := 73) 1 rfl ?_
      refine Wp.iaddN (x := 3 * i) (y := 1) (len := 1) rfl ?_
      refine Wp.mialdN (j := (3 * i) + 1) (len := 1) rfl rfl rfl (by omega) ?_
      refine Wp.top q1 ?_
      refine Wp.n (pc' := 89) 7 rfl ?_
      refine Wp.mialdN (j := kr K i 1) (len := 1) rfl rfl rfl (by omega) ?_
      refine Wp.top f1 ?_
      refine Wp.n (pc' := 96) 4 rfl ?_
      refine Wp.imulN (x := 3) (y := i) (len := 1) rfl ?_
      refine Wp.n (pc' := 98) 1 rfl ?_
      refine Wp.iaddN (x := 3 * i) (y := 2) (len := 1) rfl ?_
      refine Wp.mialdN (j := (3 * i) + 2) (len := 1) rfl rfl rfl (by omega) ?_
      refine Wp.top e2 ?_
      refine Wp.iaddN (x := g (kr K i 1)) (y := kr K i 2) (len := 1) rfl ?_
      refine Wp.n (pc' := 107) 3 rfl ?_
      refine Wp.mialdN (j := kr K i 0) (len := 1) rfl rfl rfl (by omega) ?_
      refine Wp.top f0 ?_
      refine Wp.nc3 (x := (g (kr K i 1)) + (kr K i 2)) (y := g (kr K i 0)) (tgt := 132) (len := 3) rfl (by omega) (by omega) (fun h108 => ?_) (fun h108 => ?_)
      · skip
        refine Wp.n (pc' := 138) 3 rfl ?_
        refine Wp.mialdN (j := kr K i 0) (len := 1) rfl rfl rfl (by omega) ?_
        refine Wp.top f0 ?_
        refine Wp.miastN (j := kr K i 0) (len := 1) rfl rfl rfl (by omega) ?_
        rw [aset_get, aset_aset]
        have hu : FR _ (va_up g (kr K i 0) (min (g (kr K i 0)) (g (kr K i 1) + kr K i 2))) := FR_up hh (by first | rw [Nat.min_eq_left (by omega)] | rw [Nat.min_eq_right (by omega)])
        refine m_lf_2 hM ok (by omega) hu (fun p => ?_) (fun h' hh' => ?_)
        · by_cases e : p = kr K i 0
          · rw [e, va_up_self]; omega
          · rw [va_up_ne _ _ e]; exact hg p
        · skip
          refine Wp.incN (x := i) (len := 3) rfl rfl ?_
          refine Wp.n (pc' := 45) 1 rfl ?_
          exact ih (i + 1) h' (rlx K g i) _ _ (by omega) hh' (fun p => Nat.le_trans (hm p) (hg p)) k
        
      · skip
        refine Wp.n (pc' := 117) 3 rfl ?_
        refine Wp.mialdN (j := kr K i 1) (len := 1) rfl rfl rfl (by omega) ?_
        refine Wp.top f1 ?_
        refine Wp.n (pc' := 124) 4 rfl ?_
        refine Wp.imulN (x := 3) (y := i) (len := 1) rfl ?_
        refine Wp.n (pc' := 126) 1 rfl ?_
        refine Wp.iaddN (x := 3 * i) (y := 2) (len := 1) rfl ?_
        refine Wp.mialdN (j := (3 * i) + 2) (len := 1) rfl rfl rfl (by omega) ?_
        refine Wp.top e2 ?_
        refine Wp.iaddN (x := g (kr K i 1)) (y := kr K i 2) (len := 1) rfl ?_
        refine Wp.n (pc' := 139) 1 rfl ?_
        refine Wp.miastN (j := kr K i 0) (len := 1) rfl rfl rfl (by omega) ?_
        rw [aset_get, aset_aset]
        have hu : FR _ (va_up g (kr K i 0) (min (g (kr K i 0)) (g (kr K i 1) + kr K i 2))) := FR_up hh (by first | rw [Nat.min_eq_left (by omega)] | rw [Nat.min_eq_right (by omega)])
        refine m_lf_2 hM ok (by omega) hu (fun p => ?_) (fun h' hh' => ?_)
        · by_cases e : p = kr K i 0
          · rw [e, va_up_self]; omega
          · rw [va_up_ne _ _ e]; exact hg p
        · skip
          refine Wp.incN (x := i) (len := 3) rfl rfl ?_
          refine Wp.n (pc' := 45) 1 rfl ?_
          exact ih (i + 1) h' (rlx K g i) _ _ (by omega) hh' (fun p => Nat.le_trans (hm p) (hg p)) k
        

theorem bf_le (ok : KOK K) {t : Nat} (n : Nat) : ∀ p, bf K t n p ≤ 1000000 := (bf_g ok n).1.2.1
theorem m_lf_n (hM : RepM σ 0 K) (ok : KOK K) {t : Nat} : ∀ (n r : Nat) (h : Nat → Int32) (z3 z4 z5 : Option Value), r + n = kh K 0 → FR h (bf K t r) → (∀ h' z3' z4' z5', FR h' (bf K t (kh K 0)) → Wp d md_189 215 [some (.ref 287), some (.int (nI t)), some (.int (nI (kh K 0))), z3', z4', z5'] [] (mset M (aset σ 13 h')) Q) → Wp d md_189 33 [some (.ref 287), some (.int (nI t)), some (.int (nI r)), z3, z4, z5] [] (mset M (aset σ 13 h)) Q := by
  intro n
  obtain ⟨b0, b1, b2, b3, b4, b5, b6, b7, b8, b9, b10, b11, b12⟩ := ok_h ok
  induction n with
  | zero =>
    intro r h z3 z4 z5 hr hh k
    refine Wp.n (pc' := 39) 4 rfl ?_
    refine Wp.mialdN (j := 0) (len := 1) rfl rfl rfl (by omega) ?_
    refine Wp.top (r0_has hM (by decide)) ?_
    refine Wp.nc3 (x := r) (y := kh K 0) (tgt := 215) (len := 3) rfl (by omega) (by omega) (fun h40 => ?_) (fun h40 => ?_)
    · skip
      have e : r = kh K 0 := by omega
      rw [e] at hh ⊢
      exact k h z3 z4 z5 hh
    · omega
  | succ n ih =>
    intro r h z3 z4 z5 hr hh k
    refine Wp.n (pc' := 39) 4 rfl ?_
    refine Wp.mialdN (j := 0) (len := 1) rfl rfl rfl (by omega) ?_
    refine Wp.top (r0_has hM (by decide)) ?_
    refine Wp.nc3 (x := r) (y := kh K 0) (tgt := 215) (len := 3) rfl (by omega) (by omega) (fun h40 => ?_) (fun h40 => ?_)
    · omega
    · skip
      refine Wp.n (pc' := 45) 2 rfl ?_
      refine m_lf_k hM ok (kh K 2) 0 h (bf K t r) _ _ (by omega) hh (bf_le ok r) (fun h' z4' z5' hh' => ?_)
      refine Wp.incN (x := r) (len := 3) rfl rfl ?_
      refine Wp.n (pc' := 33) 1 rfl ?_
      refine ih (r + 1) h' _ _ _ (by omega) ?_ k
      rw [show bf K t (r + 1) = bfR K (bf K t r) from fld_s r 0 _]
      exact hh'
      

def FarOf (h : Nat → Int32) (K : KD) (t : Nat) : Prop := ∀ p, p < kh K 0 → h p = nI (distK K p t)
theorem m_laysFar (hM : RepM σ 0 K) (ok : KOK K) {t : Nat} (ht : t < 7) : Wp d md_189 0 [some (.ref 287), some (.int (nI t)), none, none, none, none] [] (mset M σ) (fun v M' => v = none ∧ ∃ h, M' = mset M (aset σ 13 h) ∧ FarOf h K t) := by
  obtain ⟨b0, b1, b2, b3, b4, b5, b6, b7, b8, b9, b10, b11, b12⟩ := ok_h ok
  have e : mset M σ = mset M (aset σ 13 (σ.2.2.1 13)) := by rw [aset_same]
  rw [e]
  refine Wp.n (pc' := 2) 2 rfl ?_
  refine m_lf_i ht 7 0 _ (by omega) (fun q hq => by omega) (fun h0 hh0 => ?_)
  refine Wp.n (pc' := 33) 2 rfl ?_
  refine m_lf_n hM ok (kh K 0) 0 h0 _ _ _ (by omega) hh0 (fun h' z3 z4 z5 hh' => ?_)
  refine Wp.retV (len := 1) rfl rfl ⟨rfl, h', rfl, fun p hp => ?_⟩
  rw [hh' p (by omega), bf_dist ok hp]
theorem m_byRoad (hM : RepM σ 0 K) (ok : KOK K) {a t : Nat} (ha : a < kh K 0) (ht : t < 7) : Wp (d + 1) md_188 0 [some (.ref 287), some (.int (nI a)), some (.int (nI t))] [] (mset M σ) (fun v M' => v = some (.int (dI (distK K a t))) ∧ ∃ h, M' = mset M (aset σ 13 h) ∧ FarOf h K t) := by
  obtain ⟨b0, b1, b2, b3, b4, b5, b6, b7, b8, b9, b10, b11, b12⟩ := ok_h ok
  have hd := dist_le ok a t
  unfold dI
  refine Wp.n (pc' := 2) 2 rfl ?_
  refine Wp.callV (len := 3) rfl rfl rfl (rfl) rfl (by decide) rfl (m_laysFar hM ok ht) ?_
  rintro _ _ ⟨rfl, h, rfl, hh⟩
  refine Wp.n (pc' := 10) 3 rfl ?_
  refine Wp.mialdN (j := a) (len := 1) rfl rfl rfl (by omega) ?_
  refine Wp.top (hh a ha) ?_
  refine Wp.n (pc' := 13) 1 rfl ?_
  refine Wp.nc2 (x := distK K a t) (y := 1000000) (tgt := 20) (len := 3) rfl (by omega) (by omega) (fun h13 => ?_) (fun h13 => ?_)
  · skip
    refine Wp.n (pc' := 25) 3 rfl ?_
    refine Wp.mialdN (j := a) (len := 1) rfl rfl rfl (by omega) ?_
    refine Wp.top (hh a ha) ?_
    refine Wp.retI (len := 1) rfl rfl ?_
    first | (rw [if_pos (by omega)]; exact ⟨rfl, h, rfl, hh⟩) | (rw [if_neg (by omega)]; exact ⟨rfl, h, rfl, hh⟩)
  · skip
    refine Wp.n (pc' := 26) 2 rfl ?_
    refine Wp.retI (len := 1) rfl rfl ?_
    first | (rw [if_pos (by omega)]; exact ⟨rfl, h, rfl, hh⟩) | (rw [if_neg (by omega)]; exact ⟨rfl, h, rfl, hh⟩)

theorem k_byRoad {r : Nat} {ρ : RC} (hR : RA M r ρ) (hD : DC (rds ρ) K (distK K)) (ok : KOK K) {a b : Nat} (ha : a < kh K 0) (hb : b < kh K 0) : Ev (d + 1) md_34 0 [some (.ref r), some (.int (nI a)), some (.int (nI b)), none] [] M (some (.int (dI (distK K a b))), M) := by
  obtain ⟨b0, b1, b2, b3, b4, b5, b6, b7, b8, b9, b10, b11, b12⟩ := ok_h ok
  have w := ra_ev hR (c_byRoad (d := d) (M := M) (r := r) (ρ := ρ) a b (by omega) (by omega))
  have hd := dist_le ok a b
  rw [hD a b ha hb, nI_toInt (by omega)] at w
  unfold dI
  by_cases c : distK K a b < 1000000
  · rw [if_pos c]
    rw [if_pos (by omega)] at w
    exact w
  · rw [if_neg c]
    rw [if_neg (by omega)] at w
    exact w
end FAR
