/-! LENGTHS BY ROAD: Floyd's rounds and Bellman's give the same. -/
def D0 (K : KD) (a b : Nat) : Nat := if a = b then 0 else match roadK K a b with
  | none => 1000000
  | some i => kr K i 2
def ph (k : Nat) (D : Nat → Nat → Nat) : Nat → Nat → Nat := fun a b => min (D a b) (D a k + D k b)
def distK (K : KD) : Nat → Nat → Nat := fld (fun D k => ph k D) (kh K 0) 0 (D0 K)
def Eg (K : KD) (a b w : Nat) : Prop := ∃ i, i < kh K 2 ∧ btw (kr K i 0) (kr K i 1) a b = true ∧ kr K i 2 = w
def Wlk (K : KD) : Nat → Nat → Nat → Nat → Prop
  | 0, a, b, l => a = b ∧ l = 0
  | n + 1, a, b, l => ∃ c w l', Eg K a c w ∧ Wlk K n c b l' ∧ l = w + l'
theorem btw_iff {x y a b : Nat} : btw x y a b = true ↔ (x = a ∧ y = b) ∨ (x = b ∧ y = a) := by
  unfold btw
  simp
theorem btw_sym {x y a b : Nat} (h : btw x y a b = true) : btw x y b a = true := by
  rw [btw_iff] at *
  omega
theorem fnd_none {p : Nat → Bool} : ∀ {n i : Nat}, fnd p n i = none → ∀ j, i ≤ j → j < i + n → p j = false
  | 0, i, _, j, h1, h2 => by omega
  | n + 1, i, h, j, h1, h2 => by
    unfold fnd at h
    by_cases hp : p i = true
    · rw [if_pos hp] at h; cases h
    · rw [if_neg hp] at h
      by_cases hj : j = i
      · subst hj; simpa using hp
      · exact fnd_none h j (by omega) (by omega)
section DST
variable {K : KD}
theorem Eg_sym {a b w : Nat} (h : Eg K a b w) : Eg K b a w := by
  obtain ⟨i, h1, h2, h3⟩ := h
  exact ⟨i, h1, btw_sym h2, h3⟩
theorem Eg_b (ok : KOK K) {a b w : Nat} (h : Eg K a b w) : a < kh K 0 ∧ b < kh K 0 ∧ a ≠ b ∧ 1 ≤ w ∧ w ≤ 129 := by
  obtain ⟨i, h1, h2, h3⟩ := h
  have := ok_road ok h1
  rw [btw_iff] at h2
  omega
theorem roadK_uni (ok : KOK K) {a b i : Nat} (hi : i < kh K 2) (hb : btw (kr K i 0) (kr K i 1) a b = true) : roadK K a b = some i := by
  cases h : roadK K a b with
  | none =>
    have := fnd_none h i (by omega) (by omega)
    rw [hb] at this
    cases this
  | some j =>
    obtain ⟨h1, h2⟩ := roadK_v h
    have : j = i := ok_uni ok h1 hi (by rw [btw_iff] at *; omega)
    rw [this]
theorem D0_edge (ok : KOK K) {a b w : Nat} (h : Eg K a b w) : D0 K a b ≤ w := by
  have hb := Eg_b ok h
  obtain ⟨i, h1, h2, h3⟩ := h
  unfold D0
  rw [if_neg (by omega), roadK_uni ok h1 h2]
  exact Nat.le_of_eq h3
theorem D0_walk {a b : Nat} (h : D0 K a b < 1000000) : ∃ n, Wlk K n a b (D0 K a b) := by
  unfold D0 at *
  by_cases e : a = b
  · rw [if_pos e]
    exact ⟨0, e, rfl⟩
  · rw [if_neg e] at h ⊢
    cases hr : roadK K a b with
    | none => rw [hr] at h; exact absurd (show (1000000 : Nat) < 1000000 from h) (by decide)
    | some i =>
      obtain ⟨h1, h2⟩ := roadK_v hr
      exact ⟨1, b, kr K i 2, 0, ⟨i, h1, h2, rfl⟩, ⟨rfl, rfl⟩, rfl⟩
theorem D0_le (ok : KOK K) (a b : Nat) : D0 K a b ≤ 1000000 := by
  unfold D0
  by_cases e : a = b
  · rw [if_pos e]; omega
  · rw [if_neg e]
    cases hr : roadK K a b with
    | none => exact Nat.le_refl _
    | some i =>
      have := ok_road ok (roadK_v hr).1
      show kr K i 2 ≤ _
      omega
theorem Wlk_app : ∀ {n m a b c l l' : Nat}, Wlk K n a b l → Wlk K m b c l' → Wlk K (n + m) a c (l + l')
  | 0, m, a, b, c, l, l', h, h' => by
    obtain ⟨rfl, rfl⟩ := h
    rw [Nat.zero_add, Nat.zero_add]
    exact h'
  | n + 1, m, a, b, c, l, l', h, h' => by
    obtain ⟨e, w, q, h1, h2, rfl⟩ := h
    rw [show n + 1 + m = (n + m) + 1 by omega]
    exact ⟨e, w, q + l', h1, Wlk_app h2 h', by omega⟩
def GD (K : KD) (D : Nat → Nat → Nat) (k : Nat) : Prop := (∀ a, D a a = 0) ∧ (∀ a b w, Eg K a b w → D a b ≤ w) ∧ (∀ a b, D a b < 1000000 → ∃ n, Wlk K n a b (D a b)) ∧ (∀ a b, D a b ≤ 1000000) ∧ (∀ c, c < k → ∀ a b, D a b ≤ D a c + D c b)
theorem GD_0 (ok : KOK K) : GD K (D0 K) 0 := ⟨fun a => if_pos rfl, fun a b w h => D0_edge ok h, fun a b h => D0_walk h, D0_le ok, fun c h => absurd h (Nat.not_lt_zero c)⟩
theorem GD_s {D : Nat → Nat → Nat} {k : Nat} (h : GD K D k) : GD K (ph k D) (k + 1) := by
  obtain ⟨h1, h2, h3, h4, h5⟩ := h
  refine ⟨fun a => ?_, fun a b w e => ?_, fun a b e => ?_, fun a b => ?_, fun c hc a b => ?_⟩
  · show min (D a a) _ = 0
    rw [h1]; omega
  · have := h2 a b w e
    show min (D a b) _ ≤ w
    omega
  · show ∃ n, Wlk K n a b (min (D a b) (D a k + D k b))
    have e' : min (D a b) (D a k + D k b) < 1000000 := e
    by_cases q : D a b ≤ D a k + D k b
    · rw [Nat.min_eq_left q] at e' ⊢
      exact h3 a b e'
    · rw [Nat.min_eq_right (by omega)] at e' ⊢
      obtain ⟨n, p1⟩ := h3 a k (by omega)
      obtain ⟨m, p2⟩ := h3 k b (by omega)
      exact ⟨n + m, Wlk_app p1 p2⟩
  · have := h4 a b
    show min (D a b) _ ≤ _
    omega
  · show min (D a b) (D a k + D k b) ≤ min (D a c) (D a k + D k c) + min (D c b) (D c k + D k b)
    have hk := h1 k
    by_cases e : c = k
    · subst e
      rw [hk]
      omega
    · have hc' : c < k := by omega
      have t1 := h5 c hc' a b
      have t2 := h5 c hc' k b
      have t3 := h5 c hc' a k
      omega
theorem GD_all (ok : KOK K) : ∀ n, GD K (fld (fun D k => ph k D) n 0 (D0 K)) n
  | 0 => GD_0 ok
  | n + 1 => by
    rw [fld_s, Nat.zero_add]
    exact GD_s (GD_all ok n)
theorem dist_g (ok : KOK K) : GD K (distK K) (kh K 0) := GD_all ok _
theorem dist_le (ok : KOK K) (a b : Nat) : distK K a b ≤ 1000000 := (dist_g ok).2.2.2.1 a b
theorem dist_tri (ok : KOK K) {a c w : Nat} (e : Eg K a c w) (b : Nat) : distK K a b ≤ w + distK K c b := by
  have g := dist_g ok
  have h1 := g.2.1 a c w e
  have h2 := g.2.2.2.2 c (Eg_b ok e).2.1 a b
  omega
theorem dist_wlk (ok : KOK K) : ∀ (n : Nat) {a b l : Nat}, Wlk K n a b l → distK K a b ≤ l
  | 0, a, b, l, h => by
    obtain ⟨rfl, rfl⟩ := h
    rw [(dist_g ok).1]; omega
  | n + 1, a, b, l, h => by
    obtain ⟨c, w, l', h1, h2, rfl⟩ := h
    have := dist_tri ok h1 b
    have := dist_wlk ok n h2
    omega
/-- a step of a least way -/
theorem dist_step (ok : KOK K) {a b : Nat} (h : distK K a b < 1000000) (hab : a ≠ b) : ∃ c w, Eg K a c w ∧ distK K a b = w + distK K c b := by
  obtain ⟨n, hn⟩ := (dist_g ok).2.2.1 a b h
  match n, hn with
  | 0, hn => exact absurd hn.1 hab
  | n + 1, hn =>
    obtain ⟨c, w, l', h1, h2, h3⟩ := hn
    have := dist_tri ok h1 b
    have := dist_wlk ok n h2
    exact ⟨c, w, h1, by omega⟩
-- Bellman
def rlx (K : KD) (g : Nat → Nat) (i : Nat) : Nat → Nat := va_up (va_up g (kr K i 0) (min (g (kr K i 0)) (g (kr K i 1) + kr K i 2))) (kr K i 1) (min (va_up g (kr K i 0) (min (g (kr K i 0)) (g (kr K i 1) + kr K i 2)) (kr K i 1)) (va_up g (kr K i 0) (min (g (kr K i 0)) (g (kr K i 1) + kr K i 2)) (kr K i 0) + kr K i 2))
def bfR (K : KD) (g : Nat → Nat) : Nat → Nat := fld (rlx K) (kh K 2) 0 g
def bfI (t : Nat) : Nat → Nat := fun p => if p = t then 0 else 1000000
def bf (K : KD) (t n : Nat) : Nat → Nat := fld (fun g _ => bfR K g) n 0 (bfI t)
theorem rlx_eq (ok : KOK K) {i : Nat} (hi : i < kh K 2) (g : Nat → Nat) (p : Nat) : rlx K g i p = if p = kr K i 1 then min (g (kr K i 1)) (min (g (kr K i 0)) (g (kr K i 1) + kr K i 2) + kr K i 2) else if p = kr K i 0 then min (g (kr K i 0)) (g (kr K i 1) + kr K i 2) else g p := by
  have hr := ok_road ok hi
  unfold rlx
  by_cases h1 : p = kr K i 1
  · rw [if_pos h1, h1, va_up_self, va_up_self, va_up_ne _ _ (by omega)]
  · rw [if_neg h1, va_up_ne _ _ h1]
    by_cases h2 : p = kr K i 0
    · rw [if_pos h2, h2, va_up_self]
    · rw [if_neg h2, va_up_ne _ _ h2]
theorem rlx_mono (ok : KOK K) {i : Nat} (hi : i < kh K 2) (g : Nat → Nat) (p : Nat) : rlx K g i p ≤ g p := by
  rw [rlx_eq ok hi]
  by_cases h1 : p = kr K i 1
  · rw [if_pos h1, h1]; omega
  · rw [if_neg h1]
    by_cases h2 : p = kr K i 0
    · rw [if_pos h2, h2]; omega
    · rw [if_neg h2]; exact Nat.le_refl _
def GB (K : KD) (t : Nat) (g : Nat → Nat) : Prop := g t = 0 ∧ (∀ p, g p ≤ 1000000) ∧ (∀ p, g p < 1000000 → ∃ n, Wlk K n p t (g p))
theorem Wlk_cons {n a c b w l : Nat} (h : Eg K a c w) (h2 : Wlk K n c b l) : Wlk K (n + 1) a b (l + w) := ⟨c, w, l, h, h2, by omega⟩
theorem GB_s (ok : KOK K) {t i : Nat} {g : Nat → Nat} (hi : i < kh K 2) (h : GB K t g) : GB K t (rlx K g i) := by
  obtain ⟨h1, h2, h3⟩ := h
  have hm := rlx_mono ok hi g
  have hr := ok_road ok hi
  have e01 : Eg K (kr K i 0) (kr K i 1) (kr K i 2) := ⟨i, hi, by rw [btw_iff]; omega, rfl⟩
  have s0 : min (g (kr K i 0)) (g (kr K i 1) + kr K i 2) < 1000000 → ∃ n, Wlk K n (kr K i 0) t (min (g (kr K i 0)) (g (kr K i 1) + kr K i 2)) := by
    intro q
    by_cases c : g (kr K i 0) ≤ g (kr K i 1) + kr K i 2
    · rw [Nat.min_eq_left c] at q ⊢
      exact h3 _ q
    · rw [Nat.min_eq_right (by omega)] at q ⊢
      obtain ⟨n, hn⟩ := h3 (kr K i 1) (by omega)
      exact ⟨n + 1, Wlk_cons e01 hn⟩
  refine ⟨by have := hm t; omega, fun p => Nat.le_trans (hm p) (h2 p), fun p q => ?_⟩
  rw [rlx_eq ok hi] at q ⊢
  by_cases c1 : p = kr K i 1
  · rw [if_pos c1] at q ⊢
    rw [c1]
    by_cases c : g (kr K i 1) ≤ min (g (kr K i 0)) (g (kr K i 1) + kr K i 2) + kr K i 2
    · rw [Nat.min_eq_left c] at q ⊢
      exact h3 _ q
    · rw [Nat.min_eq_right (by omega)] at q ⊢
      obtain ⟨n, hn⟩ := s0 (by omega)
      exact ⟨n + 1, Wlk_cons (Eg_sym e01) hn⟩
  · rw [if_neg c1] at q ⊢
    by_cases c2 : p = kr K i 0
    · rw [if_pos c2] at q ⊢
      rw [c2]
      exact s0 q
    · rw [if_neg c2] at q ⊢
      exact h3 p q
/-- a round: all that is kept, what falls, and each road is passed -/
theorem round_g (ok : KOK K) {t : Nat} : ∀ (n i : Nat) (g : Nat → Nat), i + n = kh K 2 → GB K t g → GB K t (fld (rlx K) n i g) ∧ (∀ p, fld (rlx K) n i g p ≤ g p) ∧ (∀ j, i ≤ j → j < kh K 2 → fld (rlx K) n i g (kr K j 0) ≤ g (kr K j 1) + kr K j 2 ∧ fld (rlx K) n i g (kr K j 1) ≤ g (kr K j 0) + kr K j 2)
  | 0, i, g, h, hg => ⟨hg, fun p => Nat.le_refl _, fun j h1 h2 => by omega⟩
  | n + 1, i, g, h, hg => by
    have hi : i < kh K 2 := by omega
    obtain ⟨r1, r2, r3⟩ := round_g ok n (i + 1) (rlx K g i) (by omega) (GB_s ok hi hg)
    have hm := rlx_mono ok hi g
    have hr := ok_road ok hi
    refine ⟨r1, fun p => Nat.le_trans (r2 p) (hm p), fun j h1 h2 => ?_⟩
    show fld (rlx K) n (i + 1) (rlx K g i) (kr K j 0) ≤ _ ∧ fld (rlx K) n (i + 1) (rlx K g i) (kr K j 1) ≤ _
    by_cases e : j = i
    · subst e
      have q0 := r2 (kr K j 0)
      have q1 := r2 (kr K j 1)
      rw [rlx_eq ok hi, if_neg (by omega), if_pos rfl] at q0
      rw [rlx_eq ok hi, if_pos rfl] at q1
      omega
    · obtain ⟨s1, s2⟩ := r3 j (by omega) h2
      have m0 := hm (kr K j 0)
      have m1 := hm (kr K j 1)
      omega
theorem bfR_g (ok : KOK K) {t : Nat} {g : Nat → Nat} (hg : GB K t g) : GB K t (bfR K g) ∧ (∀ p, bfR K g p ≤ g p) ∧ (∀ a b w, Eg K a b w → bfR K g a ≤ g b + w) := by
  obtain ⟨r1, r2, r3⟩ := round_g ok (kh K 2) 0 g (by omega) hg
  refine ⟨r1, r2, fun a b w e => ?_⟩
  obtain ⟨i, hi, hb, rfl⟩ := e
  obtain ⟨s1, s2⟩ := r3 i (by omega) hi
  rw [btw_iff] at hb
  rcases hb with ⟨rfl, rfl⟩ | ⟨rfl, rfl⟩
  · exact s1
  · exact s2
def cn (P : Nat → Bool) : Nat → Nat
  | 0 => 0
  | n + 1 => cn P n + (P n).toNat
theorem cn_le {P Q : Nat → Bool} : ∀ n, (∀ q, q < n → P q = true → Q q = true) → cn P n ≤ cn Q n
  | 0, _ => Nat.le_refl _
  | n + 1, h => by
    have h1 := cn_le n (fun q hq => h q (by omega))
    have h2 := h n (by omega)
    unfold cn
    cases hp : P n with
    | false => rw [show false.toNat = 0 from rfl]; omega
    | true => rw [h2 hp]; omega
theorem cn_lt {P Q : Nat → Bool} : ∀ n, (∀ q, q < n → P q = true → Q q = true) → (∃ q, q < n ∧ P q = false ∧ Q q = true) → cn P n < cn Q n
  | 0, _, h => by obtain ⟨q, h1, _⟩ := h; omega
  | n + 1, h, e => by
    obtain ⟨q, h1, h2, h3⟩ := e
    have a1 := cn_le n (P := P) (Q := Q) (fun q hq => h q (by omega))
    unfold cn
    by_cases c : q = n
    · subst c
      rw [h2, h3, show false.toNat = 0 from rfl, show true.toNat = 1 from rfl]
      omega
    · have a2 := cn_lt n (P := P) (Q := Q) (fun q hq => h q (by omega)) ⟨q, by omega, h2, h3⟩
      have a3 := h n (by omega)
      cases hp : P n with
      | false => rw [show false.toNat = 0 from rfl]; omega
      | true => rw [a3 hp]; omega
theorem cn_all : ∀ n, cn (fun _ => true) n = n
  | 0 => rfl
  | n + 1 => by
    unfold cn
    rw [cn_all n]
    rfl
def rnk (K : KD) (t p : Nat) : Nat := cn (fun q => decide (distK K q t < distK K p t)) (kh K 0)
theorem rnk_lt {t p : Nat} (hp : p < kh K 0) : rnk K t p < kh K 0 := by
  have := cn_lt (P := fun q => decide (distK K q t < distK K p t)) (Q := fun _ => true) (kh K 0) (fun _ _ _ => rfl) ⟨p, hp, decide_eq_false (by omega), rfl⟩
  rw [cn_all] at this
  exact this
theorem rnk_s {t p c : Nat} (hc : c < kh K 0) (h : distK K c t < distK K p t) : rnk K t c < rnk K t p := by
  refine cn_lt (kh K 0) (fun q _ hq => ?_) ⟨c, hc, decide_eq_false (by omega), decide_eq_true h⟩
  have := of_decide_eq_true hq
  exact decide_eq_true (by omega)
theorem bf_g (ok : KOK K) {t : Nat} : ∀ n, GB K t (bf K t n) ∧ ∀ p, p < kh K 0 → distK K p t < 1000000 → rnk K t p ≤ n → bf K t n p ≤ distK K p t
  | 0 => by
    refine ⟨⟨if_pos rfl, fun p => ?_, fun p q => ?_⟩, fun p hp hd hr => ?_⟩
    · show (if p = t then 0 else 1000000) ≤ _
      by_cases e : p = t
      · rw [if_pos e]; omega
      · rw [if_neg e]; exact Nat.le_refl _
    · have q' : (if p = t then 0 else 1000000) < 1000000 := q
      show ∃ n, Wlk K n p t (if p = t then 0 else 1000000)
      by_cases e : p = t
      · rw [if_pos e]; exact ⟨0, e, rfl⟩
      · rw [if_neg e] at q'; omega
    · by_cases e : p = t
      · show (if p = t then 0 else 1000000) ≤ _
        rw [if_pos e]; omega
      · obtain ⟨c, w, h1, h2⟩ := dist_step ok hd e
        have hb := Eg_b ok h1
        have := rnk_s (t := t) (p := p) hb.2.1 (by omega)
        omega
  | n + 1 => by
    obtain ⟨g1, g2⟩ := bf_g ok (t := t) n
    have e : bf K t (n + 1) = bfR K (bf K t n) := fld_s n 0 _
    rw [e]
    obtain ⟨r1, r2, r3⟩ := bfR_g ok g1
    refine ⟨r1, fun p hp hd hr => ?_⟩
    by_cases e : p = t
    · rw [e, r1.1]; omega
    · obtain ⟨c, w, h1, h2⟩ := dist_step ok hd e
      have hb := Eg_b ok h1
      have h3 := rnk_s (t := t) (p := p) hb.2.1 (by omega)
      have h4 := g2 c hb.2.1 (by omega) (by omega)
      have h5 := r3 p c w h1
      omega
theorem bf_dist (ok : KOK K) {t p : Nat} (hp : p < kh K 0) : bf K t (kh K 0) p = distK K p t := by
  obtain ⟨g1, g2⟩ := bf_g ok (t := t) (kh K 0)
  have h1 := g1.2.1 p
  have h2 := dist_le ok p t
  have h3 := rnk_lt (t := t) hp
  have h4 : bf K t (kh K 0) p < 1000000 → distK K p t ≤ bf K t (kh K 0) p := fun q => by
    obtain ⟨n, hn⟩ := g1.2.2 p q
    exact dist_wlk ok n hn
  have h5 := g2 p hp
  omega
end DST
