/-! THE WAY BY ROAD. -/
def nxtP (K : KD) (t p q : Nat) : Bool := match roadK K p q with
  | none => false
  | some j => decide (kr K j 2 + distK K q t = distK K p t)
def nxt (K : KD) (t p : Nat) : Option Nat := fnd (nxtP K t p) (kh K 0) 0
def wayK (K : KD) (f t : Nat) : Nat → Option Nat
  | 0 => some f
  | i + 1 => (wayK K f t i).bind (nxt K t)
def wayA (K : KD) (f t : Nat) (x : Int32) : Int32 := if x < 0 ∨ ¬ distK K f t < 1000000 then -1 else oI (wayK K f t x.toNatClampNeg)
theorem fnd_some {p : Nat → Bool} : ∀ {n i j : Nat}, i ≤ j → j < i + n → p j = true → ∃ k, fnd p n i = some k
  | 0, i, j, h1, h2, _ => by omega
  | n + 1, i, j, h1, h2, hp => by
    unfold fnd
    by_cases e : p i = true
    · rw [if_pos e]; exact ⟨i, rfl⟩
    · rw [if_neg e]
      have : j ≠ i := fun q => e (q ▸ hp)
      exact fnd_some (by omega) (by omega) hp
section WAY
variable {d : Nat} {M : AM} {r : Nat} {ρ : RC} {σ : MS} {K : KD} {Q : Option Value → AM → Prop}
theorem nxt_v (ok : KOK K) {t p q : Nat} (h : nxt K t p = some q) : q < kh K 0 ∧ distK K q t < distK K p t := by
  obtain ⟨h1, h2, h3⟩ := fnd_lt h
  refine ⟨by omega, ?_⟩
  unfold nxtP at h3
  cases hr : roadK K p q with
  | none => rw [hr] at h3; cases h3
  | some j =>
    rw [hr] at h3
    have h4 : kr K j 2 + distK K q t = distK K p t := of_decide_eq_true h3
    have := ok_road ok (roadK_v hr).1
    omega
theorem nxt_t (ok : KOK K) {t : Nat} : nxt K t t = none := by
  cases h : nxt K t t with
  | none => rfl
  | some q =>
    have := (nxt_v ok h).2
    rw [(dist_g ok).1 t] at this
    omega
theorem nxt_s (ok : KOK K) {t p : Nat} (h : distK K p t < 1000000) (hp : p ≠ t) : ∃ q, nxt K t p = some q := by
  obtain ⟨c, w, h1, h2⟩ := dist_step ok h hp
  have hb := Eg_b ok h1
  refine fnd_some (j := c) (by omega) (by omega) ?_
  obtain ⟨i, hi, h3, rfl⟩ := h1
  unfold nxtP
  rw [roadK_uni ok hi h3]
  exact decide_eq_true h2.symm
theorem wayK_v (ok : KOK K) {f t : Nat} (hf : f < kh K 0) : ∀ {i p : Nat}, wayK K f t i = some p → p < kh K 0 ∧ distK K p t ≤ distK K f t ∧ rnk K t p + i ≤ rnk K t f
  | 0, p, h => by cases h; exact ⟨hf, by omega, by omega⟩
  | i + 1, p, h => by
    unfold wayK at h
    cases hw : wayK K f t i with
    | none => rw [hw] at h; cases h
    | some q =>
      rw [hw] at h
      obtain ⟨a1, a2, a3⟩ := wayK_v ok hf hw
      obtain ⟨c1, c2⟩ := nxt_v ok (show nxt K t q = some p from h)
      have := rnk_s (t := t) (p := q) c1 c2
      exact ⟨c1, by omega, by omega⟩
theorem wayK_7 (ok : KOK K) {f t : Nat} (hf : f < kh K 0) {i : Nat} (hi : 7 ≤ i) : wayK K f t i = none := by
  cases h : wayK K f t i with
  | none => rfl
  | some p =>
    have h1 := (wayK_v ok hf h).2.2
    have h2 := rnk_lt (t := t) hf
    have h3 := (ok_h ok).1
    omega
theorem wayK_n {f t i : Nat} (h : wayK K f t i = none) : ∀ n, wayK K f t (i + n) = none
  | 0 => h
  | n + 1 => by
    show (wayK K f t (i + n)).bind (nxt K t) = none
    rw [wayK_n h n]
    rfl

theorem k_next_l (hR : RA M r ρ) (hK : RepC ρ K) (hD : DC (rds ρ) K (distK K)) (ok : KOK K) (h32 : 32 ≤ r) {p t : Nat} (hp : p < kh K 0) (ht : t < kh K 0) (hpt : distK K p t < 1000000) : ∀ (n q : Nat) (z : Option Value), q + n = kh K 0 → Wp (d + 2) md_36 2 [some (.ref r), some (.int (nI p)), some (.int (nI t)), some (.int (nI q)), z] [] M (IsR (some (.int (oI (fnd (nxtP K t p) n q)))) M) := by
  intro n
  obtain ⟨b0, b1, b2, b3, b4, b5, b6, b7, b8, b9, b10, b11, b12⟩ := ok_h ok
  have e2 : dI (distK K p t) = nI (distK K p t) := if_pos hpt
  induction n with
  | zero =>
    intro q z hq
    refine Wp.n (pc' := 4) 2 rfl ?_
    refine Wp.get (len := 3) rfl (ra_obj hR) rfl ?_
    refine Wp.top (rc_pl hK) ?_
    refine Wp.nc3 (x := q) (y := kh K 0) (tgt := 62) (len := 3) rfl (by omega) (by omega) (fun h7 => ?_) (fun h7 => ?_)
    · skip
      refine Wp.n (pc' := 63) 1 rfl ?_
      refine Wp.retI (len := 1) rfl rfl ?_
      exact ⟨rfl, rfl⟩
    · omega
  | succ n ih =>
    intro q z hq
    have hw := fun z => ih (q + 1) z (by omega)
    by_cases c : distK K q t < 1000000
    · have e1 : dI (distK K q t) = nI (distK K q t) := if_pos c
      refine Wp.n (pc' := 4) 2 rfl ?_
      refine Wp.get (len := 3) rfl (ra_obj hR) rfl ?_
      refine Wp.top (rc_pl hK) ?_
      refine Wp.nc3 (x := q) (y := kh K 0) (tgt := 62) (len := 3) rfl (by omega) (by omega) (fun h7 => ?_) (fun h7 => ?_)
      · omega
      · skip
        refine Wp.n (pc' := 13) 3 rfl ?_
        refine Wp.ecallV (len := 3) rfl rfl rfl (ra_obj hR) rfl h32 rfl (k_roadOf hR hK ok (by omega) (by omega)) ?_
        rcases hrd : roadK K p q with _ | j
        · have hx : nxtP K t p q = false := by
            unfold nxtP
            rw [hrd]
          refine Wp.n (pc' := 20) 2 rfl ?_
          refine Wp.s (pc' := 56) rfl ?_
          refine Wp.incN (x := q) (len := 3) rfl rfl ?_
          refine Wp.n (pc' := 2) 1 rfl ?_
          unfold fnd
          rw [if_neg (by rw [hx]; first | decide | (rw [decide_eq_false (by omega)]; decide))]
          exact hw _
        · have hj := (roadK_v hrd).1
          have ho := ok_road ok hj
          have hx : nxtP K t p q = decide (kr K j 2 + distK K q t = distK K p t) := by
            unfold nxtP
            rw [hrd]
          refine Wp.n (pc' := 20) 2 rfl ?_
          refine Wp.s (pc' := 23) rfl ?_
          refine Wp.n (pc' := 26) 3 rfl ?_
          refine Wp.ecallV (len := 3) rfl rfl rfl (ra_obj hR) rfl h32 rfl (k_byRoad hR hD ok (by omega) (by omega)) ?_
          refine Wp.top e1 ?_
          refine Wp.n (pc' := 30) 1 rfl ?_
          refine Wp.ic0 (tgt := 56) (len := 3) rfl (fun h30 => ?_) (fun h30 => ?_)
          · exact absurd h30 (oI_ne (by omega))
          · skip
            refine Wp.n (pc' := 35) 1 rfl ?_
            refine Wp.get (len := 3) rfl (ra_road hR (by omega)) rfl ?_
            refine Wp.top (rc_road hK hj).2.2.1 ?_
            refine Wp.n (pc' := 41) 3 rfl ?_
            refine Wp.ecallV (len := 3) rfl rfl rfl (ra_obj hR) rfl h32 rfl (k_byRoad hR hD ok (by omega) (by omega)) ?_
            refine Wp.top e1 ?_
            refine Wp.iaddN (x := kr K j 2) (y := distK K q t) (len := 1) rfl ?_
            refine Wp.n (pc' := 48) 3 rfl ?_
            refine Wp.ecallV (len := 3) rfl rfl rfl (ra_obj hR) rfl h32 rfl (k_byRoad hR hD ok (by omega) (by omega)) ?_
            refine Wp.top e2 ?_
            refine Wp.nc1 (x := (kr K j 2) + (distK K q t)) (y := distK K p t) (tgt := 56) (len := 3) rfl (by omega) (by omega) (fun h51 => ?_) (fun h51 => ?_)
            · skip
              refine Wp.incN (x := q) (len := 3) rfl rfl ?_
              refine Wp.n (pc' := 2) 1 rfl ?_
              unfold fnd
              rw [if_neg (by rw [hx]; first | decide | (rw [decide_eq_false (by omega)]; decide))]
              exact hw _
            · skip
              refine Wp.n (pc' := 55) 1 rfl ?_
              refine Wp.retI (len := 1) rfl rfl ?_
              refine ⟨?_, rfl⟩
              unfold fnd
              rw [if_pos (by rw [hx]; exact decide_eq_true (by omega))]
              rfl
    · have e1 : dI (distK K q t) = -1 := if_neg c
      refine Wp.n (pc' := 4) 2 rfl ?_
      refine Wp.get (len := 3) rfl (ra_obj hR) rfl ?_
      refine Wp.top (rc_pl hK) ?_
      refine Wp.nc3 (x := q) (y := kh K 0) (tgt := 62) (len := 3) rfl (by omega) (by omega) (fun h7 => ?_) (fun h7 => ?_)
      · omega
      · skip
        refine Wp.n (pc' := 13) 3 rfl ?_
        refine Wp.ecallV (len := 3) rfl rfl rfl (ra_obj hR) rfl h32 rfl (k_roadOf hR hK ok (by omega) (by omega)) ?_
        rcases hrd : roadK K p q with _ | j
        · have hx : nxtP K t p q = false := by
            unfold nxtP
            rw [hrd]
          refine Wp.n (pc' := 20) 2 rfl ?_
          refine Wp.s (pc' := 56) rfl ?_
          refine Wp.incN (x := q) (len := 3) rfl rfl ?_
          refine Wp.n (pc' := 2) 1 rfl ?_
          unfold fnd
          rw [if_neg (by rw [hx]; first | decide | (rw [decide_eq_false (by omega)]; decide))]
          exact hw _
        · have hj := (roadK_v hrd).1
          have ho := ok_road ok hj
          have hx : nxtP K t p q = decide (kr K j 2 + distK K q t = distK K p t) := by
            unfold nxtP
            rw [hrd]
          refine Wp.n (pc' := 20) 2 rfl ?_
          refine Wp.s (pc' := 23) rfl ?_
          refine Wp.n (pc' := 26) 3 rfl ?_
          refine Wp.ecallV (len := 3) rfl rfl rfl (ra_obj hR) rfl h32 rfl (k_byRoad hR hD ok (by omega) (by omega)) ?_
          refine Wp.top e1 ?_
          refine Wp.n (pc' := 30) 1 rfl ?_
          refine Wp.ic0 (tgt := 56) (len := 3) rfl (fun h30 => ?_) (fun h30 => ?_)
          · skip
            refine Wp.incN (x := q) (len := 3) rfl rfl ?_
            refine Wp.n (pc' := 2) 1 rfl ?_
            unfold fnd
            rw [if_neg (by rw [hx]; first | decide | (rw [decide_eq_false (by omega)]; decide))]
            exact hw _
          · exact absurd rfl h30

theorem k_next (hR : RA M r ρ) (hK : RepC ρ K) (hD : DC (rds ρ) K (distK K)) (ok : KOK K) (h32 : 32 ≤ r) {p t : Nat} (hp : p < kh K 0) (ht : t < kh K 0) (hpt : distK K p t < 1000000) : Ev (d + 2) md_36 0 [some (.ref r), some (.int (nI p)), some (.int (nI t)), none, none] [] M (some (.int (oI (nxt K t p))), M) := by
  refine Wp.toEv ?_
  refine Wp.n (pc' := 2) 2 rfl ?_
  exact k_next_l hR hK hD ok h32 hp ht hpt (kh K 0) 0 none (by omega)
theorem k_pbr_l (hR : RA M r ρ) (hK : RepC ρ K) (hD : DC (rds ρ) K (distK K)) (ok : KOK K) (h32 : 32 ≤ r) {f t i : Nat} (hf : f < kh K 0) (ht : t < kh K 0) (hft : distK K f t < 1000000) (hi : i < 7) : ∀ (n g : Nat), g + n = i → Wp (d + 3) md_35 28 [some (.ref r), some (.int (nI f)), some (.int (nI t)), some (.int (nI i)), some (.int (oI (wayK K f t g))), some (.int (nI g))] [] M (IsR (some (.int (oI (wayK K f t i)))) M) := by
  intro n
  obtain ⟨b0, b1, b2, b3, b4, b5, b6, b7, b8, b9, b10, b11, b12⟩ := ok_h ok
  induction n with
  | zero =>
    intro g hg
    refine Wp.n (pc' := 31) 2 rfl ?_
    refine Wp.nc3 (x := g) (y := i) (tgt := 59) (len := 3) rfl (by omega) (by omega) (fun h31 => ?_) (fun h31 => ?_)
    · skip
      refine Wp.n (pc' := 61) 1 rfl ?_
      refine Wp.retI (len := 1) rfl rfl ?_
      rw [show g = i by omega]
      exact ⟨rfl, rfl⟩
    · omega
  | succ n ih =>
    intro g hg
    have w := ih (g + 1) (by omega)
    rw [show wayK K f t (g + 1) = (wayK K f t g).bind (nxt K t) from rfl] at w
    refine Wp.n (pc' := 31) 2 rfl ?_
    refine Wp.nc3 (x := g) (y := i) (tgt := 59) (len := 3) rfl (by omega) (by omega) (fun h31 => ?_) (fun h31 => ?_)
    · omega
    · skip
      rcases hc : wayK K f t g with _ | p
      · rw [hc] at w
        refine Wp.n (pc' := 37) 2 rfl ?_
        refine Wp.ic1 (tgt := 44) (len := 3) rfl (fun h37 => ?_) (fun h37 => ?_)
        · exact absurd rfl h37
        · skip
          refine Wp.n (pc' := 53) 3 rfl ?_
          refine Wp.incN (x := g) (len := 3) rfl rfl ?_
          refine Wp.n (pc' := 28) 1 rfl ?_
          exact w
      · rw [hc] at w
        obtain ⟨p1, p2, _⟩ := wayK_v ok hf hc
        refine Wp.n (pc' := 37) 2 rfl ?_
        refine Wp.ic1 (tgt := 44) (len := 3) rfl (fun h37 => ?_) (fun h37 => ?_)
        · skip
          refine Wp.n (pc' := 48) 3 rfl ?_
          refine Wp.ecallV (len := 3) rfl rfl rfl (ra_obj hR) rfl h32 rfl (k_next hR hK hD ok h32 p1 ht (by omega)) ?_
          refine Wp.n (pc' := 53) 1 rfl ?_
          refine Wp.incN (x := g) (len := 3) rfl rfl ?_
          refine Wp.n (pc' := 28) 1 rfl ?_
          exact w
        · exact absurd h37 (oI_ne (by omega))

theorem k_placeByRoad (hR : RA M r ρ) (hK : RepC ρ K) (hD : DC (rds ρ) K (distK K)) (ok : KOK K) (h32 : 32 ≤ r) {f t : Nat} (hf : f < kh K 0) (ht : t < kh K 0) (x : Int32) : Ev (d + 3) md_35 0 [some (.ref r), some (.int (nI f)), some (.int (nI t)), some (.int x), none, none] [] M (some (.int (wayA K f t x)), M) := by
  refine Wp.toEv ?_
  obtain ⟨b0, b1, b2, b3, b4, b5, b6, b7, b8, b9, b10, b11, b12⟩ := ok_h ok
  unfold wayA
  by_cases h0 : x < 0
  · rw [if_pos (Or.inl h0)]
    refine Wp.n (pc' := 1) 1 rfl ?_
    refine Wp.if2 (tgt := 20) (len := 3) rfl (fun h1 => ?_) (fun h1 => ?_)
    · skip
      refine Wp.n (pc' := 21) 1 rfl ?_
      refine Wp.retI (len := 1) rfl rfl ?_
      exact ⟨rfl, rfl⟩
    · exact absurd h0 h1
  · obtain ⟨i, hi, rfl⟩ := nI_of h0
    rw [nI_clamp hi]
    by_cases c : distK K f t < 1000000
    · rw [if_neg (by intro q; rcases q with q | q; exact h0 q; exact q c)]
      have e1 : dI (distK K f t) = nI (distK K f t) := if_pos c
      refine Wp.n (pc' := 1) 1 rfl ?_
      refine Wp.nz2 (x := i) (tgt := 20) (len := 3) rfl (by omega) ?_
      refine Wp.n (pc' := 7) 2 rfl ?_
      refine Wp.nc3 (x := i) (y := 7) (tgt := 20) (len := 3) rfl (by omega) (by omega) (fun h7 => ?_) (fun h7 => ?_)
      · skip
        refine Wp.n (pc' := 21) 1 rfl ?_
        refine Wp.retI (len := 1) rfl rfl ?_
        rw [wayK_7 ok hf h7]
        exact ⟨rfl, rfl⟩
      · skip
        refine Wp.n (pc' := 13) 3 rfl ?_
        refine Wp.ecallV (len := 3) rfl rfl rfl (ra_obj hR) rfl h32 rfl (k_byRoad hR hD ok (by omega) (by omega)) ?_
        refine Wp.top e1 ?_
        refine Wp.n (pc' := 17) 1 rfl ?_
        refine Wp.ic1 (tgt := 22) (len := 3) rfl (fun h17 => ?_) (fun h17 => ?_)
        · skip
          refine Wp.n (pc' := 28) 4 rfl ?_
          exact k_pbr_l hR hK hD ok h32 hf ht c (by omega) i 0 (by omega)
        · exact absurd h17 (oI_ne (by omega))
    · rw [if_pos (Or.inr c)]
      have e1 : dI (distK K f t) = -1 := if_neg c
      refine Wp.n (pc' := 1) 1 rfl ?_
      refine Wp.nz2 (x := i) (tgt := 20) (len := 3) rfl (by omega) ?_
      refine Wp.n (pc' := 7) 2 rfl ?_
      refine Wp.nc3 (x := i) (y := 7) (tgt := 20) (len := 3) rfl (by omega) (by omega) (fun h7 => ?_) (fun h7 => ?_)
      · skip
        refine Wp.n (pc' := 21) 1 rfl ?_
        refine Wp.retI (len := 1) rfl rfl ?_
        exact ⟨rfl, rfl⟩
      · skip
        refine Wp.n (pc' := 13) 3 rfl ?_
        refine Wp.ecallV (len := 3) rfl rfl rfl (ra_obj hR) rfl h32 rfl (k_byRoad hR hD ok (by omega) (by omega)) ?_
        refine Wp.top e1 ?_
        refine Wp.n (pc' := 17) 1 rfl ?_
        refine Wp.ic1 (tgt := 22) (len := 3) rfl (fun h17 => ?_) (fun h17 => ?_)
        · exact absurd rfl h17
        · skip
          refine Wp.n (pc' := 21) 1 rfl ?_
          refine Wp.retI (len := 1) rfl rfl ?_
          exact ⟨rfl, rfl⟩

end WAY
