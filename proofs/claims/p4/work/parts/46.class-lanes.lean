/-! BITS OF LANES in the class, boats, watched lanes, laneBit; what is spared and owed. -/
def bitsC (K : KD) (ls : List Nat) : Nat := bitsM (ls.map (phL K))
def pbits (p : Nat → Bool) (n : Nat) : Nat := fld (fun b i => if p i = true then b ||| 2 ^ i else b) n 0 0
theorem pbits_tb (p : Nat → Bool) (i : Nat) : ∀ n, (pbits p n).testBit i = (decide (i < n) && p i)
  | 0 => by simp [pbits, fld]
  | n + 1 => by
    have ih := pbits_tb p i n
    unfold pbits at ih ⊢
    rw [fld_s, Nat.zero_add]
    by_cases hp : p n = true
    · rw [if_pos hp, Nat.testBit_or, ih, Nat.testBit_two_pow]
      by_cases e : n = i
      · subst e; simp [hp]
      · by_cases c : i < n
        · simp [e, c, show i < n + 1 by omega]
        · simp [e, c, show ¬ i < n + 1 by omega]
    · rw [if_neg hp, ih]
      by_cases e : n = i
      · subst e; simp [hp]
      · by_cases c : i < n
        · simp [c, show i < n + 1 by omega]
        · simp [c, show ¬ i < n + 1 by omega]
theorem pbits_lt (p : Nat → Bool) {n : Nat} (h : n ≤ 9) : pbits p n < 2 ^ 9 := by
  apply Nat.lt_pow_two_of_testBit
  intro i hi
  rw [pbits_tb]
  simp [show ¬ i < n by omega]
theorem and_zero_iff (a b : Nat) : a &&& b = 0 ↔ ∀ i, ¬ (a.testBit i = true ∧ b.testBit i = true) := by
  constructor
  · intro h i ⟨h1, h2⟩
    have e := congrArg (fun x => x.testBit i) h
    simp only [Nat.testBit_and, Nat.zero_testBit, h1, h2] at e
    cases e
  · intro h
    apply Nat.eq_of_testBit_eq
    intro i
    rw [Nat.testBit_and, Nat.zero_testBit]
    have := h i
    cases h1 : a.testBit i <;> cases h2 : b.testBit i <;> simp_all
theorem ph_lgl {K : KD} (ok : KOK K) {l : Nat} (hl : LV K l) : lgl K (phL K l) = l := by
  have b3 := (ok_h ok).2.2.2.1
  unfold LV at hl
  unfold lgl phL
  by_cases h : l = 8
  · rw [if_pos h, if_neg (by omega)]; exact h.symm
  · rw [if_neg h, if_pos (by omega)]
theorem bitsC_app (K : KD) (ls : List Nat) (l : Nat) : bitsC K (ls ++ [l]) = bitsC K ls ||| 2 ^ phL K l := by
  unfold bitsC
  rw [List.map_append, List.map_cons, List.map_nil, bitsM_app]
theorem bitsC_lt {K : KD} (ok : KOK K) {ls : List Nat} (h : ∀ l, l ∈ ls → LV K l) : bitsC K ls < 2 ^ 9 := by
  refine bits_lt (fun l hl => ?_)
  obtain ⟨x, hx, rfl⟩ := List.mem_map.mp hl
  exact (LV_ph ok (h x hx)).1
theorem bitsC_tb {K : KD} {ls : List Nat} {i : Nat} : (bitsC K ls).testBit i = true ↔ ∃ l, l ∈ ls ∧ phL K l = i := by
  unfold bitsC
  rw [bits_tb, List.contains_iff_mem, List.mem_map]
/-- the class's test of lanes with p, and the mathematical one -/
theorem bitsC_and {K : KD} (ok : KOK K) {ls : List Nat} (h : ∀ l, l ∈ ls → LV K l) (p : Nat → Bool) : bitsC K ls &&& pbits (fun i => p (lgl K i)) (kh K 3 + kh K 11) = 0 ↔ ls.any p = false := by
  rw [and_zero_iff]
  constructor
  · intro q
    cases e : ls.any p with
    | false => rfl
    | true =>
      obtain ⟨l, hl, hp⟩ := List.any_eq_true.mp e
      refine absurd ⟨bitsC_tb.mpr ⟨l, hl, rfl⟩, ?_⟩ (q (phL K l))
      rw [pbits_tb, ph_lgl ok (h l hl), hp, decide_eq_true (LV_ph ok (h l hl)).2]
      rfl
  · intro q i ⟨h1, h2⟩
    obtain ⟨l, hl, rfl⟩ := bitsC_tb.mp h1
    rw [pbits_tb, ph_lgl ok (h l hl), Bool.and_eq_true] at h2
    have : ls.any p = true := List.any_eq_true.mpr ⟨l, hl, h2.2⟩
    rw [q] at this
    cases this
def boatP (K : KD) (l : Nat) : Bool := decide (kl K l 5 = 2)
def watP (K : KD) (l : Nat) : Bool := decide (0 < kl K l 6)
def boatC (K : KD) : Nat := pbits (fun i => boatP K (lgl K i)) (kh K 3 + kh K 11)
def watC (K : KD) : Nat := pbits (fun i => watP K (lgl K i)) (kh K 3 + kh K 11)
theorem boatC_and {K : KD} (ok : KOK K) {ls : List Nat} (h : ∀ l, l ∈ ls → LV K l) : bitsC K ls &&& boatC K = 0 ↔ boatK K ls = false := bitsC_and ok h (boatP K)
theorem watC_and {K : KD} (ok : KOK K) {ls : List Nat} (h : ∀ l, l ∈ ls → LV K l) : bitsC K ls &&& watC K = 0 ↔ ls.any (watP K) = false := bitsC_and ok h (watP K)
section TRIP
variable {d : Nat} {M : AM} {r : Nat} {ρ : RC} {K : KD} {κ κ' : CS} {Q : Option Value → AM → Prop}

theorem k_boatLanes_l (hR : RA M r ρ) (hK : RepC ρ K) (ok : KOK K) : ∀ (n i b : Nat), i + n = kh K 3 + kh K 11 → Wp d md_44 4 [some (.ref r), some (.int (nI b)), some (.int (nI i))] [] M (IsR (some (.int (nI (fld (fun b i => if boatP K (lgl K i) = true then b ||| 2 ^ i else b) n i b)))) M) := by
  intro n
  obtain ⟨b0, b1, b2, b3, b4, b5, b6, b7, b8, b9, b10, b11, b12⟩ := ok_h ok
  induction n with
  | zero =>
    intro i b hi
    refine Wp.n (pc' := 6) 2 rfl ?_
    refine Wp.get (len := 3) rfl (ra_obj hR) rfl ?_
    refine Wp.top (rc_la hK) ?_
    refine Wp.nc3 (x := i) (y := kh K 3 + kh K 11) (tgt := 41) (len := 3) rfl (by omega) (by omega) (fun h9 => ?_) (fun h9 => ?_)
    · skip
      refine Wp.n (pc' := 42) 1 rfl ?_
      refine Wp.retI (len := 1) rfl rfl ?_
      exact ⟨rfl, rfl⟩
    · omega
  | succ n ih =>
    intro i b hi
    obtain ⟨hl, hph⟩ := lgl_v ok (i := i) (by omega)
    have q := rc_lane hK hl
    rw [hph] at q
    have t := ok_lane ok hl
    show Wp _ _ _ _ _ _ (IsR (some (.int (nI (fld (fun b i => if boatP K (lgl K i) = true then b ||| 2 ^ i else b) n (i + 1) (if boatP K (lgl K i) = true then b ||| 2 ^ i else b))))) M)
    refine Wp.n (pc' := 6) 2 rfl ?_
    refine Wp.get (len := 3) rfl (ra_obj hR) rfl ?_
    refine Wp.top (rc_la hK) ?_
    refine Wp.nc3 (x := i) (y := kh K 3 + kh K 11) (tgt := 41) (len := 3) rfl (by omega) (by omega) (fun h9 => ?_) (fun h9 => ?_)
    · omega
    · skip
      refine Wp.n (pc' := 14) 2 rfl ?_
      refine Wp.get (len := 3) rfl (ra_obj hR) rfl ?_
      refine Wp.n (pc' := 18) 1 rfl ?_
      refine Wp.aaldN (j := i) (len := 1) rfl (ra_lanes hR) rfl (by omega) (by decide) (if_pos (by omega)) ?_
      refine Wp.get (len := 3) rfl (ra_lane hR (by omega)) rfl ?_
      refine Wp.top q.1 ?_
      refine Wp.n (pc' := 23) 1 rfl ?_
      refine Wp.nc1 (x := kl K (lgl K i) 5 + 1) (y := 3) (tgt := 32) (len := 3) rfl (by omega) (by omega) (fun h23 => ?_) (fun h23 => ?_)
      · skip
        refine Wp.n (pc' := 34) 2 rfl ?_
        refine Wp.top (n_or _ _) ?_
        refine Wp.n (pc' := 35) 1 rfl ?_
        refine Wp.incN (x := i) (len := 3) rfl rfl ?_
        refine Wp.n (pc' := 4) 1 rfl ?_
        first
          | (have e : boatP K (lgl K i) = true := decide_eq_true (by omega)
             rw [if_pos e]
             exact ih (i + 1) _ (by omega))
          | (have e : ¬ boatP K (lgl K i) = true := fun e => by have := of_decide_eq_true e; omega
             rw [if_neg e]
             have w := ih (i + 1) (b ||| 0) (by omega)
             rw [Nat.or_zero] at w ⊢
             exact w)
      · skip
        refine Wp.n (pc' := 29) 3 rfl ?_
        refine Wp.top (n_sh1 i (by omega)) ?_
        refine Wp.n (pc' := 34) 2 rfl ?_
        refine Wp.top (n_or _ _) ?_
        refine Wp.n (pc' := 35) 1 rfl ?_
        refine Wp.incN (x := i) (len := 3) rfl rfl ?_
        refine Wp.n (pc' := 4) 1 rfl ?_
        first
          | (have e : boatP K (lgl K i) = true := decide_eq_true (by omega)
             rw [if_pos e]
             exact ih (i + 1) _ (by omega))
          | (have e : ¬ boatP K (lgl K i) = true := fun e => by have := of_decide_eq_true e; omega
             rw [if_neg e]
             have w := ih (i + 1) (b ||| 0) (by omega)
             rw [Nat.or_zero] at w ⊢
             exact w)

theorem k_boatLanes (hR : RA M r ρ) (hK : RepC ρ K) (ok : KOK K) : Ev d md_44 0 [some (.ref r), none, none] [] M (some (.int (nI (boatC K))), M) := by
  refine Wp.toEv ?_
  refine Wp.n (pc' := 4) 4 rfl ?_
  exact k_boatLanes_l hR hK ok _ 0 0 (by omega)

theorem k_watchedLanes_l (hR : RA M r ρ) (hK : RepC ρ K) (ok : KOK K) : ∀ (n i b : Nat), i + n = kh K 3 + kh K 11 → Wp d md_45 4 [some (.ref r), some (.int (nI b)), some (.int (nI i))] [] M (IsR (some (.int (nI (fld (fun b i => if watP K (lgl K i) = true then b ||| 2 ^ i else b) n i b)))) M) := by
  intro n
  obtain ⟨b0, b1, b2, b3, b4, b5, b6, b7, b8, b9, b10, b11, b12⟩ := ok_h ok
  induction n with
  | zero =>
    intro i b hi
    refine Wp.n (pc' := 6) 2 rfl ?_
    refine Wp.get (len := 3) rfl (ra_obj hR) rfl ?_
    refine Wp.top (rc_la hK) ?_
    refine Wp.nc3 (x := i) (y := kh K 3 + kh K 11) (tgt := 40) (len := 3) rfl (by omega) (by omega) (fun h9 => ?_) (fun h9 => ?_)
    · skip
      refine Wp.n (pc' := 41) 1 rfl ?_
      refine Wp.retI (len := 1) rfl rfl ?_
      exact ⟨rfl, rfl⟩
    · omega
  | succ n ih =>
    intro i b hi
    obtain ⟨hl, hph⟩ := lgl_v ok (i := i) (by omega)
    have q := rc_lane hK hl
    rw [hph] at q
    have t := ok_lane ok hl
    show Wp _ _ _ _ _ _ (IsR (some (.int (nI (fld (fun b i => if watP K (lgl K i) = true then b ||| 2 ^ i else b) n (i + 1) (if watP K (lgl K i) = true then b ||| 2 ^ i else b))))) M)
    refine Wp.n (pc' := 6) 2 rfl ?_
    refine Wp.get (len := 3) rfl (ra_obj hR) rfl ?_
    refine Wp.top (rc_la hK) ?_
    refine Wp.nc3 (x := i) (y := kh K 3 + kh K 11) (tgt := 40) (len := 3) rfl (by omega) (by omega) (fun h9 => ?_) (fun h9 => ?_)
    · omega
    · skip
      refine Wp.n (pc' := 14) 2 rfl ?_
      refine Wp.get (len := 3) rfl (ra_obj hR) rfl ?_
      refine Wp.n (pc' := 18) 1 rfl ?_
      refine Wp.aaldN (j := i) (len := 1) rfl (ra_lanes hR) rfl (by omega) (by decide) (if_pos (by omega)) ?_
      refine Wp.get (len := 3) rfl (ra_lane hR (by omega)) rfl ?_
      refine Wp.top q.2.2.2.2.2 ?_
      refine Wp.nz5 (x := kl K (lgl K i) 6) (tgt := 31) (len := 3) rfl (by omega) (fun h22 => ?_) (fun h22 => ?_)
      · skip
        refine Wp.n (pc' := 33) 2 rfl ?_
        refine Wp.top (n_or _ _) ?_
        refine Wp.n (pc' := 34) 1 rfl ?_
        refine Wp.incN (x := i) (len := 3) rfl rfl ?_
        refine Wp.n (pc' := 4) 1 rfl ?_
        first
          | (have e : watP K (lgl K i) = true := decide_eq_true (by omega)
             rw [if_pos e]
             exact ih (i + 1) _ (by omega))
          | (have e : ¬ watP K (lgl K i) = true := fun e => by have := of_decide_eq_true e; omega
             rw [if_neg e]
             have w := ih (i + 1) (b ||| 0) (by omega)
             rw [Nat.or_zero] at w ⊢
             exact w)
      · skip
        refine Wp.n (pc' := 28) 3 rfl ?_
        refine Wp.top (n_sh1 i (by omega)) ?_
        refine Wp.n (pc' := 33) 2 rfl ?_
        refine Wp.top (n_or _ _) ?_
        refine Wp.n (pc' := 34) 1 rfl ?_
        refine Wp.incN (x := i) (len := 3) rfl rfl ?_
        refine Wp.n (pc' := 4) 1 rfl ?_
        first
          | (have e : watP K (lgl K i) = true := decide_eq_true (by omega)
             rw [if_pos e]
             exact ih (i + 1) _ (by omega))
          | (have e : ¬ watP K (lgl K i) = true := fun e => by have := of_decide_eq_true e; omega
             rw [if_neg e]
             have w := ih (i + 1) (b ||| 0) (by omega)
             rw [Nat.or_zero] at w ⊢
             exact w)

theorem k_watchedLanes (hR : RA M r ρ) (hK : RepC ρ K) (ok : KOK K) : Ev d md_45 0 [some (.ref r), none, none] [] M (some (.int (nI (watC K))), M) := by
  refine Wp.toEv ?_
  refine Wp.n (pc' := 4) 4 rfl ?_
  exact k_watchedLanes_l hR hK ok _ 0 0 (by omega)

/-- the lane's bit of what joins -/
def bitJ (K : KD) (j : Nat) : Nat := if j < 20 then 0 else 2 ^ phL K (j - 20)
theorem k_laneBit (hR : RA M r ρ) (hK : RepC ρ K) (ok : KOK K) {j : Nat} (hj : JV K j) : Ev d md_8 0 [some (.ref (jad K r j))] [] M (some (.int (nI (bitJ K j))), M) := by
  obtain ⟨b0, b1, b2, b3, b4, b5, b6, b7, b8, b9, b10, b11, b12⟩ := ok_h ok
  unfold jad bitJ
  rcases hj with h | ⟨h, h2⟩
  · have q := rc_road hK h
    rw [if_pos (by omega), if_pos (by omega)]
    have w := ra_ev hR (c_laneBit_road (d := d) (M := M) (ρ := ρ) (r := r) (i := j) (by omega))
    rw [if_pos q.1] at w
    exact w
  · have q := rc_lane hK h2
    have p := LV_ph ok h2
    have t := ok_lane ok h2
    rw [if_neg (by omega), if_neg (by omega)]
    have w := ra_ev hR (c_laneBit_lane (d := d) (M := M) (ρ := ρ) (r := r) (i := phL K (j - 20)) (by omega))
    rw [if_neg (by rw [q.1]; exact fun e => by have := (nI_eq (a := kl K (j - 20) 5 + 1) (b := 0) (by omega) (by decide)).mp e; omega), n_sh1 _ (by omega)] at w
    exact w
theorem jad_32 (h32 : 32 ≤ r) {j : Nat} : 32 ≤ jad K r j := by
  unfold jad
  by_cases h : j < 20
  · rw [if_pos h]; omega
  · rw [if_neg h]; omega
theorem k_first (hR : RA M r ρ) (hK : RepC ρ K) (ok : KOK K) (h32 : 32 ≤ r) {w : Nat} (hw : w < kh K 4) : Ev (d + 1) md_71 0 [some (.ref (r + 26 + 2 * w))] [] M (some (.int (nI (kw K w 4))), M) := by
  obtain ⟨b0, b1, b2, b3, b4, b5, b6, b7, b8, b9, b10, b11, b12⟩ := ok_h ok
  have t := ok_walk ok hw
  have e := ra_ev hR (c_first (d := d) (M := M) (ρ := ρ) (r := r) (i := w) h32 (by omega))
  rw [(rc_walk hK hw).2.2.2.2 0 (by omega)] at e
  exact e
theorem k_last (hR : RA M r ρ) (hK : RepC ρ K) (ok : KOK K) (h32 : 32 ≤ r) {w : Nat} (hw : w < kh K 4) : Ev (d + 1) md_72 0 [some (.ref (r + 26 + 2 * w))] [] M (some (.int (nI (kw K w (3 + kw K w 3)))), M) := by
  obtain ⟨b0, b1, b2, b3, b4, b5, b6, b7, b8, b9, b10, b11, b12⟩ := ok_h ok
  have t := ok_walk ok hw
  have q := rc_walk hK hw
  have e := ra_ev hR (c_last (d := d) (M := M) (ρ := ρ) (r := r) (i := w) h32 (by omega))
  rw [q.2.2.2.1, nI_toInt (by omega), if_pos (by omega), nI_clamp (by omega), q.2.2.2.2 _ (by omega), show 4 + (kw K w 3 - 1) = 3 + kw K w 3 by omega] at e
  exact e
theorem k_stopAt (hR : RA M r ρ) (hK : RepC ρ K) (ok : KOK K) {w i : Nat} (hw : w < kh K 4) (hi : i < kw K w 3) : Ev d md_69 0 [some (.ref (r + 26 + 2 * w)), some (.int (nI i))] [] M (some (.int (nI (kw K w (4 + i)))), M) := by
  obtain ⟨b0, b1, b2, b3, b4, b5, b6, b7, b8, b9, b10, b11, b12⟩ := ok_h ok
  have t := ok_walk ok hw
  have q := rc_walk hK hw
  have e := ra_ev hR (c_stopAt (d := d) (M := M) (ρ := ρ) (r := r) (i := w) (by omega) (nI i))
  rw [nI_toInt (by omega), if_pos (by omega), nI_clamp (by omega), q.2.2.2.2 _ hi] at e
  exact e
theorem k_sparedOf (ok : KOK K) {a b len : Nat} (ha : a < kh K 0) (hlen : len ≤ 2000) : Ev (d + 8) md_43 0 [some (.int (dI (distK K a b))), some (.int (nI len))] [] M (some (.int (nI (savK K a b len))), M) := by
  have e := c_sparedOf (d := d) (M := M) (dI (distK K a b)) (nI len)
  have hx : (if dI (distK K a b) = -1 then (0 : Int32) else if (0 : Int32) < dI (distK K a b) - nI len then dI (distK K a b) - nI len else 0) = nI (savK K a b len) := by
    unfold savK dI
    by_cases h : distK K a b < 1000000
    · have h7 := dist_774 ok ha h
      rw [if_pos h, if_neg (oI_ne (by omega)), if_pos h]
      by_cases c : len < distK K a b
      · rw [n_sub (by omega), if_pos (show (0 : Int32) < nI (distK K a b - len) from (nI_ltI (a := 0) (b := distK K a b - len) (by decide) (by omega)).mpr (by omega))]
      · rw [if_neg (n_subneg (by omega) (by omega) (by omega)), show distK K a b - len = 0 by omega]
        rfl
    · rw [if_neg h, if_pos rfl, if_neg h]
      rfl
  rw [hx] at e
  exact e
theorem k_dutyOn (hR : RA M r ρ) (hK : RepC ρ K) (ok : KOK K) (h0 : 0 < kh K 0) {s load y : Nat} (hs : s ≤ 774) (hl : load ≤ 9) (hy : y < 31) : Ev d md_3 0 [some (.ref (r + 1)), some (.int (nI s)), some (.int (nI load)), some (.int (nI y)), none] [] M (some (.int (nI (dutyS K false s y load))), M) := by
  obtain ⟨b0, b1, b2, b3, b4, b5, b6, b7, b8, b9, b10, b11, b12⟩ := ok_h ok
  have e := ra_ev hR (c_dutyOn (d := d) (M := M) (ρ := ρ) (r := r) (nI s) (nI load) (nI y))
  have l0 : rlw ρ 0 = nI (kh K 6) := rc_law hK h0 (j := 0) (by decide)
  have l1 : rlw ρ 1 = nI (kh K 7) := rc_law hK h0 (j := 1) (by decide)
  have l3 : rlw ρ 3 = nI (kh K 9) := rc_law hK h0 (j := 3) (by decide)
  have l4 : rlw ρ 4 = nI (kh K 10) := rc_law hK h0 (j := 4) (by decide)
  have hr : nI y - nI y / 7 * 7 = nI (y % 7) := pk_rem (by omega) (by decide) (by decide)
  rw [l0, l1, l3, l4, hr, nI_toInt (by omega), nI_toInt (by omega)] at e
  have hx : (if (s : Int) ≤ (kh K 7 : Int) ∨ (nI (y % 7) = 6 ∧ nI (kh K 9) = 0) then (0 : Int32) else (nI s - nI (kh K 7)) * nI (kh K 6) * (if nI (kh K 10) = 1 then nI load else 1)) = nI (dutyS K false s y load) := by
    have e6 : nI (y % 7) = 6 ↔ y % 7 = 6 := nI_eq (b := 6) (by omega) (by decide)
    have e9 : nI (kh K 9) = 0 ↔ kh K 9 = 0 := nI_eq (b := 0) (by omega) (by decide)
    have e10 : nI (kh K 10) = 1 ↔ kh K 10 = 1 := nI_eq (b := 1) (by omega) (by decide)
    simp only [e6, e9]
    unfold dutyS
    by_cases c1 : kh K 9 = 0 ∧ y % 7 = 6
    · rw [if_pos (Or.inr ⟨c1.2, c1.1⟩), if_pos (Or.inr c1)]
      rfl
    · rw [if_neg (c := false = true ∨ _) (by rintro (q | q); cases q; exact c1 q)]
      by_cases c2 : s ≤ kh K 7
      · rw [if_pos (Or.inl (by omega)), show s - kh K 7 = 0 by omega, Nat.zero_mul, Nat.zero_mul]
        rfl
      · rw [if_neg (by rintro (q | q); omega; exact c1 ⟨q.2, q.1⟩), n_sub (by omega)]
        by_cases c3 : kh K 10 = 1
        · rw [if_pos (e10.mpr c3), if_pos c3, pk_mul, pk_mul]
        · rw [if_neg (fun q => c3 (e10.mp q)), if_neg c3, pk_mul, show (1 : Int32) = nI 1 from rfl, pk_mul]
  rw [hx] at e
  exact e
end TRIP
