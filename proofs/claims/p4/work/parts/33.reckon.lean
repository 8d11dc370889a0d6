/-! reckonRoads. -/
theorem n_min {x y : Nat} (hx : x < 2 ^ 31) (hy : y < 2 ^ 31) : (if nI y < nI x then nI y else nI x) = nI (min x y) := by
  by_cases h : y < x
  · rw [if_pos ((nI_ltI hy hx).mpr h), Nat.min_eq_right (by omega)]
  · rw [if_neg (fun q => h ((nI_ltI hy hx).mp q)), Nat.min_eq_left (by omega)]
theorem n_max {x y : Nat} (hx : x < 2 ^ 31) (hy : y < 2 ^ 31) : (if nI x < nI y then nI y else nI x) = nI (max x y) := by
  by_cases h : x < y
  · rw [if_pos ((nI_ltI hx hy).mpr h), Nat.max_eq_right (by omega)]
  · rw [if_neg (fun q => h ((nI_ltI hx hy).mp q)), Nat.max_eq_left (by omega)]
def DC (f : Nat → Int32) (K : KD) (D : Nat → Nat → Nat) : Prop := ∀ x y, x < kh K 0 → y < kh K 0 → f (7 * x + y) = nI (D x y)
def I1 (f : Nat → Int32) (K : KD) (a b : Nat) : Prop := ∀ x y, y < kh K 0 → (x < a ∨ (x = a ∧ y < b)) → f (7 * x + y) = nI (D0 K x y)
theorem I1_s {f : Nat → Int32} {K : KD} {a b : Nat} {v : Int32} (h0 : kh K 0 ≤ 7) (hb : b < kh K 0) (h : I1 f K a b) (hv : v = nI (D0 K a b)) : I1 (upd f (7 * a + b) v) K a (b + 1) := by
  intro x y hy hx
  by_cases e : x = a ∧ y = b
  · obtain ⟨rfl, rfl⟩ := e
    rw [pk_us, hv]
  · rw [pk_un (by omega)]
    exact h x y hy (by omega)
def I2 (f : Nat → Int32) (K : KD) (D : Nat → Nat → Nat) (k a b : Nat) : Prop := ∀ x y, x < kh K 0 → y < kh K 0 → f (7 * x + y) = nI (if x < a ∨ (x = a ∧ y < b) then ph k D x y else D x y)
theorem I2_s {f : Nat → Int32} {K : KD} {D : Nat → Nat → Nat} {k a b : Nat} {v : Int32} (h0 : kh K 0 ≤ 7) (hb : b < kh K 0) (h : I2 f K D k a b) (hv : v = nI (ph k D a b)) : I2 (upd f (7 * a + b) v) K D k a (b + 1) := by
  intro x y hx hy
  by_cases e : x = a ∧ y = b
  · obtain ⟨rfl, rfl⟩ := e
    rw [pk_us, if_pos (by omega), hv]
  · rw [pk_un (by omega), h x y hx hy]
    by_cases q : x < a ∨ (x = a ∧ y < b)
    · rw [if_pos q, if_pos (by omega)]
    · rw [if_neg q, if_neg (by omega)]
theorem I2_g {f : Nat → Int32} {K : KD} {D : Nat → Nat → Nat} {k a b x y : Nat} (hk : D k k = 0) (hx : x < kh K 0) (hy : y < kh K 0) (h : I2 f K D k a b) (e : x = k ∨ y = k) : f (7 * x + y) = nI (D x y) := by
  rw [h x y hx hy]
  have : ph k D x y = D x y := by
    show min (D x y) (D x k + D k y) = D x y
    rcases e with rfl | rfl <;> rw [hk] <;> omega
  by_cases q : x < a ∨ (x = a ∧ y < b)
  · rw [if_pos q, this]
  · rw [if_neg q]
section RR
variable {d : Nat} {M : AM} {r : Nat} {ρ : RC} {K : KD} {Q : Option Value → AM → Prop}
theorem rep_d {f : Nat → Int32} (h : RepC ρ K) : RepC (dset ρ f) K := h

theorem k_rr_b (hK : RepC ρ K) (ok : KOK K) (h32 : 32 ≤ r) {a : Nat} (ha : a < kh K 0) : ∀ (n b : Nat) (f : Nat → Int32) (z3 z4 : Option Value), b + n = kh K 0 → I1 f K a b → (∀ f' z3' z4', I1 f' K a (kh K 0) → Wp (d + 1) md_31 69 [some (.ref r), some (.int (nI a)), some (.int (nI (kh K 0))), z3', z4'] [] (rset M r (dset ρ f')) Q) → Wp (d + 1) md_31 12 [some (.ref r), some (.int (nI a)), some (.int (nI b)), z3, z4] [] (rset M r (dset ρ f)) Q := by
  intro n
  obtain ⟨b0, b1, b2, b3, b4, b5, b6, b7, b8, b9, b10, b11, b12⟩ := ok_h ok
  induction n with
  | zero =>
    intro b f z3 z4 hb hI k
    refine Wp.n (pc' := 14) 2 rfl ?_
    refine Wp.get (len := 3) rfl (rs_obj) rfl ?_
    refine Wp.top (rc_pl hK) ?_
    refine Wp.nc3 (x := b) (y := kh K 0) (tgt := 69) (len := 3) rfl (by omega) (by omega) (fun h17 => ?_) (fun h17 => ?_)
    · skip
      have e : b = kh K 0 := by omega
      rw [e] at hI ⊢
      exact k f z3 z4 hI
    · omega
  | succ n ih =>
    intro b f z3 z4 hb hI k
    have hD : D0 K a b = if a = b then 0 else match roadK K a b with
      | none => 1000000
      | some i => kr K i 2 := rfl
    refine Wp.n (pc' := 14) 2 rfl ?_
    refine Wp.get (len := 3) rfl (rs_obj) rfl ?_
    refine Wp.top (rc_pl hK) ?_
    refine Wp.nc3 (x := b) (y := kh K 0) (tgt := 69) (len := 3) rfl (by omega) (by omega) (fun h17 => ?_) (fun h17 => ?_)
    · omega
    · skip
      refine Wp.n (pc' := 23) 3 rfl ?_
      refine Wp.ecallV (len := 3) rfl rfl rfl (rs_obj) rfl h32 rfl (k_roadOf rset_ra (rep_d hK) ok (by omega) (by omega)) ?_
      rcases hrd : roadK K a b with _ | i
      · rw [hrd] at hD
        refine Wp.n (pc' := 28) 2 rfl ?_
        refine Wp.s (pc' := 31) rfl ?_
        refine Wp.n (pc' := 43) 4 rfl ?_
        refine Wp.get (len := 3) rfl (rs_obj) rfl ?_
        refine Wp.n (pc' := 48) 2 rfl ?_
        refine Wp.ecallS (len := 3) rfl rfl rfl rfl (c_pairOf _ _) ?_
        refine Wp.n (pc' := 53) 2 rfl ?_
        refine Wp.nc1 (x := a) (y := b) (tgt := 60) (len := 3) rfl (by omega) (by omega) (fun h53 => ?_) (fun h53 => ?_)
        · skip
          refine Wp.n (pc' := 62) 1 rfl ?_
          refine Wp.iastN (j := 7 * a + b) (len := 1) rfl rs_dist (by omega) (by decide) ?_
          rw [ru_dist]
          refine Wp.incN (x := b) (len := 3) rfl rfl ?_
          refine Wp.n (pc' := 12) 1 rfl ?_
          refine ih (b + 1) _ _ _ (by omega) (I1_s b0 (by omega) hI ?_) k
          rw [hD]
          first | rw [if_pos (by omega)] | rw [if_neg (by omega)]
          try rfl
        · skip
          refine Wp.n (pc' := 62) 2 rfl ?_
          refine Wp.iastN (j := 7 * a + b) (len := 1) rfl rs_dist (by omega) (by decide) ?_
          rw [ru_dist]
          refine Wp.incN (x := b) (len := 3) rfl rfl ?_
          refine Wp.n (pc' := 12) 1 rfl ?_
          refine ih (b + 1) _ _ _ (by omega) (I1_s b0 (by omega) hI ?_) k
          rw [hD]
          first | rw [if_pos (by omega)] | rw [if_neg (by omega)]
          try rfl
      · rw [hrd] at hD
        have hi := (roadK_v hrd).1
        refine Wp.n (pc' := 28) 2 rfl ?_
        refine Wp.s (pc' := 36) rfl ?_
        refine Wp.n (pc' := 37) 1 rfl ?_
        refine Wp.get (len := 3) rfl (rs_road (by omega)) rfl ?_
        refine Wp.top (rc_road hK hi).2.2.1 ?_
        refine Wp.n (pc' := 43) 2 rfl ?_
        refine Wp.get (len := 3) rfl (rs_obj) rfl ?_
        refine Wp.n (pc' := 48) 2 rfl ?_
        refine Wp.ecallS (len := 3) rfl rfl rfl rfl (c_pairOf _ _) ?_
        refine Wp.n (pc' := 53) 2 rfl ?_
        refine Wp.nc1 (x := a) (y := b) (tgt := 60) (len := 3) rfl (by omega) (by omega) (fun h53 => ?_) (fun h53 => ?_)
        · skip
          refine Wp.n (pc' := 62) 1 rfl ?_
          refine Wp.iastN (j := 7 * a + b) (len := 1) rfl rs_dist (by omega) (by decide) ?_
          rw [ru_dist]
          refine Wp.incN (x := b) (len := 3) rfl rfl ?_
          refine Wp.n (pc' := 12) 1 rfl ?_
          refine ih (b + 1) _ _ _ (by omega) (I1_s b0 (by omega) hI ?_) k
          rw [hD]
          first | rw [if_pos (by omega)] | rw [if_neg (by omega)]
          try rfl
        · skip
          refine Wp.n (pc' := 62) 2 rfl ?_
          refine Wp.iastN (j := 7 * a + b) (len := 1) rfl rs_dist (by omega) (by decide) ?_
          rw [ru_dist]
          refine Wp.incN (x := b) (len := 3) rfl rfl ?_
          refine Wp.n (pc' := 12) 1 rfl ?_
          refine ih (b + 1) _ _ _ (by omega) (I1_s b0 (by omega) hI ?_) k
          rw [hD]
          first | rw [if_pos (by omega)] | rw [if_neg (by omega)]
          try rfl

theorem k_rr_a (hK : RepC ρ K) (ok : KOK K) (h32 : 32 ≤ r) : ∀ (n a : Nat) (f : Nat → Int32) (z2 z3 z4 : Option Value), a + n = kh K 0 → I1 f K a 0 → (∀ f' z2' z3' z4', DC f' K (D0 K) → Wp (d + 1) md_31 75 [some (.ref r), some (.int (nI (kh K 0))), z2', z3', z4'] [] (rset M r (dset ρ f')) Q) → Wp (d + 1) md_31 2 [some (.ref r), some (.int (nI a)), z2, z3, z4] [] (rset M r (dset ρ f)) Q := by
  intro n
  obtain ⟨b0, b1, b2, b3, b4, b5, b6, b7, b8, b9, b10, b11, b12⟩ := ok_h ok
  induction n with
  | zero =>
    intro a f z2 z3 z4 ha hI k
    refine Wp.n (pc' := 4) 2 rfl ?_
    refine Wp.get (len := 3) rfl (rs_obj) rfl ?_
    refine Wp.top (rc_pl hK) ?_
    refine Wp.nc3 (x := a) (y := kh K 0) (tgt := 75) (len := 3) rfl (by omega) (by omega) (fun h7 => ?_) (fun h7 => ?_)
    · skip
      have e : a = kh K 0 := by omega
      rw [e] at hI ⊢
      exact k f z2 z3 z4 (fun x y hx hy => hI x y hy (by omega))
    · omega
  | succ n ih =>
    intro a f z2 z3 z4 ha hI k
    refine Wp.n (pc' := 4) 2 rfl ?_
    refine Wp.get (len := 3) rfl (rs_obj) rfl ?_
    refine Wp.top (rc_pl hK) ?_
    refine Wp.nc3 (x := a) (y := kh K 0) (tgt := 75) (len := 3) rfl (by omega) (by omega) (fun h7 => ?_) (fun h7 => ?_)
    · omega
    · skip
      refine Wp.n (pc' := 12) 2 rfl ?_
      refine k_rr_b hK ok h32 (by omega) (kh K 0) 0 f _ _ (by omega) hI (fun f' z3' z4' hI' => ?_)
      refine Wp.incN (x := a) (len := 3) rfl rfl ?_
      refine Wp.n (pc' := 2) 1 rfl ?_
      exact ih (a + 1) f' _ _ _ (by omega) (fun x y hy hx => hI' x y hy (by omega)) k
      

theorem k_rr_c (hK : RepC ρ K) (ok : KOK K) (h32 : 32 ≤ r) {D : Nat → Nat → Nat} (hD : ∀ a b, D a b ≤ 1000000) {k a : Nat} (hk0 : D k k = 0) (hk : k < kh K 0) (ha : a < kh K 0) : ∀ (n b : Nat) (f : Nat → Int32) (z4 : Option Value), b + n = kh K 0 → I2 f K D k a b → (∀ f' z4', I2 f' K D k a (kh K 0) → Wp (d + 8) md_31 159 [some (.ref r), some (.int (nI k)), some (.int (nI a)), some (.int (nI (kh K 0))), z4'] [] (rset M r (dset ρ f')) Q) → Wp (d + 8) md_31 97 [some (.ref r), some (.int (nI k)), some (.int (nI a)), some (.int (nI b)), z4] [] (rset M r (dset ρ f)) Q := by
  intro n
  obtain ⟨b0, b1, b2, b3, b4, b5, b6, b7, b8, b9, b10, b11, b12⟩ := ok_h ok
  induction n with
  | zero =>
    intro b f z4 hb hI kk
    refine Wp.n (pc' := 99) 2 rfl ?_
    refine Wp.get (len := 3) rfl (rs_obj) rfl ?_
    refine Wp.top (rc_pl hK) ?_
    refine Wp.nc3 (x := b) (y := kh K 0) (tgt := 159) (len := 3) rfl (by omega) (by omega) (fun h102 => ?_) (fun h102 => ?_)
    · skip
      have e : b = kh K 0 := by omega
      rw [e] at hI ⊢
      exact kk f z4 hI
    · omega
  | succ n ih =>
    intro b f z4 hb hI kk
    have e1 : f (7 * a + k) = nI (D a k) := I2_g hk0 ha hk hI (Or.inr rfl)
    have e2 : f (7 * k + b) = nI (D k b) := I2_g hk0 hk (by omega) hI (Or.inl rfl)
    have e3 : f (7 * a + b) = nI (D a b) := by rw [hI a b ha (by omega), if_neg (by omega)]
    have d1 := hD a k
    have d2 := hD k b
    have d3 := hD a b
    refine Wp.n (pc' := 99) 2 rfl ?_
    refine Wp.get (len := 3) rfl (rs_obj) rfl ?_
    refine Wp.top (rc_pl hK) ?_
    refine Wp.nc3 (x := b) (y := kh K 0) (tgt := 159) (len := 3) rfl (by omega) (by omega) (fun h102 => ?_) (fun h102 => ?_)
    · omega
    · skip
      refine Wp.n (pc' := 106) 1 rfl ?_
      refine Wp.get (len := 3) rfl (rs_obj) rfl ?_
      refine Wp.n (pc' := 111) 2 rfl ?_
      refine Wp.ecallS (len := 3) rfl rfl rfl rfl (c_pairOf _ _) ?_
      refine Wp.ialdN (j := 7 * a + k) (len := 1) rfl (rs_dist) rfl (by omega) (by decide) ?_
      refine Wp.top e1 ?_
      refine Wp.n (pc' := 116) 1 rfl ?_
      refine Wp.get (len := 3) rfl (rs_obj) rfl ?_
      refine Wp.n (pc' := 121) 2 rfl ?_
      refine Wp.ecallS (len := 3) rfl rfl rfl rfl (c_pairOf _ _) ?_
      refine Wp.ialdN (j := 7 * k + b) (len := 1) rfl (rs_dist) rfl (by omega) (by decide) ?_
      refine Wp.top e2 ?_
      refine Wp.iaddN (x := D a k) (y := D k b) (len := 1) rfl ?_
      refine Wp.n (pc' := 129) 2 rfl ?_
      refine Wp.get (len := 3) rfl (rs_obj) rfl ?_
      refine Wp.n (pc' := 134) 2 rfl ?_
      refine Wp.ecallS (len := 3) rfl rfl rfl rfl (c_pairOf _ _) ?_
      refine Wp.n (pc' := 138) 1 rfl ?_
      refine Wp.get (len := 3) rfl (rs_obj) rfl ?_
      refine Wp.n (pc' := 143) 2 rfl ?_
      refine Wp.ecallS (len := 3) rfl rfl rfl rfl (c_pairOf _ _) ?_
      refine Wp.ialdN (j := 7 * a + b) (len := 1) rfl (rs_dist) rfl (by omega) (by decide) ?_
      refine Wp.top e3 ?_
      refine Wp.n (pc' := 149) 1 rfl ?_
      refine Wp.bi (len := 3) rfl (by decide) rfl (by omega) ?_
      refine Wp.top (n_min (by omega) (by omega)) ?_
      refine Wp.iastN (j := 7 * a + b) (len := 1) rfl rs_dist (by omega) (by decide) ?_
      rw [ru_dist]
      refine Wp.incN (x := b) (len := 3) rfl rfl ?_
      refine Wp.n (pc' := 97) 1 rfl ?_
      exact ih (b + 1) _ _ (by omega) (I2_s b0 (by omega) hI rfl) kk

theorem k_rr_d (hK : RepC ρ K) (ok : KOK K) (h32 : 32 ≤ r) {D : Nat → Nat → Nat} (hD : ∀ a b, D a b ≤ 1000000) {k : Nat} (hk0 : D k k = 0) (hk : k < kh K 0) : ∀ (n a : Nat) (f : Nat → Int32) (z3 z4 : Option Value), a + n = kh K 0 → I2 f K D k a 0 → (∀ f' z3' z4', DC f' K (ph k D) → Wp (d + 8) md_31 165 [some (.ref r), some (.int (nI k)), some (.int (nI (kh K 0))), z3', z4'] [] (rset M r (dset ρ f')) Q) → Wp (d + 8) md_31 87 [some (.ref r), some (.int (nI k)), some (.int (nI a)), z3, z4] [] (rset M r (dset ρ f)) Q := by
  intro n
  obtain ⟨b0, b1, b2, b3, b4, b5, b6, b7, b8, b9, b10, b11, b12⟩ := ok_h ok
  induction n with
  | zero =>
    intro a f z3 z4 ha hI kk
    refine Wp.n (pc' := 89) 2 rfl ?_
    refine Wp.get (len := 3) rfl (rs_obj) rfl ?_
    refine Wp.top (rc_pl hK) ?_
    refine Wp.nc3 (x := a) (y := kh K 0) (tgt := 165) (len := 3) rfl (by omega) (by omega) (fun h92 => ?_) (fun h92 => ?_)
    · skip
      have e : a = kh K 0 := by omega
      rw [e] at hI ⊢
      exact kk f z3 z4 (fun x y hx hy => by rw [hI x y hx hy, if_pos (by omega)])
    · omega
  | succ n ih =>
    intro a f z3 z4 ha hI kk
    refine Wp.n (pc' := 89) 2 rfl ?_
    refine Wp.get (len := 3) rfl (rs_obj) rfl ?_
    refine Wp.top (rc_pl hK) ?_
    refine Wp.nc3 (x := a) (y := kh K 0) (tgt := 165) (len := 3) rfl (by omega) (by omega) (fun h92 => ?_) (fun h92 => ?_)
    · omega
    · skip
      refine Wp.n (pc' := 97) 2 rfl ?_
      refine k_rr_c hK ok h32 hD hk0 hk (by omega) (kh K 0) 0 f _ (by omega) hI (fun f' z4' hI' => ?_)
      refine Wp.incN (x := a) (len := 3) rfl rfl ?_
      refine Wp.n (pc' := 87) 1 rfl ?_
      refine ih (a + 1) f' _ _ (by omega) (fun x y hx hy => ?_) kk
      rw [hI' x y hx hy]
      by_cases q : x < a ∨ (x = a ∧ y < kh K 0)
      · rw [if_pos q, if_pos (by omega)]
      · rw [if_neg q, if_neg (by omega)]
      

theorem k_rr_e (hK : RepC ρ K) (ok : KOK K) (h32 : 32 ≤ r) : ∀ (n k : Nat) (f : Nat → Int32) (z2 z3 z4 : Option Value), k + n = kh K 0 → DC f K (fld (fun D k => ph k D) k 0 (D0 K)) → (∀ f' z2' z3' z4', DC f' K (distK K) → Wp (d + 8) md_31 171 [some (.ref r), some (.int (nI (kh K 0))), z2', z3', z4'] [] (rset M r (dset ρ f')) Q) → Wp (d + 8) md_31 77 [some (.ref r), some (.int (nI k)), z2, z3, z4] [] (rset M r (dset ρ f)) Q := by
  intro n
  obtain ⟨b0, b1, b2, b3, b4, b5, b6, b7, b8, b9, b10, b11, b12⟩ := ok_h ok
  induction n with
  | zero =>
    intro k f z2 z3 z4 hk hI kk
    refine Wp.n (pc' := 79) 2 rfl ?_
    refine Wp.get (len := 3) rfl (rs_obj) rfl ?_
    refine Wp.top (rc_pl hK) ?_
    refine Wp.nc3 (x := k) (y := kh K 0) (tgt := 171) (len := 3) rfl (by omega) (by omega) (fun h82 => ?_) (fun h82 => ?_)
    · skip
      have e : k = kh K 0 := by omega
      rw [e] at hI ⊢
      exact kk f z2 z3 z4 hI
    · omega
  | succ n ih =>
    intro k f z2 z3 z4 hk hI kk
    have g := GD_all ok k
    refine Wp.n (pc' := 79) 2 rfl ?_
    refine Wp.get (len := 3) rfl (rs_obj) rfl ?_
    refine Wp.top (rc_pl hK) ?_
    refine Wp.nc3 (x := k) (y := kh K 0) (tgt := 171) (len := 3) rfl (by omega) (by omega) (fun h82 => ?_) (fun h82 => ?_)
    · omega
    · skip
      refine Wp.n (pc' := 87) 2 rfl ?_
      refine k_rr_d hK ok h32 g.2.2.2.1 (g.1 k) (by omega) (kh K 0) 0 f _ _ (by omega) (fun x y hx hy => by rw [hI x y hx hy, if_neg (by omega)]) (fun f' z3' z4' hI' => ?_)
      refine Wp.incN (x := k) (len := 3) rfl rfl ?_
      refine Wp.n (pc' := 77) 1 rfl ?_
      refine ih (k + 1) f' _ _ _ (by omega) ?_ kk
      rw [fld_s, Nat.zero_add]
      exact hI'
      

theorem k_reckonRoads (hK : RepC ρ K) (ok : KOK K) (h32 : 32 ≤ r) (hR : RA M r ρ) : Wp (d + 8) md_31 0 [some (.ref r), none, none, none, none] [] M (fun v M' => v = none ∧ ∃ f, M' = rset M r (dset ρ f) ∧ DC f K (distK K)) := by
  obtain ⟨b0, b1, b2, b3, b4, b5, b6, b7, b8, b9, b10, b11, b12⟩ := ok_h ok
  refine Wp.n (pc' := 2) 2 rfl ?_
  have e : M = rset M r (dset ρ (rds ρ)) := (show rset M r ρ = M from hR).symm
  have w := k_rr_a (d := d + 7) (M := M) (Q := fun v M' => v = none ∧ ∃ f, M' = rset M r (dset ρ f) ∧ DC f K (distK K)) hK ok h32 (kh K 0) 0 (rds ρ) none none none (by omega) (fun x y hy hx => by omega) (fun f z2 z3 z4 h0 => by
    refine Wp.n (pc' := 77) 2 rfl ?_
    exact k_rr_e hK ok h32 (kh K 0) 0 f _ _ _ (by omega) h0 (fun f' z2' z3' z4' hI => Wp.retV (len := 1) rfl rfl ⟨rfl, f', rfl, hI⟩))
  rw [← e] at w
  exact w
end RR
