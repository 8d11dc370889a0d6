/-! THE CLASS: its questions about told walks. -/
def hdl (ow : Int32) : List Value := [.ref 33, .ref 35, .ref 36, .ref 83, .ref 130, .ref 272, .ref 273, .ref 280, .ref 282, .ref 286, .int ow]
/-- the class's object -/
def HD (M : AM) : Prop := (∃ ow : Int32, M 32 = .inr (9, hdl ow)) ∧ ∃ f : Nat → Int32, M 286 = .inl (0, 10, .inl f)
theorem hd_to {M M2 : AM} (h1 : M2 32 = M 32) (h2 : M2 286 = M 286) (h : HD M) : HD M2 := by
  obtain ⟨⟨ow, q1⟩, f, q2⟩ := h
  exact ⟨⟨ow, h1.trans q1⟩, f, h2.trans q2⟩
theorem bitsC_0 {K : KD} (ok : KOK K) (h11 : kh K 11 = 0) {ls : List Nat} (h : ∀ l, l ∈ ls → LV K l) : bitsC K ls = bitsM ls := by
  have b3 := (ok_h ok).2.2.2.1
  unfold bitsC
  have e : ls.map (phL K) = ls := by
    induction ls with
    | nil => rfl
    | cons x t ih =>
      rw [List.map_cons, ih (fun l hl => h l (List.mem_cons_of_mem _ hl))]
      have hx := h x List.mem_cons_self
      rw [show phL K x = x from if_neg (by unfold LV at hx; omega)]
  rw [e]
def gcl : Nat → Nat → Nat → Nat
  | 0, x, _ => x
  | n + 1, x, y => if y = 0 then x else gcl n y (x % y)
theorem gcl_0 : ∀ (n x : Nat), gcl n x 0 = x
  | 0, _ => rfl
  | _ + 1, _ => if_pos rfl
theorem gcl_gcd : ∀ (k n x y : Nat), y < 2 ^ k → 2 * k ≤ n → gcl n x y = Nat.gcd x y
  | 0, n, x, y, hy, _ => by
    obtain rfl : y = 0 := by have : 2 ^ 0 = 1 := rfl; omega
    rw [gcl_0, Nat.gcd_zero_right]
  | k + 1, n, x, y, hy, hn => by
    obtain ⟨m, rfl⟩ : ∃ m, n = m + 2 := ⟨n - 2, by omega⟩
    by_cases h0 : y = 0
    · rw [h0, gcl_0, Nat.gcd_zero_right]
    · have e1 : Nat.gcd x y = Nat.gcd y (x % y) := by rw [Nat.gcd_comm x y, Nat.gcd_rec, Nat.gcd_comm]
      show (if y = 0 then x else gcl (m + 1) y (x % y)) = _
      rw [if_neg h0, e1]
      by_cases h1 : x % y = 0
      · rw [h1, gcl_0, Nat.gcd_zero_right]
      · have hlt : x % y < y := Nat.mod_lt _ (by omega)
        have e2 : Nat.gcd y (x % y) = Nat.gcd (x % y) (y % (x % y)) := by rw [Nat.gcd_comm y (x % y), Nat.gcd_rec, Nat.gcd_comm]
        show (if x % y = 0 then y else gcl m (x % y) (y % (x % y))) = _
        rw [if_neg h1, e2]
        refine gcl_gcd k m _ _ ?_ (by omega)
        have h2 : 2 ^ (k + 1) = 2 * 2 ^ k := by rw [Nat.pow_succ]; omega
        by_cases c : x % y ≤ 2 ^ k
        · exact Nat.lt_of_lt_of_le (Nat.mod_lt _ (by omega)) c
        · rw [Nat.mod_eq_sub_mod (by omega), Nat.mod_eq_of_lt (by omega)]
          omega
theorem bI_or (a b : Bool) : bI a ||| bI b = bI (b || a) := by cases a <;> cases b <;> rfl
/-- the class's scratch: ways, trip -/
def ScC (κ κ' : CS) : Prop := Fc [4, 11] [5, 6, 7, 8, 9, 10, 12] [2] κ κ'
theorem ScC_r {κ : CS} : ScC κ κ := Fc.r
theorem ScC_t {κ κ' κ'' : CS} (h : ScC κ κ') (h' : ScC κ' κ'') : ScC κ κ'' := Fc.t h h'
theorem ScC_11 {κ κ' : CS} (h : Fc [11] [12] [] κ κ') : ScC κ κ' := Fc.mono h rfl rfl rfl
def RCI (M : AM) (κ : CS) (a : Int32) : Option Value → AM → Prop := fun v M' => v = some (.int a) ∧ ∃ κ', M' = cset M κ' ∧ ScC κ κ'
def RCJ (M : AM) (κ : CS) (a : Int64) : Option Value → AM → Prop := fun v M' => v = some (.long a) ∧ ∃ κ', M' = cset M κ' ∧ ScC κ κ'
theorem RCI_s {M : AM} {κ κ' : CS} {a b : Int32} (e : ScC κ κ') (h : a = b) : RCI M κ b (some (.int a)) (cset M κ') := ⟨by rw [h], κ', rfl, e⟩
theorem RCI_r {M : AM} {κ : CS} {a b : Int32} (h : a = b) : RCI M κ b (some (.int a)) (cset M κ) := RCI_s ScC_r h
theorem RCJ_s {M : AM} {κ κ' : CS} {a b : Int64} (e : ScC κ κ') (h : a = b) : RCJ M κ b (some (.long a)) (cset M κ') := ⟨by rw [h], κ', rfl, e⟩
section QC
variable {d : Nat} {M : AM} {r : Nat} {K : KD} {κ κ' : CS} {Q : Option Value → AM → Prop}
theorem isN_lt {k : Nat} {x y : Int32} (hk : k < 2 ^ 31) (hy : y = nI k) : decide (0 ≤ x.toInt ∧ x.toInt < y.toInt) = isN k x := by
  rw [hy, nI_toInt hk]
  rfl
theorem isR_w {lo hi : Nat} {x a b : Int32} (ha : a = nI lo) (hb : b = nI hi) (h1 : lo < 2 ^ 31) (h2 : hi < 2 ^ 31) : decide (a.toInt ≤ x.toInt ∧ x.toInt ≤ b.toInt) = isR lo hi x := by
  rw [ha, hb, nI_toInt h1, nI_toInt h2]
  rfl
theorem isR_0 {hi : Nat} {x : Int32} : isR 0 hi x = isN (hi + 1) x := by
  unfold isR isN
  by_cases c : 0 ≤ x.toInt ∧ x.toInt < ((hi + 1 : Nat) : Int)
  · rw [decide_eq_true c, decide_eq_true (by omega)]
  · rw [decide_eq_false c, decide_eq_false (by omega)]

theorem k_hasPlace (hk : RK M r K) (x : Int32) : Ev d md_33 0 [some (.ref r), some (.int x)] [] M (some (.int (bI (isN (kh K 0) x))), M) := by
  obtain ⟨ρ, hR, hK, hDC, ok, hr1, hr2⟩ := id hk
  obtain ⟨b0, b1, b2, b3, b4, b5, b6, b7, b8, b9, b10, b11, b12⟩ := ok_h ok
  have w := ra_ev hR (c_hasPlace (d := d) (M := M) (r := r) (ρ := ρ) x)
  rw [isN_lt (k := kh K 0) (by omega) (rc_pl hK)] at w
  exact w
theorem k_hasDay (hk : RK M r K) (x : Int32) : Ev d md_38 0 [some (.ref r), some (.int x)] [] M (some (.int (bI (isN (kh K 1) x))), M) := by
  obtain ⟨ρ, hR, hK, hDC, ok, hr1, hr2⟩ := id hk
  obtain ⟨b0, b1, b2, b3, b4, b5, b6, b7, b8, b9, b10, b11, b12⟩ := ok_h ok
  have w := ra_ev hR (c_hasDay (d := d) (M := M) (r := r) (ρ := ρ) x)
  rw [isN_lt (k := kh K 1) (by omega) (rc_dy hK)] at w
  exact w
theorem k_hasRoad (hk : RK M r K) (x : Int32) : Ev d md_48 0 [some (.ref r), some (.int x)] [] M (some (.int (bI (isN (kh K 2) x))), M) := by
  obtain ⟨ρ, hR, hK, hDC, ok, hr1, hr2⟩ := id hk
  obtain ⟨b0, b1, b2, b3, b4, b5, b6, b7, b8, b9, b10, b11, b12⟩ := ok_h ok
  have w := ra_ev hR (c_hasRoad (d := d) (M := M) (r := r) (ρ := ρ) x)
  rw [isN_lt (k := kh K 2) (by omega) (rc_rd hK)] at w
  exact w
theorem k_hasLane (hk : RK M r K) (x : Int32) : Ev d md_37 0 [some (.ref r), some (.int x)] [] M (some (.int (bI (isN (kh K 3 + kh K 11) x))), M) := by
  obtain ⟨ρ, hR, hK, hDC, ok, hr1, hr2⟩ := id hk
  obtain ⟨b0, b1, b2, b3, b4, b5, b6, b7, b8, b9, b10, b11, b12⟩ := ok_h ok
  have w := ra_ev hR (c_hasLane (d := d) (M := M) (r := r) (ρ := ρ) x)
  rw [isN_lt (k := kh K 3 + kh K 11) (by omega) (rc_la hK)] at w
  exact w
theorem k_hasWalk (hk : RK M r K) (x : Int32) : Ev d md_41 0 [some (.ref r), some (.int x)] [] M (some (.int (bI (isN (kh K 4) x))), M) := by
  obtain ⟨ρ, hR, hK, hDC, ok, hr1, hr2⟩ := id hk
  obtain ⟨b0, b1, b2, b3, b4, b5, b6, b7, b8, b9, b10, b11, b12⟩ := ok_h ok
  have w := ra_ev hR (c_hasWalk (d := d) (M := M) (r := r) (ρ := ρ) x)
  rw [isN_lt (k := kh K 4) (by omega) (rc_wk hK)] at w
  exact w
theorem k_exists (hk : RK M r K) : Ev d md_42 0 [some (.ref r)] [] M (some (.int (bI (decide (0 < kh K 0)))), M) := by
  obtain ⟨ρ, hR, hK, hDC, ok, hr1, hr2⟩ := id hk
  obtain ⟨b0, b1, b2, b3, b4, b5, b6, b7, b8, b9, b10, b11, b12⟩ := ok_h ok
  have w := ra_ev hR (c_exists (d := d) (M := M) (r := r) (ρ := ρ))
  have e : decide (0 < (rhd ρ 0).toInt) = decide (0 < kh K 0) := by
    rw [rc_pl hK, nI_toInt (by omega)]
    by_cases c : 0 < kh K 0
    · rw [decide_eq_true c, decide_eq_true (by omega)]
    · rw [decide_eq_false c, decide_eq_false (by omega)]
  rw [e] at w
  exact w
def WSc (κ : CS) (ws : List Nat) : Prop := κ.1 11 7 = nI ws.length ∧ (∀ i, i < ws.length → κ.2.1 12 i = nI (ws.getD i 0))
theorem t_gcd_l {a b : Nat} : ∀ (n i x y : Nat) (z9 z10 : Option Value), i + n = 200 → x < 2 ^ 63 → y < 2 ^ 63 → Wp d md_66 9 [some (.long (lN a)), none, some (.long (lN b)), none, some (.long (lN x)), none, some (.long (lN y)), none, some (.int (nI i)), z9, z10] [] M (IsR (some (.long (lN (gcl n x y)))) M) := by
  intro n
  induction n with
  | zero =>
    intro i x y z9 z10 hi hx hy
    refine Wp.n (pc' := 14) 2 rfl ?_
    refine Wp.nc3 (x := i) (y := 200) (tgt := 45) (len := 3) rfl (by omega) (by omega) (fun h14 => ?_) (fun h14 => ?_)
    · skip
      refine Wp.n (pc' := 47) 1 rfl ?_
      refine Wp.retL (len := 1) rfl rfl ?_
      exact ⟨rfl, rfl⟩
    · omega
  | succ n ih =>
    intro i x y z9 z10 hi hx hy
    show Wp _ _ _ _ _ _ (IsR (some (.long (lN (if y = 0 then x else gcl n y (x % y))))) M)
    refine Wp.n (pc' := 14) 2 rfl ?_
    refine Wp.nc3 (x := i) (y := 200) (tgt := 45) (len := 3) rfl (by omega) (by omega) (fun h14 => ?_) (fun h14 => ?_)
    · omega
    · skip
      refine Wp.n (pc' := 21) 3 rfl ?_
      refine Wp.cz0 (x := y) (y := 0) (tgt := 45) (len := 3) rfl (by omega) (by omega) (fun h21 => ?_) (fun h21 => ?_)
      · skip
        refine Wp.n (pc' := 47) 1 rfl ?_
        refine Wp.retL (len := 1) rfl rfl ?_
        rw [if_pos h21]
        exact ⟨rfl, rfl⟩
      · skip
        refine Wp.n (pc' := 28) 2 rfl ?_
        refine Wp.lremM (x := x) (y := y) (len := 1) rfl (by omega) (by omega) (by omega) ?_
        refine Wp.n (pc' := 39) 5 rfl ?_
        refine Wp.incN (x := i) (len := 3) rfl rfl ?_
        refine Wp.n (pc' := 9) 1 rfl ?_
        rw [if_neg h21]
        exact ih (i + 1) y (x % y) _ _ (by omega) hy (Nat.lt_of_le_of_lt (Nat.mod_le _ _) hx)

theorem t_gcd {a b : Nat} (ha : a < 2 ^ 63) (hb : b < 2 ^ 40) : Ev d md_66 0 [some (.long (lN a)), none, some (.long (lN b)), none, none, none, none, none, none, none, none] [] M (some (.long (lN (Nat.gcd a b))), M) := by
  refine Wp.toEv ?_
  refine Wp.n (pc' := 9) 6 rfl ?_
  have w := t_gcd_l (d := d) (M := M) (a := a) (b := b) 200 0 a b none none (by omega) ha (by omega)
  rw [gcl_gcd 40 200 a b hb (by omega)] at w
  exact w
theorem t_frac_l {ws : List Nat} (hW : WSc κ ws) (hB : WB ws) {m what : Nat} : ∀ (n i : Nat) (z8 z9 z10 : Option Value), i + n = ws.length → (∀ z7 z8 z9 z10, Wp d md_65 45 [some (.ref 280), some (.int (nI m)), some (.int (nI what)), some (.long (lN (npr ws ws.length))), none, some (.long (lN (100 ^ ws.length))), none, z7, z8, z9, z10] [] (cset M κ) Q) → Wp d md_65 8 [some (.ref 280), some (.int (nI m)), some (.int (nI what)), some (.long (lN (npr ws i))), none, some (.long (lN (100 ^ i))), none, some (.int (nI i)), z8, z9, z10] [] (cset M κ) Q := by
  intro n
  induction n with
  | zero =>
    intro i z8 z9 z10 hi kk
    have h6 := hB.1
    refine Wp.n (pc' := 11) 2 rfl ?_
    refine Wp.get (len := 3) rfl (rfl) rfl ?_
    refine Wp.top hW.1 ?_
    refine Wp.nc3 (x := i) (y := ws.length) (tgt := 45) (len := 3) rfl (by omega) (by omega) (fun h14 => ?_) (fun h14 => ?_)
    · skip
      rw [show i = ws.length by omega]
      exact kk _ _ _ _
    · omega
  | succ n ih =>
    intro i z8 z9 z10 hi kk
    have h6 := hB.1
    have h100 := hB.2 i
    refine Wp.n (pc' := 11) 2 rfl ?_
    refine Wp.get (len := 3) rfl (rfl) rfl ?_
    refine Wp.top hW.1 ?_
    refine Wp.nc3 (x := i) (y := ws.length) (tgt := 45) (len := 3) rfl (by omega) (by omega) (fun h14 => ?_) (fun h14 => ?_)
    · omega
    · skip
      refine Wp.n (pc' := 21) 3 rfl ?_
      refine Wp.get (len := 3) rfl (rfl) rfl ?_
      refine Wp.n (pc' := 26) 1 rfl ?_
      refine Wp.ialdN (j := i) (len := 1) rfl (rfl) rfl (by omega) (by decide) ?_
      refine Wp.top (hW.2 i (by omega)) ?_
      refine Wp.isubN (x := 100) (y := ws.getD i 0) (len := 1) rfl (by omega) ?_
      refine Wp.i2lM (x := 100 - (ws.getD i 0)) (len := 1) rfl (by omega) ?_
      refine Wp.lmulM (x := npr ws i) (y := 100 - (ws.getD i 0)) (len := 1) rfl ?_
      refine Wp.n (pc' := 36) 3 rfl ?_
      refine Wp.lmulM (x := 100 ^ i) (y := 100) (len := 1) rfl ?_
      refine Wp.n (pc' := 39) 1 rfl ?_
      refine Wp.incN (x := i) (len := 3) rfl rfl ?_
      refine Wp.n (pc' := 8) 1 rfl ?_
      exact ih (i + 1) _ _ _ (by omega) kk

theorem t_frac {ws : List Nat} (hW : WSc κ ws) (hB : WB ws) {m what : Nat} (hm : m ≤ 689634) (hwh : what ≤ 1) : Ev (d + 1) md_65 0 [some (.ref 280), some (.int (nI m)), some (.int (nI what)), none, none, none, none, none, none, none, none] [] (cset M κ) (some (.long (lN (tellK ws m what))), cset M κ) := by
  refine Wp.toEv ?_
  refine Wp.n (pc' := 8) 6 rfl ?_
  refine t_frac_l hW hB ws.length 0 _ _ _ (by omega) (fun z7 z8 z9 z10 => ?_)
  have hp := pow6 hB.1
  have hnp := npr_le ws ws.length
  have hab : m * (100 ^ ws.length - npr ws ws.length) ≤ 689634 * 1000000000000 := Nat.mul_le_mul hm (by omega)
  have hg : 0 < Nat.gcd (m * (100 ^ ws.length - npr ws ws.length)) (100 ^ ws.length) := Nat.gcd_pos_of_pos_right _ (by omega)
  have hg2 : Nat.gcd (m * (100 ^ ws.length - npr ws ws.length)) (100 ^ ws.length) ≤ 100 ^ ws.length := Nat.gcd_le_right _ (by omega)
  unfold tellK
  rw [Nat.mul_comm (100 ^ ws.length - npr ws ws.length) m]
  refine Wp.n (pc' := 46) 1 rfl ?_
  refine Wp.i2lM (x := m) (len := 1) rfl (by omega) ?_
  refine Wp.n (pc' := 50) 2 rfl ?_
  refine Wp.lsubM (x := 100 ^ ws.length) (y := npr ws ws.length) (len := 1) rfl (by omega) ?_
  refine Wp.lmulM (x := m) (y := (100 ^ ws.length) - (npr ws ws.length)) (len := 1) rfl ?_
  refine Wp.n (pc' := 58) 3 rfl ?_
  refine Wp.ecallS (len := 3) rfl rfl rfl rfl (t_gcd (by omega) (by omega)) ?_
  refine Wp.n (pc' := 67) 4 rfl ?_
  refine Wp.cz1 (x := Nat.gcd (m * (100 ^ ws.length - npr ws ws.length)) (100 ^ ws.length)) (y := 0) (tgt := 73) (len := 3) rfl (by omega) (by omega) (fun h67 => ?_) (fun h67 => ?_)
  · skip
    refine Wp.n (pc' := 74) 1 rfl ?_
    refine Wp.nz1 (x := what) (tgt := 82) (len := 3) rfl (by omega) (fun h74 => ?_) (fun h74 => ?_)
    · skip
      refine Wp.n (pc' := 86) 2 rfl ?_
      refine Wp.ldivM (x := 100 ^ ws.length) (y := Nat.gcd (m * (100 ^ ws.length - npr ws ws.length)) (100 ^ ws.length)) (len := 1) rfl (by omega) (by omega) (by omega) ?_
      refine Wp.retL (len := 1) rfl rfl ?_
      first
        | exact ⟨by rw [if_pos h74], rfl⟩
        | exact ⟨by rw [if_neg h74], rfl⟩
    · skip
      refine Wp.n (pc' := 86) 3 rfl ?_
      refine Wp.ldivM (x := m * ((100 ^ ws.length) - (npr ws ws.length))) (y := Nat.gcd (m * (100 ^ ws.length - npr ws ws.length)) (100 ^ ws.length)) (len := 1) rfl (by omega) (by omega) (by omega) ?_
      refine Wp.retL (len := 1) rfl rfl ?_
      first
        | exact ⟨by rw [if_pos h74], rfl⟩
        | exact ⟨by rw [if_neg h74], rfl⟩
  · omega

theorem t_seen_l {ws : List Nat} (hW : WSc κ ws) (hB : WB ws) {x0 : Nat} : ∀ (n i x : Nat) (b : Bool), i + n = ws.length → x < 2147483648 → Wp d md_67 9 [some (.ref 280), some (.int (nI x0)), some (.long (lN x)), none, some (.int (bI b)), some (.int (nI i))] [] (cset M κ) (IsR (some (.int (bI (seenL ws n i x b)))) (cset M κ)) := by
  intro n
  have h6 := hB.1
  induction n with
  | zero =>
    intro i x b hi hx
    refine Wp.n (pc' := 12) 2 rfl ?_
    refine Wp.get (len := 3) rfl (rfl) rfl ?_
    refine Wp.top hW.1 ?_
    refine Wp.nc3 (x := i) (y := ws.length) (tgt := 69) (len := 3) rfl (by omega) (by omega) (fun h15 => ?_) (fun h15 => ?_)
    · skip
      refine Wp.n (pc' := 71) 1 rfl ?_
      refine Wp.retZ (len := 1) (c := b) rfl rfl rfl ?_
      exact ⟨rfl, rfl⟩
    · omega
  | succ n ih =>
    intro i x b hi hx
    have h100 := hB.2 i
    have hl := lcg_lt x
    have kk : ∀ c, (decide (lcg x / 65536 % 100 < ws.getD i 0) || b) = c → Wp d md_67 9 [some (.ref 280), some (.int (nI x0)), some (.long (lN (lcg x))), none, some (.int (bI c)), some (.int (nI (i + 1)))] [] (cset M κ) (IsR (some (.int (bI (seenL ws (n + 1) i x b)))) (cset M κ)) := by
      intro c hc
      show Wp _ _ _ _ _ _ (IsR (some (.int (bI (seenL ws n (i + 1) (lcg x) (decide (lcg x / 65536 % 100 < ws.getD i 0) || b))))) (cset M κ))
      rw [hc]
      exact ih (i + 1) (lcg x) _ (by omega) hl
    refine Wp.n (pc' := 12) 2 rfl ?_
    refine Wp.get (len := 3) rfl (rfl) rfl ?_
    refine Wp.top hW.1 ?_
    refine Wp.nc3 (x := i) (y := ws.length) (tgt := 69) (len := 3) rfl (by omega) (by omega) (fun h15 => ?_) (fun h15 => ?_)
    · omega
    · skip
      refine Wp.n (pc' := 22) 2 rfl ?_
      refine Wp.lmulM (x := 1103515245) (y := x) (len := 1) rfl ?_
      refine Wp.n (pc' := 26) 1 rfl ?_
      refine Wp.laddM (x := 1103515245 * x) (y := 12345) (len := 1) rfl ?_
      refine Wp.n (pc' := 30) 1 rfl ?_
      refine Wp.lremM (x := (1103515245 * x) + 12345) (y := 2147483648) (len := 1) rfl (by omega) (by omega) (by omega) ?_
      refine Wp.topL rfl ?_
      refine Wp.n (pc' := 38) 4 rfl ?_
      refine Wp.ldivM (x := lcg x) (y := 65536) (len := 1) rfl (by omega) (by omega) (by omega) ?_
      refine Wp.n (pc' := 42) 1 rfl ?_
      refine Wp.lremM (x := (lcg x) / 65536) (y := 100) (len := 1) rfl (by omega) (by omega) (by omega) ?_
      refine Wp.n (pc' := 44) 1 rfl ?_
      refine Wp.get (len := 3) rfl (rfl) rfl ?_
      refine Wp.n (pc' := 49) 1 rfl ?_
      refine Wp.ialdN (j := i) (len := 1) rfl (rfl) rfl (by omega) (by decide) ?_
      refine Wp.top (hW.2 i (by omega)) ?_
      refine Wp.i2lM (x := ws.getD i 0) (len := 1) rfl (by omega) ?_
      refine Wp.n (pc' := 52) 1 rfl ?_
      refine Wp.cz3 (x := ((lcg x) / 65536) % 100) (y := ws.getD i 0) (tgt := 59) (len := 3) rfl (by omega) (by omega) (fun h52 => ?_) (fun h52 => ?_)
      · skip
        refine Wp.n (pc' := 61) 2 rfl ?_
        refine Wp.top (show _ = bI (decide (lcg x / 65536 % 100 < ws.getD i 0) || b) from by first | (rw [decide_eq_true (by omega)]; exact bI_or b true) | (rw [decide_eq_false (by omega)]; exact bI_or b false)) ?_
        refine Wp.n (pc' := 63) 1 rfl ?_
        refine Wp.incN (x := i) (len := 3) rfl rfl ?_
        refine Wp.n (pc' := 9) 1 rfl ?_
        exact kk _ rfl
      · skip
        refine Wp.n (pc' := 61) 3 rfl ?_
        refine Wp.top (show _ = bI (decide (lcg x / 65536 % 100 < ws.getD i 0) || b) from by first | (rw [decide_eq_true (by omega)]; exact bI_or b true) | (rw [decide_eq_false (by omega)]; exact bI_or b false)) ?_
        refine Wp.n (pc' := 63) 1 rfl ?_
        refine Wp.incN (x := i) (len := 3) rfl rfl ?_
        refine Wp.n (pc' := 9) 1 rfl ?_
        exact kk _ rfl

theorem t_seen {ws : List Nat} (hW : WSc κ ws) (hB : WB ws) {x : Nat} (hx : x < 2147483648) : Ev d md_67 0 [some (.ref 280), some (.int (nI x)), none, none, none, none] [] (cset M κ) (some (.int (bI (seenK ws x))), cset M κ) := by
  refine Wp.toEv ?_
  refine Wp.n (pc' := 1) 1 rfl ?_
  refine Wp.i2lM (x := x) (len := 1) rfl (by omega) ?_
  refine Wp.n (pc' := 9) 5 rfl ?_
  exact t_seen_l hW hB ws.length 0 x false (by omega) hx
theorem TW_ws (ok : KOK K) {w : Nat} (hw : w < kh K 4) (h : TW κ K w) : WSc κ (wat K (TRr K w).2.2) ∧ WB (wat K (TRr K w).2.2) := ⟨⟨h.1.2.2.2.1, h.1.2.2.2.2⟩, wat_b ok (TRr_b ok hw).1.2.1 (TRr_b ok hw).1.2.2⟩
theorem k_isLawful (hD : HD M) (hk : RK M r K) {w : Nat} (hw : w < kh K 4) : Wp (d + 10) md_101 0 [some (.ref 32), some (.ref r), some (.int (nI w))] [] (cset M κ) (fun v M' => v = some (.int (bI (lawK K w))) ∧ ∃ κ', M' = cset M κ' ∧ Fc [11] [12] [] κ κ' ∧ TW κ' K w) := by
  obtain ⟨ow, hDo⟩ := hD.1
  have hO : ∀ κ : CS, cset M κ 32 = .inr (9, hdl ow) := fun κ => (cset_o (by omega)).trans hDo
  refine Wp.n (pc' := 1) 1 rfl ?_
  refine Wp.get (len := 3) rfl (hO _) rfl ?_
  refine Wp.n (pc' := 6) 2 rfl ?_
  refine Wp.callV (len := 3) rfl rfl rfl (rfl) rfl (by decide) rfl (t_follow hk hw) ?_
  rintro _ _ ⟨rfl, κ2, rfl, hF, hT⟩
  refine Wp.n (pc' := 10) 1 rfl ?_
  refine Wp.get (len := 3) rfl (hO _) rfl ?_
  refine Wp.get (len := 3) rfl (rfl) rfl ?_
  refine Wp.top hT.2.1 ?_
  refine Wp.retZ (len := 1) (c := lawK K w) rfl rfl rfl ?_
  exact ⟨rfl, κ2, rfl, hF, hT⟩

theorem k_refusal (hD : HD M) (hk : RK M 36 K) (x : Int32) : Wp (d + 11) md_104 0 [some (.ref 32), some (.int x)] [] (cset M κ) (fun v M' => ∃ κ', M' = cset M κ' ∧ Fc [11] [12] [] κ κ' ∧ ((isN (kh K 4) x = false ∧ v = some (.int (-2))) ∨ ∃ w, w < kh K 4 ∧ x = nI w ∧ TW κ' K w ∧ v = some (.int (bif lawK K w then 0 else -1)))) := by
  obtain ⟨ρ, hR, hK, hDC, ok, hr1, hr2⟩ := id hk
  obtain ⟨b0, b1, b2, b3, b4, b5, b6, b7, b8, b9, b10, b11, b12⟩ := ok_h ok
  obtain ⟨ow, hDo⟩ := hD.1
  have hO : ∀ κ : CS, cset M κ 32 = .inr (9, hdl ow) := fun κ => (cset_o (by omega)).trans hDo
  have hRc : ∀ κ : CS, RA (cset M κ) 36 ρ := fun κ => RA_c hR hr1 hr2
  refine Wp.n (pc' := 1) 1 rfl ?_
  refine Wp.get (len := 3) rfl (hO _) rfl ?_
  refine Wp.n (pc' := 5) 1 rfl ?_
  refine Wp.ecallV (len := 3) rfl rfl rfl (ra_obj (hRc _)) rfl (by decide) rfl (k_hasWalk (RK_c hk) _) ?_
  refine Wp.ifb1 (tgt := 14) (len := 3) rfl (fun h8 => ?_) (fun h8 => ?_)
  · skip
    obtain ⟨w, hw, rfl⟩ := isN_of h8
    refine Wp.n (pc' := 16) 2 rfl ?_
    refine Wp.get (len := 3) rfl (hO _) rfl ?_
    refine Wp.n (pc' := 20) 1 rfl ?_
    refine Wp.callV (len := 3) rfl rfl rfl (hO _) rfl (by decide) rfl (k_isLawful hD hk hw) ?_
    rintro _ _ ⟨rfl, κ2, rfl, hF, hT⟩
    refine Wp.ifb0 (tgt := 30) (len := 3) rfl (fun h23 => ?_) (fun h23 => ?_)
    · skip
      refine Wp.n (pc' := 31) 1 rfl ?_
      refine Wp.retI (len := 1) rfl rfl ?_
      first
        | exact ⟨κ2, rfl, hF, Or.inr ⟨w, hw, rfl, hT, by rw [h23]; rfl⟩⟩
        | exact ⟨κ, rfl, Fc.r, Or.inl ⟨h8, rfl⟩⟩
    · skip
      refine Wp.n (pc' := 31) 2 rfl ?_
      refine Wp.retI (len := 1) rfl rfl ?_
      first
        | exact ⟨κ2, rfl, hF, Or.inr ⟨w, hw, rfl, hT, by rw [h23]; rfl⟩⟩
        | exact ⟨κ, rfl, Fc.r, Or.inl ⟨h8, rfl⟩⟩
  · skip
    refine Wp.n (pc' := 13) 1 rfl ?_
    refine Wp.retI (len := 1) rfl rfl ?_
    first
      | exact ⟨κ2, rfl, hF, Or.inr ⟨w, hw, rfl, hT, by rw [h23]; rfl⟩⟩
      | exact ⟨κ, rfl, Fc.r, Or.inl ⟨h8, rfl⟩⟩


theorem k_length (hD : HD M) (hk : RK M 36 K) (h11 : kh K 11 = 0) (x : Int32) : Wp (d + 12) md_103 0 [some (.ref 32), some (.int x), none] [] (cset M κ) (RCI M κ (lengthA K x)) := by
  obtain ⟨ρ, hR, hK, hDC, ok, hr1, hr2⟩ := id hk
  obtain ⟨b0, b1, b2, b3, b4, b5, b6, b7, b8, b9, b10, b11, b12⟩ := ok_h ok
  obtain ⟨ow, hDo⟩ := hD.1
  have hO : ∀ κ : CS, cset M κ 32 = .inr (9, hdl ow) := fun κ => (cset_o (by omega)).trans hDo
  have hRc : ∀ κ : CS, RA (cset M κ) 36 ρ := fun κ => RA_c hR hr1 hr2
  unfold lengthA
  refine Wp.n (pc' := 2) 2 rfl ?_
  refine Wp.callV (len := 3) rfl rfl rfl (hO _) rfl (by decide) rfl (k_refusal hD hk x) ?_
  rintro _ _ ⟨κ2, rfl, hF, ⟨hN, rfl⟩ | ⟨w, hw, rfl, hT, rfl⟩⟩
  · rw [if_neg (by rw [hN]; decide)]
    refine Wp.n (pc' := 7) 2 rfl ?_
    refine Wp.if1 (tgt := 20) (len := 3) rfl (fun h7 => ?_) (fun h7 => ?_)
    · skip
      refine Wp.n (pc' := 21) 1 rfl ?_
      refine Wp.retI (len := 1) rfl rfl ?_
      exact RCI_s (ScC_11 hF) rfl
    · exact absurd h7 (by decide)
  · have hN : isN (kh K 4) (nI w) = true := by rw [isN_nI (by omega)]; exact decide_eq_true hw
    rw [if_pos hN, nI_clamp (by omega)]
    cases hL : lawK K w
    · skip
      refine Wp.n (pc' := 7) 2 rfl ?_
      refine Wp.if1 (tgt := 20) (len := 3) rfl (fun h7 => ?_) (fun h7 => ?_)
      · skip
        refine Wp.n (pc' := 21) 1 rfl ?_
        refine Wp.retI (len := 1) rfl rfl ?_
        exact RCI_s (ScC_11 hF) rfl
      · exact absurd h7 (by decide)
    · skip
      refine Wp.n (pc' := 7) 2 rfl ?_
      refine Wp.if1 (tgt := 20) (len := 3) rfl (fun h7 => ?_) (fun h7 => ?_)
      · exact absurd rfl h7
      · skip
        refine Wp.n (pc' := 11) 1 rfl ?_
        refine Wp.get (len := 3) rfl (hO _) rfl ?_
        refine Wp.get (len := 3) rfl (rfl) rfl ?_
        refine Wp.n (pc' := 21) 1 rfl ?_
        refine Wp.retI (len := 1) rfl rfl ?_
        exact RCI_s (ScC_11 hF) (hT.1.2.1)

theorem k_saved (hD : HD M) (hk : RK M 36 K) (h11 : kh K 11 = 0) (x : Int32) : Wp (d + 12) md_105 0 [some (.ref 32), some (.int x), none] [] (cset M κ) (RCI M κ (savedA K x)) := by
  obtain ⟨ρ, hR, hK, hDC, ok, hr1, hr2⟩ := id hk
  obtain ⟨b0, b1, b2, b3, b4, b5, b6, b7, b8, b9, b10, b11, b12⟩ := ok_h ok
  obtain ⟨ow, hDo⟩ := hD.1
  have hO : ∀ κ : CS, cset M κ 32 = .inr (9, hdl ow) := fun κ => (cset_o (by omega)).trans hDo
  have hRc : ∀ κ : CS, RA (cset M κ) 36 ρ := fun κ => RA_c hR hr1 hr2
  unfold savedA
  refine Wp.n (pc' := 2) 2 rfl ?_
  refine Wp.callV (len := 3) rfl rfl rfl (hO _) rfl (by decide) rfl (k_refusal hD hk x) ?_
  rintro _ _ ⟨κ2, rfl, hF, ⟨hN, rfl⟩ | ⟨w, hw, rfl, hT, rfl⟩⟩
  · rw [if_neg (by rw [hN]; decide)]
    refine Wp.n (pc' := 7) 2 rfl ?_
    refine Wp.if1 (tgt := 20) (len := 3) rfl (fun h7 => ?_) (fun h7 => ?_)
    · skip
      refine Wp.n (pc' := 21) 1 rfl ?_
      refine Wp.retI (len := 1) rfl rfl ?_
      exact RCI_s (ScC_11 hF) rfl
    · exact absurd h7 (by decide)
  · have hN : isN (kh K 4) (nI w) = true := by rw [isN_nI (by omega)]; exact decide_eq_true hw
    rw [if_pos hN, nI_clamp (by omega)]
    cases hL : lawK K w
    · skip
      refine Wp.n (pc' := 7) 2 rfl ?_
      refine Wp.if1 (tgt := 20) (len := 3) rfl (fun h7 => ?_) (fun h7 => ?_)
      · skip
        refine Wp.n (pc' := 21) 1 rfl ?_
        refine Wp.retI (len := 1) rfl rfl ?_
        exact RCI_s (ScC_11 hF) rfl
      · exact absurd h7 (by decide)
    · skip
      refine Wp.n (pc' := 7) 2 rfl ?_
      refine Wp.if1 (tgt := 20) (len := 3) rfl (fun h7 => ?_) (fun h7 => ?_)
      · exact absurd rfl h7
      · skip
        refine Wp.n (pc' := 11) 1 rfl ?_
        refine Wp.get (len := 3) rfl (hO _) rfl ?_
        refine Wp.get (len := 3) rfl (rfl) rfl ?_
        refine Wp.n (pc' := 21) 1 rfl ?_
        refine Wp.retI (len := 1) rfl rfl ?_
        exact RCI_s (ScC_11 hF) (hT.2.2.1)

theorem k_duty (hD : HD M) (hk : RK M 36 K) (h11 : kh K 11 = 0) (x : Int32) : Wp (d + 12) md_106 0 [some (.ref 32), some (.int x), none] [] (cset M κ) (RCI M κ (dutyA K x)) := by
  obtain ⟨ρ, hR, hK, hDC, ok, hr1, hr2⟩ := id hk
  obtain ⟨b0, b1, b2, b3, b4, b5, b6, b7, b8, b9, b10, b11, b12⟩ := ok_h ok
  obtain ⟨ow, hDo⟩ := hD.1
  have hO : ∀ κ : CS, cset M κ 32 = .inr (9, hdl ow) := fun κ => (cset_o (by omega)).trans hDo
  have hRc : ∀ κ : CS, RA (cset M κ) 36 ρ := fun κ => RA_c hR hr1 hr2
  unfold dutyA
  refine Wp.n (pc' := 2) 2 rfl ?_
  refine Wp.callV (len := 3) rfl rfl rfl (hO _) rfl (by decide) rfl (k_refusal hD hk x) ?_
  rintro _ _ ⟨κ2, rfl, hF, ⟨hN, rfl⟩ | ⟨w, hw, rfl, hT, rfl⟩⟩
  · rw [if_neg (by rw [hN]; decide)]
    refine Wp.n (pc' := 7) 2 rfl ?_
    refine Wp.if1 (tgt := 20) (len := 3) rfl (fun h7 => ?_) (fun h7 => ?_)
    · skip
      refine Wp.n (pc' := 21) 1 rfl ?_
      refine Wp.retI (len := 1) rfl rfl ?_
      exact RCI_s (ScC_11 hF) rfl
    · exact absurd h7 (by decide)
  · have hN : isN (kh K 4) (nI w) = true := by rw [isN_nI (by omega)]; exact decide_eq_true hw
    rw [if_pos hN, nI_clamp (by omega)]
    cases hL : lawK K w
    · skip
      refine Wp.n (pc' := 7) 2 rfl ?_
      refine Wp.if1 (tgt := 20) (len := 3) rfl (fun h7 => ?_) (fun h7 => ?_)
      · skip
        refine Wp.n (pc' := 21) 1 rfl ?_
        refine Wp.retI (len := 1) rfl rfl ?_
        exact RCI_s (ScC_11 hF) rfl
      · exact absurd h7 (by decide)
    · skip
      refine Wp.n (pc' := 7) 2 rfl ?_
      refine Wp.if1 (tgt := 20) (len := 3) rfl (fun h7 => ?_) (fun h7 => ?_)
      · exact absurd rfl h7
      · skip
        refine Wp.n (pc' := 11) 1 rfl ?_
        refine Wp.get (len := 3) rfl (hO _) rfl ?_
        refine Wp.get (len := 3) rfl (rfl) rfl ?_
        refine Wp.n (pc' := 21) 1 rfl ?_
        refine Wp.retI (len := 1) rfl rfl ?_
        exact RCI_s (ScC_11 hF) (hT.2.2.2)

theorem k_lanes (hD : HD M) (hk : RK M 36 K) (h11 : kh K 11 = 0) (x : Int32) : Wp (d + 12) md_107 0 [some (.ref 32), some (.int x), none] [] (cset M κ) (RCI M κ (lanesA K x)) := by
  obtain ⟨ρ, hR, hK, hDC, ok, hr1, hr2⟩ := id hk
  obtain ⟨b0, b1, b2, b3, b4, b5, b6, b7, b8, b9, b10, b11, b12⟩ := ok_h ok
  obtain ⟨ow, hDo⟩ := hD.1
  have hO : ∀ κ : CS, cset M κ 32 = .inr (9, hdl ow) := fun κ => (cset_o (by omega)).trans hDo
  have hRc : ∀ κ : CS, RA (cset M κ) 36 ρ := fun κ => RA_c hR hr1 hr2
  unfold lanesA
  refine Wp.n (pc' := 2) 2 rfl ?_
  refine Wp.callV (len := 3) rfl rfl rfl (hO _) rfl (by decide) rfl (k_refusal hD hk x) ?_
  rintro _ _ ⟨κ2, rfl, hF, ⟨hN, rfl⟩ | ⟨w, hw, rfl, hT, rfl⟩⟩
  · rw [if_neg (by rw [hN]; decide)]
    refine Wp.n (pc' := 7) 2 rfl ?_
    refine Wp.if1 (tgt := 20) (len := 3) rfl (fun h7 => ?_) (fun h7 => ?_)
    · skip
      refine Wp.n (pc' := 21) 1 rfl ?_
      refine Wp.retI (len := 1) rfl rfl ?_
      exact RCI_s (ScC_11 hF) rfl
    · exact absurd h7 (by decide)
  · have hN : isN (kh K 4) (nI w) = true := by rw [isN_nI (by omega)]; exact decide_eq_true hw
    rw [if_pos hN, nI_clamp (by omega)]
    cases hL : lawK K w
    · skip
      refine Wp.n (pc' := 7) 2 rfl ?_
      refine Wp.if1 (tgt := 20) (len := 3) rfl (fun h7 => ?_) (fun h7 => ?_)
      · skip
        refine Wp.n (pc' := 21) 1 rfl ?_
        refine Wp.retI (len := 1) rfl rfl ?_
        exact RCI_s (ScC_11 hF) rfl
      · exact absurd h7 (by decide)
    · skip
      refine Wp.n (pc' := 7) 2 rfl ?_
      refine Wp.if1 (tgt := 20) (len := 3) rfl (fun h7 => ?_) (fun h7 => ?_)
      · exact absurd rfl h7
      · skip
        refine Wp.n (pc' := 11) 1 rfl ?_
        refine Wp.get (len := 3) rfl (hO _) rfl ?_
        refine Wp.get (len := 3) rfl (rfl) rfl ?_
        refine Wp.n (pc' := 21) 1 rfl ?_
        refine Wp.retI (len := 1) rfl rfl ?_
        exact RCI_s (ScC_11 hF) (hT.1.2.2.1.trans (by rw [bitsC_0 ok h11 (TRr_b ok hw).1.2.2]; rfl))

theorem k_steps (hD : HD M) (hk : RK M 36 K) (x : Int32) : Wp (d + 12) md_102 0 [some (.ref 32), some (.int x)] [] (cset M κ) (RCI M κ (stepsA K x)) := by
  obtain ⟨ρ, hR, hK, hDC, ok, hr1, hr2⟩ := id hk
  obtain ⟨b0, b1, b2, b3, b4, b5, b6, b7, b8, b9, b10, b11, b12⟩ := ok_h ok
  obtain ⟨ow, hDo⟩ := hD.1
  have hO : ∀ κ : CS, cset M κ 32 = .inr (9, hdl ow) := fun κ => (cset_o (by omega)).trans hDo
  have hRc : ∀ κ : CS, RA (cset M κ) 36 ρ := fun κ => RA_c hR hr1 hr2
  unfold stepsA
  refine Wp.n (pc' := 1) 1 rfl ?_
  refine Wp.get (len := 3) rfl (hO _) rfl ?_
  refine Wp.n (pc' := 5) 1 rfl ?_
  refine Wp.ecallV (len := 3) rfl rfl rfl (ra_obj (hRc _)) rfl (by decide) rfl (k_hasWalk (RK_c hk) _) ?_
  refine Wp.ifb1 (tgt := 14) (len := 3) rfl (fun h8 => ?_) (fun h8 => ?_)
  · skip
    obtain ⟨w, hw, rfl⟩ := isN_of h8
    rw [if_pos h8, nI_clamp (by omega)]
    refine Wp.n (pc' := 15) 1 rfl ?_
    refine Wp.get (len := 3) rfl (hO _) rfl ?_
    refine Wp.n (pc' := 19) 1 rfl ?_
    refine Wp.get (len := 3) rfl (hO _) rfl ?_
    refine Wp.n (pc' := 23) 1 rfl ?_
    refine Wp.callV (len := 3) rfl rfl rfl (rfl) rfl (by decide) rfl (t_follow hk hw) ?_
    rintro _ _ ⟨rfl, κ2, rfl, hF, hT⟩
    refine Wp.n (pc' := 27) 1 rfl ?_
    refine Wp.get (len := 3) rfl (hO _) rfl ?_
    refine Wp.get (len := 3) rfl (rfl) rfl ?_
    refine Wp.retI (len := 1) rfl rfl ?_
    first
      | exact RCI_s (ScC_11 hF) hT.1.1
      | (rw [if_neg (by rw [h8]; decide)]; exact RCI_r rfl)
  · skip
    refine Wp.n (pc' := 13) 1 rfl ?_
    refine Wp.retI (len := 1) rfl rfl ?_
    first
      | exact RCI_s (ScC_11 hF) hT.1.1
      | (rw [if_neg (by rw [h8]; decide)]; exact RCI_r rfl)

theorem k_unlawful_l (hD : HD M) (hk : RK M 36 K) : ∀ (n w : Nat) (κ2 : CS), w + n = kh K 4 → ScC κ κ2 → Wp (d + 12) md_100 15 [some (.ref 32), some (.int (nI w))] [] (cset M κ2) (RCI M κ (oI (fnd (fun w => !(lawK K w)) n w))) := by
  obtain ⟨ρ, hR, hK, hDC, ok, hr1, hr2⟩ := id hk
  obtain ⟨b0, b1, b2, b3, b4, b5, b6, b7, b8, b9, b10, b11, b12⟩ := ok_h ok
  obtain ⟨ow, hDo⟩ := hD.1
  have hO : ∀ κ : CS, cset M κ 32 = .inr (9, hdl ow) := fun κ => (cset_o (by omega)).trans hDo
  have hRc : ∀ κ : CS, RA (cset M κ) 36 ρ := fun κ => RA_c hR hr1 hr2
  intro n
  induction n with
  | zero =>
    intro w κ2 hw hS
    refine Wp.n (pc' := 17) 2 rfl ?_
    refine Wp.get (len := 3) rfl (hO _) rfl ?_
    refine Wp.get (len := 3) rfl (ra_obj (hRc _)) rfl ?_
    refine Wp.top (rc_wk hK) ?_
    refine Wp.nc3 (x := w) (y := kh K 4) (tgt := 46) (len := 3) rfl (by omega) (by omega) (fun h23 => ?_) (fun h23 => ?_)
    · skip
      refine Wp.n (pc' := 47) 1 rfl ?_
      refine Wp.retI (len := 1) rfl rfl ?_
      exact RCI_s hS rfl
    · omega
  | succ n ih =>
    intro w κ2 hw hS
    rw [show fnd (fun w => !(lawK K w)) (n + 1) w = if (!(lawK K w)) = true then some w else fnd (fun w => !(lawK K w)) n (w + 1) from rfl]
    refine Wp.n (pc' := 17) 2 rfl ?_
    refine Wp.get (len := 3) rfl (hO _) rfl ?_
    refine Wp.get (len := 3) rfl (ra_obj (hRc _)) rfl ?_
    refine Wp.top (rc_wk hK) ?_
    refine Wp.nc3 (x := w) (y := kh K 4) (tgt := 46) (len := 3) rfl (by omega) (by omega) (fun h23 => ?_) (fun h23 => ?_)
    · omega
    · skip
      refine Wp.n (pc' := 28) 2 rfl ?_
      refine Wp.get (len := 3) rfl (hO _) rfl ?_
      refine Wp.n (pc' := 32) 1 rfl ?_
      refine Wp.callV (len := 3) rfl rfl rfl (hO _) rfl (by decide) rfl (k_isLawful hD hk (by omega)) ?_
      rintro _ _ ⟨rfl, κ3, rfl, hF, hT⟩
      refine Wp.ifb1 (tgt := 40) (len := 3) rfl (fun h35 => ?_) (fun h35 => ?_)
      · skip
        refine Wp.incN (x := w) (len := 3) rfl rfl ?_
        refine Wp.n (pc' := 15) 1 rfl ?_
        rw [h35, if_neg (by decide)]
        exact ih (w + 1) κ3 (by omega) (ScC_t hS (ScC_11 hF))
      · skip
        refine Wp.n (pc' := 39) 1 rfl ?_
        refine Wp.retI (len := 1) rfl rfl ?_
        rw [h35, if_pos (by decide)]
        exact RCI_s (ScC_t hS (ScC_11 hF)) rfl

theorem k_unlawful (hD : HD M) (hk : RK M 36 K) : Wp (d + 12) md_100 0 [some (.ref 32), none] [] (cset M κ) (RCI M κ (unlawfulA K)) := by
  obtain ⟨ρ, hR, hK, hDC, ok, hr1, hr2⟩ := id hk
  obtain ⟨b0, b1, b2, b3, b4, b5, b6, b7, b8, b9, b10, b11, b12⟩ := ok_h ok
  obtain ⟨ow, hDo⟩ := hD.1
  have hO : ∀ κ : CS, cset M κ 32 = .inr (9, hdl ow) := fun κ => (cset_o (by omega)).trans hDo
  have hRc : ∀ κ : CS, RA (cset M κ) 36 ρ := fun κ => RA_c hR hr1 hr2
  unfold unlawfulA
  refine Wp.n (pc' := 1) 1 rfl ?_
  refine Wp.get (len := 3) rfl (hO _) rfl ?_
  refine Wp.ecallV (len := 3) rfl rfl rfl (ra_obj (hRc _)) rfl (by decide) rfl (k_exists (RK_c hk)) ?_
  refine Wp.ifb1 (tgt := 13) (len := 3) rfl (fun h7 => ?_) (fun h7 => ?_)
  · skip
    refine Wp.n (pc' := 15) 2 rfl ?_
    rw [if_pos (of_decide_eq_true h7)]
    exact k_unlawful_l hD hk (kh K 4) 0 κ (by omega) ScC_r
  · skip
    refine Wp.n (pc' := 12) 1 rfl ?_
    refine Wp.retI (len := 1) rfl rfl ?_
    rw [if_neg (of_decide_eq_false h7)]
    exact RCI_r rfl

theorem k_dutySum_l (hD : HD M) (hk : RK M r K) (h32 : 32 ≤ r) (who y : Int32) : ∀ (n w s : Nat) (κ2 : CS) (z6 z7 : Option Value), w + n = kh K 4 → ScC κ κ2 → Wp (d + 11) md_109 6 [some (.ref 32), some (.ref r), some (.int who), some (.int y), some (.int (nI s)), some (.int (nI w)), z6, z7] [] (cset M κ2) (RCI M κ (nI (fld (sumD K who y) n w s))) := by
  obtain ⟨ρ, hR, hK, hDC, ok, hr1, hr2⟩ := id hk
  obtain ⟨b0, b1, b2, b3, b4, b5, b6, b7, b8, b9, b10, b11, b12⟩ := ok_h ok
  obtain ⟨ow, hDo⟩ := hD.1
  have hO : ∀ κ : CS, cset M κ 32 = .inr (9, hdl ow) := fun κ => (cset_o (by omega)).trans hDo
  have hRc : ∀ κ : CS, RA (cset M κ) r ρ := fun κ => RA_c hR hr1 hr2
  intro n
  induction n with
  | zero =>
    intro w s κ2 z6 z7 hw hS
    refine Wp.n (pc' := 9) 2 rfl ?_
    refine Wp.get (len := 3) rfl (ra_obj (hRc _)) rfl ?_
    refine Wp.top (rc_wk hK) ?_
    refine Wp.nc3 (x := w) (y := kh K 4) (tgt := 92) (len := 3) rfl (by omega) (by omega) (fun h12 => ?_) (fun h12 => ?_)
    · skip
      refine Wp.n (pc' := 94) 1 rfl ?_
      refine Wp.retI (len := 1) rfl rfl ?_
      exact RCI_s hS rfl
    · omega
  | succ n ih =>
    intro w s κ2 z6 z7 hw hS
    have q := rc_walk hK (i := w) (by omega)
    have hwk : ∀ κ : CS, cset M κ (r + 26 + 2 * w) = .inr (7, wfs (rwk ρ w) (r + 27 + 2 * w)) := fun κ => ra_walk (hRc κ) (by omega)
    have kn : cntW K who y w = false → Wp (d + 11) md_109 6 [some (.ref 32), some (.ref r), some (.int who), some (.int y), some (.int (nI s)), some (.int (nI (w + 1))), z6, z7] [] (cset M κ2) (RCI M κ (nI (fld (sumD K who y) (n + 1) w s))) := by
      intro h
      show Wp _ _ _ _ _ _ (RCI M κ (nI (fld (sumD K who y) n (w + 1) (sumD K who y s w))))
      rw [show sumD K who y s w = s by unfold sumD; rw [h]; rfl]
      exact ih (w + 1) s κ2 _ _ (by omega) hS
    show Wp _ _ _ _ _ _ (RCI M κ (nI (fld (sumD K who y) n (w + 1) (sumD K who y s w))))
    refine Wp.n (pc' := 9) 2 rfl ?_
    refine Wp.get (len := 3) rfl (ra_obj (hRc _)) rfl ?_
    refine Wp.top (rc_wk hK) ?_
    refine Wp.nc3 (x := w) (y := kh K 4) (tgt := 92) (len := 3) rfl (by omega) (by omega) (fun h12 => ?_) (fun h12 => ?_)
    · omega
    · skip
      refine Wp.n (pc' := 16) 1 rfl ?_
      refine Wp.get (len := 3) rfl (ra_obj (hRc _)) rfl ?_
      refine Wp.n (pc' := 21) 1 rfl ?_
      refine Wp.aaldN (j := w) (len := 1) rfl (ra_walks (hRc _)) rfl (by omega) (by decide) (if_pos (by omega)) ?_
      refine Wp.n (pc' := 26) 3 rfl ?_
      refine Wp.ic0 (tgt := 38) (len := 3) rfl (fun h26 => ?_) (fun h26 => ?_)
      · skip
        refine Wp.n (pc' := 40) 2 rfl ?_
        refine Wp.ic0 (tgt := 52) (len := 3) rfl (fun h40 => ?_) (fun h40 => ?_)
        · skip
          refine Wp.n (pc' := 61) 4 rfl ?_
          refine Wp.nz0 (x := 1) (tgt := 86) (len := 3) rfl (by omega) (fun h61 => ?_) (fun h61 => ?_)
          · omega
          · skip
            refine Wp.n (pc' := 68) 3 rfl ?_
            refine Wp.callV (len := 3) rfl rfl rfl (hO _) rfl (by decide) rfl (k_isLawful hD hk (by omega)) ?_
            rintro _ _ ⟨rfl, κ3, rfl, hF, hT⟩
            refine Wp.ifb0 (tgt := 86) (len := 3) rfl (fun h71 => ?_) (fun h71 => ?_)
            · skip
              refine Wp.incN (x := w) (len := 3) rfl rfl ?_
              refine Wp.n (pc' := 6) 1 rfl ?_
              have ew : ∀ b, cntW K who y w = b → sumD K who y s w = bif b then s + dutW K w else s := fun b hb => by unfold sumD; rw [hb]
              have cn0 : ∀ a b c, (decide (who = -1) || decide (nI (kw K w 0) = who)) = a → (decide (y = -1) || decide (nI (kw K w 2) = y)) = b → lawK K w = c → cntW K who y w = (a && b && c) := fun a b c h1 h2 h3 => by unfold cntW; rw [h1, h2, h3]
              first
                | (have a1 : (decide (who = -1) || decide (nI (kw K w 0) = who)) = true := by first | (rw [decide_eq_true h26]; rfl) | (rw [decide_eq_true h35, Bool.or_true])
                   have a2 : (decide (y = -1) || decide (nI (kw K w 2) = y)) = true := by first | (rw [decide_eq_true h40]; rfl) | (rw [decide_eq_true h49, Bool.or_true])
                   have a3 := cn0 true true _ a1 a2 h71
                   rw [ew _ a3]
                   exact ih (w + 1) _ κ3 _ _ (by omega) (ScC_t hS (ScC_11 hF)))
                | (have a1 : (decide (who = -1) || decide (nI (kw K w 0) = who)) = false := by rw [decide_eq_false h26, decide_eq_false h35]; rfl
                   have a3 := cn0 false _ _ a1 rfl rfl
                   rw [ew false (a3.trans rfl)]
                   exact ih (w + 1) _ κ2 _ _ (by omega) hS)
                | (have a2 : (decide (y = -1) || decide (nI (kw K w 2) = y)) = false := by rw [decide_eq_false h40, decide_eq_false h49]; rfl
                   have a3 := cn0 _ false _ rfl a2 rfl
                   rw [ew false (a3.trans (by rw [Bool.and_false, Bool.false_and]))]
                   exact ih (w + 1) _ κ2 _ _ (by omega) hS)
            · skip
              refine Wp.n (pc' := 77) 2 rfl ?_
              refine Wp.get (len := 3) rfl (hO _) rfl ?_
              refine Wp.get (len := 3) rfl (rfl) rfl ?_
              refine Wp.top hT.2.2.2 ?_
              refine Wp.iaddN (x := s) (y := dutW K w) (len := 1) rfl ?_
              refine Wp.n (pc' := 86) 1 rfl ?_
              refine Wp.incN (x := w) (len := 3) rfl rfl ?_
              refine Wp.n (pc' := 6) 1 rfl ?_
              have ew : ∀ b, cntW K who y w = b → sumD K who y s w = bif b then s + dutW K w else s := fun b hb => by unfold sumD; rw [hb]
              have cn0 : ∀ a b c, (decide (who = -1) || decide (nI (kw K w 0) = who)) = a → (decide (y = -1) || decide (nI (kw K w 2) = y)) = b → lawK K w = c → cntW K who y w = (a && b && c) := fun a b c h1 h2 h3 => by unfold cntW; rw [h1, h2, h3]
              first
                | (have a1 : (decide (who = -1) || decide (nI (kw K w 0) = who)) = true := by first | (rw [decide_eq_true h26]; rfl) | (rw [decide_eq_true h35, Bool.or_true])
                   have a2 : (decide (y = -1) || decide (nI (kw K w 2) = y)) = true := by first | (rw [decide_eq_true h40]; rfl) | (rw [decide_eq_true h49, Bool.or_true])
                   have a3 := cn0 true true _ a1 a2 h71
                   rw [ew _ a3]
                   exact ih (w + 1) _ κ3 _ _ (by omega) (ScC_t hS (ScC_11 hF)))
                | (have a1 : (decide (who = -1) || decide (nI (kw K w 0) = who)) = false := by rw [decide_eq_false h26, decide_eq_false h35]; rfl
                   have a3 := cn0 false _ _ a1 rfl rfl
                   rw [ew false (a3.trans rfl)]
                   exact ih (w + 1) _ κ2 _ _ (by omega) hS)
                | (have a2 : (decide (y = -1) || decide (nI (kw K w 2) = y)) = false := by rw [decide_eq_false h40, decide_eq_false h49]; rfl
                   have a3 := cn0 _ false _ rfl a2 rfl
                   rw [ew false (a3.trans (by rw [Bool.and_false, Bool.false_and]))]
                   exact ih (w + 1) _ κ2 _ _ (by omega) hS)
        · skip
          refine Wp.n (pc' := 45) 1 rfl ?_
          refine Wp.get (len := 3) rfl (hwk _) rfl ?_
          refine Wp.top q.2.2.1 ?_
          refine Wp.n (pc' := 49) 1 rfl ?_
          refine Wp.ic1 (tgt := 56) (len := 3) rfl (fun h49 => ?_) (fun h49 => ?_)
          · skip
            refine Wp.n (pc' := 61) 3 rfl ?_
            refine Wp.nz0 (x := 0) (tgt := 86) (len := 3) rfl (by omega) (fun h61 => ?_) (fun h61 => ?_)
            · skip
              refine Wp.incN (x := w) (len := 3) rfl rfl ?_
              refine Wp.n (pc' := 6) 1 rfl ?_
              have ew : ∀ b, cntW K who y w = b → sumD K who y s w = bif b then s + dutW K w else s := fun b hb => by unfold sumD; rw [hb]
              have cn0 : ∀ a b c, (decide (who = -1) || decide (nI (kw K w 0) = who)) = a → (decide (y = -1) || decide (nI (kw K w 2) = y)) = b → lawK K w = c → cntW K who y w = (a && b && c) := fun a b c h1 h2 h3 => by unfold cntW; rw [h1, h2, h3]
              first
                | (have a1 : (decide (who = -1) || decide (nI (kw K w 0) = who)) = true := by first | (rw [decide_eq_true h26]; rfl) | (rw [decide_eq_true h35, Bool.or_true])
                   have a2 : (decide (y = -1) || decide (nI (kw K w 2) = y)) = true := by first | (rw [decide_eq_true h40]; rfl) | (rw [decide_eq_true h49, Bool.or_true])
                   have a3 := cn0 true true _ a1 a2 h71
                   rw [ew _ a3]
                   exact ih (w + 1) _ κ3 _ _ (by omega) (ScC_t hS (ScC_11 hF)))
                | (have a1 : (decide (who = -1) || decide (nI (kw K w 0) = who)) = false := by rw [decide_eq_false h26, decide_eq_false h35]; rfl
                   have a3 := cn0 false _ _ a1 rfl rfl
                   rw [ew false (a3.trans rfl)]
                   exact ih (w + 1) _ κ2 _ _ (by omega) hS)
                | (have a2 : (decide (y = -1) || decide (nI (kw K w 2) = y)) = false := by rw [decide_eq_false h40, decide_eq_false h49]; rfl
                   have a3 := cn0 _ false _ rfl a2 rfl
                   rw [ew false (a3.trans (by rw [Bool.and_false, Bool.false_and]))]
                   exact ih (w + 1) _ κ2 _ _ (by omega) hS)
            · omega
          · skip
            refine Wp.n (pc' := 61) 4 rfl ?_
            refine Wp.nz0 (x := 1) (tgt := 86) (len := 3) rfl (by omega) (fun h61 => ?_) (fun h61 => ?_)
            · omega
            · skip
              refine Wp.n (pc' := 68) 3 rfl ?_
              refine Wp.callV (len := 3) rfl rfl rfl (hO _) rfl (by decide) rfl (k_isLawful hD hk (by omega)) ?_
              rintro _ _ ⟨rfl, κ3, rfl, hF, hT⟩
              refine Wp.ifb0 (tgt := 86) (len := 3) rfl (fun h71 => ?_) (fun h71 => ?_)
              · skip
                refine Wp.incN (x := w) (len := 3) rfl rfl ?_
                refine Wp.n (pc' := 6) 1 rfl ?_
                have ew : ∀ b, cntW K who y w = b → sumD K who y s w = bif b then s + dutW K w else s := fun b hb => by unfold sumD; rw [hb]
                have cn0 : ∀ a b c, (decide (who = -1) || decide (nI (kw K w 0) = who)) = a → (decide (y = -1) || decide (nI (kw K w 2) = y)) = b → lawK K w = c → cntW K who y w = (a && b && c) := fun a b c h1 h2 h3 => by unfold cntW; rw [h1, h2, h3]
                first
                  | (have a1 : (decide (who = -1) || decide (nI (kw K w 0) = who)) = true := by first | (rw [decide_eq_true h26]; rfl) | (rw [decide_eq_true h35, Bool.or_true])
                     have a2 : (decide (y = -1) || decide (nI (kw K w 2) = y)) = true := by first | (rw [decide_eq_true h40]; rfl) | (rw [decide_eq_true h49, Bool.or_true])
                     have a3 := cn0 true true _ a1 a2 h71
                     rw [ew _ a3]
                     exact ih (w + 1) _ κ3 _ _ (by omega) (ScC_t hS (ScC_11 hF)))
                  | (have a1 : (decide (who = -1) || decide (nI (kw K w 0) = who)) = false := by rw [decide_eq_false h26, decide_eq_false h35]; rfl
                     have a3 := cn0 false _ _ a1 rfl rfl
                     rw [ew false (a3.trans rfl)]
                     exact ih (w + 1) _ κ2 _ _ (by omega) hS)
                  | (have a2 : (decide (y = -1) || decide (nI (kw K w 2) = y)) = false := by rw [decide_eq_false h40, decide_eq_false h49]; rfl
                     have a3 := cn0 _ false _ rfl a2 rfl
                     rw [ew false (a3.trans (by rw [Bool.and_false, Bool.false_and]))]
                     exact ih (w + 1) _ κ2 _ _ (by omega) hS)
              · skip
                refine Wp.n (pc' := 77) 2 rfl ?_
                refine Wp.get (len := 3) rfl (hO _) rfl ?_
                refine Wp.get (len := 3) rfl (rfl) rfl ?_
                refine Wp.top hT.2.2.2 ?_
                refine Wp.iaddN (x := s) (y := dutW K w) (len := 1) rfl ?_
                refine Wp.n (pc' := 86) 1 rfl ?_
                refine Wp.incN (x := w) (len := 3) rfl rfl ?_
                refine Wp.n (pc' := 6) 1 rfl ?_
                have ew : ∀ b, cntW K who y w = b → sumD K who y s w = bif b then s + dutW K w else s := fun b hb => by unfold sumD; rw [hb]
                have cn0 : ∀ a b c, (decide (who = -1) || decide (nI (kw K w 0) = who)) = a → (decide (y = -1) || decide (nI (kw K w 2) = y)) = b → lawK K w = c → cntW K who y w = (a && b && c) := fun a b c h1 h2 h3 => by unfold cntW; rw [h1, h2, h3]
                first
                  | (have a1 : (decide (who = -1) || decide (nI (kw K w 0) = who)) = true := by first | (rw [decide_eq_true h26]; rfl) | (rw [decide_eq_true h35, Bool.or_true])
                     have a2 : (decide (y = -1) || decide (nI (kw K w 2) = y)) = true := by first | (rw [decide_eq_true h40]; rfl) | (rw [decide_eq_true h49, Bool.or_true])
                     have a3 := cn0 true true _ a1 a2 h71
                     rw [ew _ a3]
                     exact ih (w + 1) _ κ3 _ _ (by omega) (ScC_t hS (ScC_11 hF)))
                  | (have a1 : (decide (who = -1) || decide (nI (kw K w 0) = who)) = false := by rw [decide_eq_false h26, decide_eq_false h35]; rfl
                     have a3 := cn0 false _ _ a1 rfl rfl
                     rw [ew false (a3.trans rfl)]
                     exact ih (w + 1) _ κ2 _ _ (by omega) hS)
                  | (have a2 : (decide (y = -1) || decide (nI (kw K w 2) = y)) = false := by rw [decide_eq_false h40, decide_eq_false h49]; rfl
                     have a3 := cn0 _ false _ rfl a2 rfl
                     rw [ew false (a3.trans (by rw [Bool.and_false, Bool.false_and]))]
                     exact ih (w + 1) _ κ2 _ _ (by omega) hS)
      · skip
        refine Wp.n (pc' := 31) 1 rfl ?_
        refine Wp.get (len := 3) rfl (hwk _) rfl ?_
        refine Wp.top q.1 ?_
        refine Wp.n (pc' := 35) 1 rfl ?_
        refine Wp.ic1 (tgt := 56) (len := 3) rfl (fun h35 => ?_) (fun h35 => ?_)
        · skip
          refine Wp.n (pc' := 61) 3 rfl ?_
          refine Wp.nz0 (x := 0) (tgt := 86) (len := 3) rfl (by omega) (fun h61 => ?_) (fun h61 => ?_)
          · skip
            refine Wp.incN (x := w) (len := 3) rfl rfl ?_
            refine Wp.n (pc' := 6) 1 rfl ?_
            have ew : ∀ b, cntW K who y w = b → sumD K who y s w = bif b then s + dutW K w else s := fun b hb => by unfold sumD; rw [hb]
            have cn0 : ∀ a b c, (decide (who = -1) || decide (nI (kw K w 0) = who)) = a → (decide (y = -1) || decide (nI (kw K w 2) = y)) = b → lawK K w = c → cntW K who y w = (a && b && c) := fun a b c h1 h2 h3 => by unfold cntW; rw [h1, h2, h3]
            first
              | (have a1 : (decide (who = -1) || decide (nI (kw K w 0) = who)) = true := by first | (rw [decide_eq_true h26]; rfl) | (rw [decide_eq_true h35, Bool.or_true])
                 have a2 : (decide (y = -1) || decide (nI (kw K w 2) = y)) = true := by first | (rw [decide_eq_true h40]; rfl) | (rw [decide_eq_true h49, Bool.or_true])
                 have a3 := cn0 true true _ a1 a2 h71
                 rw [ew _ a3]
                 exact ih (w + 1) _ κ3 _ _ (by omega) (ScC_t hS (ScC_11 hF)))
              | (have a1 : (decide (who = -1) || decide (nI (kw K w 0) = who)) = false := by rw [decide_eq_false h26, decide_eq_false h35]; rfl
                 have a3 := cn0 false _ _ a1 rfl rfl
                 rw [ew false (a3.trans rfl)]
                 exact ih (w + 1) _ κ2 _ _ (by omega) hS)
              | (have a2 : (decide (y = -1) || decide (nI (kw K w 2) = y)) = false := by rw [decide_eq_false h40, decide_eq_false h49]; rfl
                 have a3 := cn0 _ false _ rfl a2 rfl
                 rw [ew false (a3.trans (by rw [Bool.and_false, Bool.false_and]))]
                 exact ih (w + 1) _ κ2 _ _ (by omega) hS)
          · omega
        · skip
          refine Wp.n (pc' := 40) 2 rfl ?_
          refine Wp.ic0 (tgt := 52) (len := 3) rfl (fun h40 => ?_) (fun h40 => ?_)
          · skip
            refine Wp.n (pc' := 61) 4 rfl ?_
            refine Wp.nz0 (x := 1) (tgt := 86) (len := 3) rfl (by omega) (fun h61 => ?_) (fun h61 => ?_)
            · omega
            · skip
              refine Wp.n (pc' := 68) 3 rfl ?_
              refine Wp.callV (len := 3) rfl rfl rfl (hO _) rfl (by decide) rfl (k_isLawful hD hk (by omega)) ?_
              rintro _ _ ⟨rfl, κ3, rfl, hF, hT⟩
              refine Wp.ifb0 (tgt := 86) (len := 3) rfl (fun h71 => ?_) (fun h71 => ?_)
              · skip
                refine Wp.incN (x := w) (len := 3) rfl rfl ?_
                refine Wp.n (pc' := 6) 1 rfl ?_
                have ew : ∀ b, cntW K who y w = b → sumD K who y s w = bif b then s + dutW K w else s := fun b hb => by unfold sumD; rw [hb]
                have cn0 : ∀ a b c, (decide (who = -1) || decide (nI (kw K w 0) = who)) = a → (decide (y = -1) || decide (nI (kw K w 2) = y)) = b → lawK K w = c → cntW K who y w = (a && b && c) := fun a b c h1 h2 h3 => by unfold cntW; rw [h1, h2, h3]
                first
                  | (have a1 : (decide (who = -1) || decide (nI (kw K w 0) = who)) = true := by first | (rw [decide_eq_true h26]; rfl) | (rw [decide_eq_true h35, Bool.or_true])
                     have a2 : (decide (y = -1) || decide (nI (kw K w 2) = y)) = true := by first | (rw [decide_eq_true h40]; rfl) | (rw [decide_eq_true h49, Bool.or_true])
                     have a3 := cn0 true true _ a1 a2 h71
                     rw [ew _ a3]
                     exact ih (w + 1) _ κ3 _ _ (by omega) (ScC_t hS (ScC_11 hF)))
                  | (have a1 : (decide (who = -1) || decide (nI (kw K w 0) = who)) = false := by rw [decide_eq_false h26, decide_eq_false h35]; rfl
                     have a3 := cn0 false _ _ a1 rfl rfl
                     rw [ew false (a3.trans rfl)]
                     exact ih (w + 1) _ κ2 _ _ (by omega) hS)
                  | (have a2 : (decide (y = -1) || decide (nI (kw K w 2) = y)) = false := by rw [decide_eq_false h40, decide_eq_false h49]; rfl
                     have a3 := cn0 _ false _ rfl a2 rfl
                     rw [ew false (a3.trans (by rw [Bool.and_false, Bool.false_and]))]
                     exact ih (w + 1) _ κ2 _ _ (by omega) hS)
              · skip
                refine Wp.n (pc' := 77) 2 rfl ?_
                refine Wp.get (len := 3) rfl (hO _) rfl ?_
                refine Wp.get (len := 3) rfl (rfl) rfl ?_
                refine Wp.top hT.2.2.2 ?_
                refine Wp.iaddN (x := s) (y := dutW K w) (len := 1) rfl ?_
                refine Wp.n (pc' := 86) 1 rfl ?_
                refine Wp.incN (x := w) (len := 3) rfl rfl ?_
                refine Wp.n (pc' := 6) 1 rfl ?_
                have ew : ∀ b, cntW K who y w = b → sumD K who y s w = bif b then s + dutW K w else s := fun b hb => by unfold sumD; rw [hb]
                have cn0 : ∀ a b c, (decide (who = -1) || decide (nI (kw K w 0) = who)) = a → (decide (y = -1) || decide (nI (kw K w 2) = y)) = b → lawK K w = c → cntW K who y w = (a && b && c) := fun a b c h1 h2 h3 => by unfold cntW; rw [h1, h2, h3]
                first
                  | (have a1 : (decide (who = -1) || decide (nI (kw K w 0) = who)) = true := by first | (rw [decide_eq_true h26]; rfl) | (rw [decide_eq_true h35, Bool.or_true])
                     have a2 : (decide (y = -1) || decide (nI (kw K w 2) = y)) = true := by first | (rw [decide_eq_true h40]; rfl) | (rw [decide_eq_true h49, Bool.or_true])
                     have a3 := cn0 true true _ a1 a2 h71
                     rw [ew _ a3]
                     exact ih (w + 1) _ κ3 _ _ (by omega) (ScC_t hS (ScC_11 hF)))
                  | (have a1 : (decide (who = -1) || decide (nI (kw K w 0) = who)) = false := by rw [decide_eq_false h26, decide_eq_false h35]; rfl
                     have a3 := cn0 false _ _ a1 rfl rfl
                     rw [ew false (a3.trans rfl)]
                     exact ih (w + 1) _ κ2 _ _ (by omega) hS)
                  | (have a2 : (decide (y = -1) || decide (nI (kw K w 2) = y)) = false := by rw [decide_eq_false h40, decide_eq_false h49]; rfl
                     have a3 := cn0 _ false _ rfl a2 rfl
                     rw [ew false (a3.trans (by rw [Bool.and_false, Bool.false_and]))]
                     exact ih (w + 1) _ κ2 _ _ (by omega) hS)
          · skip
            refine Wp.n (pc' := 45) 1 rfl ?_
            refine Wp.get (len := 3) rfl (hwk _) rfl ?_
            refine Wp.top q.2.2.1 ?_
            refine Wp.n (pc' := 49) 1 rfl ?_
            refine Wp.ic1 (tgt := 56) (len := 3) rfl (fun h49 => ?_) (fun h49 => ?_)
            · skip
              refine Wp.n (pc' := 61) 3 rfl ?_
              refine Wp.nz0 (x := 0) (tgt := 86) (len := 3) rfl (by omega) (fun h61 => ?_) (fun h61 => ?_)
              · skip
                refine Wp.incN (x := w) (len := 3) rfl rfl ?_
                refine Wp.n (pc' := 6) 1 rfl ?_
                have ew : ∀ b, cntW K who y w = b → sumD K who y s w = bif b then s + dutW K w else s := fun b hb => by unfold sumD; rw [hb]
                have cn0 : ∀ a b c, (decide (who = -1) || decide (nI (kw K w 0) = who)) = a → (decide (y = -1) || decide (nI (kw K w 2) = y)) = b → lawK K w = c → cntW K who y w = (a && b && c) := fun a b c h1 h2 h3 => by unfold cntW; rw [h1, h2, h3]
                first
                  | (have a1 : (decide (who = -1) || decide (nI (kw K w 0) = who)) = true := by first | (rw [decide_eq_true h26]; rfl) | (rw [decide_eq_true h35, Bool.or_true])
                     have a2 : (decide (y = -1) || decide (nI (kw K w 2) = y)) = true := by first | (rw [decide_eq_true h40]; rfl) | (rw [decide_eq_true h49, Bool.or_true])
                     have a3 := cn0 true true _ a1 a2 h71
                     rw [ew _ a3]
                     exact ih (w + 1) _ κ3 _ _ (by omega) (ScC_t hS (ScC_11 hF)))
                  | (have a1 : (decide (who = -1) || decide (nI (kw K w 0) = who)) = false := by rw [decide_eq_false h26, decide_eq_false h35]; rfl
                     have a3 := cn0 false _ _ a1 rfl rfl
                     rw [ew false (a3.trans rfl)]
                     exact ih (w + 1) _ κ2 _ _ (by omega) hS)
                  | (have a2 : (decide (y = -1) || decide (nI (kw K w 2) = y)) = false := by rw [decide_eq_false h40, decide_eq_false h49]; rfl
                     have a3 := cn0 _ false _ rfl a2 rfl
                     rw [ew false (a3.trans (by rw [Bool.and_false, Bool.false_and]))]
                     exact ih (w + 1) _ κ2 _ _ (by omega) hS)
              · omega
            · skip
              refine Wp.n (pc' := 61) 4 rfl ?_
              refine Wp.nz0 (x := 1) (tgt := 86) (len := 3) rfl (by omega) (fun h61 => ?_) (fun h61 => ?_)
              · omega
              · skip
                refine Wp.n (pc' := 68) 3 rfl ?_
                refine Wp.callV (len := 3) rfl rfl rfl (hO _) rfl (by decide) rfl (k_isLawful hD hk (by omega)) ?_
                rintro _ _ ⟨rfl, κ3, rfl, hF, hT⟩
                refine Wp.ifb0 (tgt := 86) (len := 3) rfl (fun h71 => ?_) (fun h71 => ?_)
                · skip
                  refine Wp.incN (x := w) (len := 3) rfl rfl ?_
                  refine Wp.n (pc' := 6) 1 rfl ?_
                  have ew : ∀ b, cntW K who y w = b → sumD K who y s w = bif b then s + dutW K w else s := fun b hb => by unfold sumD; rw [hb]
                  have cn0 : ∀ a b c, (decide (who = -1) || decide (nI (kw K w 0) = who)) = a → (decide (y = -1) || decide (nI (kw K w 2) = y)) = b → lawK K w = c → cntW K who y w = (a && b && c) := fun a b c h1 h2 h3 => by unfold cntW; rw [h1, h2, h3]
                  first
                    | (have a1 : (decide (who = -1) || decide (nI (kw K w 0) = who)) = true := by first | (rw [decide_eq_true h26]; rfl) | (rw [decide_eq_true h35, Bool.or_true])
                       have a2 : (decide (y = -1) || decide (nI (kw K w 2) = y)) = true := by first | (rw [decide_eq_true h40]; rfl) | (rw [decide_eq_true h49, Bool.or_true])
                       have a3 := cn0 true true _ a1 a2 h71
                       rw [ew _ a3]
                       exact ih (w + 1) _ κ3 _ _ (by omega) (ScC_t hS (ScC_11 hF)))
                    | (have a1 : (decide (who = -1) || decide (nI (kw K w 0) = who)) = false := by rw [decide_eq_false h26, decide_eq_false h35]; rfl
                       have a3 := cn0 false _ _ a1 rfl rfl
                       rw [ew false (a3.trans rfl)]
                       exact ih (w + 1) _ κ2 _ _ (by omega) hS)
                    | (have a2 : (decide (y = -1) || decide (nI (kw K w 2) = y)) = false := by rw [decide_eq_false h40, decide_eq_false h49]; rfl
                       have a3 := cn0 _ false _ rfl a2 rfl
                       rw [ew false (a3.trans (by rw [Bool.and_false, Bool.false_and]))]
                       exact ih (w + 1) _ κ2 _ _ (by omega) hS)
                · skip
                  refine Wp.n (pc' := 77) 2 rfl ?_
                  refine Wp.get (len := 3) rfl (hO _) rfl ?_
                  refine Wp.get (len := 3) rfl (rfl) rfl ?_
                  refine Wp.top hT.2.2.2 ?_
                  refine Wp.iaddN (x := s) (y := dutW K w) (len := 1) rfl ?_
                  refine Wp.n (pc' := 86) 1 rfl ?_
                  refine Wp.incN (x := w) (len := 3) rfl rfl ?_
                  refine Wp.n (pc' := 6) 1 rfl ?_
                  have ew : ∀ b, cntW K who y w = b → sumD K who y s w = bif b then s + dutW K w else s := fun b hb => by unfold sumD; rw [hb]
                  have cn0 : ∀ a b c, (decide (who = -1) || decide (nI (kw K w 0) = who)) = a → (decide (y = -1) || decide (nI (kw K w 2) = y)) = b → lawK K w = c → cntW K who y w = (a && b && c) := fun a b c h1 h2 h3 => by unfold cntW; rw [h1, h2, h3]
                  first
                    | (have a1 : (decide (who = -1) || decide (nI (kw K w 0) = who)) = true := by first | (rw [decide_eq_true h26]; rfl) | (rw [decide_eq_true h35, Bool.or_true])
                       have a2 : (decide (y = -1) || decide (nI (kw K w 2) = y)) = true := by first | (rw [decide_eq_true h40]; rfl) | (rw [decide_eq_true h49, Bool.or_true])
                       have a3 := cn0 true true _ a1 a2 h71
                       rw [ew _ a3]
                       exact ih (w + 1) _ κ3 _ _ (by omega) (ScC_t hS (ScC_11 hF)))
                    | (have a1 : (decide (who = -1) || decide (nI (kw K w 0) = who)) = false := by rw [decide_eq_false h26, decide_eq_false h35]; rfl
                       have a3 := cn0 false _ _ a1 rfl rfl
                       rw [ew false (a3.trans rfl)]
                       exact ih (w + 1) _ κ2 _ _ (by omega) hS)
                    | (have a2 : (decide (y = -1) || decide (nI (kw K w 2) = y)) = false := by rw [decide_eq_false h40, decide_eq_false h49]; rfl
                       have a3 := cn0 _ false _ rfl a2 rfl
                       rw [ew false (a3.trans (by rw [Bool.and_false, Bool.false_and]))]
                       exact ih (w + 1) _ κ2 _ _ (by omega) hS)

theorem k_dutySum (hD : HD M) (hk : RK M r K) (h32 : 32 ≤ r) (who y : Int32) : Wp (d + 11) md_109 0 [some (.ref 32), some (.ref r), some (.int who), some (.int y), none, none, none, none] [] (cset M κ) (RCI M κ (nI (fld (sumD K who y) (kh K 4) 0 0))) := by
  refine Wp.n (pc' := 6) 4 rfl ?_
  exact k_dutySum_l hD hk h32 who y (kh K 4) 0 0 κ _ _ (by omega) ScC_r
theorem k_owes (hD : HD M) (hk : RK M 36 K) (x : Int32) : Wp (d + 12) md_108 0 [some (.ref 32), some (.int x)] [] (cset M κ) (RCI M κ (owesA K x)) := by
  obtain ⟨ρ, hR, hK, hDC, ok, hr1, hr2⟩ := id hk
  obtain ⟨b0, b1, b2, b3, b4, b5, b6, b7, b8, b9, b10, b11, b12⟩ := ok_h ok
  obtain ⟨ow, hDo⟩ := hD.1
  have hO : ∀ κ : CS, cset M κ 32 = .inr (9, hdl ow) := fun κ => (cset_o (by omega)).trans hDo
  have hRc : ∀ κ : CS, RA (cset M κ) 36 ρ := fun κ => RA_c hR hr1 hr2
  unfold owesA
  refine Wp.n (pc' := 1) 1 rfl ?_
  refine Wp.get (len := 3) rfl (hO _) rfl ?_
  refine Wp.ecallV (len := 3) rfl rfl rfl (ra_obj (hRc _)) rfl (by decide) rfl (k_exists (RK_c hk)) ?_
  refine Wp.ifb0 (tgt := 19) (len := 3) rfl (fun h7 => ?_) (fun h7 => ?_)
  · skip
    refine Wp.n (pc' := 21) 1 rfl ?_
    refine Wp.retI (len := 1) rfl rfl ?_
    first
      | exact RCI_s hS rfl
      | (rw [if_neg (fun q => of_decide_eq_false h7 q.1)]; exact RCI_r rfl)
      | (rw [if_neg (fun q => by have := of_decide_eq_true q.2; have e1 : x.toInt < 0 := h11; omega)]; exact RCI_r rfl)
      | (rw [if_neg (fun q => by have := of_decide_eq_true q.2; have e1 : ¬ x.toInt ≤ 4 := h16; omega)]; exact RCI_r rfl)
  · skip
    refine Wp.n (pc' := 11) 1 rfl ?_
    refine Wp.if2 (tgt := 19) (len := 3) rfl (fun h11 => ?_) (fun h11 => ?_)
    · rw [i_lt] at h11
      refine Wp.n (pc' := 21) 1 rfl ?_
      refine Wp.retI (len := 1) rfl rfl ?_
      first
        | exact RCI_s hS rfl
        | (rw [if_neg (fun q => of_decide_eq_false h7 q.1)]; exact RCI_r rfl)
        | (rw [if_neg (fun q => by have := of_decide_eq_true q.2; have e1 : x.toInt < 0 := h11; omega)]; exact RCI_r rfl)
        | (rw [if_neg (fun q => by have := of_decide_eq_true q.2; have e1 : ¬ x.toInt ≤ 4 := h16; omega)]; exact RCI_r rfl)
    · rw [i_lt] at h11
      refine Wp.n (pc' := 16) 2 rfl ?_
      refine Wp.ic5 (tgt := 22) (len := 3) rfl (fun h16 => ?_) (fun h16 => ?_)
      · rw [i_le] at h16
        have hN : isN 5 x = true := decide_eq_true (by
          have e1 : ¬ x.toInt < 0 := h11
          have e2 : x.toInt ≤ 4 := h16
          omega)
        rw [if_pos ⟨of_decide_eq_true h7, hN⟩]
        refine Wp.n (pc' := 24) 2 rfl ?_
        refine Wp.get (len := 3) rfl (hO _) rfl ?_
        refine Wp.n (pc' := 29) 2 rfl ?_
        refine Wp.callV (len := 3) rfl rfl rfl (hO _) rfl (by decide) rfl (k_dutySum hD hk (by decide) x (-1)) ?_
        rintro _ _ ⟨rfl, κ2, rfl, hS⟩
        refine Wp.retI (len := 1) rfl rfl ?_
        first
          | exact RCI_s hS rfl
          | (rw [if_neg (fun q => of_decide_eq_false h7 q.1)]; exact RCI_r rfl)
          | (rw [if_neg (fun q => by have := of_decide_eq_true q.2; have e1 : x.toInt < 0 := h11; omega)]; exact RCI_r rfl)
          | (rw [if_neg (fun q => by have := of_decide_eq_true q.2; have e1 : ¬ x.toInt ≤ 4 := h16; omega)]; exact RCI_r rfl)
      · rw [i_le] at h16
        refine Wp.n (pc' := 21) 1 rfl ?_
        refine Wp.retI (len := 1) rfl rfl ?_
        first
          | exact RCI_s hS rfl
          | (rw [if_neg (fun q => of_decide_eq_false h7 q.1)]; exact RCI_r rfl)
          | (rw [if_neg (fun q => by have := of_decide_eq_true q.2; have e1 : x.toInt < 0 := h11; omega)]; exact RCI_r rfl)
          | (rw [if_neg (fun q => by have := of_decide_eq_true q.2; have e1 : ¬ x.toInt ≤ 4 := h16; omega)]; exact RCI_r rfl)

theorem k_takings (hD : HD M) (hk : RK M 36 K) (x : Int32) : Wp (d + 12) md_110 0 [some (.ref 32), some (.int x)] [] (cset M κ) (RCI M κ (takingsA K x)) := by
  obtain ⟨ρ, hR, hK, hDC, ok, hr1, hr2⟩ := id hk
  obtain ⟨b0, b1, b2, b3, b4, b5, b6, b7, b8, b9, b10, b11, b12⟩ := ok_h ok
  obtain ⟨ow, hDo⟩ := hD.1
  have hO : ∀ κ : CS, cset M κ 32 = .inr (9, hdl ow) := fun κ => (cset_o (by omega)).trans hDo
  have hRc : ∀ κ : CS, RA (cset M κ) 36 ρ := fun κ => RA_c hR hr1 hr2
  unfold takingsA
  refine Wp.n (pc' := 1) 1 rfl ?_
  refine Wp.get (len := 3) rfl (hO _) rfl ?_
  refine Wp.ecallV (len := 3) rfl rfl rfl (ra_obj (hRc _)) rfl (by decide) rfl (k_exists (RK_c hk)) ?_
  refine Wp.ifb0 (tgt := 26) (len := 3) rfl (fun h7 => ?_) (fun h7 => ?_)
  · skip
    refine Wp.n (pc' := 28) 1 rfl ?_
    refine Wp.retI (len := 1) rfl rfl ?_
    first
      | exact RCI_s hS rfl
      | (rw [if_neg (fun q => of_decide_eq_false h7 q.1)]; exact RCI_r rfl)
      | (rw [if_neg (fun q => by rcases q.2 with e | e; exact h12 e; rw [h23] at e; cases e)]; exact RCI_r rfl)
  · skip
    refine Wp.n (pc' := 12) 2 rfl ?_
    refine Wp.ic0 (tgt := 29) (len := 3) rfl (fun h12 => ?_) (fun h12 => ?_)
    · skip
      have hC : x = -1 ∨ isN (kh K 1) x = true := by first | exact Or.inl h12 | exact Or.inr h23
      rw [if_pos ⟨of_decide_eq_true h7, hC⟩]
      refine Wp.n (pc' := 31) 2 rfl ?_
      refine Wp.get (len := 3) rfl (hO _) rfl ?_
      refine Wp.n (pc' := 36) 2 rfl ?_
      refine Wp.callV (len := 3) rfl rfl rfl (hO _) rfl (by decide) rfl (k_dutySum hD hk (by decide) (-1) x) ?_
      rintro _ _ ⟨rfl, κ2, rfl, hS⟩
      refine Wp.retI (len := 1) rfl rfl ?_
      first
        | exact RCI_s hS rfl
        | (rw [if_neg (fun q => of_decide_eq_false h7 q.1)]; exact RCI_r rfl)
        | (rw [if_neg (fun q => by rcases q.2 with e | e; exact h12 e; rw [h23] at e; cases e)]; exact RCI_r rfl)
    · skip
      refine Wp.n (pc' := 16) 1 rfl ?_
      refine Wp.get (len := 3) rfl (hO _) rfl ?_
      refine Wp.n (pc' := 20) 1 rfl ?_
      refine Wp.ecallV (len := 3) rfl rfl rfl (ra_obj (hRc _)) rfl (by decide) rfl (k_hasDay (RK_c hk) _) ?_
      refine Wp.ifb1 (tgt := 29) (len := 3) rfl (fun h23 => ?_) (fun h23 => ?_)
      · skip
        have hC : x = -1 ∨ isN (kh K 1) x = true := by first | exact Or.inl h12 | exact Or.inr h23
        rw [if_pos ⟨of_decide_eq_true h7, hC⟩]
        refine Wp.n (pc' := 31) 2 rfl ?_
        refine Wp.get (len := 3) rfl (hO _) rfl ?_
        refine Wp.n (pc' := 36) 2 rfl ?_
        refine Wp.callV (len := 3) rfl rfl rfl (hO _) rfl (by decide) rfl (k_dutySum hD hk (by decide) (-1) x) ?_
        rintro _ _ ⟨rfl, κ2, rfl, hS⟩
        refine Wp.retI (len := 1) rfl rfl ?_
        first
          | exact RCI_s hS rfl
          | (rw [if_neg (fun q => of_decide_eq_false h7 q.1)]; exact RCI_r rfl)
          | (rw [if_neg (fun q => by rcases q.2 with e | e; exact h12 e; rw [h23] at e; cases e)]; exact RCI_r rfl)
      · skip
        refine Wp.n (pc' := 28) 1 rfl ?_
        refine Wp.retI (len := 1) rfl rfl ?_
        first
          | exact RCI_s hS rfl
          | (rw [if_neg (fun q => of_decide_eq_false h7 q.1)]; exact RCI_r rfl)
          | (rw [if_neg (fun q => by rcases q.2 with e | e; exact h12 e; rw [h23] at e; cases e)]; exact RCI_r rfl)


theorem k_chance (hD : HD M) (hk : RK M 36 K) (x y : Int32) : Wp (d + 12) md_111 0 [some (.ref 32), some (.int x), some (.int y), none] [] (cset M κ) (RCJ M κ (chanceA K x y)) := by
  obtain ⟨ρ, hR, hK, hDC, ok, hr1, hr2⟩ := id hk
  obtain ⟨b0, b1, b2, b3, b4, b5, b6, b7, b8, b9, b10, b11, b12⟩ := ok_h ok
  obtain ⟨ow, hDo⟩ := hD.1
  have hO : ∀ κ : CS, cset M κ 32 = .inr (9, hdl ow) := fun κ => (cset_o (by omega)).trans hDo
  have hRc : ∀ κ : CS, RA (cset M κ) 36 ρ := fun κ => RA_c hR hr1 hr2
  unfold chanceA
  refine Wp.n (pc' := 2) 2 rfl ?_
  refine Wp.callV (len := 3) rfl rfl rfl (hO _) rfl (by decide) rfl (k_refusal hD hk x) ?_
  rintro _ _ ⟨κ2, rfl, hF, ⟨hN, rfl⟩ | ⟨w, hw, rfl, hT, rfl⟩⟩
  · rw [if_neg (fun q => by rw [hN] at q; exact absurd q.1 (by decide))]
    refine Wp.n (pc' := 9) 3 rfl ?_
    refine Wp.ic0 (tgt := 21) (len := 3) rfl (fun h9 => ?_) (fun h9 => ?_)
    · skip
      refine Wp.n (pc' := 24) 1 rfl ?_
      refine Wp.retL (len := 1) rfl rfl ?_
      exact RCJ_s (ScC_11 hF) rfl
    · exact absurd rfl h9
  · have hN : isN (kh K 4) (nI w) = true := by rw [isN_nI (by omega)]; exact decide_eq_true hw
    have hws := TW_ws ok hw hT
    have hdw := dutW_b ok hw
    have e2 : isN 2 y = true ↔ ¬ y < 0 ∧ y ≤ 1 := by
      unfold isN
      rw [decide_eq_true_iff, i_lt, i_le]
      constructor
      · rintro ⟨p, q⟩
        exact ⟨fun c => by have c' : y.toInt < 0 := c; omega, by show y.toInt ≤ 1; omega⟩
      · rintro ⟨p, q⟩
        have p' : ¬ y.toInt < 0 := p
        have q' : y.toInt ≤ 1 := q
        omega
    cases hL : lawK K w
    · skip
      refine Wp.n (pc' := 9) 3 rfl ?_
      refine Wp.ic0 (tgt := 21) (len := 3) rfl (fun h9 => ?_) (fun h9 => ?_)
      · exact absurd h9 (by decide)
      · skip
        refine Wp.n (pc' := 13) 1 rfl ?_
        refine Wp.if2 (tgt := 21) (len := 3) rfl (fun h13 => ?_) (fun h13 => ?_)
        · skip
          refine Wp.n (pc' := 24) 1 rfl ?_
          refine Wp.retL (len := 1) rfl rfl ?_
          first
            | (rw [if_neg (fun q => (e2.mp q.2).1 h13)]; exact RCJ_s (ScC_11 hF) rfl)
            | (rw [if_neg (fun q => h18 (e2.mp q.2).2)]; exact RCJ_s (ScC_11 hF) rfl)
            | (rw [if_pos ⟨hN, e2.mpr ⟨h13, h18⟩⟩, nI_clamp (by omega), hL]; exact RCJ_s (ScC_11 hF) rfl)
        · skip
          refine Wp.n (pc' := 18) 2 rfl ?_
          refine Wp.ic5 (tgt := 25) (len := 3) rfl (fun h18 => ?_) (fun h18 => ?_)
          · skip
            refine Wp.n (pc' := 26) 1 rfl ?_
            refine Wp.if1 (tgt := 41) (len := 3) rfl (fun h26 => ?_) (fun h26 => ?_)
            · skip
              refine Wp.n (pc' := 43) 2 rfl ?_
              refine Wp.retL (len := 1) rfl rfl ?_
              first
                | (rw [if_neg (fun q => (e2.mp q.2).1 h13)]; exact RCJ_s (ScC_11 hF) rfl)
                | (rw [if_neg (fun q => h18 (e2.mp q.2).2)]; exact RCJ_s (ScC_11 hF) rfl)
                | (rw [if_pos ⟨hN, e2.mpr ⟨h13, h18⟩⟩, nI_clamp (by omega), hL]; exact RCJ_s (ScC_11 hF) rfl)
            · exact absurd h26 (by decide)
          · skip
            refine Wp.n (pc' := 24) 1 rfl ?_
            refine Wp.retL (len := 1) rfl rfl ?_
            first
              | (rw [if_neg (fun q => (e2.mp q.2).1 h13)]; exact RCJ_s (ScC_11 hF) rfl)
              | (rw [if_neg (fun q => h18 (e2.mp q.2).2)]; exact RCJ_s (ScC_11 hF) rfl)
              | (rw [if_pos ⟨hN, e2.mpr ⟨h13, h18⟩⟩, nI_clamp (by omega), hL]; exact RCJ_s (ScC_11 hF) rfl)
    · skip
      refine Wp.n (pc' := 9) 3 rfl ?_
      refine Wp.ic0 (tgt := 21) (len := 3) rfl (fun h9 => ?_) (fun h9 => ?_)
      · exact absurd h9 (by decide)
      · skip
        refine Wp.n (pc' := 13) 1 rfl ?_
        refine Wp.if2 (tgt := 21) (len := 3) rfl (fun h13 => ?_) (fun h13 => ?_)
        · skip
          refine Wp.n (pc' := 24) 1 rfl ?_
          refine Wp.retL (len := 1) rfl rfl ?_
          first
            | exact RCJ_s (ScC_11 hF) rfl
            | (rw [if_neg (fun q => (e2.mp q.2).1 h13)]; exact RCJ_s (ScC_11 hF) rfl)
            | (rw [if_neg (fun q => h18 (e2.mp q.2).2)]; exact RCJ_s (ScC_11 hF) rfl)
        · skip
          refine Wp.n (pc' := 18) 2 rfl ?_
          refine Wp.ic5 (tgt := 25) (len := 3) rfl (fun h18 => ?_) (fun h18 => ?_)
          · skip
            refine Wp.n (pc' := 26) 1 rfl ?_
            refine Wp.if1 (tgt := 41) (len := 3) rfl (fun h26 => ?_) (fun h26 => ?_)
            · exact absurd rfl h26
            · skip
              obtain ⟨v, hv, rfl⟩ := isN_of (e2.mpr ⟨h13, h18⟩)
              rw [if_pos ⟨hN, e2.mpr ⟨h13, h18⟩⟩, nI_clamp (by omega), nI_clamp (by omega), hL]
              refine Wp.n (pc' := 30) 1 rfl ?_
              refine Wp.get (len := 3) rfl (hO _) rfl ?_
              refine Wp.n (pc' := 35) 2 rfl ?_
              refine Wp.ecallV (len := 3) rfl rfl rfl (rfl) rfl (by decide) rfl (t_frac (m := 1) hws.1 hws.2 (by omega) (by omega)) ?_
              refine Wp.n (pc' := 43) 1 rfl ?_
              refine Wp.retL (len := 1) rfl rfl ?_
              first
                | exact RCJ_s (ScC_11 hF) rfl
                | (rw [if_neg (fun q => (e2.mp q.2).1 h13)]; exact RCJ_s (ScC_11 hF) rfl)
                | (rw [if_neg (fun q => h18 (e2.mp q.2).2)]; exact RCJ_s (ScC_11 hF) rfl)
          · skip
            refine Wp.n (pc' := 24) 1 rfl ?_
            refine Wp.retL (len := 1) rfl rfl ?_
            first
              | exact RCJ_s (ScC_11 hF) rfl
              | (rw [if_neg (fun q => (e2.mp q.2).1 h13)]; exact RCJ_s (ScC_11 hF) rfl)
              | (rw [if_neg (fun q => h18 (e2.mp q.2).2)]; exact RCJ_s (ScC_11 hF) rfl)

theorem k_hope (hD : HD M) (hk : RK M 36 K) (x y : Int32) : Wp (d + 12) md_112 0 [some (.ref 32), some (.int x), some (.int y), none] [] (cset M κ) (RCJ M κ (hopeA K x y)) := by
  obtain ⟨ρ, hR, hK, hDC, ok, hr1, hr2⟩ := id hk
  obtain ⟨b0, b1, b2, b3, b4, b5, b6, b7, b8, b9, b10, b11, b12⟩ := ok_h ok
  obtain ⟨ow, hDo⟩ := hD.1
  have hO : ∀ κ : CS, cset M κ 32 = .inr (9, hdl ow) := fun κ => (cset_o (by omega)).trans hDo
  have hRc : ∀ κ : CS, RA (cset M κ) 36 ρ := fun κ => RA_c hR hr1 hr2
  unfold hopeA
  refine Wp.n (pc' := 2) 2 rfl ?_
  refine Wp.callV (len := 3) rfl rfl rfl (hO _) rfl (by decide) rfl (k_refusal hD hk x) ?_
  rintro _ _ ⟨κ2, rfl, hF, ⟨hN, rfl⟩ | ⟨w, hw, rfl, hT, rfl⟩⟩
  · rw [if_neg (fun q => by rw [hN] at q; exact absurd q.1 (by decide))]
    refine Wp.n (pc' := 9) 3 rfl ?_
    refine Wp.ic0 (tgt := 21) (len := 3) rfl (fun h9 => ?_) (fun h9 => ?_)
    · skip
      refine Wp.n (pc' := 24) 1 rfl ?_
      refine Wp.retL (len := 1) rfl rfl ?_
      exact RCJ_s (ScC_11 hF) rfl
    · exact absurd rfl h9
  · have hN : isN (kh K 4) (nI w) = true := by rw [isN_nI (by omega)]; exact decide_eq_true hw
    have hws := TW_ws ok hw hT
    have hdw := dutW_b ok hw
    have e2 : isN 2 y = true ↔ ¬ y < 0 ∧ y ≤ 1 := by
      unfold isN
      rw [decide_eq_true_iff, i_lt, i_le]
      constructor
      · rintro ⟨p, q⟩
        exact ⟨fun c => by have c' : y.toInt < 0 := c; omega, by show y.toInt ≤ 1; omega⟩
      · rintro ⟨p, q⟩
        have p' : ¬ y.toInt < 0 := p
        have q' : y.toInt ≤ 1 := q
        omega
    cases hL : lawK K w
    · skip
      refine Wp.n (pc' := 9) 3 rfl ?_
      refine Wp.ic0 (tgt := 21) (len := 3) rfl (fun h9 => ?_) (fun h9 => ?_)
      · exact absurd h9 (by decide)
      · skip
        refine Wp.n (pc' := 13) 1 rfl ?_
        refine Wp.if2 (tgt := 21) (len := 3) rfl (fun h13 => ?_) (fun h13 => ?_)
        · skip
          refine Wp.n (pc' := 24) 1 rfl ?_
          refine Wp.retL (len := 1) rfl rfl ?_
          first
            | (rw [if_neg (fun q => (e2.mp q.2).1 h13)]; exact RCJ_s (ScC_11 hF) rfl)
            | (rw [if_neg (fun q => h18 (e2.mp q.2).2)]; exact RCJ_s (ScC_11 hF) rfl)
            | (rw [if_pos ⟨hN, e2.mpr ⟨h13, h18⟩⟩, nI_clamp (by omega), hL]; exact RCJ_s (ScC_11 hF) rfl)
        · skip
          refine Wp.n (pc' := 18) 2 rfl ?_
          refine Wp.ic5 (tgt := 25) (len := 3) rfl (fun h18 => ?_) (fun h18 => ?_)
          · skip
            refine Wp.n (pc' := 26) 1 rfl ?_
            refine Wp.if1 (tgt := 47) (len := 3) rfl (fun h26 => ?_) (fun h26 => ?_)
            · skip
              refine Wp.n (pc' := 49) 2 rfl ?_
              refine Wp.retL (len := 1) rfl rfl ?_
              first
                | (rw [if_neg (fun q => (e2.mp q.2).1 h13)]; exact RCJ_s (ScC_11 hF) rfl)
                | (rw [if_neg (fun q => h18 (e2.mp q.2).2)]; exact RCJ_s (ScC_11 hF) rfl)
                | (rw [if_pos ⟨hN, e2.mpr ⟨h13, h18⟩⟩, nI_clamp (by omega), hL]; exact RCJ_s (ScC_11 hF) rfl)
            · exact absurd h26 (by decide)
          · skip
            refine Wp.n (pc' := 24) 1 rfl ?_
            refine Wp.retL (len := 1) rfl rfl ?_
            first
              | (rw [if_neg (fun q => (e2.mp q.2).1 h13)]; exact RCJ_s (ScC_11 hF) rfl)
              | (rw [if_neg (fun q => h18 (e2.mp q.2).2)]; exact RCJ_s (ScC_11 hF) rfl)
              | (rw [if_pos ⟨hN, e2.mpr ⟨h13, h18⟩⟩, nI_clamp (by omega), hL]; exact RCJ_s (ScC_11 hF) rfl)
    · skip
      refine Wp.n (pc' := 9) 3 rfl ?_
      refine Wp.ic0 (tgt := 21) (len := 3) rfl (fun h9 => ?_) (fun h9 => ?_)
      · exact absurd h9 (by decide)
      · skip
        refine Wp.n (pc' := 13) 1 rfl ?_
        refine Wp.if2 (tgt := 21) (len := 3) rfl (fun h13 => ?_) (fun h13 => ?_)
        · skip
          refine Wp.n (pc' := 24) 1 rfl ?_
          refine Wp.retL (len := 1) rfl rfl ?_
          first
            | exact RCJ_s (ScC_11 hF) rfl
            | (rw [if_neg (fun q => (e2.mp q.2).1 h13)]; exact RCJ_s (ScC_11 hF) rfl)
            | (rw [if_neg (fun q => h18 (e2.mp q.2).2)]; exact RCJ_s (ScC_11 hF) rfl)
        · skip
          refine Wp.n (pc' := 18) 2 rfl ?_
          refine Wp.ic5 (tgt := 25) (len := 3) rfl (fun h18 => ?_) (fun h18 => ?_)
          · skip
            refine Wp.n (pc' := 26) 1 rfl ?_
            refine Wp.if1 (tgt := 47) (len := 3) rfl (fun h26 => ?_) (fun h26 => ?_)
            · exact absurd rfl h26
            · skip
              obtain ⟨v, hv, rfl⟩ := isN_of (e2.mpr ⟨h13, h18⟩)
              rw [if_pos ⟨hN, e2.mpr ⟨h13, h18⟩⟩, nI_clamp (by omega), nI_clamp (by omega), hL]
              refine Wp.n (pc' := 30) 1 rfl ?_
              refine Wp.get (len := 3) rfl (hO _) rfl ?_
              refine Wp.n (pc' := 34) 1 rfl ?_
              refine Wp.get (len := 3) rfl (hO _) rfl ?_
              refine Wp.get (len := 3) rfl (rfl) rfl ?_
              refine Wp.top hT.2.2.2 ?_
              refine Wp.n (pc' := 41) 1 rfl ?_
              refine Wp.ecallV (len := 3) rfl rfl rfl (rfl) rfl (by decide) rfl (t_frac (m := dutW K w) hws.1 hws.2 (by omega) (by omega)) ?_
              refine Wp.n (pc' := 49) 1 rfl ?_
              refine Wp.retL (len := 1) rfl rfl ?_
              first
                | exact RCJ_s (ScC_11 hF) rfl
                | (rw [if_neg (fun q => (e2.mp q.2).1 h13)]; exact RCJ_s (ScC_11 hF) rfl)
                | (rw [if_neg (fun q => h18 (e2.mp q.2).2)]; exact RCJ_s (ScC_11 hF) rfl)
          · skip
            refine Wp.n (pc' := 24) 1 rfl ?_
            refine Wp.retL (len := 1) rfl rfl ?_
            first
              | exact RCJ_s (ScC_11 hF) rfl
              | (rw [if_neg (fun q => (e2.mp q.2).1 h13)]; exact RCJ_s (ScC_11 hF) rfl)
              | (rw [if_neg (fun q => h18 (e2.mp q.2).2)]; exact RCJ_s (ScC_11 hF) rfl)

theorem k_isWithinN {hi : Nat} (x : Int32) (h : hi < 2 ^ 31) : Ev d md_117 0 [some (.int x), some (.int 0), some (.int (nI hi))] [] M (some (.int (bI (isN (hi + 1) x))), M) := by
  have w := c_isWithin (d := d) (M := M) x (nI 0) (nI hi)
  rw [isR_w (lo := 0) (hi := hi) rfl rfl (by decide) h, isR_0] at w
  exact w
theorem k_isWithinR {lo hi : Nat} (x : Int32) (h1 : lo < 2 ^ 31) (h2 : hi < 2 ^ 31) : Ev d md_117 0 [some (.int x), some (.int (nI lo)), some (.int (nI hi))] [] M (some (.int (bI (isR lo hi x))), M) := by
  have w := c_isWithin (d := d) (M := M) x (nI lo) (nI hi)
  rw [isR_w (lo := lo) (hi := hi) rfl rfl h1 h2] at w
  exact w
theorem k_seen (hD : HD M) (hk : RK M 36 K) (x y : Int32) : Wp (d + 12) md_141 0 [some (.ref 32), some (.int x), some (.int y), none] [] (cset M κ) (RCI M κ (seenA K x y)) := by
  obtain ⟨ρ, hR, hK, hDC, ok, hr1, hr2⟩ := id hk
  obtain ⟨b0, b1, b2, b3, b4, b5, b6, b7, b8, b9, b10, b11, b12⟩ := ok_h ok
  obtain ⟨ow, hDo⟩ := hD.1
  have hO : ∀ κ : CS, cset M κ 32 = .inr (9, hdl ow) := fun κ => (cset_o (by omega)).trans hDo
  have hRc : ∀ κ : CS, RA (cset M κ) 36 ρ := fun κ => RA_c hR hr1 hr2
  unfold seenA
  refine Wp.n (pc' := 2) 2 rfl ?_
  refine Wp.callV (len := 3) rfl rfl rfl (hO _) rfl (by decide) rfl (k_refusal hD hk y) ?_
  rintro _ _ ⟨κ2, rfl, hF, ⟨hN, rfl⟩ | ⟨w, hw, rfl, hT, rfl⟩⟩
  · rw [if_neg (fun q => by rw [hN] at q; exact absurd q.2 (by decide))]
    refine Wp.n (pc' := 9) 3 rfl ?_
    refine Wp.ic0 (tgt := 23) (len := 3) rfl (fun h9 => ?_) (fun h9 => ?_)
    · skip
      refine Wp.n (pc' := 25) 1 rfl ?_
      refine Wp.retI (len := 1) rfl rfl ?_
      exact RCI_s (ScC_11 hF) rfl
    · exact absurd rfl h9
  · have hN : isN (kh K 4) (nI w) = true := by rw [isN_nI (by omega)]; exact decide_eq_true hw
    have hws := TW_ws ok hw hT
    cases hL : lawK K w
    · skip
      refine Wp.n (pc' := 9) 3 rfl ?_
      refine Wp.ic0 (tgt := 23) (len := 3) rfl (fun h9 => ?_) (fun h9 => ?_)
      · exact absurd h9 (by decide)
      · skip
        refine Wp.n (pc' := 17) 3 rfl ?_
        refine Wp.ecallS (len := 3) rfl rfl rfl rfl (k_isWithinN (hi := 2000000000) x (by decide)) ?_
        refine Wp.ifb1 (tgt := 26) (len := 3) rfl (fun h20 => ?_) (fun h20 => ?_)
        · skip
          refine Wp.n (pc' := 27) 1 rfl ?_
          refine Wp.if0 (tgt := 32) (len := 3) rfl (fun h27 => ?_) (fun h27 => ?_)
          · exact absurd h27 (by decide)
          · skip
            refine Wp.n (pc' := 31) 1 rfl ?_
            refine Wp.retI (len := 1) rfl rfl ?_
            first
              | (rw [if_neg (fun q => by rw [h20] at q; exact absurd q.1 (by decide))]; exact RCI_s (ScC_11 hF) rfl)
              | (rw [if_pos ⟨h20, hN⟩, nI_clamp (by omega), hL]; exact RCI_s (ScC_11 hF) rfl)
        · skip
          refine Wp.n (pc' := 25) 1 rfl ?_
          refine Wp.retI (len := 1) rfl rfl ?_
          first
            | (rw [if_neg (fun q => by rw [h20] at q; exact absurd q.1 (by decide))]; exact RCI_s (ScC_11 hF) rfl)
            | (rw [if_pos ⟨h20, hN⟩, nI_clamp (by omega), hL]; exact RCI_s (ScC_11 hF) rfl)
    · skip
      refine Wp.n (pc' := 9) 3 rfl ?_
      refine Wp.ic0 (tgt := 23) (len := 3) rfl (fun h9 => ?_) (fun h9 => ?_)
      · exact absurd h9 (by decide)
      · skip
        refine Wp.n (pc' := 17) 3 rfl ?_
        refine Wp.ecallS (len := 3) rfl rfl rfl rfl (k_isWithinN (hi := 2000000000) x (by decide)) ?_
        refine Wp.ifb1 (tgt := 26) (len := 3) rfl (fun h20 => ?_) (fun h20 => ?_)
        · skip
          obtain ⟨v, hv, rfl⟩ := isN_of h20
          rw [if_pos ⟨h20, hN⟩, nI_clamp (by omega), nI_clamp (by omega), hL]
          refine Wp.n (pc' := 27) 1 rfl ?_
          refine Wp.if0 (tgt := 32) (len := 3) rfl (fun h27 => ?_) (fun h27 => ?_)
          · skip
            refine Wp.n (pc' := 33) 1 rfl ?_
            refine Wp.get (len := 3) rfl (hO _) rfl ?_
            refine Wp.n (pc' := 37) 1 rfl ?_
            refine Wp.ecallV (len := 3) rfl rfl rfl (rfl) rfl (by decide) rfl (t_seen hws.1 hws.2 (by omega)) ?_
            refine Wp.ifb0 (tgt := 47) (len := 3) rfl (fun h40 => ?_) (fun h40 => ?_)
            · skip
              refine Wp.n (pc' := 48) 1 rfl ?_
              refine Wp.retI (len := 1) rfl rfl ?_
              first
                | exact RCI_s (ScC_11 hF) (by rw [h40]; rfl)
                | (rw [if_neg (fun q => by rw [h20] at q; exact absurd q.1 (by decide))]; exact RCI_s (ScC_11 hF) rfl)
            · skip
              refine Wp.n (pc' := 48) 2 rfl ?_
              refine Wp.retI (len := 1) rfl rfl ?_
              first
                | exact RCI_s (ScC_11 hF) (by rw [h40]; rfl)
                | (rw [if_neg (fun q => by rw [h20] at q; exact absurd q.1 (by decide))]; exact RCI_s (ScC_11 hF) rfl)
          · exact absurd rfl h27
        · skip
          refine Wp.n (pc' := 25) 1 rfl ?_
          refine Wp.retI (len := 1) rfl rfl ?_
          first
            | exact RCI_s (ScC_11 hF) (by rw [h40]; rfl)
            | (rw [if_neg (fun q => by rw [h20] at q; exact absurd q.1 (by decide))]; exact RCI_s (ScC_11 hF) rfl)

theorem k_ct_i {w seed m : Nat} (hD : HD M) (ok : KOK K) (hw : w < kh K 4) (hs : seed < 2000000001) (hm : m ≤ 20) (hT : TW κ K w) : ∀ (n k s : Nat), k + n = m → (Wp (d + 11) md_142 107 [some (.ref 32), some (.int (nI seed)), some (.int (nI m)), some (.int (nI (fld (ctI K seed w) n k s))), some (.int (nI w)), some (.int (nI m))] [] (cset M κ) Q) → Wp (d + 11) md_142 67 [some (.ref 32), some (.int (nI seed)), some (.int (nI m)), some (.int (nI s)), some (.int (nI w)), some (.int (nI k))] [] (cset M κ) Q := by
  obtain ⟨ow, hDo⟩ := hD.1
  have hO : ∀ κ : CS, cset M κ 32 = .inr (9, hdl ow) := fun κ => (cset_o (by omega)).trans hDo
  have hws := TW_ws ok hw hT
  intro n
  induction n with
  | zero =>
    intro k s hk2 kk
    refine Wp.n (pc' := 70) 2 rfl ?_
    refine Wp.nc3 (x := k) (y := m) (tgt := 107) (len := 3) rfl (by omega) (by omega) (fun h70 => ?_) (fun h70 => ?_)
    · skip
      rw [show k = m by omega]
      exact kk
    · omega
  | succ n ih =>
    intro k s hk2 kk
    have kk2 : Wp (d + 11) md_142 67 [some (.ref 32), some (.int (nI seed)), some (.int (nI m)), some (.int (nI (ctI K seed w s k))), some (.int (nI w)), some (.int (nI (k + 1)))] [] (cset M κ) Q := ih (k + 1) _ (by omega) kk
    refine Wp.n (pc' := 70) 2 rfl ?_
    refine Wp.nc3 (x := k) (y := m) (tgt := 107) (len := 3) rfl (by omega) (by omega) (fun h70 => ?_) (fun h70 => ?_)
    · omega
    · skip
      refine Wp.n (pc' := 75) 2 rfl ?_
      refine Wp.get (len := 3) rfl (hO _) rfl ?_
      refine Wp.n (pc' := 81) 2 rfl ?_
      refine Wp.iaddN (x := seed) (y := k) (len := 1) rfl ?_
      refine Wp.ecallV (len := 3) rfl rfl rfl (rfl) rfl (by decide) rfl (t_seen hws.1 hws.2 (by omega)) ?_
      refine Wp.ifb0 (tgt := 98) (len := 3) rfl (fun h85 => ?_) (fun h85 => ?_)
      · skip
        refine Wp.n (pc' := 99) 1 rfl ?_
        refine Wp.iaddN (x := s) (y := 0) (len := 1) rfl ?_
        refine Wp.n (pc' := 101) 1 rfl ?_
        refine Wp.incN (x := k) (len := 3) rfl rfl ?_
        refine Wp.n (pc' := 67) 1 rfl ?_
        first
          | (rw [show ctI K seed w s k = s + dutW K w by unfold ctI; rw [h85]; rfl] at kk2; exact kk2)
          | (rw [show ctI K seed w s k = s + 0 by unfold ctI; rw [h85]; rfl] at kk2; exact kk2)
      · skip
        refine Wp.n (pc' := 89) 1 rfl ?_
        refine Wp.get (len := 3) rfl (hO _) rfl ?_
        refine Wp.get (len := 3) rfl (rfl) rfl ?_
        refine Wp.top hT.2.2.2 ?_
        refine Wp.n (pc' := 99) 1 rfl ?_
        refine Wp.iaddN (x := s) (y := dutW K w) (len := 1) rfl ?_
        refine Wp.n (pc' := 101) 1 rfl ?_
        refine Wp.incN (x := k) (len := 3) rfl rfl ?_
        refine Wp.n (pc' := 67) 1 rfl ?_
        first
          | (rw [show ctI K seed w s k = s + dutW K w by unfold ctI; rw [h85]; rfl] at kk2; exact kk2)
          | (rw [show ctI K seed w s k = s + 0 by unfold ctI; rw [h85]; rfl] at kk2; exact kk2)

theorem k_ct_o (hD : HD M) (hk : RK M 36 K) {seed m : Nat} (hs : seed < 2000000001) (hm : m ≤ 20) : ∀ (n w s : Nat) (κ2 : CS) (z : Option Value), w + n = kh K 4 → ScC κ κ2 → Wp (d + 11) md_142 39 [some (.ref 32), some (.int (nI seed)), some (.int (nI m)), some (.int (nI s)), some (.int (nI w)), z] [] (cset M κ2) (RCI M κ (nI (fld (ctO K seed m) n w s))) := by
  obtain ⟨ρ, hR, hK, hDC, ok, hr1, hr2⟩ := id hk
  obtain ⟨b0, b1, b2, b3, b4, b5, b6, b7, b8, b9, b10, b11, b12⟩ := ok_h ok
  obtain ⟨ow, hDo⟩ := hD.1
  have hO : ∀ κ : CS, cset M κ 32 = .inr (9, hdl ow) := fun κ => (cset_o (by omega)).trans hDo
  have hRc : ∀ κ : CS, RA (cset M κ) 36 ρ := fun κ => RA_c hR hr1 hr2
  intro n
  induction n with
  | zero =>
    intro w s κ2 z hw hS
    refine Wp.n (pc' := 42) 2 rfl ?_
    refine Wp.get (len := 3) rfl (hO _) rfl ?_
    refine Wp.get (len := 3) rfl (ra_obj (hRc _)) rfl ?_
    refine Wp.top (rc_wk hK) ?_
    refine Wp.nc3 (x := w) (y := kh K 4) (tgt := 113) (len := 3) rfl (by omega) (by omega) (fun h48 => ?_) (fun h48 => ?_)
    · skip
      refine Wp.n (pc' := 114) 1 rfl ?_
      refine Wp.retI (len := 1) rfl rfl ?_
      exact RCI_s hS rfl
    · omega
  | succ n ih =>
    intro w s κ2 z hw hS
    rw [show fld (ctO K seed m) (n + 1) w s = fld (ctO K seed m) n (w + 1) (ctO K seed m s w) from rfl]
    refine Wp.n (pc' := 42) 2 rfl ?_
    refine Wp.get (len := 3) rfl (hO _) rfl ?_
    refine Wp.get (len := 3) rfl (ra_obj (hRc _)) rfl ?_
    refine Wp.top (rc_wk hK) ?_
    refine Wp.nc3 (x := w) (y := kh K 4) (tgt := 113) (len := 3) rfl (by omega) (by omega) (fun h48 => ?_) (fun h48 => ?_)
    · omega
    · skip
      refine Wp.n (pc' := 53) 2 rfl ?_
      refine Wp.get (len := 3) rfl (hO _) rfl ?_
      refine Wp.n (pc' := 58) 1 rfl ?_
      refine Wp.callV (len := 3) rfl rfl rfl (hO _) rfl (by decide) rfl (k_isLawful hD hk (by omega)) ?_
      rintro _ _ ⟨rfl, κ3, rfl, hF, hT⟩
      refine Wp.ifb0 (tgt := 107) (len := 3) rfl (fun h61 => ?_) (fun h61 => ?_)
      · skip
        refine Wp.incN (x := w) (len := 3) rfl rfl ?_
        refine Wp.n (pc' := 39) 1 rfl ?_
        rw [show ctO K seed m s w = s by unfold ctO; rw [h61]; rfl]
        exact ih (w + 1) s κ3 _ (by omega) (ScC_t hS (ScC_11 hF))
      · skip
        refine Wp.n (pc' := 67) 2 rfl ?_
        rw [show ctO K seed m s w = fld (ctI K seed w) m 0 s by unfold ctO; rw [h61]; rfl]
        refine k_ct_i hD ok (by omega) hs hm hT m 0 s (by omega) ?_
        refine Wp.incN (x := w) (len := 3) rfl rfl ?_
        refine Wp.n (pc' := 39) 1 rfl ?_
        exact ih (w + 1) _ κ3 _ (by omega) (ScC_t hS (ScC_11 hF))
        

theorem k_caught (hD : HD M) (hk : RK M 36 K) (x y : Int32) : Wp (d + 11) md_142 0 [some (.ref 32), some (.int x), some (.int y), none, none, none] [] (cset M κ) (RCI M κ (caughtA K x y)) := by
  obtain ⟨ρ, hR, hK, hDC, ok, hr1, hr2⟩ := id hk
  obtain ⟨b0, b1, b2, b3, b4, b5, b6, b7, b8, b9, b10, b11, b12⟩ := ok_h ok
  obtain ⟨ow, hDo⟩ := hD.1
  have hO : ∀ κ : CS, cset M κ 32 = .inr (9, hdl ow) := fun κ => (cset_o (by omega)).trans hDo
  have hRc : ∀ κ : CS, RA (cset M κ) 36 ρ := fun κ => RA_c hR hr1 hr2
  unfold caughtA
  refine Wp.n (pc' := 1) 1 rfl ?_
  refine Wp.get (len := 3) rfl (hO _) rfl ?_
  refine Wp.ecallV (len := 3) rfl rfl rfl (ra_obj (hRc _)) rfl (by decide) rfl (k_exists (RK_c hk)) ?_
  refine Wp.ifb0 (tgt := 31) (len := 3) rfl (fun h7 => ?_) (fun h7 => ?_)
  · skip
    refine Wp.n (pc' := 33) 1 rfl ?_
    refine Wp.retI (len := 1) rfl rfl ?_
    first
      | (rw [if_neg (fun q => of_decide_eq_false h7 q.1)]; exact RCI_r rfl)
      | (rw [if_neg (fun q => by rw [h18] at q; exact absurd q.2.1 (by decide))]; exact RCI_r rfl)
      | (rw [if_neg (fun q => of_decide_eq_false h28 q.2.2)]; exact RCI_r rfl)
  · skip
    refine Wp.n (pc' := 15) 3 rfl ?_
    refine Wp.ecallS (len := 3) rfl rfl rfl rfl (k_isWithinN (hi := 2000000000) x (by decide)) ?_
    refine Wp.ifb0 (tgt := 31) (len := 3) rfl (fun h18 => ?_) (fun h18 => ?_)
    · skip
      refine Wp.n (pc' := 33) 1 rfl ?_
      refine Wp.retI (len := 1) rfl rfl ?_
      first
        | (rw [if_neg (fun q => of_decide_eq_false h7 q.1)]; exact RCI_r rfl)
        | (rw [if_neg (fun q => by rw [h18] at q; exact absurd q.2.1 (by decide))]; exact RCI_r rfl)
        | (rw [if_neg (fun q => of_decide_eq_false h28 q.2.2)]; exact RCI_r rfl)
    · skip
      refine Wp.n (pc' := 25) 3 rfl ?_
      refine Wp.ecallS (len := 3) rfl rfl rfl rfl (k_isWithinR (lo := 1) (hi := 20) y (by decide) (by decide)) ?_
      refine Wp.ifb1 (tgt := 34) (len := 3) rfl (fun h28 => ?_) (fun h28 => ?_)
      · skip
        have hy := of_decide_eq_true h28
        rw [if_pos ⟨of_decide_eq_true h7, h18, hy⟩]
        obtain ⟨v, hv, rfl⟩ := isN_of h18
        obtain ⟨m, hm1, hm20, hm, rfl⟩ := isR_of h28
        rw [nI_clamp (by omega), nI_clamp hm]
        refine Wp.n (pc' := 39) 4 rfl ?_
        exact k_ct_o hD hk hv hm20 (kh K 4) 0 0 κ _ (by omega) ScC_r
      · skip
        refine Wp.n (pc' := 33) 1 rfl ?_
        refine Wp.retI (len := 1) rfl rfl ?_
        first
          | (rw [if_neg (fun q => of_decide_eq_false h7 q.1)]; exact RCI_r rfl)
          | (rw [if_neg (fun q => by rw [h18] at q; exact absurd q.2.1 (by decide))]; exact RCI_r rfl)
          | (rw [if_neg (fun q => of_decide_eq_false h28 q.2.2)]; exact RCI_r rfl)

end QC
