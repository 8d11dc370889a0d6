/-! CHANCE, HOPE, AND WHO IS SEEN: the reference. -/
def npr (ws : List Nat) : Nat → Nat
  | 0 => 1
  | i + 1 => npr ws i * (100 - ws.getD i 0)
theorem npr_le (ws : List Nat) : ∀ i, npr ws i ≤ 100 ^ i
  | 0 => Nat.le_refl _
  | i + 1 => by
    unfold npr
    rw [Nat.pow_succ]
    exact Nat.mul_le_mul (npr_le ws i) (Nat.sub_le _ _)
def tellK (ws : List Nat) (m what : Nat) : Nat := (if what = 0 then (100 ^ ws.length - npr ws ws.length) * m else 100 ^ ws.length) / Nat.gcd ((100 ^ ws.length - npr ws ws.length) * m) (100 ^ ws.length)
def lcg (x : Nat) : Nat := (1103515245 * x + 12345) % 2147483648
def seenL (ws : List Nat) : Nat → Nat → Nat → Bool → Bool
  | 0, _, _, b => b
  | n + 1, i, x, b => seenL ws n (i + 1) (lcg x) (decide (lcg x / 65536 % 100 < ws.getD i 0) || b)
def seenK (ws : List Nat) (x : Nat) : Bool := seenL ws ws.length 0 x false
def WS (σ : MS) (ws : List Nat) : Prop := σ.1 32 = nI ws.length ∧ (∀ i, i < ws.length → σ.2.2.1 15 i = nI (ws.getD i 0))
/-- a row of watches: at most six, none above a hundred -/
def WB (ws : List Nat) : Prop := ws.length ≤ 6 ∧ ∀ i, ws.getD i 0 ≤ 100
theorem wat_b {K : KD} (ok : KOK K) {ls : List Nat} (h6 : ls.length ≤ 6) (hls : ∀ l, l ∈ ls → LV K l) : WB (wat K ls) := by
  refine ⟨Nat.le_trans (wat_len ls) h6, fun i => ?_⟩
  rw [List.getD_eq_getElem?_getD]
  cases e : (wat K ls)[i]? with
  | none => exact Nat.zero_le _
  | some x =>
    have hx : x ∈ wat K ls := List.mem_of_getElem? e
    unfold wat at hx
    rw [List.mem_map] at hx
    obtain ⟨l, hl, rfl⟩ := hx
    have hl2 := (List.mem_filter.mp hl).1
    have := ok_lane ok (hls l hl2)
    show kl K l 6 ≤ 100
    omega
theorem pow6 {i : Nat} (h : i ≤ 6) : 100 ^ i ≤ 1000000000000 ∧ 1 ≤ 100 ^ i := by
  have h1 : 100 ^ i ≤ 100 ^ 6 := Nat.pow_le_pow_right (by decide) h
  have h2 : 100 ^ 0 ≤ 100 ^ i := Nat.pow_le_pow_right (by decide) (Nat.zero_le i)
  omega
section CHANCE
variable {d : Nat} {M : AM} {σ σ' : MS} {K : KD} {Q : Option Value → AM → Prop}
theorem m_common_l {a b : Nat} : ∀ (v u : Nat) (z8 z9 : Option Value), u < 2 ^ 63 → v < 2 ^ 63 → Wp d md_223 6 [some (.long (lN a)), none, some (.long (lN b)), none, some (.long (lN u)), none, some (.long (lN v)), none, z8, z9] [] M (IsR (some (.long (lN (Nat.gcd u v)))) M) := by
  intro v
  induction v using Nat.strongRecOn with
  | _ v ih =>
    intro u z8 z9 hu hv
    refine Wp.n (pc' := 10) 3 rfl ?_
    refine Wp.cz0 (x := v) (y := 0) (tgt := 31) (len := 3) rfl (by omega) (by omega) (fun h10 => ?_) (fun h10 => ?_)
    · subst h10
      refine Wp.n (pc' := 33) 1 rfl ?_
      refine Wp.retL (len := 1) rfl rfl ?_
      rw [Nat.gcd_zero_right]
      exact ⟨rfl, rfl⟩
    · skip
      refine Wp.n (pc' := 17) 2 rfl ?_
      refine Wp.lremM (x := u) (y := v) (len := 1) rfl (by omega) (by omega) (by omega) ?_
      refine Wp.n (pc' := 6) 6 rfl ?_
      have w := ih (u % v) (Nat.mod_lt _ (by omega)) v (some (.long (lN (u % v)))) none hv (by have := Nat.mod_lt u (show 0 < v by omega); omega)
      rw [Nat.gcd_comm v (u % v), ← Nat.gcd_rec v u, Nat.gcd_comm v u] at w
      exact w

theorem m_common {a b : Nat} (ha : a < 2 ^ 63) (hb : b < 2 ^ 63) : Ev d md_223 0 [some (.long (lN a)), none, some (.long (lN b)), none, none, none, none, none, none, none] [] M (some (.long (lN (Nat.gcd a b))), M) := by
  refine Wp.toEv ?_
  refine Wp.n (pc' := 6) 4 rfl ?_
  exact m_common_l b a _ _ ha hb
theorem m_told_l {ws : List Nat} (hW : WS σ ws) (hB : WB ws) {m what : Nat} : ∀ (n i : Nat) (z9 : Option Value), i + n = ws.length → (∀ z8 z9, Wp d md_222 49 [some (.ref 287), some (.long (lN m)), none, some (.int (nI what)), some (.long (lN (100 ^ ws.length))), none, some (.long (lN (npr ws ws.length))), none, z8, z9] [] (mset M σ) Q) → Wp d md_222 9 [some (.ref 287), some (.long (lN m)), none, some (.int (nI what)), some (.long (lN (100 ^ i))), none, some (.long (lN (npr ws i))), none, some (.int (nI i)), z9] [] (mset M σ) Q := by
  intro n
  obtain ⟨hB1, hB2⟩ := hB
  induction n with
  | zero =>
    intro i z9 hi k
    refine Wp.n (pc' := 15) 3 rfl ?_
    refine Wp.top hW.1 ?_
    refine Wp.nc3 (x := i) (y := ws.length) (tgt := 49) (len := 3) rfl (by omega) (by omega) (fun h15 => ?_) (fun h15 => ?_)
    · skip
      rw [show i = ws.length by omega]
      exact k _ _
    · omega
  | succ n ih =>
    intro i z9 hi k
    have g := hB2 i
    refine Wp.n (pc' := 15) 3 rfl ?_
    refine Wp.top hW.1 ?_
    refine Wp.nc3 (x := i) (y := ws.length) (tgt := 49) (len := 3) rfl (by omega) (by omega) (fun h15 => ?_) (fun h15 => ?_)
    · omega
    · skip
      refine Wp.n (pc' := 23) 2 rfl ?_
      refine Wp.lmulM (x := 100 ^ i) (y := 100) (len := 1) rfl ?_
      refine Wp.n (pc' := 37) 6 rfl ?_
      refine Wp.mialdN (j := i) (len := 1) rfl rfl rfl (by omega) ?_
      refine Wp.top (hW.2 i (by omega)) ?_
      refine Wp.i2lM (x := ws.getD i 0) (len := 1) rfl (by omega) ?_
      refine Wp.lsubM (x := 100) (y := ws.getD i 0) (len := 1) rfl (by omega) ?_
      refine Wp.lmulM (x := npr ws i) (y := 100 - (ws.getD i 0)) (len := 1) rfl ?_
      refine Wp.n (pc' := 43) 1 rfl ?_
      refine Wp.incN (x := i) (len := 3) rfl rfl ?_
      refine Wp.n (pc' := 9) 1 rfl ?_
      have w := ih (i + 1) z9 (by omega) k
      rw [Nat.pow_succ] at w
      exact w

theorem m_told {ws : List Nat} (hW : WS σ ws) (hB : WB ws) {m what : Nat} (hm : m ≤ 689634) (hwh : what ≤ 1) : Ev (d + 1) md_222 0 [some (.ref 287), some (.long (lN m)), none, some (.int (nI what)), none, none, none, none, none, none] [] (mset M σ) (some (.long (lN (tellK ws m what))), mset M σ) := by
  refine Wp.toEv ?_
  refine Wp.n (pc' := 9) 6 rfl ?_
  refine m_told_l hW hB ws.length 0 none (by omega) (fun z8 z9 => ?_)
  have p := pow6 hB.1
  have q := npr_le ws ws.length
  unfold tellK
  generalize hA : 100 ^ ws.length = A at p q ⊢
  generalize npr ws ws.length = B at q ⊢
  have hx : (A - B) * m ≤ 1000000000000 * 689634 := Nat.mul_le_mul (by omega) hm
  have hg : 0 < Nat.gcd ((A - B) * m) A := Nat.gcd_pos_of_pos_right _ (by omega)
  have hg2 : Nat.gcd ((A - B) * m) A ≤ A := Nat.gcd_le_right _ (by omega)
  refine Wp.n (pc' := 53) 2 rfl ?_
  refine Wp.lsubM (x := A) (y := B) (len := 1) rfl (by omega) ?_
  refine Wp.n (pc' := 55) 1 rfl ?_
  refine Wp.lmulM (x := A - B) (y := m) (len := 1) rfl ?_
  refine Wp.n (pc' := 59) 2 rfl ?_
  refine Wp.nz1 (x := what) (tgt := 67) (len := 3) rfl (by omega) (fun h59 => ?_) (fun h59 => ?_)
  · skip
    refine Wp.n (pc' := 73) 3 rfl ?_
    refine Wp.ecallS (len := 3) rfl rfl rfl rfl (m_common (by omega) (by omega)) ?_
    refine Wp.ldivM (x := A) (y := Nat.gcd ((A - B) * m) A) (len := 1) rfl (by omega) (by omega) (by omega) ?_
    refine Wp.retL (len := 1) rfl rfl ?_
    first | (rw [if_pos (by omega)]; exact ⟨rfl, rfl⟩) | (rw [if_neg (by omega)]; exact ⟨rfl, rfl⟩)
  · skip
    refine Wp.n (pc' := 73) 4 rfl ?_
    refine Wp.ecallS (len := 3) rfl rfl rfl rfl (m_common (by omega) (by omega)) ?_
    refine Wp.ldivM (x := (A - B) * m) (y := Nat.gcd ((A - B) * m) A) (len := 1) rfl (by omega) (by omega) (by omega) ?_
    refine Wp.retL (len := 1) rfl rfl ?_
    first | (rw [if_pos (by omega)]; exact ⟨rfl, rfl⟩) | (rw [if_neg (by omega)]; exact ⟨rfl, rfl⟩)

theorem lcg_lt (x : Nat) : lcg x < 2147483648 := Nat.mod_lt _ (by decide)
theorem m_seen_l {ws : List Nat} (hW : WS σ ws) (hB : WB ws) {x0 : Nat} : ∀ (n i x : Nat) (b : Bool), i + n = ws.length → x < 2147483648 → Wp d md_258 8 [some (.ref 287), some (.long (lN x0)), none, some (.long (lN x)), none, some (.int (bI b)), some (.int (nI i))] [] (mset M σ) (IsR (some (.int (bI (seenL ws n i x b)))) (mset M σ)) := by
  intro n
  obtain ⟨hB1, hB2⟩ := hB
  induction n with
  | zero =>
    intro i x b hi hx
    refine Wp.n (pc' := 14) 3 rfl ?_
    refine Wp.top hW.1 ?_
    refine Wp.nc3 (x := i) (y := ws.length) (tgt := 70) (len := 3) rfl (by omega) (by omega) (fun h14 => ?_) (fun h14 => ?_)
    · skip
      refine Wp.n (pc' := 72) 1 rfl ?_
      refine Wp.retZ (len := 1) (c := b) rfl rfl rfl ?_
      exact ⟨rfl, rfl⟩
    · omega
  | succ n ih =>
    intro i x b hi hx
    have g := hB2 i
    have hl := lcg_lt x
    have el : (1103515245 * x + 12345) % 2147483648 = lcg x := rfl
    have kk : ∀ c : Bool, c = (decide (lcg x / 65536 % 100 < ws.getD i 0) || b) → Wp d md_258 8 [some (.ref 287), some (.long (lN x0)), none, some (.long (lN (lcg x))), none, some (.int (bI c)), some (.int (nI (i + 1)))] [] (mset M σ) (IsR (some (.int (bI (seenL ws (n + 1) i x b)))) (mset M σ)) := by
      intro c hc
      rw [hc]
      exact ih (i + 1) (lcg x) _ (by omega) hl
    refine Wp.n (pc' := 14) 3 rfl ?_
    refine Wp.top hW.1 ?_
    refine Wp.nc3 (x := i) (y := ws.length) (tgt := 70) (len := 3) rfl (by omega) (by omega) (fun h14 => ?_) (fun h14 => ?_)
    · omega
    · skip
      refine Wp.n (pc' := 21) 2 rfl ?_
      refine Wp.lmulM (x := 1103515245) (y := x) (len := 1) rfl ?_
      refine Wp.n (pc' := 25) 1 rfl ?_
      refine Wp.laddM (x := 1103515245 * x) (y := 12345) (len := 1) rfl ?_
      refine Wp.n (pc' := 29) 1 rfl ?_
      refine Wp.lremM (x := (1103515245 * x) + 12345) (y := 2147483648) (len := 1) rfl (by omega) (by omega) (by omega) ?_
      refine Wp.topL rfl ?_
      refine Wp.n (pc' := 35) 3 rfl ?_
      refine Wp.ldivM (x := lcg x) (y := 65536) (len := 1) rfl (by omega) (by omega) (by omega) ?_
      refine Wp.n (pc' := 39) 1 rfl ?_
      refine Wp.lremM (x := (lcg x) / 65536) (y := 100) (len := 1) rfl (by omega) (by omega) (by omega) ?_
      refine Wp.n (pc' := 46) 3 rfl ?_
      refine Wp.mialdN (j := i) (len := 1) rfl rfl rfl (by omega) ?_
      refine Wp.top (hW.2 i (by omega)) ?_
      refine Wp.i2lM (x := ws.getD i 0) (len := 1) rfl (by omega) ?_
      refine Wp.n (pc' := 49) 1 rfl ?_
      refine Wp.cz2 (x := ((lcg x) / 65536) % 100) (y := ws.getD i 0) (tgt := 57) (len := 3) rfl (by omega) (by omega) (fun h49 => ?_) (fun h49 => ?_)
      · skip
        refine Wp.n (pc' := 64) 3 rfl ?_
        refine Wp.incN (x := i) (len := 3) rfl rfl ?_
        refine Wp.n (pc' := 8) 1 rfl ?_
        first
          | exact kk true (by rw [decide_eq_true (by omega)]; rfl)
          | exact kk true (by rw [h54, Bool.or_true])
          | exact kk false (by rw [decide_eq_false (by omega), h54]; rfl)
      · skip
        refine Wp.n (pc' := 54) 1 rfl ?_
        refine Wp.ifb0 (tgt := 61) (len := 3) rfl (fun h54 => ?_) (fun h54 => ?_)
        · skip
          refine Wp.n (pc' := 64) 2 rfl ?_
          refine Wp.incN (x := i) (len := 3) rfl rfl ?_
          refine Wp.n (pc' := 8) 1 rfl ?_
          first
            | exact kk true (by rw [decide_eq_true (by omega)]; rfl)
            | exact kk true (by rw [h54, Bool.or_true])
            | exact kk false (by rw [decide_eq_false (by omega), h54]; rfl)
        · skip
          refine Wp.n (pc' := 64) 3 rfl ?_
          refine Wp.incN (x := i) (len := 3) rfl rfl ?_
          refine Wp.n (pc' := 8) 1 rfl ?_
          first
            | exact kk true (by rw [decide_eq_true (by omega)]; rfl)
            | exact kk true (by rw [h54, Bool.or_true])
            | exact kk false (by rw [decide_eq_false (by omega), h54]; rfl)

theorem m_isSeenBy {ws : List Nat} (hW : WS σ ws) (hB : WB ws) {x : Nat} (hx : x < 2147483648) : Ev d md_258 0 [some (.ref 287), some (.long (lN x)), none, none, none, none, none] [] (mset M σ) (some (.int (bI (seenK ws x))), mset M σ) := by
  refine Wp.toEv ?_
  refine Wp.n (pc' := 8) 6 rfl ?_
  exact m_seen_l hW hB ws.length 0 x false (by omega) hx
theorem GA_ws (ok : KOK K) {w : Nat} (hw : w < kh K 4) (h : GA σ K w) : WS σ (wat K (TRr K w).2.2) ∧ WB (wat K (TRr K w).2.2) := ⟨⟨h.2.2.2.1, h.2.2.2.2⟩, wat_b ok (TRr_b ok hw).1.2.1 (TRr_b ok hw).1.2.2⟩
def chanceA (K : KD) (x y : Int32) : Int64 := if isN (kh K 4) x = true ∧ isN 2 y = true then (bif lawK K x.toNatClampNeg then lN (tellK (wat K (TRr K x.toNatClampNeg).2.2) 1 y.toNatClampNeg) else -1) else -2
def hopeA (K : KD) (x y : Int32) : Int64 := if isN (kh K 4) x = true ∧ isN 2 y = true then (bif lawK K x.toNatClampNeg then lN (tellK (wat K (TRr K x.toNatClampNeg).2.2) (dutW K x.toNatClampNeg) y.toNatClampNeg) else -1) else -2
theorem in_isN {x : Int32} {hi : Int64} {k : Nat} (h : hi.toInt + 1 = (k : Int)) : decide ((0 : Int64).toInt ≤ x.toInt64.toInt ∧ x.toInt64.toInt ≤ hi.toInt) = isN k x := by
  unfold isN
  rw [il_toInt, show (0 : Int64).toInt = 0 from rfl]
  by_cases c : 0 ≤ x.toInt ∧ x.toInt < (k : Int)
  · rw [decide_eq_true c, decide_eq_true (by omega)]
  · rw [decide_eq_false c, decide_eq_false (by omega)]
theorem dutW_b (ok : KOK K) {w : Nat} (hw : w < kh K 4) : dutW K w ≤ 689634 := by
  have t := ok_walk ok hw
  exact dutyS_b ok (savK_b ok (t.2.2.2.2.2.2.1 0 (by omega))) (by omega)
theorem m_chance (hM : MK σ K) (x y : Int32) : Wp (d + 5) md_221 0 [some (.ref 287), some (.int x), some (.int y)] [] (mset M σ) (RJ M σ (chanceA K x y)) := by
  have ok := hM.2.1
  have hσ0 := hM.2.2.2
  obtain ⟨b0, b1, b2, b3, b4, b5, b6, b7, b8, b9, b10, b11, b12⟩ := ok_h ok
  unfold chanceA
  refine Wp.n (pc' := 2) 2 rfl ?_
  refine Wp.mput0 (len := 3) rfl hσ0 ?_
  refine Wp.n (pc' := 7) 2 rfl ?_
  refine Wp.ecallV (len := 3) rfl rfl rfl (rfl) rfl (by decide) rfl (m_isWalkK hM.1 ok _) ?_
  refine Wp.ifb0 (tgt := 23) (len := 3) rfl (fun h10 => ?_) (fun h10 => ?_)
  · skip
    refine Wp.n (pc' := 49) 2 rfl ?_
    refine Wp.retL (len := 1) rfl rfl ?_
    first
      | exact RJ_s hS (by rw [h34]; rfl)
      | (rw [if_neg (fun q => by rw [h10] at q; exact absurd q.1 (by decide))]; exact RJ_s Scr_r rfl)
      | (rw [if_neg (fun q => by rw [h20] at q; exact absurd q.2 (by decide))]; exact RJ_s Scr_r rfl)
  · skip
    refine Wp.n (pc' := 17) 4 rfl ?_
    refine Wp.ecallS (len := 3) rfl rfl rfl rfl (m_in _ _ _) ?_
    refine Wp.ifb1 (tgt := 29) (len := 3) rfl (fun h20 => ?_) (fun h20 => ?_)
    · rw [in_isN (k := 2) (by decide)] at h20
      obtain ⟨w, hw, rfl⟩ := isN_of h10
      obtain ⟨v, hv, rfl⟩ := isN_of h20
      rw [if_pos ⟨h10, h20⟩, nI_clamp (by omega), nI_clamp (by omega)]
      refine Wp.n (pc' := 31) 2 rfl ?_
      refine Wp.callV (len := 3) rfl rfl rfl (rfl) rfl (by decide) rfl (m_goesAs hM hw) ?_
      rintro _ _ ⟨rfl, τ, rfl, hS, hG⟩
      have hws := GA_ws ok hw hG
      refine Wp.ifb0 (tgt := 46) (len := 3) rfl (fun h34 => ?_) (fun h34 => ?_)
      · skip
        refine Wp.n (pc' := 49) 1 rfl ?_
        refine Wp.retL (len := 1) rfl rfl ?_
        first
          | exact RJ_s hS (by rw [h34]; rfl)
          | (rw [if_neg (fun q => by rw [h10] at q; exact absurd q.1 (by decide))]; exact RJ_s Scr_r rfl)
          | (rw [if_neg (fun q => by rw [h20] at q; exact absurd q.2 (by decide))]; exact RJ_s Scr_r rfl)
      · skip
        refine Wp.n (pc' := 40) 3 rfl ?_
        refine Wp.ecallV (len := 3) rfl rfl rfl (rfl) rfl (by decide) rfl (m_told (m := 1) hws.1 hws.2 (by omega) (by omega)) ?_
        refine Wp.n (pc' := 49) 1 rfl ?_
        refine Wp.retL (len := 1) rfl rfl ?_
        first
          | exact RJ_s hS (by rw [h34]; rfl)
          | (rw [if_neg (fun q => by rw [h10] at q; exact absurd q.1 (by decide))]; exact RJ_s Scr_r rfl)
          | (rw [if_neg (fun q => by rw [h20] at q; exact absurd q.2 (by decide))]; exact RJ_s Scr_r rfl)
    · rw [in_isN (k := 2) (by decide)] at h20
      refine Wp.n (pc' := 49) 2 rfl ?_
      refine Wp.retL (len := 1) rfl rfl ?_
      first
        | exact RJ_s hS (by rw [h34]; rfl)
        | (rw [if_neg (fun q => by rw [h10] at q; exact absurd q.1 (by decide))]; exact RJ_s Scr_r rfl)
        | (rw [if_neg (fun q => by rw [h20] at q; exact absurd q.2 (by decide))]; exact RJ_s Scr_r rfl)

theorem m_hope (hM : MK σ K) (x y : Int32) : Wp (d + 5) md_224 0 [some (.ref 287), some (.int x), some (.int y)] [] (mset M σ) (RJ M σ (hopeA K x y)) := by
  have ok := hM.2.1
  have hσ0 := hM.2.2.2
  obtain ⟨b0, b1, b2, b3, b4, b5, b6, b7, b8, b9, b10, b11, b12⟩ := ok_h ok
  unfold hopeA
  refine Wp.n (pc' := 2) 2 rfl ?_
  refine Wp.mput0 (len := 3) rfl hσ0 ?_
  refine Wp.n (pc' := 7) 2 rfl ?_
  refine Wp.ecallV (len := 3) rfl rfl rfl (rfl) rfl (by decide) rfl (m_isWalkK hM.1 ok _) ?_
  refine Wp.ifb0 (tgt := 23) (len := 3) rfl (fun h10 => ?_) (fun h10 => ?_)
  · skip
    refine Wp.n (pc' := 26) 1 rfl ?_
    refine Wp.retL (len := 1) rfl rfl ?_
    first
      | exact RJ_s (Scr_13 hS) (by rw [h32]; rfl)
      | exact RJ_s hS (by rw [h32]; rfl)
      | (rw [if_neg (fun q => by rw [h10] at q; exact absurd q.1 (by decide))]; exact RJ_s Scr_r rfl)
      | (rw [if_neg (fun q => by rw [h20] at q; exact absurd q.2 (by decide))]; exact RJ_s Scr_r rfl)
  · skip
    refine Wp.n (pc' := 17) 4 rfl ?_
    refine Wp.ecallS (len := 3) rfl rfl rfl rfl (m_in _ _ _) ?_
    refine Wp.ifb1 (tgt := 27) (len := 3) rfl (fun h20 => ?_) (fun h20 => ?_)
    · rw [in_isN (k := 2) (by decide)] at h20
      obtain ⟨w, hw, rfl⟩ := isN_of h10
      obtain ⟨v, hv, rfl⟩ := isN_of h20
      rw [if_pos ⟨h10, h20⟩, nI_clamp (by omega), nI_clamp (by omega)]
      refine Wp.n (pc' := 29) 2 rfl ?_
      refine Wp.callV (len := 3) rfl rfl rfl (rfl) rfl (by decide) rfl (m_goesAs hM hw) ?_
      rintro _ _ ⟨rfl, τ, rfl, hS, hG⟩
      have hws := GA_ws ok hw hG
      have hdw := dutW_b ok hw
      refine Wp.ifb1 (tgt := 39) (len := 3) rfl (fun h32 => ?_) (fun h32 => ?_)
      · skip
        refine Wp.n (pc' := 42) 3 rfl ?_
        refine Wp.callV (len := 3) rfl rfl rfl (rfl) rfl (by decide) rfl (m_dutyOf1 (MK_scr hM hS) hw rfl hG.1 (TRr_b ok hw).1 hG.2) ?_
        rintro _ _ ⟨rfl, h, rfl⟩
        refine Wp.i2lM (x := dutW K w) (len := 1) rfl (by omega) ?_
        refine Wp.n (pc' := 47) 1 rfl ?_
        refine Wp.ecallV (len := 3) rfl rfl rfl (rfl) rfl (by decide) rfl (m_told (m := dutW K w) (show WS (aset τ 13 h) _ from hws.1) hws.2 hdw (by omega)) ?_
        refine Wp.retL (len := 1) rfl rfl ?_
        first
          | exact RJ_s (Scr_13 hS) (by rw [h32]; rfl)
          | exact RJ_s hS (by rw [h32]; rfl)
          | (rw [if_neg (fun q => by rw [h10] at q; exact absurd q.1 (by decide))]; exact RJ_s Scr_r rfl)
          | (rw [if_neg (fun q => by rw [h20] at q; exact absurd q.2 (by decide))]; exact RJ_s Scr_r rfl)
      · skip
        refine Wp.n (pc' := 38) 1 rfl ?_
        refine Wp.retL (len := 1) rfl rfl ?_
        first
          | exact RJ_s (Scr_13 hS) (by rw [h32]; rfl)
          | exact RJ_s hS (by rw [h32]; rfl)
          | (rw [if_neg (fun q => by rw [h10] at q; exact absurd q.1 (by decide))]; exact RJ_s Scr_r rfl)
          | (rw [if_neg (fun q => by rw [h20] at q; exact absurd q.2 (by decide))]; exact RJ_s Scr_r rfl)
    · rw [in_isN (k := 2) (by decide)] at h20
      refine Wp.n (pc' := 26) 1 rfl ?_
      refine Wp.retL (len := 1) rfl rfl ?_
      first
        | exact RJ_s (Scr_13 hS) (by rw [h32]; rfl)
        | exact RJ_s hS (by rw [h32]; rfl)
        | (rw [if_neg (fun q => by rw [h10] at q; exact absurd q.1 (by decide))]; exact RJ_s Scr_r rfl)
        | (rw [if_neg (fun q => by rw [h20] at q; exact absurd q.2 (by decide))]; exact RJ_s Scr_r rfl)

theorem m_isSeedN (x : Int32) : Ev (d + 1) md_257 0 [some (.int x)] [] M (some (.int (bI (isN 2000000001 x))), M) := by
  have w := m_isSeed (d := d) (M := M) x
  have e : decide (0 ≤ x.toInt ∧ x.toInt ≤ 2000000000) = isN 2000000001 x := by
    unfold isN
    by_cases c : 0 ≤ x.toInt ∧ x.toInt < ((2000000001 : Nat) : Int)
    · rw [decide_eq_true c, decide_eq_true (by omega)]
    · rw [decide_eq_false c, decide_eq_false (by omega)]
  rw [e] at w
  exact w
def seenA (K : KD) (x y : Int32) : Int32 := if isN 2000000001 x = true ∧ isN (kh K 4) y = true then (bif lawK K y.toNatClampNeg then bI (seenK (wat K (TRr K y.toNatClampNeg).2.2) x.toNatClampNeg) else -1) else -2
theorem m_seen (hM : MK σ K) (x y : Int32) : Wp (d + 5) md_256 0 [some (.ref 287), some (.int x), some (.int y)] [] (mset M σ) (RI M σ (seenA K x y)) := by
  have ok := hM.2.1
  have hσ0 := hM.2.2.2
  obtain ⟨b0, b1, b2, b3, b4, b5, b6, b7, b8, b9, b10, b11, b12⟩ := ok_h ok
  unfold seenA
  refine Wp.n (pc' := 2) 2 rfl ?_
  refine Wp.mput0 (len := 3) rfl hσ0 ?_
  refine Wp.n (pc' := 6) 1 rfl ?_
  refine Wp.ecallS (len := 3) rfl rfl rfl rfl (m_isSeedN _) ?_
  refine Wp.ifb0 (tgt := 20) (len := 3) rfl (fun h9 => ?_) (fun h9 => ?_)
  · skip
    refine Wp.n (pc' := 22) 1 rfl ?_
    refine Wp.retI (len := 1) rfl rfl ?_
    first
      | exact RI_s hS (by rw [h28, h41]; rfl)
      | exact RI_s hS (by rw [h28]; rfl)
      | (rw [if_neg (fun q => by rw [h9] at q; exact absurd q.1 (by decide))]; exact RI_r rfl)
      | (rw [if_neg (fun q => by rw [h17] at q; exact absurd q.2 (by decide))]; exact RI_r rfl)
  · skip
    refine Wp.n (pc' := 14) 2 rfl ?_
    refine Wp.ecallV (len := 3) rfl rfl rfl (rfl) rfl (by decide) rfl (m_isWalkK hM.1 ok _) ?_
    refine Wp.ifb1 (tgt := 23) (len := 3) rfl (fun h17 => ?_) (fun h17 => ?_)
    · skip
      obtain ⟨v, hv, rfl⟩ := isN_of h9
      obtain ⟨w, hw, rfl⟩ := isN_of h17
      rw [if_pos ⟨h9, h17⟩, nI_clamp (by omega), nI_clamp (by omega)]
      refine Wp.n (pc' := 25) 2 rfl ?_
      refine Wp.callV (len := 3) rfl rfl rfl (rfl) rfl (by decide) rfl (m_goesAs hM hw) ?_
      rintro _ _ ⟨rfl, τ, rfl, hS, hG⟩
      have hws := GA_ws ok hw hG
      refine Wp.ifb1 (tgt := 35) (len := 3) rfl (fun h28 => ?_) (fun h28 => ?_)
      · skip
        refine Wp.n (pc' := 37) 2 rfl ?_
        refine Wp.i2lM (x := v) (len := 1) rfl (by omega) ?_
        refine Wp.ecallV (len := 3) rfl rfl rfl (rfl) rfl (by decide) rfl (m_isSeenBy hws.1 hws.2 (by omega)) ?_
        refine Wp.ifb0 (tgt := 48) (len := 3) rfl (fun h41 => ?_) (fun h41 => ?_)
        · skip
          refine Wp.n (pc' := 49) 1 rfl ?_
          refine Wp.retI (len := 1) rfl rfl ?_
          first
            | exact RI_s hS (by rw [h28, h41]; rfl)
            | exact RI_s hS (by rw [h28]; rfl)
            | (rw [if_neg (fun q => by rw [h9] at q; exact absurd q.1 (by decide))]; exact RI_r rfl)
            | (rw [if_neg (fun q => by rw [h17] at q; exact absurd q.2 (by decide))]; exact RI_r rfl)
        · skip
          refine Wp.n (pc' := 49) 2 rfl ?_
          refine Wp.retI (len := 1) rfl rfl ?_
          first
            | exact RI_s hS (by rw [h28, h41]; rfl)
            | exact RI_s hS (by rw [h28]; rfl)
            | (rw [if_neg (fun q => by rw [h9] at q; exact absurd q.1 (by decide))]; exact RI_r rfl)
            | (rw [if_neg (fun q => by rw [h17] at q; exact absurd q.2 (by decide))]; exact RI_r rfl)
      · skip
        refine Wp.n (pc' := 49) 2 rfl ?_
        refine Wp.retI (len := 1) rfl rfl ?_
        first
          | exact RI_s hS (by rw [h28, h41]; rfl)
          | exact RI_s hS (by rw [h28]; rfl)
          | (rw [if_neg (fun q => by rw [h9] at q; exact absurd q.1 (by decide))]; exact RI_r rfl)
          | (rw [if_neg (fun q => by rw [h17] at q; exact absurd q.2 (by decide))]; exact RI_r rfl)
    · skip
      refine Wp.n (pc' := 22) 1 rfl ?_
      refine Wp.retI (len := 1) rfl rfl ?_
      first
        | exact RI_s hS (by rw [h28, h41]; rfl)
        | exact RI_s hS (by rw [h28]; rfl)
        | (rw [if_neg (fun q => by rw [h9] at q; exact absurd q.1 (by decide))]; exact RI_r rfl)
        | (rw [if_neg (fun q => by rw [h17] at q; exact absurd q.2 (by decide))]; exact RI_r rfl)

def ctI (K : KD) (seed w : Nat) (s k : Nat) : Nat := bif seenK (wat K (TRr K w).2.2) (seed + k) then s + dutW K w else s
def ctO (K : KD) (seed m : Nat) (s w : Nat) : Nat := bif lawK K w then fld (ctI K seed w) m 0 s else s
theorem m_ct_i (hM : MK σ K) {seed m w : Nat} (hs : seed < 2000000001) (hm : m ≤ 20) (hw : w < kh K 4) : ∀ (n k s : Nat) (τ : MS), k + n = m → Scr σ τ → GA τ K w → (∀ τ', Scr σ τ' → Wp (d + 5) md_259 103 [some (.ref 287), some (.int (nI seed)), some (.int (nI m)), some (.int (nI (fld (ctI K seed w) n k s))), some (.int (nI w)), some (.int (nI m))] [] (mset M τ') Q) → Wp (d + 5) md_259 65 [some (.ref 287), some (.int (nI seed)), some (.int (nI m)), some (.int (nI s)), some (.int (nI w)), some (.int (nI k))] [] (mset M τ) Q := by
  have ok := hM.2.1
  intro n
  obtain ⟨b0, b1, b2, b3, b4, b5, b6, b7, b8, b9, b10, b11, b12⟩ := ok_h ok
  induction n with
  | zero =>
    intro k s τ hk hS hG kk
    refine Wp.n (pc' := 68) 2 rfl ?_
    refine Wp.nc3 (x := k) (y := m) (tgt := 103) (len := 3) rfl (by omega) (by omega) (fun h68 => ?_) (fun h68 => ?_)
    · skip
      rw [show k = m by omega]
      exact kk τ hS
    · omega
  | succ n ih =>
    intro k s τ hk hS hG kk
    have hws := GA_ws ok hw hG
    refine Wp.n (pc' := 68) 2 rfl ?_
    refine Wp.nc3 (x := k) (y := m) (tgt := 103) (len := 3) rfl (by omega) (by omega) (fun h68 => ?_) (fun h68 => ?_)
    · omega
    · skip
      refine Wp.n (pc' := 74) 3 rfl ?_
      refine Wp.i2lM (x := seed) (len := 1) rfl (by omega) ?_
      refine Wp.n (pc' := 77) 1 rfl ?_
      refine Wp.i2lM (x := k) (len := 1) rfl (by omega) ?_
      refine Wp.laddM (x := seed) (y := k) (len := 1) rfl ?_
      refine Wp.ecallV (len := 3) rfl rfl rfl (rfl) rfl (by decide) rfl (m_isSeenBy hws.1 hws.2 (by omega)) ?_
      refine Wp.ifb0 (tgt := 94) (len := 3) rfl (fun h82 => ?_) (fun h82 => ?_)
      · skip
        refine Wp.n (pc' := 95) 1 rfl ?_
        refine Wp.iaddN (x := s) (y := 0) (len := 1) rfl ?_
        refine Wp.n (pc' := 97) 1 rfl ?_
        refine Wp.incN (x := k) (len := 3) rfl rfl ?_
        refine Wp.n (pc' := 65) 1 rfl ?_
        first
          | (refine ih (k + 1) (s + dutW K w) _ (by omega) (Scr_13 hS) hG ?_
             rw [show fld (ctI K seed w) (n + 1) k s = fld (ctI K seed w) n (k + 1) (ctI K seed w s k) from rfl, show ctI K seed w s k = s + dutW K w by unfold ctI; rw [h82]; rfl] at kk
             exact kk)
          | (refine ih (k + 1) s _ (by omega) hS hG ?_
             rw [show fld (ctI K seed w) (n + 1) k s = fld (ctI K seed w) n (k + 1) (ctI K seed w s k) from rfl, show ctI K seed w s k = s by unfold ctI; rw [h82]; rfl] at kk
             exact kk)
      · skip
        refine Wp.n (pc' := 88) 2 rfl ?_
        refine Wp.callV (len := 3) rfl rfl rfl (rfl) rfl (by decide) rfl (m_dutyOf1 (MK_scr hM hS) hw rfl hG.1 (TRr_b ok hw).1 hG.2) ?_
        rintro _ _ ⟨rfl, h, rfl⟩
        refine Wp.n (pc' := 95) 1 rfl ?_
        refine Wp.iaddN (x := s) (y := dutW K w) (len := 1) rfl ?_
        refine Wp.n (pc' := 97) 1 rfl ?_
        refine Wp.incN (x := k) (len := 3) rfl rfl ?_
        refine Wp.n (pc' := 65) 1 rfl ?_
        first
          | (refine ih (k + 1) (s + dutW K w) _ (by omega) (Scr_13 hS) hG ?_
             rw [show fld (ctI K seed w) (n + 1) k s = fld (ctI K seed w) n (k + 1) (ctI K seed w s k) from rfl, show ctI K seed w s k = s + dutW K w by unfold ctI; rw [h82]; rfl] at kk
             exact kk)
          | (refine ih (k + 1) s _ (by omega) hS hG ?_
             rw [show fld (ctI K seed w) (n + 1) k s = fld (ctI K seed w) n (k + 1) (ctI K seed w s k) from rfl, show ctI K seed w s k = s by unfold ctI; rw [h82]; rfl] at kk
             exact kk)

theorem m_ct_o (hM : MK σ K) {seed m : Nat} (hs : seed < 2000000001) (hm : m ≤ 20) : ∀ (n w s : Nat) (τ : MS) (z : Option Value), w + n = kh K 4 → Scr σ τ → Wp (d + 5) md_259 39 [some (.ref 287), some (.int (nI seed)), some (.int (nI m)), some (.int (nI s)), some (.int (nI w)), z] [] (mset M τ) (RI M σ (nI (fld (ctO K seed m) n w s))) := by
  have ok := hM.2.1
  intro n
  obtain ⟨b0, b1, b2, b3, b4, b5, b6, b7, b8, b9, b10, b11, b12⟩ := ok_h ok
  induction n with
  | zero =>
    intro w s τ z hw hS
    refine Wp.n (pc' := 46) 4 rfl ?_
    refine Wp.mialdN (j := 4) (len := 1) rfl rfl rfl (by omega) ?_
    refine Wp.top (r0_has (MK_scr hM hS).1 (by decide)) ?_
    refine Wp.nc3 (x := w) (y := kh K 4) (tgt := 109) (len := 3) rfl (by omega) (by omega) (fun h47 => ?_) (fun h47 => ?_)
    · skip
      refine Wp.n (pc' := 110) 1 rfl ?_
      refine Wp.retI (len := 1) rfl rfl ?_
      exact RI_s hS rfl
    · omega
  | succ n ih =>
    intro w s τ z hw hS
    have hK := MK_scr hM hS
    rw [show fld (ctO K seed m) (n + 1) w s = fld (ctO K seed m) n (w + 1) (ctO K seed m s w) from rfl]
    refine Wp.n (pc' := 46) 4 rfl ?_
    refine Wp.mialdN (j := 4) (len := 1) rfl rfl rfl (by omega) ?_
    refine Wp.top (r0_has hK.1 (by decide)) ?_
    refine Wp.nc3 (x := w) (y := kh K 4) (tgt := 109) (len := 3) rfl (by omega) (by omega) (fun h47 => ?_) (fun h47 => ?_)
    · omega
    · skip
      refine Wp.n (pc' := 53) 2 rfl ?_
      refine Wp.callV (len := 3) rfl rfl rfl (rfl) rfl (by decide) rfl (m_goesAs hK (by omega)) ?_
      rintro _ _ ⟨rfl, τ', rfl, hS', hG⟩
      refine Wp.ifb1 (tgt := 62) (len := 3) rfl (fun h56 => ?_) (fun h56 => ?_)
      · skip
        refine Wp.n (pc' := 65) 2 rfl ?_
        rw [show ctO K seed m s w = fld (ctI K seed w) m 0 s by unfold ctO; rw [h56]; rfl]
        refine m_ct_i hM hs hm (by omega) m 0 s τ' (by omega) (Scr_t hS hS') hG (fun τ2 hS2 => ?_)
        refine Wp.incN (x := w) (len := 3) rfl rfl ?_
        refine Wp.n (pc' := 39) 1 rfl ?_
        exact ih (w + 1) _ τ2 _ (by omega) hS2
        
      · skip
        refine Wp.n (pc' := 103) 1 rfl ?_
        refine Wp.incN (x := w) (len := 3) rfl rfl ?_
        refine Wp.n (pc' := 39) 1 rfl ?_
        rw [show ctO K seed m s w = s by unfold ctO; rw [h56]; rfl]
        exact ih (w + 1) s τ' _ (by omega) (Scr_t hS hS')

def caughtA (K : KD) (x y : Int32) : Int32 := if 0 < kh K 0 ∧ isN 2000000001 x = true ∧ (1 ≤ y.toInt ∧ y.toInt ≤ 20) then nI (fld (ctO K x.toNatClampNeg y.toNatClampNeg) (kh K 4) 0 0) else -2
theorem m_caught (hM : MK σ K) (x y : Int32) : Wp (d + 6) md_259 0 [some (.ref 287), some (.int x), some (.int y), none, none, none] [] (mset M σ) (RI M σ (caughtA K x y)) := by
  have ok := hM.2.1
  have hσ0 := hM.2.2.2
  obtain ⟨b0, b1, b2, b3, b4, b5, b6, b7, b8, b9, b10, b11, b12⟩ := ok_h ok
  unfold caughtA
  refine Wp.n (pc' := 2) 2 rfl ?_
  refine Wp.mput0 (len := 3) rfl hσ0 ?_
  refine Wp.n (pc' := 6) 1 rfl ?_
  refine Wp.ecallV (len := 3) rfl rfl rfl (rfl) rfl (by decide) rfl (m_isKingdom hM.1 ok) ?_
  refine Wp.ifb0 (tgt := 31) (len := 3) rfl (fun h9 => ?_) (fun h9 => ?_)
  · skip
    refine Wp.n (pc' := 33) 1 rfl ?_
    refine Wp.retI (len := 1) rfl rfl ?_
    first
      | (rw [if_neg (fun q => of_decide_eq_false h9 q.1)]; exact RI_r rfl)
      | (rw [if_neg (fun q => by rw [h16] at q; exact absurd q.2.1 (by decide))]; exact RI_r rfl)
      | (rw [if_neg (fun q => of_decide_eq_false h28 q.2.2)]; exact RI_r rfl)
  · skip
    refine Wp.n (pc' := 13) 1 rfl ?_
    refine Wp.ecallS (len := 3) rfl rfl rfl rfl (m_isSeedN _) ?_
    refine Wp.ifb0 (tgt := 31) (len := 3) rfl (fun h16 => ?_) (fun h16 => ?_)
    · skip
      refine Wp.n (pc' := 33) 1 rfl ?_
      refine Wp.retI (len := 1) rfl rfl ?_
      first
        | (rw [if_neg (fun q => of_decide_eq_false h9 q.1)]; exact RI_r rfl)
        | (rw [if_neg (fun q => by rw [h16] at q; exact absurd q.2.1 (by decide))]; exact RI_r rfl)
        | (rw [if_neg (fun q => of_decide_eq_false h28 q.2.2)]; exact RI_r rfl)
    · skip
      refine Wp.n (pc' := 25) 4 rfl ?_
      refine Wp.ecallS (len := 3) rfl rfl rfl rfl (m_in _ _ _) ?_
      refine Wp.ifb1 (tgt := 34) (len := 3) rfl (fun h28 => ?_) (fun h28 => ?_)
      · rw [il_toInt] at h28
        have hy := of_decide_eq_true h28
        obtain ⟨v, hv, rfl⟩ := isN_of h16
        obtain ⟨m, hm, rfl⟩ := nI_of (x := y) (by rw [i_lt]; intro q; have q' : y.toInt < 0 := q; have : (1 : Int) ≤ y.toInt := hy.1; omega)
        rw [if_pos ⟨of_decide_eq_true h9, h16, hy⟩, nI_clamp (by omega), nI_clamp hm]
        have hm20 : m ≤ 20 := by
          have := hy.2
          rw [nI_toInt hm] at this
          have : (m : Int) ≤ 20 := this
          omega
        refine Wp.n (pc' := 39) 4 rfl ?_
        exact m_ct_o hM hv hm20 (kh K 4) 0 0 σ none (by omega) Scr_r
      · rw [il_toInt] at h28
        refine Wp.n (pc' := 33) 1 rfl ?_
        refine Wp.retI (len := 1) rfl rfl ?_
        first
          | (rw [if_neg (fun q => of_decide_eq_false h9 q.1)]; exact RI_r rfl)
          | (rw [if_neg (fun q => by rw [h16] at q; exact absurd q.2.1 (by decide))]; exact RI_r rfl)
          | (rw [if_neg (fun q => of_decide_eq_false h28 q.2.2)]; exact RI_r rfl)

end CHANCE
