/-! WHAT IS THOUGHT OF: a new lane, a bent road, another law; the reference. -/
def laneK (K : KD) (a b n e : Nat) : KD := (fun i => if i = 11 then 1 else kh K i, kr K, fun i => if i = 8 then (fun j => if j = 0 then a else if j = 1 then b else if j = 2 then n else if j = 4 then e else 0) else kl K i, kw K)
def bentK (K : KD) (k n : Nat) : KD := (kh K, fun i => if i = k then (fun j => if j = 2 then kr K k 2 + n else kr K k j) else kr K i, kl K, kw K)
def lawsK (K : KD) (r f : Nat) : KD := (fun i => if i = 6 then r else if i = 7 then f else kh K i, kr K, kl K, kw K)
theorem laneK_ok {K : KD} (ok : KOK K) {a b n e : Nat} (ha : a < kh K 0) (hb : b < kh K 0) (hab : a ≠ b) (h1 : 1 ≤ n) (h2 : n ≤ 99) (he : e ≤ 30) : KOK (laneK K a b n e) := by
  obtain ⟨c0, c1, c2, c3, c4, c5, c6, c7, c8, c9, c10, c11, c12, c13, c14, c15, c16, c17⟩ := id ok
  refine ⟨c0, c1, c2, c3, c4, c5, c6, c7, c8, c9, c10, Nat.le_refl 1, c12, c13, c14, fun i hi => ?_, c16, c17⟩
  by_cases e8 : i = 8
  · subst e8
    exact ⟨ha, hb, hab, h1, h2, Nat.zero_le _, he, Nat.zero_le _, Nat.zero_le _⟩
  · have hk : kl (laneK K a b n e) i = kl K i := if_neg e8
    rw [hk]
    refine c15 i (Or.inl ?_)
    rcases hi with q | q
    · exact q
    · exact absurd q.1 e8
theorem bentK_ok {K : KD} (ok : KOK K) {k n : Nat} (hk : k < kh K 2) (h30 : ∀ i, i < kh K 2 → kr K i 2 ≤ 30) (h2 : n ≤ 99) : KOK (bentK K k n) := by
  obtain ⟨c0, c1, c2, c3, c4, c5, c6, c7, c8, c9, c10, c11, c12, c13, c14, c15, c16, c17⟩ := id ok
  have e : ∀ i j, j ≠ 2 → kr (bentK K k n) i j = kr K i j := fun i j hj => by
    show (if i = k then (fun j => if j = 2 then kr K k 2 + n else kr K k j) else kr K i) j = kr K i j
    by_cases c : i = k
    · rw [if_pos c, c]
      exact if_neg hj
    · rw [if_neg c]
  have e2 : ∀ i, i < kh K 2 → 1 ≤ kr (bentK K k n) i 2 ∧ kr (bentK K k n) i 2 ≤ 129 := fun i hi => by
    show 1 ≤ (if i = k then (fun j => if j = 2 then kr K k 2 + n else kr K k j) else kr K i) 2 ∧ (if i = k then (fun j => if j = 2 then kr K k 2 + n else kr K k j) else kr K i) 2 ≤ 129
    have h3 := h30 i hi
    have h4 := (c14 i hi).2.2.2.1
    by_cases c : i = k
    · rw [if_pos c]
      show 1 ≤ kr K k 2 + n ∧ kr K k 2 + n ≤ 129
      rw [c] at h3 h4
      omega
    · rw [if_neg c]
      omega
  refine ⟨c0, c1, c2, c3, c4, c5, c6, c7, c8, c9, c10, c11, c12, c13, fun i hi => ?_, c15, c16, fun i j hi hj hb => ?_⟩
  · obtain ⟨p1, p2⟩ := e2 i hi
    obtain ⟨q1, q2, q3, q4, q5⟩ := c14 i hi
    rw [e i 0 (by decide), e i 1 (by decide)]
    exact ⟨q1, q2, q3, p1, p2⟩
  · rw [e i 0 (by decide), e i 1 (by decide), e j 0 (by decide), e j 1 (by decide)] at hb
    exact c17 i j hi hj hb
theorem lawsK_ok {K : KD} (ok : KOK K) {r f : Nat} (hr : r ≤ 99) (hf : f ≤ 99) : KOK (lawsK K r f) := by
  obtain ⟨c0, c1, c2, c3, c4, c5, c6, c7, c8, c9, c10, c11, c12, c13, c14, c15, c16, c17⟩ := id ok
  exact ⟨c0, c1, c2, c3, c4, c5, hr, hf, c8, c9, c10, c11, c12, c13, c14, c15, c16, c17⟩
/-- scratch, and the lane that is thought of -/
def Scl (σ σ' : MS) : Prop := ∃ g, (∀ q, q < 56 ∨ 63 ≤ q → g q = σ.2.2.1 10 q) ∧ Scr (aset σ 10 g) σ'
section SCL
variable {M : AM} {σ σ' σ'' : MS} {K : KD}
theorem Scl_of (h : Scr σ σ') : Scl σ σ' := ⟨σ.2.2.1 10, fun _ _ => rfl, by rw [aset_same]; exact h⟩
theorem Scl_r : Scl σ σ := Scl_of Scr_r
theorem Scl_t (h : Scl σ σ') (h' : Scl σ' σ'') : Scl σ σ'' := by
  obtain ⟨g, hg, hs⟩ := h
  obtain ⟨g', hg', hs'⟩ := h'
  have e : σ'.2.2.1 10 = g := (hs.2.1 10 rfl).trans aset_get
  refine ⟨g', fun q hq => (hg' q hq).trans (by rw [e]; exact hg q hq), ?_⟩
  refine Scr_t (σ' := aset σ' 10 g') ⟨hs.1, fun k hk => ?_, hs.2.2.1, hs.2.2.2⟩ hs'
  by_cases c : k = 10
  · subst c; rw [aset_get, aset_get]
  · show va_up σ'.2.2.1 10 g' k = va_up σ.2.2.1 10 g' k
    rw [va_up_ne _ _ c, va_up_ne _ _ c]
    exact (hs.2.1 k hk).trans (va_up_ne _ _ c)
theorem RepM_scl {s : Nat} (h : RepM σ s K) (h11 : s = 0 → kh K 11 = 0) (h3 : kh K 3 ≤ 8) (e : Scl σ σ') : RepM σ' s K := by
  obtain ⟨g, hg, hs⟩ := e
  refine RepM_scr (σ := aset σ 10 g) ?_ hs
  refine ⟨h.1, h.2.1, h.2.2.1, h.2.2.2.1, h.2.2.2.2.1, fun i hi j hj => ?_, h.2.2.2.2.2.2⟩
  rw [← h.2.2.2.2.2.1 i hi j hj, aset_get]
  refine hg _ ?_
  by_cases c : s = 0
  · have := h11 c
    subst c
    omega
  · omega
theorem MK_scl (h : MK σ K) (h11 : kh K 11 = 0) (e : Scl σ σ') : MK σ' K := by
  refine ⟨RepM_scl h.1 (fun _ => h11) (ok_h h.2.1).2.2.2.1 e, h.2.1, ?_, ?_⟩
  · obtain ⟨g, hg, hs⟩ := e
    exact (hs.1 25 rfl).trans h.2.2.1
  · obtain ⟨g, hg, hs⟩ := e
    exact (hs.1 0 rfl).trans h.2.2.2
theorem Scr_25 {x y : Int32} (h : Scr (fset σ 25 x) σ') (e : σ.1 25 = y) : Scr σ (fset σ' 25 y) := by
  refine ⟨fun j hj => ?_, h.2.1, h.2.2.1, h.2.2.2⟩
  show upd σ'.1 25 y j = σ.1 j
  by_cases c : j = 25
  · rw [c, pk_us, e]
  · rw [pk_un c, h.1 j hj]
    exact pk_un c
def RI2 (M : AM) (σ : MS) (a : Int32) : Option Value → AM → Prop := fun v M' => v = some (.int a) ∧ ∃ σ', M' = mset M σ' ∧ Scl σ σ'
theorem RI2_s {a b : Int32} (e : Scl σ σ') (h : a = b) : RI2 M σ b (some (.int a)) (mset M σ') := ⟨by rw [h], σ', rfl, e⟩
theorem RI2_of {a : Int32} {v : Option Value} {M' : AM} (h : RI M σ a v M') : RI2 M σ a v M' := by
  obtain ⟨h1, σ', h2, h3⟩ := h
  exact ⟨h1, σ', h2, Scl_of h3⟩
theorem laneK_rep (h : RepM σ 0 K) {a b n e : Nat} {g : Nat → Int32} (h3 : kh K 3 ≤ 8) (hg : ∀ q, q < 56 ∨ 63 ≤ q → g q = σ.2.2.1 10 q) (g0 : g 56 = nI a) (g1 : g 57 = nI b) (g2 : g 58 = nI n) (g3 : g 59 = 0) (g4 : g 60 = nI e) (g5 : g 61 = 0) (g6 : g 62 = 0) {x : Int32} : RepM (fset (aset σ 10 g) 25 x) 0 (laneK K a b n e) := by
  refine ⟨fun j hj => ?_, fun h0 j hj => ?_, h.2.2.1, h.2.2.2.1, h.2.2.2.2.1, fun i hi j hj => ?_, h.2.2.2.2.2.2⟩
  · rw [show kh (laneK K a b n e) j = kh K j from if_neg (by omega)]
    exact h.1 j hj
  · rw [show kh (laneK K a b n e) (6 + j) = kh K (6 + j) from if_neg (by omega)]
    exact h.2.1 h0 j hj
  · show (aset σ 10 g).2.2.1 10 (63 * 0 + 7 * i + j) = _
    rw [aset_get]
    by_cases c : i = 8
    · subst c
      match j, hj with
      | 0, _ => exact g0
      | 1, _ => exact g1
      | 2, _ => exact g2
      | 3, _ => exact g3
      | 4, _ => exact g4
      | 5, _ => exact g5
      | 6, _ => exact g6
    · rw [show kl (laneK K a b n e) i = kl K i from if_neg c]
      have hi' : i < kh K 3 := by
        rcases hi with q | q
        · exact q
        · exact absurd q.1 c
      rw [hg _ (by omega)]
      exact h.2.2.2.2.2.1 i (Or.inl hi') j hj
theorem shareK_b (ok : KOK K) {k w : Nat} (hw : w < kh K 4) : shareK K k w ≤ 766260 := by
  have tw := ok_walk ok hw
  have p0 := tw.2.2.2.2.2.2.1 0 (by omega)
  have p1 := tw.2.2.2.2.2.2.1 (kw K w 3 - 1) (by omega)
  rw [show 4 + (kw K w 3 - 1) = 3 + kw K w 3 by omega] at p1
  obtain ⟨hf1, hf2, hf3⟩ := fin_i ok (aim := 2) (y := kw K w 2) (load := kw K w 1) (dn := 0) p0 p1 (by omega)
  unfold shareK
  by_cases c : (finW K w).1 = 0
  · rw [if_pos c]
    split <;> omega
  · rw [if_neg c]
    obtain ⟨hc1, hc2, dq, pq, he, hdq, hp1, hp7, hpb⟩ := hf3 (by decide) (Nat.pos_of_ne_zero c)
    have eD : bD (finW K w) = dq := by unfold bD; rw [show (finW K w).2.2.2.2 = some (dq, pq) from he]
    split
    · omega
    · split
      · exact hc1
      · split
        · exact Nat.le_trans hc2 (by decide)
        · omega
theorem sum_b {f : Nat → Nat} {B : Nat} : ∀ (n i s : Nat), (∀ j, i ≤ j → j < i + n → f j ≤ B) → fld (fun s w => s + f w) n i s ≤ s + n * B
  | 0, _, _, _ => by show _ ≤ _; rw [Nat.zero_mul]; exact Nat.le_refl _
  | n + 1, i, s, h => by
    have := sum_b n (i + 1) (s + f i) (fun j h1 h2 => h j (by omega) (by omega))
    have h0 := h i (Nat.le_refl _) (by omega)
    show fld (fun s w => s + f w) n (i + 1) (s + f i) ≤ _
    rw [Nat.add_mul]
    omega
theorem allK_b (ok : KOK K) {k : Nat} : allK K k ≤ 7662600 := by
  have h := sum_b (f := shareK K k) (B := 766260) (kh K 4) 0 0 (fun j _ h2 => shareK_b ok (by omega))
  have b4 := (ok_h ok).2.2.2.2.1
  have := Nat.mul_le_mul_right 766260 b4
  unfold allK
  omega
end SCL
section THINK
variable {d : Nat} {M : AM} {σ σ' : MS} {K : KD} {Q : Option Value → AM → Prop}
theorem m_thinks {a b m : Nat} : Wp d md_240 0 [some (.ref 287), some (.int (nI a)), some (.int (nI b)), some (.int (nI m)), none] [] (mset M σ) (fun v M' => v = none ∧ ∃ g, M' = mset M (fset (aset σ 10 g) 25 1) ∧ (∀ q, q < 56 ∨ 63 ≤ q → g q = σ.2.2.1 10 q) ∧ g 56 = nI a ∧ g 57 = nI b ∧ g 58 = nI m ∧ g 59 = 0 ∧ g 60 = nI 30 ∧ g 61 = 0 ∧ g 62 = 0) := by
  refine Wp.n (pc' := 11) 6 rfl ?_
  refine Wp.miastN (j := 56) (len := 1) rfl rfl rfl (by omega) ?_
  refine Wp.n (pc' := 19) 4 rfl ?_
  refine Wp.iaddN (x := 56) (y := 1) (len := 1) rfl ?_
  refine Wp.n (pc' := 21) 1 rfl ?_
  refine Wp.miastN (j := 56 + 1) (len := 1) rfl rfl rfl (by omega) ?_
  refine Wp.n (pc' := 29) 4 rfl ?_
  refine Wp.iaddN (x := 56) (y := 2) (len := 1) rfl ?_
  refine Wp.n (pc' := 31) 1 rfl ?_
  refine Wp.miastN (j := 56 + 2) (len := 1) rfl rfl rfl (by omega) ?_
  refine Wp.n (pc' := 39) 4 rfl ?_
  refine Wp.iaddN (x := 56) (y := 3) (len := 1) rfl ?_
  refine Wp.n (pc' := 41) 1 rfl ?_
  refine Wp.miastN (j := 56 + 3) (len := 1) rfl rfl rfl (by omega) ?_
  refine Wp.n (pc' := 49) 4 rfl ?_
  refine Wp.iaddN (x := 56) (y := 4) (len := 1) rfl ?_
  refine Wp.n (pc' := 52) 1 rfl ?_
  refine Wp.miastN (j := 56 + 4) (len := 1) rfl rfl rfl (by omega) ?_
  refine Wp.n (pc' := 60) 4 rfl ?_
  refine Wp.iaddN (x := 56) (y := 5) (len := 1) rfl ?_
  refine Wp.n (pc' := 62) 1 rfl ?_
  refine Wp.miastN (j := 56 + 5) (len := 1) rfl rfl rfl (by omega) ?_
  refine Wp.n (pc' := 71) 4 rfl ?_
  refine Wp.iaddN (x := 56) (y := 6) (len := 1) rfl ?_
  refine Wp.n (pc' := 73) 1 rfl ?_
  refine Wp.miastN (j := 56 + 6) (len := 1) rfl rfl rfl (by omega) ?_
  refine Wp.n (pc' := 76) 2 rfl ?_
  refine Wp.mputZ (len := 3) rfl rfl rfl ?_
  refine Wp.retV (len := 1) rfl rfl ?_
  refine ⟨rfl, upd (upd (upd (upd (upd (upd (upd (σ.2.2.1 10) 56 (nI a)) 57 (nI b)) 58 (nI m)) 59 0) 60 30) 61 0) 62 0, ?_, fun q hq => ?_, rfl, rfl, rfl, rfl, rfl, rfl, rfl⟩
  · simp only [aset_get, aset_aset]
  · rw [pk_un (by omega), pk_un (by omega), pk_un (by omega), pk_un (by omega), pk_un (by omega), pk_un (by omega), pk_un (by omega)]

theorem m_allWith (hM : MK σ K) (h11 : kh K 11 = 0) {a b m k : Nat} (ha : a < kh K 0) (hb : b < kh K 0) (hab : a ≠ b) (h1 : 1 ≤ m) (h2 : m ≤ 99) (hk : k < 4) : Wp (d + 15) md_239 0 [some (.ref 287), some (.int (nI a)), some (.int (nI b)), some (.int (nI m)), some (.int (nI k)), none] [] (mset M σ) (RI2 M σ (nI (allK (laneK K a b m 30) k))) := by
  have ok := hM.2.1
  have hσ0 := hM.2.2.2
  obtain ⟨b0, b1, b2, b3, b4, b5, b6, b7, b8, b9, b10, b11, b12⟩ := ok_h ok
  refine Wp.n (pc' := 4) 4 rfl ?_
  refine Wp.callV (len := 3) rfl rfl rfl (rfl) rfl (by decide) rfl (m_thinks (d := d + 14) (M := M) (σ := σ) (a := a) (b := b) (m := m)) ?_
  rintro _ _ ⟨rfl, g, rfl, hg, g0, g1, g2, g3, g4, g5, g6⟩
  have hM2 : MK (fset (aset σ 10 g) 25 1) (laneK K a b m 30) := ⟨laneK_rep hM.1 b3 hg g0 g1 g2 g3 g4 g5 g6, laneK_ok ok ha hb hab h1 h2 (Nat.le_refl _), rfl, hσ0⟩
  refine Wp.n (pc' := 10) 2 rfl ?_
  refine Wp.callV (len := 3) rfl rfl rfl (rfl) rfl (by decide) rfl (m_allOf hM2 hk) ?_
  rintro _ _ ⟨rfl, τ, rfl, hS⟩
  refine Wp.n (pc' := 17) 3 rfl ?_
  refine Wp.mputZ (len := 3) rfl rfl rfl ?_
  refine Wp.n (pc' := 22) 1 rfl ?_
  refine Wp.retI (len := 1) rfl rfl ?_
  exact RI2_s ⟨g, hg, Scr_25 hS (show σ.1 25 = 0 from by rw [hM.2.2.1, h11]; rfl)⟩ rfl

def laneA (K : KD) (x y m k : Int32) : Int32 := if areT K x y = true ∧ isR 1 99 m = true ∧ isN 4 k = true then nI (allK (laneK K x.toNatClampNeg y.toNatClampNeg m.toNatClampNeg 30) k.toNatClampNeg) - nI (allK K k.toNatClampNeg) else -2000000
theorem m_lane (hM : MK σ K) (h11 : kh K 11 = 0) (x y m k : Int32) : Wp (d + 16) md_237 0 [some (.ref 287), some (.int x), some (.int y), some (.int m), some (.int k)] [] (mset M σ) (RI2 M σ (laneA K x y m k)) := by
  have ok := hM.2.1
  have hσ0 := hM.2.2.2
  obtain ⟨b0, b1, b2, b3, b4, b5, b6, b7, b8, b9, b10, b11, b12⟩ := ok_h ok
  unfold laneA
  refine Wp.n (pc' := 2) 2 rfl ?_
  refine Wp.mput0 (len := 3) rfl hσ0 ?_
  refine Wp.n (pc' := 8) 3 rfl ?_
  refine Wp.ecallV (len := 3) rfl rfl rfl (rfl) rfl (by decide) rfl (m_areTwo hM.1 ok _ _) ?_
  refine Wp.ifb0 (tgt := 53) (len := 3) rfl (fun h11_ => ?_) (fun h11_ => ?_)
  · skip
    refine Wp.n (pc' := 56) 1 rfl ?_
    refine Wp.retI (len := 1) rfl rfl ?_
    first
      | exact RI2_s (Scl_t hS (Scl_of hS2)) rfl
      | (rw [if_neg (fun q => by rw [h11_] at q; exact absurd q.1 (by decide))]; exact RI2_s Scl_r rfl)
      | (rw [if_neg (fun q => by rw [show isR 1 99 m = false from h18] at q; exact absurd q.2.1 (by decide))]; exact RI2_s Scl_r rfl)
      | (rw [if_neg (fun q => by rw [h31] at q; exact absurd q.2.2 (by decide))]; exact RI2_s Scl_r rfl)
  · skip
    refine Wp.n (pc' := 15) 1 rfl ?_
    refine Wp.ecallS (len := 3) rfl rfl rfl rfl (m_isMore _) ?_
    refine Wp.ifb0 (tgt := 53) (len := 3) rfl (fun h18 => ?_) (fun h18 => ?_)
    · skip
      refine Wp.n (pc' := 56) 1 rfl ?_
      refine Wp.retI (len := 1) rfl rfl ?_
      first
        | exact RI2_s (Scl_t hS (Scl_of hS2)) rfl
        | (rw [if_neg (fun q => by rw [h11_] at q; exact absurd q.1 (by decide))]; exact RI2_s Scl_r rfl)
        | (rw [if_neg (fun q => by rw [show isR 1 99 m = false from h18] at q; exact absurd q.2.1 (by decide))]; exact RI2_s Scl_r rfl)
        | (rw [if_neg (fun q => by rw [h31] at q; exact absurd q.2.2 (by decide))]; exact RI2_s Scl_r rfl)
    · skip
      refine Wp.n (pc' := 28) 4 rfl ?_
      refine Wp.ecallS (len := 3) rfl rfl rfl rfl (m_in _ _ _) ?_
      refine Wp.ifb0 (tgt := 53) (len := 3) rfl (fun h31 => ?_) (fun h31 => ?_)
      · rw [in_isN (k := 4) (by decide)] at h31
        refine Wp.n (pc' := 56) 1 rfl ?_
        refine Wp.retI (len := 1) rfl rfl ?_
        first
          | exact RI2_s (Scl_t hS (Scl_of hS2)) rfl
          | (rw [if_neg (fun q => by rw [h11_] at q; exact absurd q.1 (by decide))]; exact RI2_s Scl_r rfl)
          | (rw [if_neg (fun q => by rw [show isR 1 99 m = false from h18] at q; exact absurd q.2.1 (by decide))]; exact RI2_s Scl_r rfl)
          | (rw [if_neg (fun q => by rw [h31] at q; exact absurd q.2.2 (by decide))]; exact RI2_s Scl_r rfl)
      · rw [in_isN (k := 4) (by decide)] at h31
        obtain ⟨a, t, ha, ht, hat, rfl, rfl⟩ := areT_of h11_
        obtain ⟨m, hm1, hm9, hm, rfl⟩ := isR_of (lo := 1) (hi := 99) h18
        obtain ⟨k, hk, rfl⟩ := isN_of h31
        rw [if_pos ⟨h11_, h18, h31⟩, nI_clamp (by omega), nI_clamp (by omega), nI_clamp hm, nI_clamp (by omega)]
        refine Wp.n (pc' := 40) 5 rfl ?_
        refine Wp.callV (len := 3) rfl rfl rfl (rfl) rfl (by decide) rfl (m_allWith hM h11 ha ht hat hm1 hm9 hk) ?_
        rintro _ _ ⟨rfl, τ, rfl, hS⟩
        refine Wp.n (pc' := 46) 2 rfl ?_
        refine Wp.callV (len := 3) rfl rfl rfl (rfl) rfl (by decide) rfl (m_allOf (MK_scl hM h11 hS) hk) ?_
        rintro _ _ ⟨rfl, τ2, rfl, hS2⟩
        refine Wp.n (pc' := 56) 2 rfl ?_
        refine Wp.retI (len := 1) rfl rfl ?_
        first
          | exact RI2_s (Scl_t hS (Scl_of hS2)) rfl
          | (rw [if_neg (fun q => by rw [h11_] at q; exact absurd q.1 (by decide))]; exact RI2_s Scl_r rfl)
          | (rw [if_neg (fun q => by rw [show isR 1 99 m = false from h18] at q; exact absurd q.2.1 (by decide))]; exact RI2_s Scl_r rfl)
          | (rw [if_neg (fun q => by rw [h31] at q; exact absurd q.2.2 (by decide))]; exact RI2_s Scl_r rfl)

/-- the search for the best new lane -/
def hst (K : KD) (m a : Nat) (st : Nat × Option Nat) (b : Nat) : Nat × Option Nat := if allK (laneK K a b m 30) 1 < st.1 then (allK (laneK K a b m 30) 1, some (10 * a + b)) else st
def hstA (K : KD) (m : Nat) (st : Nat × Option Nat) (a : Nat) : Nat × Option Nat := fld (hst K m a) (kh K 0 - (a + 1)) (a + 1) st
def helpK (K : KD) (m : Nat) : Option Nat := (fld (hstA K m) (kh K 0) 0 (allK K 1, none)).2
def helpA (K : KD) (x : Int32) : Int32 := if 0 < kh K 0 ∧ isR 1 99 x = true then oI (helpK K x.toNatClampNeg) else -2
theorem hst_b {m a b : Nat} {st : Nat × Option Nat} (h : st.1 ≤ 7662600) : (hst K m a st b).1 ≤ 7662600 := by
  unfold hst
  split
  · rename_i q
    show allK _ 1 ≤ _
    omega
  · exact h
theorem m_help_b (hM : MK σ K) (h11 : kh K 11 = 0) {m a : Nat} (h1 : 1 ≤ m) (h2 : m ≤ 99) (ha : a < kh K 0) : ∀ (n b : Nat) (st : Nat × Option Nat) (τ : MS) (z6 : Option Value), b + n = kh K 0 → a < b → Scl σ τ → st.1 ≤ 7662600 → (∀ τ' z6' st', st' = fld (hst K m a) n b st → st'.1 ≤ 7662600 → Scl σ τ' → Wp (d + 16) md_241 100 [some (.ref 287), some (.int (nI m)), some (.int (nI (st'.1))), some (.int (oI st'.2)), some (.int (nI a)), some (.int (nI (kh K 0))), z6'] [] (mset M τ') Q) → Wp (d + 16) md_241 50 [some (.ref 287), some (.int (nI m)), some (.int (nI (st.1))), some (.int (oI st.2)), some (.int (nI a)), some (.int (nI b)), z6] [] (mset M τ) Q := by
  have ok := hM.2.1
  have hσ0 := hM.2.2.2
  obtain ⟨b0, b1, b2, b3, b4, b5, b6, b7, b8, b9, b10, b11, b12⟩ := ok_h ok
  intro n
  induction n with
  | zero =>
    intro b st τ z6 hb hab hS hs7 kk
    have hK := MK_scl hM h11 hS
    refine Wp.n (pc' := 57) 4 rfl ?_
    refine Wp.mialdN (j := 0) (len := 1) rfl rfl rfl (by omega) ?_
    refine Wp.top (r0_has hK.1 (by decide)) ?_
    refine Wp.nc3 (x := b) (y := kh K 0) (tgt := 100) (len := 3) rfl (by omega) (by omega) (fun h58 => ?_) (fun h58 => ?_)
    · skip
      rw [show b = kh K 0 by omega]
      exact kk τ _ st rfl hs7 hS
    · omega
  | succ n ih =>
    intro b st τ z6 hb hab hS hs7 kk
    have hK := MK_scl hM h11 hS
    have hab2 := allK_b (K := laneK K a b m 30) (k := 1) (laneK_ok ok ha (by omega) (by omega) h1 h2 (Nat.le_refl _))
    have hb2 := hst_b (K := K) (m := m) (a := a) (b := b) hs7
    refine Wp.n (pc' := 57) 4 rfl ?_
    refine Wp.mialdN (j := 0) (len := 1) rfl rfl rfl (by omega) ?_
    refine Wp.top (r0_has hK.1 (by decide)) ?_
    refine Wp.nc3 (x := b) (y := kh K 0) (tgt := 100) (len := 3) rfl (by omega) (by omega) (fun h58 => ?_) (fun h58 => ?_)
    · omega
    · skip
      refine Wp.n (pc' := 68) 5 rfl ?_
      refine Wp.callV (len := 3) rfl rfl rfl (rfl) rfl (by decide) rfl (m_allWith hK h11 ha (by omega) (by omega) h1 h2 (by decide)) ?_
      rintro _ _ ⟨rfl, τ2, rfl, hS2⟩
      refine Wp.n (pc' := 76) 3 rfl ?_
      refine Wp.nc2 (x := allK (laneK K a b m 30) 1) (y := st.1) (tgt := 82) (len := 3) rfl (by omega) (by omega) (fun h76 => ?_) (fun h76 => ?_)
      · skip
        refine Wp.n (pc' := 89) 4 rfl ?_
        refine Wp.imulN (x := 10) (y := a) (len := 1) rfl ?_
        refine Wp.n (pc' := 92) 1 rfl ?_
        refine Wp.iaddN (x := 10 * a) (y := b) (len := 1) rfl ?_
        refine Wp.n (pc' := 94) 1 rfl ?_
        refine Wp.incN (x := b) (len := 3) rfl rfl ?_
        refine Wp.n (pc' := 50) 1 rfl ?_
        have ihh := ih (b + 1) (hst K m a st b) τ2
        first
          | (have e : hst K m a st b = (allK (laneK K a b m 30) 1, some (10 * a + b)) := if_pos (by omega)
             rw [e] at ihh
             exact ihh _ (by omega) (by omega) (Scl_t hS hS2) hab2 (fun τ3 z3 st3 e3 => kk τ3 z3 st3 (by rw [e3, ← e]; rfl)))
          | (have e : hst K m a st b = st := if_neg (by omega)
             rw [e] at ihh
             exact ihh _ (by omega) (by omega) (Scl_t hS hS2) hs7 (fun τ3 z3 st3 e3 => kk τ3 z3 st3 (e3.trans (congrArg (fld (hst K m a) n (b + 1)) e.symm))))
      · skip
        refine Wp.n (pc' := 94) 1 rfl ?_
        refine Wp.incN (x := b) (len := 3) rfl rfl ?_
        refine Wp.n (pc' := 50) 1 rfl ?_
        have ihh := ih (b + 1) (hst K m a st b) τ2
        first
          | (have e : hst K m a st b = (allK (laneK K a b m 30) 1, some (10 * a + b)) := if_pos (by omega)
             rw [e] at ihh
             exact ihh _ (by omega) (by omega) (Scl_t hS hS2) hab2 (fun τ3 z3 st3 e3 => kk τ3 z3 st3 (by rw [e3, ← e]; rfl)))
          | (have e : hst K m a st b = st := if_neg (by omega)
             rw [e] at ihh
             exact ihh _ (by omega) (by omega) (Scl_t hS hS2) hs7 (fun τ3 z3 st3 e3 => kk τ3 z3 st3 (e3.trans (congrArg (fld (hst K m a) n (b + 1)) e.symm))))

theorem m_help_a (hM : MK σ K) (h11 : kh K 11 = 0) {m : Nat} (h1 : 1 ≤ m) (h2 : m ≤ 99) : ∀ (n a : Nat) (st : Nat × Option Nat) (τ : MS) (z5 z6 : Option Value), a + n = kh K 0 → Scl σ τ → st.1 ≤ 7662600 → Wp (d + 16) md_241 33 [some (.ref 287), some (.int (nI m)), some (.int (nI (st.1))), some (.int (oI st.2)), some (.int (nI a)), z5, z6] [] (mset M τ) (RI2 M σ (oI (fld (hstA K m) n a st).2)) := by
  have ok := hM.2.1
  have hσ0 := hM.2.2.2
  obtain ⟨b0, b1, b2, b3, b4, b5, b6, b7, b8, b9, b10, b11, b12⟩ := ok_h ok
  intro n
  induction n with
  | zero =>
    intro a st τ z5 z6 ha hS hs7
    have hK := MK_scl hM h11 hS
    refine Wp.n (pc' := 40) 4 rfl ?_
    refine Wp.mialdN (j := 0) (len := 1) rfl rfl rfl (by omega) ?_
    refine Wp.top (r0_has hK.1 (by decide)) ?_
    refine Wp.nc3 (x := a) (y := kh K 0) (tgt := 106) (len := 3) rfl (by omega) (by omega) (fun h41 => ?_) (fun h41 => ?_)
    · skip
      refine Wp.n (pc' := 107) 1 rfl ?_
      refine Wp.retI (len := 1) rfl rfl ?_
      exact RI2_s hS rfl
    · omega
  | succ n ih =>
    intro a st τ z5 z6 ha hS hs7
    have hK := MK_scl hM h11 hS
    refine Wp.n (pc' := 40) 4 rfl ?_
    refine Wp.mialdN (j := 0) (len := 1) rfl rfl rfl (by omega) ?_
    refine Wp.top (r0_has hK.1 (by decide)) ?_
    refine Wp.nc3 (x := a) (y := kh K 0) (tgt := 106) (len := 3) rfl (by omega) (by omega) (fun h41 => ?_) (fun h41 => ?_)
    · omega
    · skip
      refine Wp.n (pc' := 47) 2 rfl ?_
      refine Wp.iaddN (x := a) (y := 1) (len := 1) rfl ?_
      refine Wp.n (pc' := 50) 1 rfl ?_
      refine m_help_b hM h11 h1 h2 (by omega) (kh K 0 - (a + 1)) (a + 1) st τ _ (by omega) (by omega) hS hs7 (fun τ2 z2 st2 e2 hs2 hS2 => ?_)
      refine Wp.incN (x := a) (len := 3) rfl rfl ?_
      refine Wp.n (pc' := 33) 1 rfl ?_
      subst e2
      exact ih (a + 1) _ τ2 _ _ (by omega) hS2 hs2
      

theorem m_help (hM : MK σ K) (h11 : kh K 11 = 0) (x : Int32) : Wp (d + 16) md_241 0 [some (.ref 287), some (.int x), none, none, none, none, none] [] (mset M σ) (RI2 M σ (helpA K x)) := by
  have ok := hM.2.1
  have hσ0 := hM.2.2.2
  obtain ⟨b0, b1, b2, b3, b4, b5, b6, b7, b8, b9, b10, b11, b12⟩ := ok_h ok
  unfold helpA
  refine Wp.n (pc' := 2) 2 rfl ?_
  refine Wp.mput0 (len := 3) rfl hσ0 ?_
  refine Wp.n (pc' := 6) 1 rfl ?_
  refine Wp.ecallV (len := 3) rfl rfl rfl (rfl) rfl (by decide) rfl (m_isKingdom hM.1 ok) ?_
  refine Wp.ifb0 (tgt := 19) (len := 3) rfl (fun h9 => ?_) (fun h9 => ?_)
  · skip
    refine Wp.n (pc' := 21) 1 rfl ?_
    refine Wp.retI (len := 1) rfl rfl ?_
    first
      | (rw [if_neg (fun q => of_decide_eq_false h9 q.1)]; exact RI2_s Scl_r rfl)
      | (rw [if_neg (fun q => by rw [show isR 1 99 x = false from h16] at q; exact absurd q.2 (by decide))]; exact RI2_s Scl_r rfl)
  · skip
    refine Wp.n (pc' := 13) 1 rfl ?_
    refine Wp.ecallS (len := 3) rfl rfl rfl rfl (m_isMore _) ?_
    refine Wp.ifb1 (tgt := 22) (len := 3) rfl (fun h16 => ?_) (fun h16 => ?_)
    · skip
      obtain ⟨m, hm1, hm9, hm, rfl⟩ := isR_of (lo := 1) (hi := 99) h16
      rw [if_pos ⟨of_decide_eq_true h9, h16⟩, nI_clamp hm]
      refine Wp.n (pc' := 24) 2 rfl ?_
      refine Wp.callV (len := 3) rfl rfl rfl (rfl) rfl (by decide) rfl (m_allOf hM (by decide)) ?_
      rintro _ _ ⟨rfl, τ, rfl, hS⟩
      refine Wp.n (pc' := 33) 5 rfl ?_
      exact m_help_a hM h11 hm1 hm9 (kh K 0) 0 (allK K 1, none) τ _ _ (by omega) (Scl_of hS) (allK_b ok)
    · skip
      refine Wp.n (pc' := 21) 1 rfl ?_
      refine Wp.retI (len := 1) rfl rfl ?_
      first
        | (rw [if_neg (fun q => of_decide_eq_false h9 q.1)]; exact RI2_s Scl_r rfl)
        | (rw [if_neg (fun q => by rw [show isR 1 99 x = false from h16] at q; exact absurd q.2 (by decide))]; exact RI2_s Scl_r rfl)

/-- roads as they were told: none is bent -/
def R30 (K : KD) : Prop := ∀ i, i < kh K 2 → kr K i 2 ≤ 30
theorem bent_rep (h : RepM σ 0 K) {k m : Nat} (h2 : kh K 2 ≤ 12) : RepM (aset σ 9 (upd (σ.2.2.1 9) (3 * k + 2) (nI (kr K k 2 + m)))) 0 (bentK K k m) := by
  refine ⟨h.1, h.2.1, h.2.2.1, h.2.2.2.1, fun i hi j hj => ?_, h.2.2.2.2.2.1, h.2.2.2.2.2.2⟩
  rw [aset_get]
  show upd (σ.2.2.1 9) (3 * k + 2) _ (36 * 0 + 3 * i + j) = nI ((if i = k then (fun j => if j = 2 then kr K k 2 + m else kr K k j) else kr K i) j)
  by_cases c : i = k
  · subst c
    rw [if_pos rfl]
    by_cases c2 : j = 2
    · subst c2
      rw [show 36 * 0 + 3 * i + 2 = 3 * i + 2 by omega, pk_us]
      rfl
    · rw [pk_un (by omega), h.2.2.2.2.1 i hi j hj]
      exact congrArg nI (if_neg c2).symm
  · rw [if_neg c, pk_un (by omega)]
    exact h.2.2.2.2.1 i hi j hj
theorem Scr_9 {g : Nat → Int32} (h : Scr (aset σ 9 g) σ') : Scr σ (aset σ' 9 (σ.2.2.1 9)) := by
  refine ⟨h.1, fun k hk => ?_, h.2.2.1, h.2.2.2⟩
  by_cases c : k = 9
  · subst c; rw [aset_get]
  · show va_up σ'.2.2.1 9 _ k = _
    rw [va_up_ne _ _ c, h.2.1 k hk]
    exact va_up_ne _ _ c
theorem m_allBent (hM : MK σ K) (h30 : R30 K) {k m q : Nat} (hk : k < kh K 2) (h2 : m ≤ 99) (hq : q < 4) : Wp (d + 15) md_243 0 [some (.ref 287), some (.int (nI k)), some (.int (nI m)), some (.int (nI q)), none] [] (mset M σ) (RI M σ (nI (allK (bentK K k m) q))) := by
  have ok := hM.2.1
  have hσ0 := hM.2.2.2
  obtain ⟨b0, b1, b2, b3, b4, b5, b6, b7, b8, b9, b10, b11, b12⟩ := ok_h ok
  have h30k := h30 k hk
  refine Wp.n (pc' := 6) 4 rfl ?_
  refine Wp.imulN (x := 3) (y := k) (len := 1) rfl ?_
  refine Wp.n (pc' := 8) 1 rfl ?_
  refine Wp.iaddN (x := 3 * k) (y := 2) (len := 1) rfl ?_
  refine Wp.n (pc' := 10) 1 rfl ?_
  refine Wp.mialdN (j := (3 * k) + 2) (len := 1) rfl rfl rfl (by omega) ?_
  refine Wp.top (r0_road hM.1 hk (by decide) rfl) ?_
  refine Wp.n (pc' := 12) 1 rfl ?_
  refine Wp.iaddN (x := kr K k 2) (y := m) (len := 1) rfl ?_
  refine Wp.miastN (j := (3 * k) + 2) (len := 1) rfl rfl rfl (by omega) ?_
  refine Wp.n (pc' := 16) 2 rfl ?_
  refine Wp.callV (len := 3) rfl rfl rfl (rfl) rfl (by decide) rfl (m_allOf (σ := aset σ 9 (upd (σ.2.2.1 9) (3 * k + 2) (nI (kr K k 2 + m)))) (K := bentK K k m) ⟨bent_rep hM.1 b2, bentK_ok ok hk h30 h2, hM.2.2.1, hσ0⟩ hq) ?_
  rintro _ _ ⟨rfl, τ, rfl, hS⟩
  refine Wp.n (pc' := 27) 5 rfl ?_
  refine Wp.imulN (x := 3) (y := k) (len := 1) rfl ?_
  refine Wp.n (pc' := 29) 1 rfl ?_
  refine Wp.iaddN (x := 3 * k) (y := 2) (len := 1) rfl ?_
  refine Wp.n (pc' := 31) 1 rfl ?_
  refine Wp.mialdN (j := (3 * k) + 2) (len := 1) rfl rfl rfl (by omega) ?_
  refine Wp.top (show _ = nI (kr K k 2 + m) from by rw [hS.2.1 9 rfl, aset_get, pk_us]) ?_
  refine Wp.n (pc' := 33) 1 rfl ?_
  refine Wp.isubN (x := kr K k 2 + m) (y := m) (len := 1) rfl (by omega) ?_
  refine Wp.miastN (j := (3 * k) + 2) (len := 1) rfl rfl rfl (by omega) ?_
  refine Wp.n (pc' := 37) 1 rfl ?_
  refine Wp.retI (len := 1) rfl rfl ?_
  have e : upd (τ.2.2.1 9) (3 * k + 2) (nI (kr K k 2 + m - m)) = σ.2.2.1 9 := by
    rw [hS.2.1 9 rfl, aset_get, Nat.add_sub_cancel]
    funext j
    by_cases c : j = 3 * k + 2
    · rw [c, pk_us, r0_road hM.1 hk (by decide) rfl]
    · rw [pk_un c, pk_un c]
  exact RI_s (by rw [e]; exact Scr_9 hS) rfl

def bendA (K : KD) (x m k : Int32) : Int32 := if isN (kh K 2) x = true ∧ isR 1 99 m = true ∧ isN 4 k = true then nI (allK (bentK K x.toNatClampNeg m.toNatClampNeg) k.toNatClampNeg) - nI (allK K k.toNatClampNeg) else -2000000
theorem m_bend (hM : MK σ K) (h30 : R30 K) (x m k : Int32) : Wp (d + 16) md_242 0 [some (.ref 287), some (.int x), some (.int m), some (.int k)] [] (mset M σ) (RI M σ (bendA K x m k)) := by
  have ok := hM.2.1
  have hσ0 := hM.2.2.2
  obtain ⟨b0, b1, b2, b3, b4, b5, b6, b7, b8, b9, b10, b11, b12⟩ := ok_h ok
  unfold bendA
  refine Wp.n (pc' := 2) 2 rfl ?_
  refine Wp.mput0 (len := 3) rfl hσ0 ?_
  refine Wp.n (pc' := 13) 6 rfl ?_
  refine Wp.mialdN (j := 2) (len := 1) rfl rfl rfl (by omega) ?_
  refine Wp.n (pc' := 17) 3 rfl ?_
  refine Wp.ecallS (len := 3) rfl rfl rfl rfl (m_in _ _ _) ?_
  refine Wp.ifb0 (tgt := 58) (len := 3) rfl (fun h20 => ?_) (fun h20 => ?_)
  · rw [show (0 : Int64).toInt = 0 from rfl, il_toInt, il_toInt, isN_le (n := kh K 2) (by omega) (r0_has hM.1 (by decide))] at h20
    refine Wp.n (pc' := 61) 1 rfl ?_
    refine Wp.retI (len := 1) rfl rfl ?_
    first
      | exact RI_s (Scr_t hS hS2) rfl
      | (rw [if_neg (fun q => by rw [h20] at q; exact absurd q.1 (by decide))]; exact RI_r rfl)
      | (rw [if_neg (fun q => by rw [show isR 1 99 m = false from h27] at q; exact absurd q.2.1 (by decide))]; exact RI_r rfl)
      | (rw [if_neg (fun q => by rw [h39] at q; exact absurd q.2.2 (by decide))]; exact RI_r rfl)
  · rw [show (0 : Int64).toInt = 0 from rfl, il_toInt, il_toInt, isN_le (n := kh K 2) (by omega) (r0_has hM.1 (by decide))] at h20
    refine Wp.n (pc' := 24) 1 rfl ?_
    refine Wp.ecallS (len := 3) rfl rfl rfl rfl (m_isMore _) ?_
    refine Wp.ifb0 (tgt := 58) (len := 3) rfl (fun h27 => ?_) (fun h27 => ?_)
    · skip
      refine Wp.n (pc' := 61) 1 rfl ?_
      refine Wp.retI (len := 1) rfl rfl ?_
      first
        | exact RI_s (Scr_t hS hS2) rfl
        | (rw [if_neg (fun q => by rw [h20] at q; exact absurd q.1 (by decide))]; exact RI_r rfl)
        | (rw [if_neg (fun q => by rw [show isR 1 99 m = false from h27] at q; exact absurd q.2.1 (by decide))]; exact RI_r rfl)
        | (rw [if_neg (fun q => by rw [h39] at q; exact absurd q.2.2 (by decide))]; exact RI_r rfl)
    · skip
      refine Wp.n (pc' := 36) 4 rfl ?_
      refine Wp.ecallS (len := 3) rfl rfl rfl rfl (m_in _ _ _) ?_
      refine Wp.ifb0 (tgt := 58) (len := 3) rfl (fun h39 => ?_) (fun h39 => ?_)
      · rw [in_isN (k := 4) (by decide)] at h39
        refine Wp.n (pc' := 61) 1 rfl ?_
        refine Wp.retI (len := 1) rfl rfl ?_
        first
          | exact RI_s (Scr_t hS hS2) rfl
          | (rw [if_neg (fun q => by rw [h20] at q; exact absurd q.1 (by decide))]; exact RI_r rfl)
          | (rw [if_neg (fun q => by rw [show isR 1 99 m = false from h27] at q; exact absurd q.2.1 (by decide))]; exact RI_r rfl)
          | (rw [if_neg (fun q => by rw [h39] at q; exact absurd q.2.2 (by decide))]; exact RI_r rfl)
      · rw [in_isN (k := 4) (by decide)] at h39
        obtain ⟨r, hr, rfl⟩ := isN_of h20
        obtain ⟨m, hm1, hm9, hm, rfl⟩ := isR_of (lo := 1) (hi := 99) h27
        obtain ⟨k, hk, rfl⟩ := isN_of h39
        rw [if_pos ⟨h20, h27, h39⟩, nI_clamp (by omega), nI_clamp hm, nI_clamp (by omega)]
        refine Wp.n (pc' := 46) 4 rfl ?_
        refine Wp.callV (len := 3) rfl rfl rfl (rfl) rfl (by decide) rfl (m_allBent hM h30 hr hm9 hk) ?_
        rintro _ _ ⟨rfl, τ, rfl, hS⟩
        refine Wp.n (pc' := 51) 2 rfl ?_
        refine Wp.callV (len := 3) rfl rfl rfl (rfl) rfl (by decide) rfl (m_allOf (MK_scr hM hS) hk) ?_
        rintro _ _ ⟨rfl, τ2, rfl, hS2⟩
        refine Wp.n (pc' := 61) 2 rfl ?_
        refine Wp.retI (len := 1) rfl rfl ?_
        first
          | exact RI_s (Scr_t hS hS2) rfl
          | (rw [if_neg (fun q => by rw [h20] at q; exact absurd q.1 (by decide))]; exact RI_r rfl)
          | (rw [if_neg (fun q => by rw [show isR 1 99 m = false from h27] at q; exact absurd q.2.1 (by decide))]; exact RI_r rfl)
          | (rw [if_neg (fun q => by rw [h39] at q; exact absurd q.2.2 (by decide))]; exact RI_r rfl)

def dst (K : KD) (m : Nat) (st : Nat × Option Nat) (k : Nat) : Nat × Option Nat := if st.1 < allK (bentK K k m) 0 then (allK (bentK K k m) 0, some k) else st
def dukeK (K : KD) (m : Nat) : Option Nat := (fld (dst K m) (kh K 2) 0 (allK K 0, none)).2
def dukeA (K : KD) (x : Int32) : Int32 := if 0 < kh K 0 ∧ isR 1 99 x = true then oI (dukeK K x.toNatClampNeg) else -2
theorem m_duke_l (hM : MK σ K) (h30 : R30 K) {m : Nat} (h2 : m ≤ 99) : ∀ (n k : Nat) (st : Nat × Option Nat) (τ : MS) (z5 : Option Value), k + n = kh K 2 → Scr σ τ → st.1 ≤ 7662600 → Wp (d + 16) md_244 33 [some (.ref 287), some (.int (nI m)), some (.int (nI (st.1))), some (.int (oI st.2)), some (.int (nI k)), z5] [] (mset M τ) (RI M σ (oI (fld (dst K m) n k st).2)) := by
  have ok := hM.2.1
  have hσ0 := hM.2.2.2
  obtain ⟨b0, b1, b2, b3, b4, b5, b6, b7, b8, b9, b10, b11, b12⟩ := ok_h ok
  intro n
  induction n with
  | zero =>
    intro k st τ z5 hk hS hs7
    have hK := MK_scr hM hS
    refine Wp.n (pc' := 40) 4 rfl ?_
    refine Wp.mialdN (j := 2) (len := 1) rfl rfl rfl (by omega) ?_
    refine Wp.top (r0_has hK.1 (by decide)) ?_
    refine Wp.nc3 (x := k) (y := kh K 2) (tgt := 75) (len := 3) rfl (by omega) (by omega) (fun h41 => ?_) (fun h41 => ?_)
    · skip
      refine Wp.n (pc' := 76) 1 rfl ?_
      refine Wp.retI (len := 1) rfl rfl ?_
      exact RI_s hS rfl
    · omega
  | succ n ih =>
    intro k st τ z5 hk hS hs7
    have hK := MK_scr hM hS
    have hab2 := allK_b (K := bentK K k m) (k := 0) (bentK_ok ok (by omega) h30 h2)
    refine Wp.n (pc' := 40) 4 rfl ?_
    refine Wp.mialdN (j := 2) (len := 1) rfl rfl rfl (by omega) ?_
    refine Wp.top (r0_has hK.1 (by decide)) ?_
    refine Wp.nc3 (x := k) (y := kh K 2) (tgt := 75) (len := 3) rfl (by omega) (by omega) (fun h41 => ?_) (fun h41 => ?_)
    · omega
    · skip
      refine Wp.n (pc' := 49) 4 rfl ?_
      refine Wp.callV (len := 3) rfl rfl rfl (rfl) rfl (by decide) rfl (m_allBent hK h30 (by omega) h2 (by decide)) ?_
      rintro _ _ ⟨rfl, τ2, rfl, hS2⟩
      refine Wp.n (pc' := 57) 3 rfl ?_
      refine Wp.nc4 (x := allK (bentK K k m) 0) (y := st.1) (tgt := 63) (len := 3) rfl (by omega) (by omega) (fun h57 => ?_) (fun h57 => ?_)
      · skip
        refine Wp.n (pc' := 69) 4 rfl ?_
        refine Wp.incN (x := k) (len := 3) rfl rfl ?_
        refine Wp.n (pc' := 33) 1 rfl ?_
        rw [show fld (dst K m) (n + 1) k st = fld (dst K m) n (k + 1) (dst K m st k) from rfl]
        first
          | (have e : dst K m st k = (allK (bentK K k m) 0, some k) := if_pos (by omega)
             rw [e]
             exact ih (k + 1) (allK (bentK K k m) 0, some k) τ2 _ (by omega) (Scr_t hS hS2) hab2)
          | (have e : dst K m st k = st := if_neg (by omega)
             rw [e]
             exact ih (k + 1) st τ2 _ (by omega) (Scr_t hS hS2) hs7)
      · skip
        refine Wp.n (pc' := 69) 1 rfl ?_
        refine Wp.incN (x := k) (len := 3) rfl rfl ?_
        refine Wp.n (pc' := 33) 1 rfl ?_
        rw [show fld (dst K m) (n + 1) k st = fld (dst K m) n (k + 1) (dst K m st k) from rfl]
        first
          | (have e : dst K m st k = (allK (bentK K k m) 0, some k) := if_pos (by omega)
             rw [e]
             exact ih (k + 1) (allK (bentK K k m) 0, some k) τ2 _ (by omega) (Scr_t hS hS2) hab2)
          | (have e : dst K m st k = st := if_neg (by omega)
             rw [e]
             exact ih (k + 1) st τ2 _ (by omega) (Scr_t hS hS2) hs7)

theorem m_duke (hM : MK σ K) (h30 : R30 K) (x : Int32) : Wp (d + 16) md_244 0 [some (.ref 287), some (.int x), none, none, none, none] [] (mset M σ) (RI M σ (dukeA K x)) := by
  have ok := hM.2.1
  have hσ0 := hM.2.2.2
  obtain ⟨b0, b1, b2, b3, b4, b5, b6, b7, b8, b9, b10, b11, b12⟩ := ok_h ok
  unfold dukeA
  refine Wp.n (pc' := 2) 2 rfl ?_
  refine Wp.mput0 (len := 3) rfl hσ0 ?_
  refine Wp.n (pc' := 6) 1 rfl ?_
  refine Wp.ecallV (len := 3) rfl rfl rfl (rfl) rfl (by decide) rfl (m_isKingdom hM.1 ok) ?_
  refine Wp.ifb0 (tgt := 19) (len := 3) rfl (fun h9 => ?_) (fun h9 => ?_)
  · skip
    refine Wp.n (pc' := 21) 1 rfl ?_
    refine Wp.retI (len := 1) rfl rfl ?_
    first
      | (rw [if_neg (fun q => of_decide_eq_false h9 q.1)]; exact RI_s Scr_r rfl)
      | (rw [if_neg (fun q => by rw [show isR 1 99 x = false from h16] at q; exact absurd q.2 (by decide))]; exact RI_s Scr_r rfl)
  · skip
    refine Wp.n (pc' := 13) 1 rfl ?_
    refine Wp.ecallS (len := 3) rfl rfl rfl rfl (m_isMore _) ?_
    refine Wp.ifb1 (tgt := 22) (len := 3) rfl (fun h16 => ?_) (fun h16 => ?_)
    · skip
      obtain ⟨m, hm1, hm9, hm, rfl⟩ := isR_of (lo := 1) (hi := 99) h16
      rw [if_pos ⟨of_decide_eq_true h9, h16⟩, nI_clamp hm]
      refine Wp.n (pc' := 24) 2 rfl ?_
      refine Wp.callV (len := 3) rfl rfl rfl (rfl) rfl (by decide) rfl (m_allOf hM (by decide)) ?_
      rintro _ _ ⟨rfl, τ, rfl, hS⟩
      refine Wp.n (pc' := 33) 5 rfl ?_
      exact m_duke_l hM h30 hm9 (kh K 2) 0 (allK K 0, none) τ _ (by omega) hS (allK_b ok)
    · skip
      refine Wp.n (pc' := 21) 1 rfl ?_
      refine Wp.retI (len := 1) rfl rfl ?_
      first
        | (rw [if_neg (fun q => of_decide_eq_false h9 q.1)]; exact RI_s Scr_r rfl)
        | (rw [if_neg (fun q => by rw [show isR 1 99 x = false from h16] at q; exact absurd q.2 (by decide))]; exact RI_s Scr_r rfl)

end THINK
