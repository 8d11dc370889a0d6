/-! THE CLASS: all ways. -/
theorem smod_k : ∀ k, k < 32 → ((nI k &&& 31).toBitVec.smod 32).toNat = k := by decide +kernel
theorem n_shl {a k : Nat} (hk : k < 32) (h : a * 2 ^ k < 2 ^ 32) : nI a <<< (nI k &&& 31) = nI (a * 2 ^ k) := pk_shlN _ k (smod_k k hk) h
theorem n_shr {a k : Nat} (hk : k < 32) (h : a < 2 ^ 31) : nI a >>> (nI k &&& 31) = nI (a / 2 ^ k) := pk_shrN h _ k (smod_k k hk)
/-- a row of places in three bits each -/
def rowE : List Nat → Nat
  | [] => 0
  | p :: t => p + 8 * rowE t
theorem rowE_lt : ∀ {ps : List Nat}, (∀ p, p ∈ ps → p < 8) → rowE ps < 8 ^ ps.length
  | [], _ => Nat.one_pos
  | p :: t, h => by
    have h1 := rowE_lt (ps := t) (fun q hq => h q (List.mem_cons_of_mem _ hq))
    have h2 := h p List.mem_cons_self
    show p + 8 * rowE t < 8 ^ (t.length + 1)
    rw [Nat.pow_succ]
    omega
theorem rowE_app (x : Nat) : ∀ (ps : List Nat), rowE (ps ++ [x]) = rowE ps + x * 8 ^ ps.length
  | [] => by show x + 8 * 0 = 0 + x * 1; omega
  | p :: t => by
    show p + 8 * rowE (t ++ [x]) = p + 8 * rowE t + x * 8 ^ (t.length + 1)
    rw [rowE_app x t, Nat.pow_succ, Nat.mul_add, ← Nat.mul_assoc, Nat.mul_comm 8 x, Nat.mul_assoc x 8, Nat.mul_comm 8 (8 ^ t.length)]
    omega
theorem rowE_get : ∀ {ps : List Nat} {i : Nat}, (∀ p, p ∈ ps → p < 8) → i < ps.length → rowE ps / 8 ^ i % 8 = ps.getD i 0
  | p :: t, 0, h, _ => by
    have h2 := h p List.mem_cons_self
    show (p + 8 * rowE t) / 1 % 8 = p
    omega
  | p :: t, i + 1, h, hi => by
    have h2 := h p List.mem_cons_self
    have ih := rowE_get (ps := t) (i := i) (fun q hq => h q (List.mem_cons_of_mem _ hq)) (Nat.lt_of_succ_lt_succ hi)
    show (p + 8 * rowE t) / 8 ^ (i + 1) % 8 = t.getD i 0
    rw [← ih, Nat.pow_succ, Nat.mul_comm (8 ^ i) 8, ← Nat.div_div_eq_div_mul, show (p + 8 * rowE t) / 8 = rowE t by omega]
def spnO (K : KD) : Option Nat → Nat
  | none => 0
  | some j => spanJ K j
def bitO (K : KD) : Option Nat → Nat
  | none => 0
  | some j => bitJ K j
theorem btw_ab (x y a b : Nat) : btw x y a b = btw x y b a := by
  cases h : btw x y a b with
  | true => exact (btw_sym h).symm
  | false =>
    cases h2 : btw x y b a with
    | false => rfl
    | true => rw [btw_sym h2] at h; cases h
theorem joinK_sym (K : KD) (a b y : Nat) : joinK K a b y = joinK K b a y := by
  have e1 : roadK K a b = roadK K b a := by
    unfold roadK
    rw [show (fun i => btw (kr K i 0) (kr K i 1) a b) = (fun i => btw (kr K i 0) (kr K i 1) b a) from funext (fun i => btw_ab _ _ _ _)]
  have e2 : joinStep K a b y = joinStep K b a y := by
    funext c l
    unfold joinStep
    rw [btw_ab (kl K l 0) (kl K l 1) a b]
  unfold joinK
  rw [e1, e2]
/-- the steps that the class has reckoned -/
def ST (κ : CS) (K : KD) (y : Nat) : Prop := ∀ a b, a < kh K 0 → b < kh K 0 → a ≠ b → κ.2.1 9 (7 * a + b) = nI (spnO K (joinK K a b y)) ∧ κ.2.1 10 (7 * a + b) = nI (bitO K (joinK K a b y))
def SI (κ : CS) (K : KD) (y a b : Nat) : Prop := ∀ p q, p < q → q < kh K 0 → (p < a ∨ (p = a ∧ q < b)) → κ.2.1 9 (7 * p + q) = nI (spnO K (joinK K p q y)) ∧ κ.2.1 10 (7 * p + q) = nI (bitO K (joinK K p q y)) ∧ κ.2.1 9 (7 * q + p) = nI (spnO K (joinK K p q y)) ∧ κ.2.1 10 (7 * q + p) = nI (bitO K (joinK K p q y))
theorem ca_ca {κ : CS} {s : Nat} {f g : Nat → Int32} : ca (ca κ s f) s g = ca κ s g := by
  unfold ca
  have e : va_up (va_up κ.2.1 s f) s g = va_up κ.2.1 s g := by
    funext j
    by_cases c : j = s
    · rw [c, va_up_self, va_up_self]
    · rw [va_up_ne _ _ c, va_up_ne _ _ c, va_up_ne _ _ c]
  rw [show (κ.1, va_up κ.2.1 s f, κ.2.2).2.1 = va_up κ.2.1 s f from rfl, e]
theorem ST_of {κ : CS} {K : KD} {y a b : Nat} (h : SI κ K y a b) (ha : kh K 0 ≤ a) : ST κ K y := by
  intro p q hp hq hpq
  by_cases c : p < q
  · obtain ⟨h1, h2, _, _⟩ := h p q c hq (Or.inl (by omega))
    exact ⟨h1, h2⟩
  · obtain ⟨_, _, h3, h4⟩ := h q p (by omega) hp (Or.inl (by omega))
    rw [joinK_sym K p q]
    exact ⟨h3, h4⟩
theorem SI_s {κ : CS} {K : KD} {y a b s t : Nat} {f g : Nat → Int32} (h0 : kh K 0 ≤ 7) (hab : a < b) (hb : b < kh K 0) (h : SI κ K y a b) (hs : s = spnO K (joinK K a b y)) (ht : t = bitO K (joinK K a b y)) (hf : f = upd (upd (κ.2.1 9) (7 * a + b) (nI s)) (7 * b + a) (nI s)) (hg : g = upd (upd (κ.2.1 10) (7 * a + b) (nI t)) (7 * b + a) (nI t)) : SI (ca (ca κ 9 f) 10 g) K y a (b + 1) := by
  intro p q hpq hq hc
  rw [show (ca (ca κ 9 f) 10 g).2.1 9 = f from (ca_ne (by decide)).trans ca_get, ca_get, hf, hg]
  by_cases e : p = a ∧ q = b
  · obtain ⟨rfl, rfl⟩ := e
    refine ⟨?_, ?_, ?_, ?_⟩
    · rw [pk_un (by omega), pk_us, hs]
    · rw [pk_un (by omega), pk_us, ht]
    · rw [pk_us, hs]
    · rw [pk_us, ht]
  · obtain ⟨h1, h2, h3, h4⟩ := h p q hpq hq (by omega)
    rw [pk_un (by omega), pk_un (by omega), pk_un (by omega), pk_un (by omega), pk_un (by omega), pk_un (by omega), pk_un (by omega), pk_un (by omega)]
    exact ⟨h1, h2, h3, h4⟩
/-- what the ways are sought for -/
def WK (κ : CS) (K : KD) (r a t y load : Nat) : Prop := κ.2.2.2 2 = some r ∧ κ.1 4 8 = dI (distK K a t) ∧ κ.1 4 9 = nI (boatC K) ∧ κ.1 4 10 = nI t ∧ κ.1 4 11 = nI y ∧ κ.1 4 12 = nI load
abbrev WY : Type := List Nat × Nat × List Nat
def wy0 : WY := ([], 0, [])
/-- the ways that were noted -/
def NT (κ : CS) (K : KD) (ws : List WY) : Prop := κ.1 4 4 = nI ws.length ∧ ∀ i, i < ws.length → κ.2.1 7 i = nI (ws.getD i wy0).1.length ∧ κ.2.1 5 i = nI (ws.getD i wy0).2.1 ∧ κ.2.1 6 i = nI (bitsC K (ws.getD i wy0).2.2) ∧ κ.2.1 8 i = nI (rowE (ws.getD i wy0).1)
theorem getDw_app {ws : List WY} {x : WY} {i : Nat} (h : i < ws.length) : (ws ++ [x]).getD i wy0 = ws.getD i wy0 := by
  rw [List.getD_eq_getElem?_getD, List.getD_eq_getElem?_getD, List.getElem?_append_left h]
theorem getDw_end {ws : List WY} {x : WY} : (ws ++ [x]).getD ws.length wy0 = x := by
  rw [List.getD_eq_getElem?_getD, List.getElem?_append_right (Nat.le_refl _), Nat.sub_self]
  rfl
/-- found alone and the rows of what was found -/
def FW (κ κ' : CS) : Prop := Fc [4] [5, 6, 7, 8] [] κ κ' ∧ ∀ j, j ≠ 4 → κ'.1 4 j = κ.1 4 j
theorem FW.r {κ : CS} : FW κ κ := ⟨Fc.r, fun _ _ => rfl⟩
theorem FW.t {κ κ' κ'' : CS} (h : FW κ κ') (h' : FW κ' κ'') : FW κ κ'' := ⟨h.1.t h'.1, fun j hj => (h'.2 j hj).trans (h.2 j hj)⟩
theorem WK_fw {κ κ' : CS} {K : KD} {r a t y load : Nat} (h : WK κ K r a t y load) (e : FW κ κ') : WK κ' K r a t y load := ⟨by rw [e.1.2.2.1 2 rfl]; exact h.1, by rw [e.2 8 (by decide)]; exact h.2.1, by rw [e.2 9 (by decide)]; exact h.2.2.1, by rw [e.2 10 (by decide)]; exact h.2.2.2.1, by rw [e.2 11 (by decide)]; exact h.2.2.2.2.1, by rw [e.2 12 (by decide)]; exact h.2.2.2.2.2⟩
theorem ST_fw {κ κ' : CS} {K : KD} {y : Nat} (h : ST κ K y) (e : FW κ κ') : ST κ' K y := fun a b ha hb hab => by rw [e.1.2.1 9 rfl, e.1.2.1 10 rfl]; exact h a b ha hb hab
section WAYS
variable {d : Nat} {M : AM} {r : Nat} {K : KD} {κ κ' : CS} {Q : Option Value → AM → Prop}
theorem k_placeIn {w i : Nat} (hw : w < 2 ^ 31) (hi : i ≤ 10) : Ev d md_77 0 [some (.int (nI w)), some (.int (nI i))] [] M (some (.int (nI (w / 8 ^ i % 8))), M) := by
  have e := c_placeIn (d := d) (M := M) (nI w) (nI i)
  rw [show (3 : Int32) = nI 3 from rfl, pk_mul, n_shr (by omega) hw, show (7 : Int32) = nI 7 from rfl, n_and, show 7 = 2 ^ 3 - 1 from rfl, Nat.and_two_pow_sub_one_eq_mod, Nat.pow_mul] at e
  exact e

/-- a reference on the stack is another -/
theorem Wp.topR {X : MD} {pc : Nat} {l : AL} {st : List Value} {o : Option Nat} {k : Nat} (h : o = some k) (w : Wp d X pc l (.ref k :: st) M Q) : Wp d X pc l (va_rf o :: st) M Q := by rw [h]; exact w
/-- only the steps differ -/
def FS (κ κ' : CS) : Prop := Fc [] [9, 10] [] κ κ'
theorem k_rs_b (hk : RK M r K) {y a : Nat} (hy : y < 31) : ∀ (n b : Nat) (κ : CS) (z3 z4 z5 : Option Value), b + n = kh K 0 → a < b → κ.2.2.2 2 = some r → κ.1 4 11 = nI y → SI κ K y a b → (∀ κ' z3' z4' z5', FS κ κ' → SI κ' K y a (kh K 0) → Wp (d + 2) md_75 124 [some (.ref 273), some (.int (nI a)), some (.int (nI (kh K 0))), z3', z4', z5'] [] (cset M κ') Q) → Wp (d + 2) md_75 17 [some (.ref 273), some (.int (nI a)), some (.int (nI b)), z3, z4, z5] [] (cset M κ) Q := by
  obtain ⟨ρ, hR, hK, hDC, ok, hr1, hr2⟩ := id hk
  obtain ⟨b0, b1, b2, b3, b4, b5, b6, b7, b8, b9, b10, b11, b12⟩ := ok_h ok
  have hRc : ∀ κ : CS, RA (cset M κ) r ρ := fun κ => RA_c hR hr1 hr2
  intro n
  induction n with
  | zero =>
    intro b κ z3 z4 z5 hb hab hr hyy hI kk
    refine Wp.n (pc' := 19) 2 rfl ?_
    refine Wp.get (len := 3) rfl (rfl) rfl ?_
    refine Wp.topR hr ?_
    refine Wp.get (len := 3) rfl (ra_obj (hRc _)) rfl ?_
    refine Wp.top (rc_pl hK) ?_
    refine Wp.nc3 (x := b) (y := kh K 0) (tgt := 124) (len := 3) rfl (by omega) (by omega) (fun h25 => ?_) (fun h25 => ?_)
    · skip
      obtain rfl : b = kh K 0 := by omega
      exact kk κ _ _ _ Fc.r hI
    · omega
  | succ n ih =>
    intro b κ z3 z4 z5 hb hab hr hyy hI kk
    have kn : ∀ (z3 z4 z5 : Option Value), Wp (d + 2) md_75 17 [some (.ref 273), some (.int (nI a)), some (.int (nI (b + 1))), z3, z4, z5] [] (cset M (ca (ca κ 9 (upd (upd (κ.2.1 9) (7 * a + b) (nI (spnO K (joinK K a b y)))) (7 * b + a) (nI (spnO K (joinK K a b y))))) 10 (upd (upd (κ.2.1 10) (7 * a + b) (nI (bitO K (joinK K a b y)))) (7 * b + a) (nI (bitO K (joinK K a b y)))))) Q := by
      intro z3 z4 z5
      refine ih (b + 1) _ _ _ _ (by omega) (by omega) hr hyy (SI_s b0 hab (by omega) hI rfl rfl rfl rfl) (fun κ' z3' z4' z5' hF hI' => kk κ' z3' z4' z5' (Fc.t ((Fc.r.a rfl).a rfl) hF) hI')
    have ef : ca (ca (ca (ca κ 9 (upd (κ.2.1 9) (7 * a + b) (nI (spnO K (joinK K a b y))))) 9 (upd (upd (κ.2.1 9) (7 * a + b) (nI (spnO K (joinK K a b y)))) (7 * b + a) (nI (spnO K (joinK K a b y))))) 10 (upd (κ.2.1 10) (7 * a + b) (nI (bitO K (joinK K a b y))))) 10 (upd (upd (κ.2.1 10) (7 * a + b) (nI (bitO K (joinK K a b y)))) (7 * b + a) (nI (bitO K (joinK K a b y)))) = ca (ca κ 9 (upd (upd (κ.2.1 9) (7 * a + b) (nI (spnO K (joinK K a b y)))) (7 * b + a) (nI (spnO K (joinK K a b y))))) 10 (upd (upd (κ.2.1 10) (7 * a + b) (nI (bitO K (joinK K a b y)))) (7 * b + a) (nI (bitO K (joinK K a b y)))) := by
      rw [ca_ca, ca_ca]
    have kn2 : ∀ (z3 z4 z5 : Option Value), Wp (d + 2) md_75 17 [some (.ref 273), some (.int (nI a)), some (.int (nI (b + 1))), z3, z4, z5] [] (cset M (ca (ca (ca (ca κ 9 (upd (κ.2.1 9) (7 * a + b) (nI (spnO K (joinK K a b y))))) 9 (upd (upd (κ.2.1 9) (7 * a + b) (nI (spnO K (joinK K a b y)))) (7 * b + a) (nI (spnO K (joinK K a b y))))) 10 (upd (κ.2.1 10) (7 * a + b) (nI (bitO K (joinK K a b y))))) 10 (upd (upd (κ.2.1 10) (7 * a + b) (nI (bitO K (joinK K a b y)))) (7 * b + a) (nI (bitO K (joinK K a b y)))))) Q := by
      intro z3 z4 z5
      rw [ef]
      exact kn z3 z4 z5
    clear kn ef
    refine Wp.n (pc' := 19) 2 rfl ?_
    refine Wp.get (len := 3) rfl (rfl) rfl ?_
    refine Wp.topR hr ?_
    refine Wp.get (len := 3) rfl (ra_obj (hRc _)) rfl ?_
    refine Wp.top (rc_pl hK) ?_
    refine Wp.nc3 (x := b) (y := kh K 0) (tgt := 124) (len := 3) rfl (by omega) (by omega) (fun h25 => ?_) (fun h25 => ?_)
    · omega
    · skip
      refine Wp.n (pc' := 29) 1 rfl ?_
      refine Wp.get (len := 3) rfl (rfl) rfl ?_
      refine Wp.topR hr ?_
      refine Wp.n (pc' := 35) 3 rfl ?_
      refine Wp.get (len := 3) rfl (rfl) rfl ?_
      refine Wp.top hyy ?_
      refine Wp.ecallV (len := 3) rfl rfl rfl (ra_obj (hRc _)) rfl (by omega) rfl (k_linkOf (hRc _) hK ok (by omega) (by omega) (by omega) hy) ?_
      rcases hj : joinK K a b y with _ | j
      · rw [hj] at kn2
        refine Wp.n (pc' := 43) 2 rfl ?_
        refine Wp.s (pc' := 46) rfl ?_
        refine Wp.n (pc' := 57) 4 rfl ?_
        refine Wp.s (pc' := 60) rfl ?_
        refine Wp.n (pc' := 71) 4 rfl ?_
        refine Wp.get (len := 3) rfl (rfl) rfl ?_
        refine Wp.n (pc' := 76) 2 rfl ?_
        refine Wp.ecallS (len := 3) rfl rfl rfl rfl (c_pairOf _ _) ?_
        refine Wp.n (pc' := 81) 1 rfl ?_
        refine Wp.ciastN (s := 9) (n := 49) (j := 7 * a + b) (len := 1) rfl rfl rfl rfl (by omega) ?_
        refine Wp.n (pc' := 83) 1 rfl ?_
        refine Wp.get (len := 3) rfl (rfl) rfl ?_
        refine Wp.n (pc' := 88) 2 rfl ?_
        refine Wp.ecallS (len := 3) rfl rfl rfl rfl (c_pairOf _ _) ?_
        refine Wp.n (pc' := 93) 1 rfl ?_
        refine Wp.ciastN (s := 9) (n := 49) (j := 7 * b + a) (len := 1) rfl rfl rfl rfl (by omega) ?_
        refine Wp.n (pc' := 95) 1 rfl ?_
        refine Wp.get (len := 3) rfl (rfl) rfl ?_
        refine Wp.n (pc' := 100) 2 rfl ?_
        refine Wp.ecallS (len := 3) rfl rfl rfl rfl (c_pairOf _ _) ?_
        refine Wp.n (pc' := 105) 1 rfl ?_
        refine Wp.ciastN (s := 10) (n := 49) (j := 7 * a + b) (len := 1) rfl rfl rfl rfl (by omega) ?_
        refine Wp.n (pc' := 107) 1 rfl ?_
        refine Wp.get (len := 3) rfl (rfl) rfl ?_
        refine Wp.n (pc' := 112) 2 rfl ?_
        refine Wp.ecallS (len := 3) rfl rfl rfl rfl (c_pairOf _ _) ?_
        refine Wp.n (pc' := 117) 1 rfl ?_
        refine Wp.ciastN (s := 10) (n := 49) (j := 7 * b + a) (len := 1) rfl rfl rfl rfl (by omega) ?_
        refine Wp.incN (x := b) (len := 3) rfl rfl ?_
        refine Wp.n (pc' := 17) 1 rfl ?_
        exact kn2 _ _ _
      · have hjv := joinK_v ok hj
        obtain ⟨n0, f0, q1, hf3, _, _⟩ := j_obj hR hK ok hjv
        have hjm : ∀ κ : CS, cset M κ (jad K r j) = .inr (1, kfs n0 f0) := fun κ => by
          rw [← q1]
          refine cset_o (Or.inr (Or.inl ?_))
          unfold jad
          rcases hjv with h | ⟨h, h5⟩
          · rw [if_pos (by omega)]; omega
          · have := LV_ph ok h5
            rw [if_neg (by omega)]; omega
        rw [hj] at kn2
        refine Wp.n (pc' := 43) 2 rfl ?_
        refine Wp.s (pc' := 50) rfl ?_
        refine Wp.n (pc' := 51) 1 rfl ?_
        refine Wp.get (len := 3) rfl (hjm _) rfl ?_
        refine Wp.top hf3 ?_
        refine Wp.n (pc' := 57) 2 rfl ?_
        refine Wp.s (pc' := 64) rfl ?_
        refine Wp.n (pc' := 65) 1 rfl ?_
        refine Wp.ecallV (len := 3) rfl rfl rfl (hjm _) rfl (jad_32 (by omega)) rfl (k_laneBit (hRc _) hK ok hjv) ?_
        refine Wp.n (pc' := 71) 2 rfl ?_
        refine Wp.get (len := 3) rfl (rfl) rfl ?_
        refine Wp.n (pc' := 76) 2 rfl ?_
        refine Wp.ecallS (len := 3) rfl rfl rfl rfl (c_pairOf _ _) ?_
        refine Wp.n (pc' := 81) 1 rfl ?_
        refine Wp.ciastN (s := 9) (n := 49) (j := 7 * a + b) (len := 1) rfl rfl rfl rfl (by omega) ?_
        refine Wp.n (pc' := 83) 1 rfl ?_
        refine Wp.get (len := 3) rfl (rfl) rfl ?_
        refine Wp.n (pc' := 88) 2 rfl ?_
        refine Wp.ecallS (len := 3) rfl rfl rfl rfl (c_pairOf _ _) ?_
        refine Wp.n (pc' := 93) 1 rfl ?_
        refine Wp.ciastN (s := 9) (n := 49) (j := 7 * b + a) (len := 1) rfl rfl rfl rfl (by omega) ?_
        refine Wp.n (pc' := 95) 1 rfl ?_
        refine Wp.get (len := 3) rfl (rfl) rfl ?_
        refine Wp.n (pc' := 100) 2 rfl ?_
        refine Wp.ecallS (len := 3) rfl rfl rfl rfl (c_pairOf _ _) ?_
        refine Wp.n (pc' := 105) 1 rfl ?_
        refine Wp.ciastN (s := 10) (n := 49) (j := 7 * a + b) (len := 1) rfl rfl rfl rfl (by omega) ?_
        refine Wp.n (pc' := 107) 1 rfl ?_
        refine Wp.get (len := 3) rfl (rfl) rfl ?_
        refine Wp.n (pc' := 112) 2 rfl ?_
        refine Wp.ecallS (len := 3) rfl rfl rfl rfl (c_pairOf _ _) ?_
        refine Wp.n (pc' := 117) 1 rfl ?_
        refine Wp.ciastN (s := 10) (n := 49) (j := 7 * b + a) (len := 1) rfl rfl rfl rfl (by omega) ?_
        refine Wp.incN (x := b) (len := 3) rfl rfl ?_
        refine Wp.n (pc' := 17) 1 rfl ?_
        exact kn2 _ _ _


theorem k_rs_a (hk : RK M r K) {y : Nat} (hy : y < 31) : ∀ (n a : Nat) (κ : CS) (z2 z3 z4 z5 : Option Value), a + n = kh K 0 → κ.2.2.2 2 = some r → κ.1 4 11 = nI y → SI κ K y a 0 → Wp (d + 2) md_75 2 [some (.ref 273), some (.int (nI a)), z2, z3, z4, z5] [] (cset M κ) (fun v M' => v = none ∧ ∃ κ', M' = cset M κ' ∧ FS κ κ' ∧ ST κ' K y) := by
  obtain ⟨ρ, hR, hK, hDC, ok, hr1, hr2⟩ := id hk
  obtain ⟨b0, b1, b2, b3, b4, b5, b6, b7, b8, b9, b10, b11, b12⟩ := ok_h ok
  have hRc : ∀ κ : CS, RA (cset M κ) r ρ := fun κ => RA_c hR hr1 hr2
  intro n
  induction n with
  | zero =>
    intro a κ z2 z3 z4 z5 ha hr hyy hI
    refine Wp.n (pc' := 4) 2 rfl ?_
    refine Wp.get (len := 3) rfl (rfl) rfl ?_
    refine Wp.topR hr ?_
    refine Wp.get (len := 3) rfl (ra_obj (hRc _)) rfl ?_
    refine Wp.top (rc_pl hK) ?_
    refine Wp.nc3 (x := a) (y := kh K 0) (tgt := 130) (len := 3) rfl (by omega) (by omega) (fun h10 => ?_) (fun h10 => ?_)
    · skip
      refine Wp.retV (len := 1) rfl rfl ?_
      exact ⟨rfl, κ, rfl, Fc.r, ST_of hI (by omega)⟩
    · omega
  | succ n ih =>
    intro a κ z2 z3 z4 z5 ha hr hyy hI
    refine Wp.n (pc' := 4) 2 rfl ?_
    refine Wp.get (len := 3) rfl (rfl) rfl ?_
    refine Wp.topR hr ?_
    refine Wp.get (len := 3) rfl (ra_obj (hRc _)) rfl ?_
    refine Wp.top (rc_pl hK) ?_
    refine Wp.nc3 (x := a) (y := kh K 0) (tgt := 130) (len := 3) rfl (by omega) (by omega) (fun h10 => ?_) (fun h10 => ?_)
    · omega
    · skip
      refine Wp.n (pc' := 15) 2 rfl ?_
      refine Wp.iaddN (x := a) (y := 1) (len := 1) rfl ?_
      refine Wp.n (pc' := 17) 1 rfl ?_
      refine k_rs_b hk hy (kh K 0 - (a + 1)) (a + 1) κ _ _ _ (by omega) (by omega) hr hyy (fun p q hpq hq hc => hI p q hpq hq (by omega)) (fun κ2 z3' z4' z5' hF hI2 => ?_)
      refine Wp.incN (x := a) (len := 3) rfl rfl ?_
      refine Wp.n (pc' := 2) 1 rfl ?_
      refine Wp.mono (ih (a + 1) κ2 _ _ _ _ (by omega) (by rw [hF.2.2.1 2 rfl]; exact hr) (by rw [hF.1 4 rfl]; exact hyy) (fun p q hpq hq hc => hI2 p q hpq hq (by omega))) ?_
      rintro _ _ ⟨rfl, κ3, rfl, hF3, hS3⟩
      exact ⟨rfl, κ3, rfl, Fc.t hF hF3, hS3⟩

theorem k_reckonSteps (hk : RK M r K) {y : Nat} (hy : y < 31) (hr : κ.2.2.2 2 = some r) (hyy : κ.1 4 11 = nI y) : Wp (d + 2) md_75 0 [some (.ref 273), none, none, none, none, none] [] (cset M κ) (fun v M' => v = none ∧ ∃ κ', M' = cset M κ' ∧ FS κ κ' ∧ ST κ' K y) := by
  refine Wp.n (pc' := 2) 2 rfl ?_
  exact k_rs_a hk hy (kh K 0) 0 κ _ _ _ _ (by omega) hr hyy (fun p q hpq hq hc => by omega)
theorem k_note {ws : List WY} {w : WY} (hN : NT κ K ws) (h : ws.length < 326) : Wp d md_78 0 [some (.ref 273), some (.int (nI (w.1.length))), some (.int (nI (w.2.1))), some (.int (nI (bitsC K w.2.2))), some (.int (nI (rowE w.1)))] [] (cset M κ) (fun v M' => v = none ∧ ∃ κ', M' = cset M κ' ∧ FW κ κ' ∧ NT κ' K (ws ++ [w])) := by
  have h1 := hN.1
  refine Wp.n (pc' := 1) 1 rfl ?_
  refine Wp.get (len := 3) rfl (rfl) rfl ?_
  refine Wp.top h1 ?_
  refine Wp.n (pc' := 7) 1 rfl ?_
  refine Wp.nc3 (x := ws.length) (y := 326) (tgt := 61) (len := 3) rfl (by omega) (by omega) (fun h7 => ?_) (fun h7 => ?_)
  · omega
  · skip
    refine Wp.n (pc' := 11) 1 rfl ?_
    refine Wp.get (len := 3) rfl (rfl) rfl ?_
    refine Wp.n (pc' := 15) 1 rfl ?_
    refine Wp.get (len := 3) rfl (rfl) rfl ?_
    refine Wp.top h1 ?_
    refine Wp.n (pc' := 19) 1 rfl ?_
    refine Wp.ciastN (s := 7) (n := 326) (j := ws.length) (len := 1) rfl rfl rfl rfl (by omega) ?_
    refine Wp.n (pc' := 21) 1 rfl ?_
    refine Wp.get (len := 3) rfl (rfl) rfl ?_
    refine Wp.n (pc' := 25) 1 rfl ?_
    refine Wp.get (len := 3) rfl (rfl) rfl ?_
    refine Wp.top h1 ?_
    refine Wp.n (pc' := 29) 1 rfl ?_
    refine Wp.ciastN (s := 5) (n := 326) (j := ws.length) (len := 1) rfl rfl rfl rfl (by omega) ?_
    refine Wp.n (pc' := 31) 1 rfl ?_
    refine Wp.get (len := 3) rfl (rfl) rfl ?_
    refine Wp.n (pc' := 35) 1 rfl ?_
    refine Wp.get (len := 3) rfl (rfl) rfl ?_
    refine Wp.top h1 ?_
    refine Wp.n (pc' := 39) 1 rfl ?_
    refine Wp.ciastN (s := 6) (n := 326) (j := ws.length) (len := 1) rfl rfl rfl rfl (by omega) ?_
    refine Wp.n (pc' := 41) 1 rfl ?_
    refine Wp.get (len := 3) rfl (rfl) rfl ?_
    refine Wp.n (pc' := 45) 1 rfl ?_
    refine Wp.get (len := 3) rfl (rfl) rfl ?_
    refine Wp.top h1 ?_
    refine Wp.n (pc' := 50) 1 rfl ?_
    refine Wp.ciastN (s := 8) (n := 326) (j := ws.length) (len := 1) rfl rfl rfl rfl (by omega) ?_
    refine Wp.n (pc' := 53) 2 rfl ?_
    refine Wp.get (len := 3) rfl (rfl) rfl ?_
    refine Wp.top h1 ?_
    refine Wp.n (pc' := 57) 1 rfl ?_
    refine Wp.iaddN (x := ws.length) (y := 1) (len := 1) rfl ?_
    refine Wp.cput4 4 rfl (len := 3) rfl ?_
    refine Wp.retV (len := 1) rfl rfl ?_
    refine ⟨rfl, _, rfl, ⟨((((Fc.r.a rfl).a rfl).a rfl).a rfl).f rfl, fun j hj => pk_un hj⟩, ?_, fun i hi => ?_⟩
    · show upd (κ.1 4) 4 (nI (ws.length + 1)) 4 = _
      rw [pk_us, List.length_append]
      rfl
    · have hi' : i < ws.length + 1 := by rw [List.length_append] at hi; exact hi
      show upd (κ.2.1 7) ws.length _ i = _ ∧ upd (κ.2.1 5) ws.length _ i = _ ∧ upd (κ.2.1 6) ws.length _ i = _ ∧ upd (κ.2.1 8) ws.length _ i = _
      by_cases c : i = ws.length
      · subst c
        rw [pk_us, pk_us, pk_us, pk_us, getDw_end]
        exact ⟨rfl, rfl, rfl, rfl⟩
      · rw [pk_un c, pk_un c, pk_un c, pk_un c, getDw_app (by omega)]
        exact hN.2 i (by omega)

theorem PV_mem {y q : Nat} {ps : List Nat} {s : Nat × List Nat} (h : PV K y ps q s) : q ∈ ps := by
  have h1 := h.1
  have h2 := h.2.1
  rw [List.getD_eq_getElem?_getD, List.getElem?_eq_getElem (by omega)] at h2
  rw [← h2]
  exact List.getElem_mem _
theorem row_or {ps : List Nat} {p : Nat} (h : ∀ x, x ∈ ps → x < 8) {k : Nat} (hk : k = ps.length) : rowE ps ||| p * 2 ^ (3 * k) = rowE (ps ++ [p]) := by
  have h1 := rowE_lt h
  rw [show (8 : Nat) = 2 ^ 3 from rfl, ← Nat.pow_mul] at h1
  rw [hk, rowE_app, Nat.or_comm, Nat.mul_comm p, ← Nat.two_pow_add_eq_or_of_lt h1, Nat.pow_mul, Nat.add_comm, Nat.mul_comm]
theorem loopL_nil {α : Type} {g : Nat → List α} : ∀ {n p : Nat}, (∀ q, p ≤ q → q < p + n → g q = []) → loopL g n p = []
  | 0, _, _ => rfl
  | n + 1, p, h => by
    show g p ++ loopL g n (p + 1) = []
    rw [h p (Nat.le_refl _) (by omega), loopL_nil (fun q h1 h2 => h q (by omega) (by omega))]
    rfl
set_option maxRecDepth 20000 in
theorem t_ex_p {f r a t y load e0 : Nat} {κ0 : CS} (hk : RK M r K) (hy : y < 31) (ht : t < kh K 0) (hW : WK κ0 K r a t y load) (hST : ST κ0 K y) (hfe : f ≤ e0) (ih : ∀ (ps : List Nat) (q : Nat) (s : Nat × List Nat) (ws : List WY) (κ : CS) (e : Nat), f + 2 ≤ e → f + ps.length = 8 → PV K y ps q s → FW κ0 κ → NT κ K ws → ws.length + (dfs K y t f ps q s).length ≤ 326 → Wp e md_76 0 [some (.ref 273), some (.int (nI (ps.length - 1))), some (.int (nI (bitsM ps))), some (.int (nI s.1)), some (.int (nI (bitsC K s.2))), some (.int (nI (rowE ps))), none, none, none, none, none] [] (cset M κ) (fun v M' => v = none ∧ ∃ κ', M' = cset M κ' ∧ FW κ0 κ' ∧ NT κ' K (ws ++ dfs K y t f ps q s))) {ps : List Nat} {q : Nat} {s : Nat × List Nat} (hf : f + 1 + ps.length = 8) (hP : PV K y ps q s) : ∀ (n p : Nat) (ws : List WY) (κ : CS) (z8 z9 z10 : Option Value), p + n = kh K 0 → FW κ0 κ → NT κ K ws → ws.length + (loopL (fun p => if ps.contains p = true then [] else match joinK K q p y with | none => [] | some j => dfs K y t f (ps ++ [p]) p (addJ K s j)) n p).length ≤ 326 → Wp (e0 + 3) md_76 33 [some (.ref 273), some (.int (nI (ps.length - 1))), some (.int (nI (bitsM ps))), some (.int (nI s.1)), some (.int (nI (bitsC K s.2))), some (.int (nI (rowE ps))), some (.int (nI q)), some (.int (nI p)), z8, z9, z10] [] (cset M κ) (fun v M' => v = none ∧ ∃ κ', M' = cset M κ' ∧ FW κ0 κ' ∧ NT κ' K (ws ++ loopL (fun p => if ps.contains p = true then [] else match joinK K q p y with | none => [] | some j => dfs K y t f (ps ++ [p]) p (addJ K s j)) n p)) := by
  obtain ⟨ρ, hR, hK, hDC, ok, hr1, hr2⟩ := id hk
  obtain ⟨b0, b1, b2, b3, b4, b5, b6, b7, b8, b9, b10, b11, b12⟩ := ok_h ok
  have hRc : ∀ κ : CS, RA (cset M κ) r ρ := fun κ => RA_c hR hr1 hr2
  have hl := PV_len ok hP
  have h1 := hP.1
  have hq := PV_q hP
  have hsb := PV_sb ok hP
  have hbt : bitsM ps < 2 ^ 9 := bits_lt (fun l hl => by have := hP.2.2.2.1 l hl; omega)
  have h8 : ∀ x, x ∈ ps → x < 8 := fun x hx => by have := hP.2.2.2.1 x hx; omega
  intro n
  induction n with
  | zero =>
    intro p ws κ z8 z9 z10 hp hF hN hlen
    have hWk := WK_fw hW hF
    rw [show loopL (fun p => if ps.contains p = true then [] else match joinK K q p y with | none => [] | some j => dfs K y t f (ps ++ [p]) p (addJ K s j)) 0 p = [] from rfl, List.append_nil]
    refine Wp.n (pc' := 36) 2 rfl ?_
    refine Wp.get (len := 3) rfl (rfl) rfl ?_
    refine Wp.topR hWk.1 ?_
    refine Wp.get (len := 3) rfl (ra_obj (hRc _)) rfl ?_
    refine Wp.top (rc_pl hK) ?_
    refine Wp.nc3 (x := p) (y := kh K 0) (tgt := 144) (len := 3) rfl (by omega) (by omega) (fun h42 => ?_) (fun h42 => ?_)
    · skip
      refine Wp.retV (len := 1) rfl rfl ?_
      exact ⟨rfl, κ, rfl, hF, hN⟩
    · omega
  | succ n ihn =>
    intro p ws κ z8 z9 z10 hp hF hN hlen
    have hWk := WK_fw hW hF
    have hSk := ST_fw hST hF
    have ht2 := bits_tb ps p
    have hnt := n_tb (bitsM ps) p
    have hnd : bitsM ps &&& 2 ^ p < 2 ^ 31 := Nat.lt_of_le_of_lt Nat.and_le_left (by omega)
    have eL : loopL (fun p => if ps.contains p = true then [] else match joinK K q p y with | none => [] | some j => dfs K y t f (ps ++ [p]) p (addJ K s j)) (n + 1) p = (fun p => if ps.contains p = true then [] else match joinK K q p y with | none => [] | some j => dfs K y t f (ps ++ [p]) p (addJ K s j)) p ++ loopL (fun p => if ps.contains p = true then [] else match joinK K q p y with | none => [] | some j => dfs K y t f (ps ++ [p]) p (addJ K s j)) n (p + 1) := rfl
    have kf : ∀ (z8 z9 z10 : Option Value), (fun p => if ps.contains p = true then [] else match joinK K q p y with | none => [] | some j => dfs K y t f (ps ++ [p]) p (addJ K s j)) p = [] → Wp (e0 + 3) md_76 33 [some (.ref 273), some (.int (nI (ps.length - 1))), some (.int (nI (bitsM ps))), some (.int (nI s.1)), some (.int (nI (bitsC K s.2))), some (.int (nI (rowE ps))), some (.int (nI q)), some (.int (nI (p + 1))), z8, z9, z10] [] (cset M κ) (fun v M' => v = none ∧ ∃ κ', M' = cset M κ' ∧ FW κ0 κ' ∧ NT κ' K (ws ++ loopL (fun p => if ps.contains p = true then [] else match joinK K q p y with | none => [] | some j => dfs K y t f (ps ++ [p]) p (addJ K s j)) (n + 1) p)) := by
      intro z8 z9 z10 e
      rw [eL, e, List.nil_append] at hlen ⊢
      exact ihn (p + 1) ws κ _ _ _ (by omega) hF hN hlen
    refine Wp.n (pc' := 36) 2 rfl ?_
    refine Wp.get (len := 3) rfl (rfl) rfl ?_
    refine Wp.topR hWk.1 ?_
    refine Wp.get (len := 3) rfl (ra_obj (hRc _)) rfl ?_
    refine Wp.top (rc_pl hK) ?_
    refine Wp.nc3 (x := p) (y := kh K 0) (tgt := 144) (len := 3) rfl (by first | omega | exact hnd) (by first | omega | exact hnd) (fun h42 => ?_) (fun h42 => ?_)
    · omega
    · skip
      refine Wp.n (pc' := 48) 2 rfl ?_
      refine Wp.nc3 (x := ps.length - 1) (y := 6) (tgt := 144) (len := 3) rfl (by first | omega | exact hnd) (by first | omega | exact hnd) (fun h48 => ?_) (fun h48 => ?_)
      · skip
        refine Wp.retV (len := 1) rfl rfl ?_
        rw [show loopL (fun p => if ps.contains p = true then [] else match joinK K q p y with | none => [] | some j => dfs K y t f (ps ++ [p]) p (addJ K s j)) (n + 1) p = [] from loopL_nil (fun x hx1 hx2 => if_pos (PV_full hP (by omega) (by omega))), List.append_nil]
        exact ⟨rfl, κ, rfl, hF, hN⟩
      · skip
        refine Wp.n (pc' := 55) 2 rfl ?_
        refine Wp.ecallS (len := 3) rfl rfl rfl rfl (c_pairOf _ _) ?_
        refine Wp.n (pc' := 65) 5 rfl ?_
        refine Wp.top (n_sh1 p (by omega)) ?_
        refine Wp.n (pc' := 66) 1 rfl ?_
        refine Wp.top (n_and _ _) ?_
        refine Wp.nz1 (x := bitsM ps &&& 2 ^ p) (tgt := 73) (len := 3) rfl (by first | omega | exact hnd) (fun h66 => ?_) (fun h66 => ?_)
        · skip
          refine Wp.n (pc' := 78) 3 rfl ?_
          refine Wp.nz0 (x := 0) (tgt := 138) (len := 3) rfl (by first | omega | exact hnd) (fun h78 => ?_) (fun h78 => ?_)
          · skip
            refine Wp.incN (x := p) (len := 3) rfl rfl ?_
            refine Wp.n (pc' := 33) 1 rfl ?_
            first
              | (have hc1 : ps.contains p = true := by rw [← ht2]; exact Bool.of_not_eq_false (fun e => h66 (hnt.mpr e))
                 exact kf _ _ _ (if_pos hc1))
              | (have hc2 : joinK K q p y = none := by
                   cases e : joinK K q p y with
                   | none => rfl
                   | some j => rw [e] at h88; have := spanJ_b ok (joinK_v ok e); exact absurd (show spanJ K j = 0 from h88) (by omega)
                 exact kf _ _ _ ((if_neg (by rw [hc]; decide)).trans (by rw [hc2])))
              | (rw [eL, eG, ← List.append_assoc]
                 exact ihn (p + 1) _ κ2 _ _ _ (by omega) hF2 hN2 (by rw [List.length_append]; omega))
          · omega
        · skip
          refine Wp.n (pc' := 78) 4 rfl ?_
          refine Wp.nz0 (x := 1) (tgt := 138) (len := 3) rfl (by first | omega | exact hnd) (fun h78 => ?_) (fun h78 => ?_)
          · omega
          · skip
            have hc : ps.contains p = false := by rw [← ht2]; exact hnt.mp h66
            have hqp : q ≠ p := fun e => by
              have := List.contains_iff_mem.mpr (PV_mem hP)
              rw [e, hc] at this
              cases this
            have hsp : spnO K (joinK K q p y) ≤ 129 := by
              cases e : joinK K q p y with
              | none => exact Nat.zero_le _
              | some j => exact (spanJ_b ok (joinK_v ok e)).2
            refine Wp.n (pc' := 82) 1 rfl ?_
            refine Wp.get (len := 3) rfl (rfl) rfl ?_
            refine Wp.n (pc' := 87) 1 rfl ?_
            refine Wp.ialdN (j := 7 * q + p) (len := 1) rfl (rfl) rfl (by omega) (by decide) ?_
            refine Wp.top (hSk q p hq (by omega) hqp).1 ?_
            refine Wp.nz5 (x := spnO K (joinK K q p y)) (tgt := 138) (len := 3) rfl (by first | omega | exact hnd) (fun h88 => ?_) (fun h88 => ?_)
            · skip
              refine Wp.incN (x := p) (len := 3) rfl rfl ?_
              refine Wp.n (pc' := 33) 1 rfl ?_
              first
                | (have hc1 : ps.contains p = true := by rw [← ht2]; exact Bool.of_not_eq_false (fun e => h66 (hnt.mpr e))
                   exact kf _ _ _ (if_pos hc1))
                | (have hc2 : joinK K q p y = none := by
                     cases e : joinK K q p y with
                     | none => rfl
                     | some j => rw [e] at h88; have := spanJ_b ok (joinK_v ok e); exact absurd (show spanJ K j = 0 from h88) (by omega)
                   exact kf _ _ _ ((if_neg (by rw [hc]; decide)).trans (by rw [hc2])))
                | (rw [eL, eG, ← List.append_assoc]
                   exact ihn (p + 1) _ κ2 _ _ _ (by omega) hF2 hN2 (by rw [List.length_append]; omega))
            · skip
              obtain ⟨j, hj⟩ : ∃ j, joinK K q p y = some j := by
                cases e : joinK K q p y with
                | none => rw [e] at h88; exact absurd h88 (Nat.lt_irrefl 0)
                | some j => exact ⟨j, rfl⟩
              have hjv := joinK_v ok hj
              obtain ⟨hj1, hj2⟩ := hSk q p hq (by omega) hqp
              rw [hj] at hj1 hj2
              have hPs := PV_s hP (by omega) hc hj
              have hlp := PV_len ok hPs
              have hpl : (ps ++ [p]).length = ps.length + 1 := by rw [List.length_append]; rfl
              rw [hpl] at hlp
              have hsh : p * 2 ^ (3 * (ps.length - 1 + 1)) < 2 ^ 32 := by
                have e1 : 2 ^ (3 * (ps.length - 1 + 1)) ≤ 2 ^ 18 := Nat.pow_le_pow_right (by decide) (by omega)
                have e2 : p * 2 ^ (3 * (ps.length - 1 + 1)) ≤ 7 * 2 ^ 18 := Nat.mul_le_mul (by omega) e1
                omega
              have eG : (fun p => if ps.contains p = true then [] else match joinK K q p y with | none => [] | some j => dfs K y t f (ps ++ [p]) p (addJ K s j)) p = dfs K y t f (ps ++ [p]) p (addJ K s j) := (if_neg (by rw [hc]; decide)).trans (by rw [hj])
              rw [eL, eG, List.length_append] at hlen
              have wI := ih (ps ++ [p]) p (addJ K s j) ws κ (e0 + 2) (by omega) (by rw [hpl]; omega) hPs hF hN (by omega)
              rw [bitsM_app, bitsC_add, hpl, show ps.length + 1 - 1 = ps.length - 1 + 1 by omega] at wI
              refine Wp.n (pc' := 98) 5 rfl ?_
              refine Wp.iaddN (x := ps.length - 1) (y := 1) (len := 1) rfl ?_
              refine Wp.imulN (x := 3) (y := (ps.length - 1) + 1) (len := 1) rfl ?_
              refine Wp.n (pc' := 101) 1 rfl ?_
              refine Wp.top (n_shl (by omega) hsh) ?_
              refine Wp.n (pc' := 102) 1 rfl ?_
              refine Wp.top (by rw [n_or, row_or h8 (by omega)]) ?_
              refine Wp.n (pc' := 107) 4 rfl ?_
              refine Wp.iaddN (x := ps.length - 1) (y := 1) (len := 1) rfl ?_
              refine Wp.n (pc' := 113) 4 rfl ?_
              refine Wp.top (n_sh1 p (by omega)) ?_
              refine Wp.n (pc' := 114) 1 rfl ?_
              refine Wp.top (n_or _ _) ?_
              refine Wp.n (pc' := 116) 2 rfl ?_
              refine Wp.get (len := 3) rfl (rfl) rfl ?_
              refine Wp.n (pc' := 121) 1 rfl ?_
              refine Wp.ialdN (j := 7 * q + p) (len := 1) rfl (rfl) rfl (by omega) (by decide) ?_
              refine Wp.top hj1 ?_
              refine Wp.iaddN (x := s.1) (y := spanJ K j) (len := 1) rfl ?_
              refine Wp.n (pc' := 126) 2 rfl ?_
              refine Wp.get (len := 3) rfl (rfl) rfl ?_
              refine Wp.n (pc' := 131) 1 rfl ?_
              refine Wp.ialdN (j := 7 * q + p) (len := 1) rfl (rfl) rfl (by omega) (by decide) ?_
              refine Wp.top hj2 ?_
              refine Wp.n (pc' := 133) 1 rfl ?_
              refine Wp.top (n_or _ _) ?_
              refine Wp.n (pc' := 135) 1 rfl ?_
              refine Wp.callS (len := 3) rfl rfl rfl rfl (wI) ?_
              rintro _ _ ⟨rfl, κ2, rfl, hF2, hN2⟩
              refine Wp.incN (x := p) (len := 3) rfl rfl ?_
              refine Wp.n (pc' := 33) 1 rfl ?_
              first
                | (have hc1 : ps.contains p = true := by rw [← ht2]; exact Bool.of_not_eq_false (fun e => h66 (hnt.mpr e))
                   exact kf _ _ _ (if_pos hc1))
                | (have hc2 : joinK K q p y = none := by
                     cases e : joinK K q p y with
                     | none => rfl
                     | some j => rw [e] at h88; have := spanJ_b ok (joinK_v ok e); exact absurd (show spanJ K j = 0 from h88) (by omega)
                   exact kf _ _ _ ((if_neg (by rw [hc]; decide)).trans (by rw [hc2])))
                | (rw [eL, eG, ← List.append_assoc]
                   exact ihn (p + 1) _ κ2 _ _ _ (by omega) hF2 hN2 (by rw [List.length_append]; omega))


end WAYS
