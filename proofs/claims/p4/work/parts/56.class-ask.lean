/-! THE CLASS: extend, find, and what is asked of the ways. -/
section WAYS2
variable {d : Nat} {M : AM} {r : Nat} {K : KD} {κ κ' : CS} {Q : Option Value → AM → Prop}
theorem t_extend {r a t y load : Nat} {κ0 : CS} (hk : RK M r K) (hy : y < 31) (ht : t < kh K 0) (hW : WK κ0 K r a t y load) (hST : ST κ0 K y) : ∀ (f : Nat) (ps : List Nat) (q : Nat) (s : Nat × List Nat) (ws : List WY) (κ : CS) (e : Nat), f + 2 ≤ e → f + ps.length = 8 → PV K y ps q s → FW κ0 κ → NT κ K ws → ws.length + (dfs K y t f ps q s).length ≤ 326 → Wp e md_76 0 [some (.ref 273), some (.int (nI (ps.length - 1))), some (.int (nI (bitsM ps))), some (.int (nI s.1)), some (.int (nI (bitsC K s.2))), some (.int (nI (rowE ps))), none, none, none, none, none] [] (cset M κ) (fun v M' => v = none ∧ ∃ κ', M' = cset M κ' ∧ FW κ0 κ' ∧ NT κ' K (ws ++ dfs K y t f ps q s)) := by
  obtain ⟨ρ, hR, hK, hDC, ok, hr1, hr2⟩ := id hk
  obtain ⟨b0, b1, b2, b3, b4, b5, b6, b7, b8, b9, b10, b11, b12⟩ := ok_h ok
  have hRc : ∀ κ : CS, RA (cset M κ) r ρ := fun κ => RA_c hR hr1 hr2
  intro f
  induction f with
  | zero =>
    intro ps q s ws κ e he hf hP
    have := PV_len ok hP
    omega
  | succ f ih =>
    intro ps q s ws κ e he hf hP hF hN hlen
    obtain ⟨e0, rfl⟩ : ∃ e0, e = e0 + 3 := ⟨e - 3, by omega⟩
    have hl := PV_len ok hP
    have h1 := hP.1
    have hq := PV_q hP
    have hWk := WK_fw hW hF
    have h8 : ∀ x, x ∈ ps → x < 8 := fun x hx => by have := hP.2.2.2.1 x hx; omega
    have hrl : rowE ps < 2 ^ 31 := by
      have e1 := rowE_lt h8
      have e2 : 8 ^ ps.length ≤ 8 ^ 7 := Nat.pow_le_pow_right (by decide) (by omega)
      omega
    have eD : dfs K y t (f + 1) ps q s = if q = t then [(ps, s)] else loopL (fun p => if ps.contains p = true then [] else match joinK K q p y with | none => [] | some j => dfs K y t f (ps ++ [p]) p (addJ K s j)) (kh K 0) 0 := rfl
    rw [eD] at hlen ⊢
    refine Wp.n (pc' := 3) 2 rfl ?_
    refine Wp.ecallS (len := 3) rfl rfl rfl rfl (k_placeIn hrl (by omega)) ?_
    refine Wp.top (show _ = nI q from by rw [rowE_get h8 (by omega), hP.2.1]) ?_
    refine Wp.n (pc' := 11) 3 rfl ?_
    refine Wp.get (len := 3) rfl (rfl) rfl ?_
    refine Wp.top hWk.2.2.2.1 ?_
    refine Wp.nc1 (x := q) (y := t) (tgt := 30) (len := 3) rfl (by omega) (by omega) (fun h14 => ?_) (fun h14 => ?_)
    · skip
      refine Wp.n (pc' := 33) 2 rfl ?_
      rw [if_neg h14] at hlen ⊢
      exact t_ex_p hk hy ht hW hST (by omega) ih (by omega) hP (kh K 0) 0 ws κ _ _ _ (by omega) hF hN hlen
    · skip
      refine Wp.n (pc' := 20) 3 rfl ?_
      refine Wp.iaddN (x := ps.length - 1) (y := 1) (len := 1) rfl ?_
      refine Wp.n (pc' := 26) 3 rfl ?_
      refine Wp.callV (len := 3) rfl rfl rfl (rfl) rfl (by decide) rfl (by
        have w := k_note (d := e0 + 2) (M := M) (w := (ps, s)) hN (by rw [if_pos h14] at hlen; exact hlen)
        rw [show (ps, s).1.length = ps.length - 1 + 1 from by show ps.length = _; omega] at w
        exact w) ?_
      rintro _ _ ⟨rfl, κ2, rfl, hF2, hN2⟩
      refine Wp.retV (len := 1) rfl rfl ?_
      rw [if_pos h14]
      exact ⟨rfl, κ2, rfl, hF.t hF2, hN2⟩

/-- the ways stand there -/
def WR (κ : CS) (K : KD) (r a t y load : Nat) : Prop := WK κ K r a t y load ∧ NT κ K (allW K y a t)
set_option maxRecDepth 20000 in
theorem t_find {a t y load : Nat} (hk : RK M r K) (ha : a < kh K 0) (ht : t < kh K 0) (hy : y < 31) : Wp (d + 11) md_74 0 [some (.ref 273), some (.ref r), some (.int (nI a)), some (.int (nI t)), some (.int (nI y)), some (.int (nI load))] [] (cset M κ) (fun v M' => v = none ∧ ∃ κ', M' = cset M κ' ∧ ScC κ κ' ∧ WR κ' K r a t y load) := by
  obtain ⟨ρ, hR, hK, hDC, ok, hr1, hr2⟩ := id hk
  obtain ⟨b0, b1, b2, b3, b4, b5, b6, b7, b8, b9, b10, b11, b12⟩ := ok_h ok
  have hRc : ∀ κ : CS, RA (cset M κ) r ρ := fun κ => RA_c hR hr1 hr2
  refine Wp.n (pc' := 2) 2 rfl ?_
  refine Wp.cputR (len := 3) rfl ?_
  refine Wp.n (pc' := 9) 4 rfl ?_
  refine Wp.ecallV (len := 3) rfl rfl rfl (ra_obj (hRc _)) rfl (by omega) rfl (k_byRoad (hRc _) hDC ok ha ht) ?_
  refine Wp.cput4 8 rfl (len := 3) rfl ?_
  refine Wp.n (pc' := 17) 2 rfl ?_
  refine Wp.ecallV (len := 3) rfl rfl rfl (ra_obj (hRc _)) rfl (by omega) rfl (k_boatLanes (hRc _) hK ok) ?_
  refine Wp.cput4 9 rfl (len := 3) rfl ?_
  refine Wp.n (pc' := 25) 2 rfl ?_
  refine Wp.cput4 10 rfl (len := 3) rfl ?_
  refine Wp.n (pc' := 31) 2 rfl ?_
  refine Wp.cput4 11 rfl (len := 3) rfl ?_
  refine Wp.n (pc' := 37) 2 rfl ?_
  refine Wp.cput4 12 rfl (len := 3) rfl ?_
  refine Wp.n (pc' := 42) 2 rfl ?_
  refine Wp.cput4 4 rfl (len := 3) rfl ?_
  refine Wp.n (pc' := 46) 1 rfl ?_
  refine Wp.callV (len := 3) rfl rfl rfl (rfl) rfl (by decide) rfl (k_reckonSteps (y := y) hk hy rfl rfl) ?_
  rintro _ _ ⟨rfl, κ2, rfl, hF2, hS2⟩
  have hW2 : WK κ2 K r a t y load := ⟨(hF2.2.2.1 2 rfl).trans rfl, by rw [hF2.1 4 rfl]; rfl, by rw [hF2.1 4 rfl]; rfl, by rw [hF2.1 4 rfl]; rfl, by rw [hF2.1 4 rfl]; rfl, by rw [hF2.1 4 rfl]; rfl⟩
  have hN2 : NT κ2 K [] := ⟨by rw [hF2.1 4 rfl]; rfl, fun i hi => absurd hi (Nat.not_lt_zero i)⟩
  refine Wp.n (pc' := 54) 5 rfl ?_
  refine Wp.top (show _ = nI (bitsM [a]) from by rw [n_sh1 _ (by omega)]; rw [show bitsM [a] = 0 ||| 2 ^ a from rfl, Nat.zero_or]) ?_
  refine Wp.n (pc' := 57) 3 rfl ?_
  refine Wp.callS (len := 3) rfl rfl rfl rfl (t_extend hk hy ht hW2 hS2 7 [a] a (0, []) [] κ2 (d + 10) (by omega) rfl (PV_1 ha) FW.r hN2 (by rw [List.length_nil, Nat.zero_add]; exact allW_len ok ha ht)) ?_
  rintro _ _ ⟨rfl, κ3, rfl, hF3, hN3⟩
  refine Wp.retV (len := 1) rfl rfl ?_
  refine ⟨rfl, κ3, rfl, ?_, WK_fw hW2 hF3, hN3⟩
  exact Fc.t (Fc.mono (Fc.t (F := [4]) (A := [9, 10]) (G := [2]) (((((((Fc.r.g rfl).f rfl).f rfl).f rfl).f rfl).f rfl).f rfl) (Fc.mono hF2 rfl rfl rfl)) rfl rfl rfl) (Fc.mono hF3.1 rfl rfl rfl)

def dX (K : KD) (a t y load : Nat) (s : Nat × List Nat) (m : Nat) : Nat := dutyS K (boatK K s.2) (savK K a t (s.1 + m)) y load
theorem dX_0 {a t y load : Nat} {s : Nat × List Nat} : dX K a t y load s 0 = dW K a t y load s := rfl
theorem getDw_mem {ws : List WY} {i : Nat} (h : i < ws.length) : ws.getD i wy0 ∈ ws := by
  rw [List.getD_eq_getElem?_getD, List.getElem?_eq_getElem h]
  exact List.getElem_mem _
section ASK
variable {a t y load : Nat}
theorem allW_b (ok : KOK K) (ha : a < kh K 0) {w : WY} (hw : w ∈ allW K y a t) : w.2.1 ≤ 774 ∧ (∀ l, l ∈ w.2.2 → LV K l) ∧ bitsC K w.2.2 < 2 ^ 9 ∧ w.1.length ≤ 7 ∧ 1 ≤ w.1.length ∧ (∀ p, p ∈ w.1 → p < kh K 0) := by
  have hp := (allW_pv ha hw).1
  have hs := PV_sb ok hp
  have hl := PV_len ok hp
  have h0 := (ok_h ok).1
  exact ⟨hs.1, hs.2.2, bitsC_lt ok hs.2.2, by omega, hp.1, hp.2.2.2.1⟩
theorem t_dutyOf (hk : RK M r K) (ha : a < kh K 0) (hy : y < 31) (hl : load ≤ 9) (hW : WR κ K r a t y load) {i m : Nat} (hi : i < (allW K y a t).length) (h3 : (allW K y a t).length ≤ 326) (hm : m ≤ 1000) : Ev (d + 9) md_82 0 [some (.ref 273), some (.int (nI i)), some (.int (nI m))] [] (cset M κ) (some (.int (nI (dX K a t y load ((allW K y a t).getD i wy0).2 m))), cset M κ) := by
  obtain ⟨ρ, hR, hK, hDC, ok, hr1, hr2⟩ := id hk
  obtain ⟨b0, b1, b2, b3, b4, b5, b6, b7, b8, b9, b10, b11, b12⟩ := ok_h ok
  have hRc : ∀ κ : CS, RA (cset M κ) r ρ := fun κ => RA_c hR hr1 hr2
  refine Wp.toEv ?_
  obtain ⟨w, hw⟩ : ∃ w, (allW K y a t).getD i wy0 = w := ⟨_, rfl⟩
  obtain ⟨n1, n2, n3, n4⟩ := hW.2.2 i hi
  have hb := allW_b ok ha (getDw_mem hi)
  rw [hw] at n2 n3 hb ⊢
  obtain ⟨hb1, hb2, hb3, _⟩ := hb
  have hnd : bitsC K w.2.2 &&& boatC K < 2 ^ 31 := Nat.lt_of_le_of_lt Nat.and_le_left (by omega)
  have hsv := savK_b ok (b := t) (len := w.2.1 + m) ha
  refine Wp.n (pc' := 1) 1 rfl ?_
  refine Wp.get (len := 3) rfl (rfl) rfl ?_
  refine Wp.n (pc' := 5) 1 rfl ?_
  refine Wp.ialdN (j := i) (len := 1) rfl (rfl) rfl (by omega) (by decide) ?_
  refine Wp.top n3 ?_
  refine Wp.n (pc' := 7) 1 rfl ?_
  refine Wp.get (len := 3) rfl (rfl) rfl ?_
  refine Wp.top hW.1.2.2.1 ?_
  refine Wp.n (pc' := 11) 1 rfl ?_
  refine Wp.top (n_and _ _) ?_
  refine Wp.nz0 (x := bitsC K w.2.2 &&& boatC K) (tgt := 16) (len := 3) rfl (by first | omega | exact hnd) (fun h11 => ?_) (fun h11 => ?_)
  · skip
    refine Wp.n (pc' := 17) 1 rfl ?_
    refine Wp.get (len := 3) rfl (rfl) rfl ?_
    refine Wp.topR hW.1.1 ?_
    refine Wp.get (len := 3) rfl (ra_obj (hRc _)) rfl ?_
    refine Wp.n (pc' := 24) 1 rfl ?_
    refine Wp.get (len := 3) rfl (rfl) rfl ?_
    refine Wp.top hW.1.2.1 ?_
    refine Wp.n (pc' := 28) 1 rfl ?_
    refine Wp.get (len := 3) rfl (rfl) rfl ?_
    refine Wp.n (pc' := 32) 1 rfl ?_
    refine Wp.ialdN (j := i) (len := 1) rfl (rfl) rfl (by omega) (by decide) ?_
    refine Wp.top n2 ?_
    refine Wp.n (pc' := 34) 1 rfl ?_
    refine Wp.iaddN (x := w.2.1) (y := m) (len := 1) rfl ?_
    refine Wp.ecallS (len := 3) rfl rfl rfl rfl (k_sparedOf ok ha (by omega)) ?_
    refine Wp.n (pc' := 39) 1 rfl ?_
    refine Wp.get (len := 3) rfl (rfl) rfl ?_
    refine Wp.top hW.1.2.2.2.2.2 ?_
    refine Wp.n (pc' := 43) 1 rfl ?_
    refine Wp.get (len := 3) rfl (rfl) rfl ?_
    refine Wp.top hW.1.2.2.2.2.1 ?_
    refine Wp.ecallV (len := 3) rfl rfl rfl (ra_law (hRc _)) rfl (by omega) rfl (k_dutyOn (hRc _) hK ok (by omega) hsv hl hy) ?_
    refine Wp.retI (len := 1) rfl rfl ?_
    unfold dX
    first
      | (have hbt : boatK K w.2.2 = false := (boatC_and ok hb2).mp h11
         rw [hbt]
         exact ⟨rfl, rfl⟩)
      | (have hbt : boatK K w.2.2 = true := Bool.of_not_eq_false (fun e => h11 ((boatC_and ok hb2).mpr e))
         rw [hbt]
         unfold dutyS
         rw [if_pos (Or.inl rfl)]
         exact ⟨rfl, rfl⟩)
  · skip
    refine Wp.n (pc' := 15) 1 rfl ?_
    refine Wp.retI (len := 1) rfl rfl ?_
    unfold dX
    first
      | (have hbt : boatK K w.2.2 = false := (boatC_and ok hb2).mp h11
         rw [hbt]
         exact ⟨rfl, rfl⟩)
      | (have hbt : boatK K w.2.2 = true := Bool.of_not_eq_false (fun e => h11 ((boatC_and ok hb2).mpr e))
         rw [hbt]
         unfold dutyS
         rw [if_pos (Or.inl rfl)]
         exact ⟨rfl, rfl⟩)

def cstW (K : KD) (a t y load : Nat) (w : WY) : Nat := cW K 2 (dW K a t y load w.2) w.2
theorem t_costOf (hk : RK M r K) (ha : a < kh K 0) (hy : y < 31) (hl : load ≤ 9) (hW : WR κ K r a t y load) {i : Nat} (hi : i < (allW K y a t).length) (h3 : (allW K y a t).length ≤ 326) : Ev (d + 10) md_81 0 [some (.ref 273), some (.int (nI i))] [] (cset M κ) (some (.int (nI (cstW K a t y load ((allW K y a t).getD i wy0)))), cset M κ) := by
  obtain ⟨ρ, hR, hK, hDC, ok, hr1, hr2⟩ := id hk
  obtain ⟨b0, b1, b2, b3, b4, b5, b6, b7, b8, b9, b10, b11, b12⟩ := ok_h ok
  have hRc : ∀ κ : CS, RA (cset M κ) r ρ := fun κ => RA_c hR hr1 hr2
  refine Wp.toEv ?_
  obtain ⟨n1, n2, n3, n4⟩ := hW.2.2 i hi
  refine Wp.n (pc' := 1) 1 rfl ?_
  refine Wp.get (len := 3) rfl (rfl) rfl ?_
  refine Wp.topR hW.1.1 ?_
  refine Wp.get (len := 3) rfl (ra_obj (hRc _)) rfl ?_
  refine Wp.get (len := 3) rfl (ra_law (hRc _)) rfl ?_
  refine Wp.top (rc_law hK (by omega) (j := 2) (by decide)) ?_
  refine Wp.n (pc' := 11) 1 rfl ?_
  refine Wp.get (len := 3) rfl (rfl) rfl ?_
  refine Wp.n (pc' := 15) 1 rfl ?_
  refine Wp.ialdN (j := i) (len := 1) rfl (rfl) rfl (by omega) (by decide) ?_
  refine Wp.top n2 ?_
  refine Wp.imulN (x := kh K 8) (y := ((allW K y a t).getD i wy0).2.1) (len := 1) rfl ?_
  refine Wp.n (pc' := 20) 3 rfl ?_
  refine Wp.ecallV (len := 3) rfl rfl rfl (rfl) rfl (by decide) rfl (t_dutyOf hk ha hy hl hW hi h3 (m := 0) (by decide)) ?_
  refine Wp.iaddN (x := (kh K 8) * (((allW K y a t).getD i wy0).2.1)) (y := dW K a t y load ((allW K y a t).getD i wy0).2) (len := 1) rfl ?_
  refine Wp.retI (len := 1) rfl rfl ?_
  exact ⟨rfl, rfl⟩

theorem fld_list {α β : Type} (g : β → α → β) (d0 : α) (l : List α) (c : β) : fld (fun c i => g c (l.getD i d0)) l.length 0 c = List.foldl g c l := by
  have h : ∀ n i c, i + n = l.length → fld (fun c i => g c (l.getD i d0)) n i c = List.foldl g c (l.drop i) := by
    intro n
    induction n with
    | zero => intro i c hi; rw [List.drop_eq_nil_of_le (by omega)]; rfl
    | succ n ih =>
      intro i c hi
      rw [List.drop_eq_getElem_cons (by omega : i < l.length), List.foldl_cons]
      show fld _ n (i + 1) (g c (l.getD i d0)) = _
      rw [ih (i + 1) _ (by omega), List.getD_eq_getElem?_getD, List.getElem?_eq_getElem (by omega : i < l.length)]
      rfl
  exact (h l.length 0 c (by omega)).trans (by rw [List.drop_zero])
def ltO (c : Option Nat) (x : Nat) : Bool := match c with | none => true | some z => decide (x < z)
def lst1 (P : WY → Bool) (c : Option Nat) (w : WY) : Option Nat := if P w = true ∧ ltO c w.2.1 = true then some w.2.1 else c
theorem t_least_l {ws : List WY} (hN : NT κ K ws) (h3 : ws.length ≤ 326) {sh : Nat} {P : WY → Bool} (hP : ∀ w, w ∈ ws → (bitsC K w.2.2 &&& sh = 0 ↔ P w = true)) (hb : ∀ w, w ∈ ws → w.2.1 ≤ 774 ∧ bitsC K w.2.2 < 2 ^ 9) : ∀ (n i : Nat) (c : Option Nat), i + n = ws.length → (∀ x, c = some x → x ≤ 774) → Wp d md_79 4 [some (.ref 273), some (.int (nI sh)), some (.int (oI c)), some (.int (nI i))] [] (cset M κ) (IsR (some (.int (oI (fld (fun c i => lst1 P c (ws.getD i wy0)) n i c)))) (cset M κ)) := by
  intro n
  induction n with
  | zero =>
    intro i c hi hc
    refine Wp.n (pc' := 6) 2 rfl ?_
    refine Wp.get (len := 3) rfl (rfl) rfl ?_
    refine Wp.top hN.1 ?_
    refine Wp.nc3 (x := i) (y := ws.length) (tgt := 51) (len := 3) rfl (by omega) (by omega) (fun h9 => ?_) (fun h9 => ?_)
    · skip
      refine Wp.n (pc' := 52) 1 rfl ?_
      refine Wp.retI (len := 1) rfl rfl ?_
      exact ⟨rfl, rfl⟩
    · omega
  | succ n ih =>
    intro i c hi hc
    obtain ⟨n1, n2, n3, n4⟩ := hN.2 i (by omega)
    have hm := getDw_mem (ws := ws) (i := i) (by omega)
    obtain ⟨w, hw⟩ : ∃ w, ws.getD i wy0 = w := ⟨_, rfl⟩
    rw [hw] at n2 n3 hm
    have hPw := hP w hm
    obtain ⟨hb1, hb2⟩ := hb w hm
    have hnd : bitsC K w.2.2 &&& sh < 2 ^ 31 := Nat.lt_of_le_of_lt Nat.and_le_left (by omega)
    have kk : ∀ c', lst1 P c w = c' → (∀ x, c' = some x → x ≤ 774) → Wp d md_79 4 [some (.ref 273), some (.int (nI sh)), some (.int (oI c')), some (.int (nI (i + 1)))] [] (cset M κ) (IsR (some (.int (oI (fld (fun c i => lst1 P c (ws.getD i wy0)) (n + 1) i c)))) (cset M κ)) := by
      intro c' e hc'
      show Wp _ _ _ _ _ _ (IsR (some (.int (oI (fld (fun c i => lst1 P c (ws.getD i wy0)) n (i + 1) (lst1 P c (ws.getD i wy0)))))) (cset M κ))
      rw [hw, e]
      exact ih (i + 1) c' (by omega) hc'
    refine Wp.n (pc' := 6) 2 rfl ?_
    refine Wp.get (len := 3) rfl (rfl) rfl ?_
    refine Wp.top hN.1 ?_
    refine Wp.nc3 (x := i) (y := ws.length) (tgt := 51) (len := 3) rfl (by first | omega | exact hnd) (by first | omega | exact hnd) (fun h9 => ?_) (fun h9 => ?_)
    · omega
    · skip
      refine Wp.n (pc' := 13) 1 rfl ?_
      refine Wp.get (len := 3) rfl (rfl) rfl ?_
      refine Wp.n (pc' := 17) 1 rfl ?_
      refine Wp.ialdN (j := i) (len := 1) rfl (rfl) rfl (by omega) (by decide) ?_
      refine Wp.top n3 ?_
      refine Wp.n (pc' := 20) 2 rfl ?_
      refine Wp.top (n_and _ _) ?_
      refine Wp.nz1 (x := bitsC K w.2.2 &&& sh) (tgt := 45) (len := 3) rfl (by first | omega | exact hnd) (fun h20 => ?_) (fun h20 => ?_)
      · skip
        refine Wp.incN (x := i) (len := 3) rfl rfl ?_
        refine Wp.n (pc' := 4) 1 rfl ?_
        first
          | (have e : lst1 P c w = c := if_neg (fun q => h20 (hPw.mpr q.1))
             exact kk c e hc)
          | (have e : lst1 P none w = some w.2.1 := if_pos ⟨hPw.mp h20, rfl⟩
             exact kk (some w.2.1) e (fun x hx => by cases hx; exact hb1))
          | (have e : lst1 P (some z) w = some z := if_neg (fun q => by have := of_decide_eq_true q.2; omega)
             exact kk (some z) e hc)
          | (have e : lst1 P (some z) w = some w.2.1 := if_pos ⟨hPw.mp h20, decide_eq_true h35⟩
             exact kk (some w.2.1) e (fun x hx => by cases hx; exact hb1))
      · skip
        rcases c with _ | z
        · skip
          refine Wp.n (pc' := 25) 2 rfl ?_
          refine Wp.ic0 (tgt := 38) (len := 3) rfl (fun h25 => ?_) (fun h25 => ?_)
          · skip
            refine Wp.n (pc' := 39) 1 rfl ?_
            refine Wp.get (len := 3) rfl (rfl) rfl ?_
            refine Wp.n (pc' := 43) 1 rfl ?_
            refine Wp.ialdN (j := i) (len := 1) rfl (rfl) rfl (by omega) (by decide) ?_
            refine Wp.top n2 ?_
            refine Wp.n (pc' := 45) 1 rfl ?_
            refine Wp.incN (x := i) (len := 3) rfl rfl ?_
            refine Wp.n (pc' := 4) 1 rfl ?_
            first
              | (have e : lst1 P c w = c := if_neg (fun q => h20 (hPw.mpr q.1))
                 exact kk c e hc)
              | (have e : lst1 P none w = some w.2.1 := if_pos ⟨hPw.mp h20, rfl⟩
                 exact kk (some w.2.1) e (fun x hx => by cases hx; exact hb1))
              | (have e : lst1 P (some z) w = some z := if_neg (fun q => by have := of_decide_eq_true q.2; omega)
                 exact kk (some z) e hc)
              | (have e : lst1 P (some z) w = some w.2.1 := if_pos ⟨hPw.mp h20, decide_eq_true h35⟩
                 exact kk (some w.2.1) e (fun x hx => by cases hx; exact hb1))
          · exact absurd rfl h25
        · have hz := hc z rfl
          refine Wp.n (pc' := 25) 2 rfl ?_
          refine Wp.ic0 (tgt := 38) (len := 3) rfl (fun h25 => ?_) (fun h25 => ?_)
          · exact absurd h25 (oI_ne (by omega))
          · skip
            refine Wp.n (pc' := 29) 1 rfl ?_
            refine Wp.get (len := 3) rfl (rfl) rfl ?_
            refine Wp.n (pc' := 33) 1 rfl ?_
            refine Wp.ialdN (j := i) (len := 1) rfl (rfl) rfl (by omega) (by decide) ?_
            refine Wp.top n2 ?_
            refine Wp.n (pc' := 35) 1 rfl ?_
            refine Wp.nc3 (x := w.2.1) (y := z) (tgt := 45) (len := 3) rfl (by first | omega | exact hnd) (by first | omega | exact hnd) (fun h35 => ?_) (fun h35 => ?_)
            · skip
              refine Wp.incN (x := i) (len := 3) rfl rfl ?_
              refine Wp.n (pc' := 4) 1 rfl ?_
              first
                | (have e : lst1 P c w = c := if_neg (fun q => h20 (hPw.mpr q.1))
                   exact kk c e hc)
                | (have e : lst1 P none w = some w.2.1 := if_pos ⟨hPw.mp h20, rfl⟩
                   exact kk (some w.2.1) e (fun x hx => by cases hx; exact hb1))
                | (have e : lst1 P (some z) w = some z := if_neg (fun q => by have := of_decide_eq_true q.2; omega)
                   exact kk (some z) e hc)
                | (have e : lst1 P (some z) w = some w.2.1 := if_pos ⟨hPw.mp h20, decide_eq_true h35⟩
                   exact kk (some w.2.1) e (fun x hx => by cases hx; exact hb1))
            · skip
              refine Wp.n (pc' := 39) 1 rfl ?_
              refine Wp.get (len := 3) rfl (rfl) rfl ?_
              refine Wp.n (pc' := 43) 1 rfl ?_
              refine Wp.ialdN (j := i) (len := 1) rfl (rfl) rfl (by omega) (by decide) ?_
              refine Wp.top n2 ?_
              refine Wp.n (pc' := 45) 1 rfl ?_
              refine Wp.incN (x := i) (len := 3) rfl rfl ?_
              refine Wp.n (pc' := 4) 1 rfl ?_
              first
                | (have e : lst1 P c w = c := if_neg (fun q => h20 (hPw.mpr q.1))
                   exact kk c e hc)
                | (have e : lst1 P none w = some w.2.1 := if_pos ⟨hPw.mp h20, rfl⟩
                   exact kk (some w.2.1) e (fun x hx => by cases hx; exact hb1))
                | (have e : lst1 P (some z) w = some z := if_neg (fun q => by have := of_decide_eq_true q.2; omega)
                   exact kk (some z) e hc)
                | (have e : lst1 P (some z) w = some w.2.1 := if_pos ⟨hPw.mp h20, decide_eq_true h35⟩
                   exact kk (some w.2.1) e (fun x hx => by cases hx; exact hb1))

theorem t_least {ws : List WY} (hN : NT κ K ws) (h3 : ws.length ≤ 326) {sh : Nat} {P : WY → Bool} (hP : ∀ w, w ∈ ws → (bitsC K w.2.2 &&& sh = 0 ↔ P w = true)) (hb : ∀ w, w ∈ ws → w.2.1 ≤ 774 ∧ bitsC K w.2.2 < 2 ^ 9) : Ev d md_79 0 [some (.ref 273), some (.int (nI sh)), none, none] [] (cset M κ) (some (.int (oI (List.foldl (lst1 P) none ws))), cset M κ) := by
  refine Wp.toEv ?_
  refine Wp.n (pc' := 4) 4 rfl ?_
  have w := t_least_l (d := d) (M := M) hN h3 hP hb ws.length 0 none (by omega) (fun x hx => by cases hx)
  rw [fld_list (lst1 P) wy0] at w
  exact w
/-- the search for the best -/
def bstC (K : KD) (a t y load : Nat) (ws : List WY) (c : Option Nat × Nat) (i : Nat) : Bool := match c.1 with | none => true | some b => decide (cstW K a t y load (ws.getD i wy0) < c.2 ∨ (cstW K a t y load (ws.getD i wy0) = c.2 ∧ (ws.getD i wy0).2.1 < (ws.getD b wy0).2.1))
def bst (K : KD) (a t y load : Nat) (ws : List WY) (c : Option Nat × Nat) (i : Nat) : Option Nat × Nat := if bstC K a t y load ws c i = true then (some i, cstW K a t y load (ws.getD i wy0)) else c
theorem cstW_b (ok : KOK K) (ha : a < kh K 0) (hl : load ≤ 9) {w : WY} (hw : w ∈ allW K y a t) : cstW K a t y load w ≤ 766260 := cW_b2 ok (allW_b ok ha hw).1 (dutyS_b ok (savK_b ok ha) hl)
theorem t_best_l (hk : RK M r K) (ha : a < kh K 0) (hy : y < 31) (hl : load ≤ 9) (hW : WR κ K r a t y load) (h3 : (allW K y a t).length ≤ 326) : ∀ (n i : Nat) (c : Option Nat × Nat) (z4 z5 : Option Value), i + n = (allW K y a t).length → (∀ b, c.1 = some b → b < (allW K y a t).length) → c.2 ≤ 766260 → Wp (d + 11) md_80 6 [some (.ref 273), some (.int (oI c.1)), some (.int (nI (c.2))), some (.int (nI i)), z4, z5] [] (cset M κ) (IsR (some (.int (oI (fld (bst K a t y load (allW K y a t)) n i c).1))) (cset M κ)) := by
  obtain ⟨ρ, hR, hK, hDC, ok, hr1, hr2⟩ := id hk
  obtain ⟨b0, b1, b2, b3, b4, b5, b6, b7, b8, b9, b10, b11, b12⟩ := ok_h ok
  have hRc : ∀ κ : CS, RA (cset M κ) r ρ := fun κ => RA_c hR hr1 hr2
  intro n
  induction n with
  | zero =>
    intro i c z4 z5 hi hc hc2
    refine Wp.n (pc' := 8) 2 rfl ?_
    refine Wp.get (len := 3) rfl (rfl) rfl ?_
    refine Wp.top hW.2.1 ?_
    refine Wp.nc3 (x := i) (y := (allW K y a t).length) (tgt := 76) (len := 3) rfl (by omega) (by omega) (fun h11 => ?_) (fun h11 => ?_)
    · skip
      refine Wp.n (pc' := 77) 1 rfl ?_
      refine Wp.retI (len := 1) rfl rfl ?_
      exact ⟨rfl, rfl⟩
    · omega
  | succ n ih =>
    intro i c z4 z5 hi hc hc2
    have hil : i < (allW K y a t).length := by omega
    obtain ⟨n1, n2, n3, n4⟩ := hW.2.2 i hil
    have hcb := cstW_b (load := load) ok ha hl (getDw_mem hil)
    have hib := (allW_b ok ha (getDw_mem hil)).1
    have kk : ∀ (c' : Option Nat × Nat) (z4 z5 : Option Value), bst K a t y load (allW K y a t) c i = c' → (∀ b, c'.1 = some b → b < (allW K y a t).length) → c'.2 ≤ 766260 → Wp (d + 11) md_80 6 [some (.ref 273), some (.int (oI c'.1)), some (.int (nI (c'.2))), some (.int (nI (i + 1))), z4, z5] [] (cset M κ) (IsR (some (.int (oI (fld (bst K a t y load (allW K y a t)) (n + 1) i c).1))) (cset M κ)) := by
      intro c' z4 z5 e h1 h2
      show Wp _ _ _ _ _ _ (IsR (some (.int (oI (fld (bst K a t y load (allW K y a t)) n (i + 1) (bst K a t y load (allW K y a t) c i)).1))) (cset M κ))
      rw [e]
      exact ih (i + 1) c' _ _ (by omega) h1 h2
    obtain ⟨cb, cl⟩ := c
    have hcn : ∀ b, bstC K a t y load (allW K y a t) (cb, cl) i = b → bst K a t y load (allW K y a t) (cb, cl) i = if b = true then (some i, cstW K a t y load ((allW K y a t).getD i wy0)) else (cb, cl) := fun b hb => by unfold bst; rw [hb]
    replace hc2 : cl ≤ 766260 := hc2
    refine Wp.n (pc' := 8) 2 rfl ?_
    refine Wp.get (len := 3) rfl (rfl) rfl ?_
    refine Wp.top hW.2.1 ?_
    refine Wp.nc3 (x := i) (y := (allW K y a t).length) (tgt := 76) (len := 3) rfl (by omega) (by omega) (fun h11 => ?_) (fun h11 => ?_)
    · omega
    · skip
      refine Wp.n (pc' := 16) 2 rfl ?_
      refine Wp.ecallV (len := 3) rfl rfl rfl (rfl) rfl (by decide) rfl (t_costOf hk ha hy hl hW hil h3) ?_
      refine Wp.n (pc' := 21) 1 rfl ?_
      rcases cb with _ | b
      · skip
        refine Wp.n (pc' := 23) 2 rfl ?_
        refine Wp.ic0 (tgt := 53) (len := 3) rfl (fun h23 => ?_) (fun h23 => ?_)
        · skip
          refine Wp.n (pc' := 62) 4 rfl ?_
          refine Wp.nz0 (x := 1) (tgt := 70) (len := 3) rfl (by omega) (fun h62 => ?_) (fun h62 => ?_)
          · omega
          · skip
            refine Wp.n (pc' := 70) 4 rfl ?_
            refine Wp.incN (x := i) (len := 3) rfl rfl ?_
            refine Wp.n (pc' := 6) 1 rfl ?_
            first
              | (have e := hcn true rfl
                 exact kk _ _ _ e (fun b hb => by cases hb; exact hil) hcb)
              | (have e := hcn true (decide_eq_true (Or.inl h29))
                 exact kk _ _ _ e (fun b hb => by cases hb; exact hil) hcb)
              | (have e := hcn true (decide_eq_true (Or.inr ⟨h35, h50⟩))
                 exact kk _ _ _ e (fun b hb => by cases hb; exact hil) hcb)
              | (have e := hcn false (decide_eq_false (fun q => by rcases q with q | q; exact absurd q (Nat.not_lt.mpr h29); exact h35 q.1))
                 exact kk _ _ _ e hc hc2)
              | (have e := hcn false (decide_eq_false (fun q => by rcases q with q | q; exact absurd q (Nat.not_lt.mpr h29); exact absurd q.2 (Nat.not_lt.mpr h50)))
                 exact kk _ _ _ e hc hc2)
        · exact absurd rfl h23
      · have hb := hc b rfl
        obtain ⟨m1, m2, m3, m4⟩ := hW.2.2 b hb
        have hbb := (allW_b ok ha (getDw_mem hb)).1
        refine Wp.n (pc' := 23) 2 rfl ?_
        refine Wp.ic0 (tgt := 53) (len := 3) rfl (fun h23 => ?_) (fun h23 => ?_)
        · exact absurd h23 (oI_ne (by omega))
        · skip
          refine Wp.n (pc' := 29) 2 rfl ?_
          refine Wp.nc2 (x := cstW K a t y load ((allW K y a t).getD i wy0)) (y := cl) (tgt := 53) (len := 3) rfl (by omega) (by omega) (fun h29 => ?_) (fun h29 => ?_)
          · skip
            refine Wp.n (pc' := 62) 4 rfl ?_
            refine Wp.nz0 (x := 1) (tgt := 70) (len := 3) rfl (by omega) (fun h62 => ?_) (fun h62 => ?_)
            · omega
            · skip
              refine Wp.n (pc' := 70) 4 rfl ?_
              refine Wp.incN (x := i) (len := 3) rfl rfl ?_
              refine Wp.n (pc' := 6) 1 rfl ?_
              first
                | (have e := hcn true rfl
                   exact kk _ _ _ e (fun b hb => by cases hb; exact hil) hcb)
                | (have e := hcn true (decide_eq_true (Or.inl h29))
                   exact kk _ _ _ e (fun b hb => by cases hb; exact hil) hcb)
                | (have e := hcn true (decide_eq_true (Or.inr ⟨h35, h50⟩))
                   exact kk _ _ _ e (fun b hb => by cases hb; exact hil) hcb)
                | (have e := hcn false (decide_eq_false (fun q => by rcases q with q | q; exact absurd q (Nat.not_lt.mpr h29); exact h35 q.1))
                   exact kk _ _ _ e hc hc2)
                | (have e := hcn false (decide_eq_false (fun q => by rcases q with q | q; exact absurd q (Nat.not_lt.mpr h29); exact absurd q.2 (Nat.not_lt.mpr h50)))
                   exact kk _ _ _ e hc hc2)
          · skip
            refine Wp.n (pc' := 35) 2 rfl ?_
            refine Wp.nc1 (x := cstW K a t y load ((allW K y a t).getD i wy0)) (y := cl) (tgt := 57) (len := 3) rfl (by omega) (by omega) (fun h35 => ?_) (fun h35 => ?_)
            · skip
              refine Wp.n (pc' := 62) 3 rfl ?_
              refine Wp.nz0 (x := 0) (tgt := 70) (len := 3) rfl (by omega) (fun h62 => ?_) (fun h62 => ?_)
              · skip
                refine Wp.incN (x := i) (len := 3) rfl rfl ?_
                refine Wp.n (pc' := 6) 1 rfl ?_
                first
                  | (have e := hcn true rfl
                     exact kk _ _ _ e (fun b hb => by cases hb; exact hil) hcb)
                  | (have e := hcn true (decide_eq_true (Or.inl h29))
                     exact kk _ _ _ e (fun b hb => by cases hb; exact hil) hcb)
                  | (have e := hcn true (decide_eq_true (Or.inr ⟨h35, h50⟩))
                     exact kk _ _ _ e (fun b hb => by cases hb; exact hil) hcb)
                  | (have e := hcn false (decide_eq_false (fun q => by rcases q with q | q; exact absurd q (Nat.not_lt.mpr h29); exact h35 q.1))
                     exact kk _ _ _ e hc hc2)
                  | (have e := hcn false (decide_eq_false (fun q => by rcases q with q | q; exact absurd q (Nat.not_lt.mpr h29); exact absurd q.2 (Nat.not_lt.mpr h50)))
                     exact kk _ _ _ e hc hc2)
              · omega
            · skip
              refine Wp.n (pc' := 39) 1 rfl ?_
              refine Wp.get (len := 3) rfl (rfl) rfl ?_
              refine Wp.n (pc' := 43) 1 rfl ?_
              refine Wp.ialdN (j := i) (len := 1) rfl (rfl) rfl (by omega) (by decide) ?_
              refine Wp.top n2 ?_
              refine Wp.n (pc' := 45) 1 rfl ?_
              refine Wp.get (len := 3) rfl (rfl) rfl ?_
              refine Wp.n (pc' := 49) 1 rfl ?_
              refine Wp.ialdN (j := b) (len := 1) rfl (rfl) rfl (by omega) (by decide) ?_
              refine Wp.top m2 ?_
              refine Wp.nc3 (x := ((allW K y a t).getD i wy0).2.1) (y := ((allW K y a t).getD b wy0).2.1) (tgt := 57) (len := 3) rfl (by omega) (by omega) (fun h50 => ?_) (fun h50 => ?_)
              · skip
                refine Wp.n (pc' := 62) 3 rfl ?_
                refine Wp.nz0 (x := 0) (tgt := 70) (len := 3) rfl (by omega) (fun h62 => ?_) (fun h62 => ?_)
                · skip
                  refine Wp.incN (x := i) (len := 3) rfl rfl ?_
                  refine Wp.n (pc' := 6) 1 rfl ?_
                  first
                    | (have e := hcn true rfl
                       exact kk _ _ _ e (fun b hb => by cases hb; exact hil) hcb)
                    | (have e := hcn true (decide_eq_true (Or.inl h29))
                       exact kk _ _ _ e (fun b hb => by cases hb; exact hil) hcb)
                    | (have e := hcn true (decide_eq_true (Or.inr ⟨h35, h50⟩))
                       exact kk _ _ _ e (fun b hb => by cases hb; exact hil) hcb)
                    | (have e := hcn false (decide_eq_false (fun q => by rcases q with q | q; exact absurd q (Nat.not_lt.mpr h29); exact h35 q.1))
                       exact kk _ _ _ e hc hc2)
                    | (have e := hcn false (decide_eq_false (fun q => by rcases q with q | q; exact absurd q (Nat.not_lt.mpr h29); exact absurd q.2 (Nat.not_lt.mpr h50)))
                       exact kk _ _ _ e hc hc2)
                · omega
              · skip
                refine Wp.n (pc' := 62) 4 rfl ?_
                refine Wp.nz0 (x := 1) (tgt := 70) (len := 3) rfl (by omega) (fun h62 => ?_) (fun h62 => ?_)
                · omega
                · skip
                  refine Wp.n (pc' := 70) 4 rfl ?_
                  refine Wp.incN (x := i) (len := 3) rfl rfl ?_
                  refine Wp.n (pc' := 6) 1 rfl ?_
                  first
                    | (have e := hcn true rfl
                       exact kk _ _ _ e (fun b hb => by cases hb; exact hil) hcb)
                    | (have e := hcn true (decide_eq_true (Or.inl h29))
                       exact kk _ _ _ e (fun b hb => by cases hb; exact hil) hcb)
                    | (have e := hcn true (decide_eq_true (Or.inr ⟨h35, h50⟩))
                       exact kk _ _ _ e (fun b hb => by cases hb; exact hil) hcb)
                    | (have e := hcn false (decide_eq_false (fun q => by rcases q with q | q; exact absurd q (Nat.not_lt.mpr h29); exact h35 q.1))
                       exact kk _ _ _ e hc hc2)
                    | (have e := hcn false (decide_eq_false (fun q => by rcases q with q | q; exact absurd q (Nat.not_lt.mpr h29); exact absurd q.2 (Nat.not_lt.mpr h50)))
                       exact kk _ _ _ e hc hc2)

def bstK (K : KD) (a t y load : Nat) : Option Nat := (fld (bst K a t y load (allW K y a t)) (allW K y a t).length 0 (none, 0)).1
theorem t_best (hk : RK M r K) (ha : a < kh K 0) (hy : y < 31) (hl : load ≤ 9) (hW : WR κ K r a t y load) (h3 : (allW K y a t).length ≤ 326) : Ev (d + 11) md_80 0 [some (.ref 273), none, none, none, none, none] [] (cset M κ) (some (.int (oI (bstK K a t y load))), cset M κ) := by
  refine Wp.toEv ?_
  refine Wp.n (pc' := 6) 6 rfl ?_
  exact t_best_l hk ha hy hl hW h3 (allW K y a t).length 0 (none, 0) none none (by omega) (fun b hb => by cases hb) (Nat.zero_le _)
def plO (ws : List WY) (c : Option Nat) (x : Int32) : Int32 := match c with | none => -1 | some b => if isN (ws.getD b wy0).1.length x = true then nI ((ws.getD b wy0).1.getD x.toNatClampNeg 0) else -1
theorem t_placeOf (ok : KOK K) (ha : a < kh K 0) (hW : WR κ K r a t y load) (h3 : (allW K y a t).length ≤ 326) {c : Option Nat} (hc : ∀ b, c = some b → b < (allW K y a t).length) (x : Int32) : Ev (d + 1) md_83 0 [some (.ref 273), some (.int (oI c)), some (.int x)] [] (cset M κ) (some (.int (plO (allW K y a t) c x)), cset M κ) := by
  have h0 := (ok_h ok).1
  refine Wp.toEv ?_
  rcases c with _ | b
  · skip
    refine Wp.n (pc' := 1) 1 rfl ?_
    refine Wp.if2 (tgt := 26) (len := 3) rfl (fun h1 => ?_) (fun h1 => ?_)
    · skip
      refine Wp.n (pc' := 27) 1 rfl ?_
      refine Wp.retI (len := 1) rfl rfl ?_
      exact ⟨rfl, rfl⟩
    · exact absurd (by decide) h1
  · have hb := hc b rfl
    obtain ⟨n1, n2, n3, n4⟩ := hW.2.2 b hb
    have hm := allW_b ok ha (getDw_mem hb)
    obtain ⟨w, hw⟩ : ∃ w, (allW K y a t).getD b wy0 = w := ⟨_, rfl⟩
    rw [hw] at n1 n4 hm
    obtain ⟨_, _, _, hm7, hm1, hmp⟩ := hm
    have h8 : ∀ x, x ∈ w.1 → x < 8 := fun x hx => by have := hmp x hx; omega
    have hrl : rowE w.1 < 2 ^ 31 := by
      have e1 := rowE_lt h8
      have e2 : 8 ^ w.1.length ≤ 8 ^ 7 := Nat.pow_le_pow_right (by decide) hm7
      omega
    show Wp _ _ _ _ _ _ (IsR (some (.int (if isN ((allW K y a t).getD b wy0).1.length x = true then nI (((allW K y a t).getD b wy0).1.getD x.toNatClampNeg 0) else -1))) (cset M κ))
    rw [hw]
    have en : isN w.1.length x = true ↔ ¬ x < 0 ∧ x < nI w.1.length := by
      unfold isN
      rw [decide_eq_true_iff, i_lt, i_lt, nI_toInt (by omega)]
      constructor
      · rintro ⟨p, q⟩
        exact ⟨fun c => by have c' : x.toInt < 0 := c; omega, q⟩
      · rintro ⟨p, q⟩
        have p' : ¬ x.toInt < 0 := p
        omega
    refine Wp.n (pc' := 1) 1 rfl ?_
    refine Wp.nz2 (x := b) (tgt := 26) (len := 3) rfl (by omega) ?_
    refine Wp.n (pc' := 6) 2 rfl ?_
    refine Wp.get (len := 3) rfl (rfl) rfl ?_
    refine Wp.top hW.2.1 ?_
    refine Wp.nc3 (x := b) (y := (allW K y a t).length) (tgt := 26) (len := 3) rfl (by omega) (by omega) (fun h9 => ?_) (fun h9 => ?_)
    · omega
    · skip
      refine Wp.n (pc' := 13) 1 rfl ?_
      refine Wp.if2 (tgt := 26) (len := 3) rfl (fun h13 => ?_) (fun h13 => ?_)
      · skip
        refine Wp.n (pc' := 27) 1 rfl ?_
        refine Wp.retI (len := 1) rfl rfl ?_
        first
          | exact ⟨rfl, rfl⟩
          | (rw [if_neg (fun q => (en.mp q).1 h13)]; exact ⟨rfl, rfl⟩)
          | (rw [if_neg (fun q => h23 (en.mp q).2)]; exact ⟨rfl, rfl⟩)
      · skip
        refine Wp.n (pc' := 18) 2 rfl ?_
        refine Wp.get (len := 3) rfl (rfl) rfl ?_
        refine Wp.n (pc' := 22) 1 rfl ?_
        refine Wp.ialdN (j := b) (len := 1) rfl (rfl) rfl (by omega) (by decide) ?_
        refine Wp.top n1 ?_
        refine Wp.ic2 (tgt := 28) (len := 3) rfl (fun h23 => ?_) (fun h23 => ?_)
        · skip
          obtain ⟨j, hj, rfl⟩ := isN_of (en.mpr ⟨h13, h23⟩)
          rw [if_pos (en.mpr ⟨h13, h23⟩), nI_clamp (by omega)]
          refine Wp.n (pc' := 29) 1 rfl ?_
          refine Wp.get (len := 3) rfl (rfl) rfl ?_
          refine Wp.n (pc' := 33) 1 rfl ?_
          refine Wp.ialdN (j := b) (len := 1) rfl (rfl) rfl (by omega) (by decide) ?_
          refine Wp.top n4 ?_
          refine Wp.n (pc' := 35) 1 rfl ?_
          refine Wp.ecallS (len := 3) rfl rfl rfl rfl (k_placeIn hrl (by omega)) ?_
          refine Wp.top (show _ = nI (w.1.getD j 0) from by rw [rowE_get h8 hj]) ?_
          refine Wp.retI (len := 1) rfl rfl ?_
          first
            | exact ⟨rfl, rfl⟩
            | (rw [if_neg (fun q => (en.mp q).1 h13)]; exact ⟨rfl, rfl⟩)
            | (rw [if_neg (fun q => h23 (en.mp q).2)]; exact ⟨rfl, rfl⟩)
        · skip
          refine Wp.n (pc' := 27) 1 rfl ?_
          refine Wp.retI (len := 1) rfl rfl ?_
          first
            | exact ⟨rfl, rfl⟩
            | (rw [if_neg (fun q => (en.mp q).1 h13)]; exact ⟨rfl, rfl⟩)
            | (rw [if_neg (fun q => h23 (en.mp q).2)]; exact ⟨rfl, rfl⟩)

def cnt1 (K : KD) (a t y load : Nat) (v : Int64) (c : Nat) (w : WY) : Nat := if lN (dW K a t y load w.2) = v then c + 1 else c
theorem t_count_l (hk : RK M r K) (ha : a < kh K 0) (hy : y < 31) (hl : load ≤ 9) (hW : WR κ K r a t y load) (h3 : (allW K y a t).length ≤ 326) (v : Int64) : ∀ (n i c : Nat), i + n = (allW K y a t).length → Wp (d + 10) md_84 5 [some (.ref 273), some (.long v), none, some (.int (nI c)), some (.int (nI i))] [] (cset M κ) (IsR (some (.int (nI (fld (fun c i => cnt1 K a t y load v c ((allW K y a t).getD i wy0)) n i c)))) (cset M κ)) := by
  obtain ⟨ρ, hR, hK, hDC, ok, hr1, hr2⟩ := id hk
  obtain ⟨b0, b1, b2, b3, b4, b5, b6, b7, b8, b9, b10, b11, b12⟩ := ok_h ok
  have hRc : ∀ κ : CS, RA (cset M κ) r ρ := fun κ => RA_c hR hr1 hr2
  intro n
  induction n with
  | zero =>
    intro i c hi
    refine Wp.n (pc' := 8) 2 rfl ?_
    refine Wp.get (len := 3) rfl (rfl) rfl ?_
    refine Wp.top hW.2.1 ?_
    refine Wp.nc3 (x := i) (y := (allW K y a t).length) (tgt := 41) (len := 3) rfl (by omega) (by omega) (fun h11 => ?_) (fun h11 => ?_)
    · skip
      refine Wp.n (pc' := 42) 1 rfl ?_
      refine Wp.retI (len := 1) rfl rfl ?_
      exact ⟨rfl, rfl⟩
    · omega
  | succ n ih =>
    intro i c hi
    have hil : i < (allW K y a t).length := by omega
    have hdb : dW K a t y load ((allW K y a t).getD i wy0).2 ≤ 689634 := dutyS_b ok (savK_b ok ha) hl
    show Wp _ _ _ _ _ _ (IsR (some (.int (nI (fld (fun c i => cnt1 K a t y load v c ((allW K y a t).getD i wy0)) n (i + 1) (cnt1 K a t y load v c ((allW K y a t).getD i wy0)))))) (cset M κ))
    refine Wp.n (pc' := 8) 2 rfl ?_
    refine Wp.get (len := 3) rfl (rfl) rfl ?_
    refine Wp.top hW.2.1 ?_
    refine Wp.nc3 (x := i) (y := (allW K y a t).length) (tgt := 41) (len := 3) rfl (by omega) (by omega) (fun h11 => ?_) (fun h11 => ?_)
    · omega
    · skip
      refine Wp.n (pc' := 19) 4 rfl ?_
      refine Wp.ecallV (len := 3) rfl rfl rfl (rfl) rfl (by decide) rfl (t_dutyOf hk ha hy hl hW hil h3 (m := 0) (by decide)) ?_
      refine Wp.i2lM (x := dW K a t y load ((allW K y a t).getD i wy0).2) (len := 1) rfl (by omega) ?_
      refine Wp.n (pc' := 25) 2 rfl ?_
      refine Wp.if1 (tgt := 32) (len := 3) rfl (fun h25 => ?_) (fun h25 => ?_)
      · skip
        refine Wp.n (pc' := 33) 1 rfl ?_
        refine Wp.iaddN (x := c) (y := 0) (len := 1) rfl ?_
        refine Wp.n (pc' := 35) 1 rfl ?_
        refine Wp.incN (x := i) (len := 3) rfl rfl ?_
        refine Wp.n (pc' := 5) 1 rfl ?_
        first
          | (have e : cnt1 K a t y load v c ((allW K y a t).getD i wy0) = c + 1 := if_pos ((cmp_eq _ _).mp h25)
             rw [e]
             exact ih (i + 1) (c + 1) (by omega))
          | (have e : cnt1 K a t y load v c ((allW K y a t).getD i wy0) = c := if_neg (fun q => h25 ((cmp_eq _ _).mpr q))
             rw [e]
             exact ih (i + 1) c (by omega))
      · skip
        refine Wp.n (pc' := 33) 2 rfl ?_
        refine Wp.iaddN (x := c) (y := 1) (len := 1) rfl ?_
        refine Wp.n (pc' := 35) 1 rfl ?_
        refine Wp.incN (x := i) (len := 3) rfl rfl ?_
        refine Wp.n (pc' := 5) 1 rfl ?_
        first
          | (have e : cnt1 K a t y load v c ((allW K y a t).getD i wy0) = c + 1 := if_pos ((cmp_eq _ _).mp h25)
             rw [e]
             exact ih (i + 1) (c + 1) (by omega))
          | (have e : cnt1 K a t y load v c ((allW K y a t).getD i wy0) = c := if_neg (fun q => h25 ((cmp_eq _ _).mpr q))
             rw [e]
             exact ih (i + 1) c (by omega))

theorem t_count (hk : RK M r K) (ha : a < kh K 0) (hy : y < 31) (hl : load ≤ 9) (hW : WR κ K r a t y load) (h3 : (allW K y a t).length ≤ 326) (v : Int64) : Ev (d + 10) md_84 0 [some (.ref 273), some (.long v), none, none, none] [] (cset M κ) (some (.int (nI (List.foldl (cnt1 K a t y load v) 0 (allW K y a t)))), cset M κ) := by
  refine Wp.toEv ?_
  refine Wp.n (pc' := 5) 4 rfl ?_
  have w := t_count_l (d := d) hk ha hy hl hW h3 v (allW K y a t).length 0 0 (by omega)
  rw [fld_list (cnt1 K a t y load v) wy0] at w
  exact w
def com1 (K : KD) (a t y load dn : Nat) (c : Option Nat) (w : WY) : Option Nat := if dW K a t y load w.2 = dn then some (match c with | none => bitsC K w.2.2 | some b => b &&& bitsC K w.2.2) else c
theorem t_common_l (hk : RK M r K) (ha : a < kh K 0) (hy : y < 31) (hl : load ≤ 9) (hW : WR κ K r a t y load) (h3 : (allW K y a t).length ≤ 326) {dn : Nat} (hdn : dn < 2 ^ 31) : ∀ (n i : Nat) (c : Option Nat), i + n = (allW K y a t).length → (∀ x, c = some x → x < 512) → Wp (d + 10) md_85 4 [some (.ref 273), some (.int (nI dn)), some (.int (oI c)), some (.int (nI i))] [] (cset M κ) (IsR (some (.int (oI (fld (fun c i => com1 K a t y load dn c ((allW K y a t).getD i wy0)) n i c)))) (cset M κ)) := by
  obtain ⟨ρ, hR, hK, hDC, ok, hr1, hr2⟩ := id hk
  obtain ⟨b0, b1, b2, b3, b4, b5, b6, b7, b8, b9, b10, b11, b12⟩ := ok_h ok
  have hRc : ∀ κ : CS, RA (cset M κ) r ρ := fun κ => RA_c hR hr1 hr2
  intro n
  induction n with
  | zero =>
    intro i c hi hc
    refine Wp.n (pc' := 6) 2 rfl ?_
    refine Wp.get (len := 3) rfl (rfl) rfl ?_
    refine Wp.top hW.2.1 ?_
    refine Wp.nc3 (x := i) (y := (allW K y a t).length) (tgt := 51) (len := 3) rfl (by omega) (by omega) (fun h9 => ?_) (fun h9 => ?_)
    · skip
      refine Wp.n (pc' := 52) 1 rfl ?_
      refine Wp.retI (len := 1) rfl rfl ?_
      exact ⟨rfl, rfl⟩
    · omega
  | succ n ih =>
    intro i c hi hc
    have hil : i < (allW K y a t).length := by omega
    obtain ⟨n1, n2, n3, n4⟩ := hW.2.2 i hil
    have hbl := (allW_b ok ha (getDw_mem hil)).2.2.1
    have hdb : dW K a t y load ((allW K y a t).getD i wy0).2 ≤ 689634 := dutyS_b ok (savK_b ok ha) hl
    show Wp _ _ _ _ _ _ (IsR (some (.int (oI (fld (fun c i => com1 K a t y load dn c ((allW K y a t).getD i wy0)) n (i + 1) (com1 K a t y load dn c ((allW K y a t).getD i wy0)))))) (cset M κ))
    refine Wp.n (pc' := 6) 2 rfl ?_
    refine Wp.get (len := 3) rfl (rfl) rfl ?_
    refine Wp.top hW.2.1 ?_
    refine Wp.nc3 (x := i) (y := (allW K y a t).length) (tgt := 51) (len := 3) rfl (by omega) (by omega) (fun h9 => ?_) (fun h9 => ?_)
    · omega
    · skip
      refine Wp.n (pc' := 15) 3 rfl ?_
      refine Wp.ecallV (len := 3) rfl rfl rfl (rfl) rfl (by decide) rfl (t_dutyOf hk ha hy hl hW hil h3 (m := 0) (by decide)) ?_
      refine Wp.n (pc' := 19) 1 rfl ?_
      refine Wp.nc1 (x := dW K a t y load ((allW K y a t).getD i wy0).2) (y := dn) (tgt := 45) (len := 3) rfl (by omega) (by omega) (fun h19 => ?_) (fun h19 => ?_)
      · skip
        refine Wp.incN (x := i) (len := 3) rfl rfl ?_
        refine Wp.n (pc' := 4) 1 rfl ?_
        first
          | (have e : com1 K a t y load dn c ((allW K y a t).getD i wy0) = c := if_neg h19
             rw [e]
             exact ih (i + 1) c (by omega) hc)
          | (have e : com1 K a t y load dn none ((allW K y a t).getD i wy0) = some (bitsC K ((allW K y a t).getD i wy0).2.2) := if_pos h19
             rw [e]
             exact ih (i + 1) (some (bitsC K ((allW K y a t).getD i wy0).2.2)) (by omega) (fun x hx => by cases hx; exact hbl))
          | (have e : com1 K a t y load dn (some b) ((allW K y a t).getD i wy0) = some (b &&& bitsC K ((allW K y a t).getD i wy0).2.2) := if_pos h19
             rw [e]
             exact ih (i + 1) (some (b &&& bitsC K ((allW K y a t).getD i wy0).2.2)) (by omega) (fun x hx => by cases hx; exact Nat.lt_of_le_of_lt Nat.and_le_left hz))
      · skip
        rcases c with _ | b
        · skip
          refine Wp.n (pc' := 24) 2 rfl ?_
          refine Wp.ic1 (tgt := 36) (len := 3) rfl (fun h24 => ?_) (fun h24 => ?_)
          · exact absurd rfl h24
          · skip
            refine Wp.n (pc' := 28) 1 rfl ?_
            refine Wp.get (len := 3) rfl (rfl) rfl ?_
            refine Wp.n (pc' := 32) 1 rfl ?_
            refine Wp.ialdN (j := i) (len := 1) rfl (rfl) rfl (by omega) (by decide) ?_
            refine Wp.top n3 ?_
            refine Wp.n (pc' := 45) 2 rfl ?_
            refine Wp.incN (x := i) (len := 3) rfl rfl ?_
            refine Wp.n (pc' := 4) 1 rfl ?_
            first
              | (have e : com1 K a t y load dn c ((allW K y a t).getD i wy0) = c := if_neg h19
                 rw [e]
                 exact ih (i + 1) c (by omega) hc)
              | (have e : com1 K a t y load dn none ((allW K y a t).getD i wy0) = some (bitsC K ((allW K y a t).getD i wy0).2.2) := if_pos h19
                 rw [e]
                 exact ih (i + 1) (some (bitsC K ((allW K y a t).getD i wy0).2.2)) (by omega) (fun x hx => by cases hx; exact hbl))
              | (have e : com1 K a t y load dn (some b) ((allW K y a t).getD i wy0) = some (b &&& bitsC K ((allW K y a t).getD i wy0).2.2) := if_pos h19
                 rw [e]
                 exact ih (i + 1) (some (b &&& bitsC K ((allW K y a t).getD i wy0).2.2)) (by omega) (fun x hx => by cases hx; exact Nat.lt_of_le_of_lt Nat.and_le_left hz))
        · have hz := hc b rfl
          refine Wp.n (pc' := 24) 2 rfl ?_
          refine Wp.ic1 (tgt := 36) (len := 3) rfl (fun h24 => ?_) (fun h24 => ?_)
          · skip
            refine Wp.n (pc' := 38) 2 rfl ?_
            refine Wp.get (len := 3) rfl (rfl) rfl ?_
            refine Wp.n (pc' := 42) 1 rfl ?_
            refine Wp.ialdN (j := i) (len := 1) rfl (rfl) rfl (by omega) (by decide) ?_
            refine Wp.top n3 ?_
            refine Wp.n (pc' := 44) 1 rfl ?_
            refine Wp.top (n_and _ _) ?_
            refine Wp.n (pc' := 45) 1 rfl ?_
            refine Wp.incN (x := i) (len := 3) rfl rfl ?_
            refine Wp.n (pc' := 4) 1 rfl ?_
            first
              | (have e : com1 K a t y load dn c ((allW K y a t).getD i wy0) = c := if_neg h19
                 rw [e]
                 exact ih (i + 1) c (by omega) hc)
              | (have e : com1 K a t y load dn none ((allW K y a t).getD i wy0) = some (bitsC K ((allW K y a t).getD i wy0).2.2) := if_pos h19
                 rw [e]
                 exact ih (i + 1) (some (bitsC K ((allW K y a t).getD i wy0).2.2)) (by omega) (fun x hx => by cases hx; exact hbl))
              | (have e : com1 K a t y load dn (some b) ((allW K y a t).getD i wy0) = some (b &&& bitsC K ((allW K y a t).getD i wy0).2.2) := if_pos h19
                 rw [e]
                 exact ih (i + 1) (some (b &&& bitsC K ((allW K y a t).getD i wy0).2.2)) (by omega) (fun x hx => by cases hx; exact Nat.lt_of_le_of_lt Nat.and_le_left hz))
          · exact absurd h24 (oI_ne (by omega))

theorem t_common (hk : RK M r K) (ha : a < kh K 0) (hy : y < 31) (hl : load ≤ 9) (hW : WR κ K r a t y load) (h3 : (allW K y a t).length ≤ 326) {dn : Nat} (hdn : dn < 2 ^ 31) : Ev (d + 10) md_85 0 [some (.ref 273), some (.int (nI dn)), none, none] [] (cset M κ) (some (.int (oI (List.foldl (com1 K a t y load dn) none (allW K y a t)))), cset M κ) := by
  refine Wp.toEv ?_
  refine Wp.n (pc' := 4) 4 rfl ?_
  have w := t_common_l (d := d) hk ha hy hl hW h3 hdn (allW K y a t).length 0 none (by omega) (fun x hx => by cases hx)
  rw [fld_list (com1 K a t y load dn) wy0] at w
  exact w
def canP (K : KD) (a t y load lb m dn : Nat) (w : WY) : Bool := decide (bitsC K w.2.2 &&& lb ≠ 0 ∧ dX K a t y load w.2 m = dn)
theorem t_can_l (hk : RK M r K) (ha : a < kh K 0) (hy : y < 31) (hl : load ≤ 9) (hW : WR κ K r a t y load) (h3 : (allW K y a t).length ≤ 326) {lb m dn : Nat} (hdn : dn < 2 ^ 31) (hm : m ≤ 1000) : ∀ (n i : Nat), i + n = (allW K y a t).length → Wp (d + 10) md_86 3 [some (.ref 273), some (.int (nI lb)), some (.int (nI m)), some (.int (nI dn)), some (.int (nI i))] [] (cset M κ) (IsR (some (.int (bI ((fnd (fun i => canP K a t y load lb m dn ((allW K y a t).getD i wy0)) n i).isSome)))) (cset M κ)) := by
  obtain ⟨ρ, hR, hK, hDC, ok, hr1, hr2⟩ := id hk
  obtain ⟨b0, b1, b2, b3, b4, b5, b6, b7, b8, b9, b10, b11, b12⟩ := ok_h ok
  have hRc : ∀ κ : CS, RA (cset M κ) r ρ := fun κ => RA_c hR hr1 hr2
  intro n
  induction n with
  | zero =>
    intro i hi
    refine Wp.n (pc' := 6) 2 rfl ?_
    refine Wp.get (len := 3) rfl (rfl) rfl ?_
    refine Wp.top hW.2.1 ?_
    refine Wp.nc3 (x := i) (y := (allW K y a t).length) (tgt := 43) (len := 3) rfl (by omega) (by omega) (fun h9 => ?_) (fun h9 => ?_)
    · skip
      refine Wp.n (pc' := 44) 1 rfl ?_
      refine Wp.retZ (len := 1) (c := false) rfl rfl rfl ?_
      exact ⟨rfl, rfl⟩
    · omega
  | succ n ih =>
    intro i hi
    have hil : i < (allW K y a t).length := by omega
    obtain ⟨n1, n2, n3, n4⟩ := hW.2.2 i hil
    have hbl := (allW_b ok ha (getDw_mem hil)).2.2.1
    have hdb : dX K a t y load ((allW K y a t).getD i wy0).2 m ≤ 689634 := dutyS_b ok (savK_b ok ha) hl
    have hnd : bitsC K ((allW K y a t).getD i wy0).2.2 &&& lb < 2 ^ 31 := Nat.lt_of_le_of_lt Nat.and_le_left (by omega)
    rw [show fnd (fun i => canP K a t y load lb m dn ((allW K y a t).getD i wy0)) (n + 1) i = if canP K a t y load lb m dn ((allW K y a t).getD i wy0) = true then some i else fnd (fun i => canP K a t y load lb m dn ((allW K y a t).getD i wy0)) n (i + 1) from rfl]
    refine Wp.n (pc' := 6) 2 rfl ?_
    refine Wp.get (len := 3) rfl (rfl) rfl ?_
    refine Wp.top hW.2.1 ?_
    refine Wp.nc3 (x := i) (y := (allW K y a t).length) (tgt := 43) (len := 3) rfl (by first | omega | exact hnd) (by first | omega | exact hnd) (fun h9 => ?_) (fun h9 => ?_)
    · omega
    · skip
      refine Wp.n (pc' := 13) 1 rfl ?_
      refine Wp.get (len := 3) rfl (rfl) rfl ?_
      refine Wp.n (pc' := 18) 1 rfl ?_
      refine Wp.ialdN (j := i) (len := 1) rfl (rfl) rfl (by omega) (by decide) ?_
      refine Wp.top n3 ?_
      refine Wp.n (pc' := 21) 2 rfl ?_
      refine Wp.top (n_and _ _) ?_
      refine Wp.nz0 (x := bitsC K ((allW K y a t).getD i wy0).2.2 &&& lb) (tgt := 37) (len := 3) rfl (by first | omega | exact hnd) (fun h21 => ?_) (fun h21 => ?_)
      · skip
        refine Wp.incN (x := i) (len := 3) rfl rfl ?_
        refine Wp.n (pc' := 3) 1 rfl ?_
        first
          | (rw [if_neg (show ¬ canP K a t y load lb m dn ((allW K y a t).getD i wy0) = true from fun q => (of_decide_eq_true q).1 h21)]
             exact ih (i + 1) (by omega))
          | (rw [if_neg (show ¬ canP K a t y load lb m dn ((allW K y a t).getD i wy0) = true from fun q => h32 (of_decide_eq_true q).2)]
             exact ih (i + 1) (by omega))
      · skip
        refine Wp.n (pc' := 28) 3 rfl ?_
        refine Wp.ecallV (len := 3) rfl rfl rfl (rfl) rfl (by decide) rfl (t_dutyOf hk ha hy hl hW hil h3 hm) ?_
        refine Wp.n (pc' := 32) 1 rfl ?_
        refine Wp.nc1 (x := dX K a t y load ((allW K y a t).getD i wy0).2 m) (y := dn) (tgt := 37) (len := 3) rfl (by first | omega | exact hnd) (by first | omega | exact hnd) (fun h32 => ?_) (fun h32 => ?_)
        · skip
          refine Wp.incN (x := i) (len := 3) rfl rfl ?_
          refine Wp.n (pc' := 3) 1 rfl ?_
          first
            | (rw [if_neg (show ¬ canP K a t y load lb m dn ((allW K y a t).getD i wy0) = true from fun q => (of_decide_eq_true q).1 h21)]
               exact ih (i + 1) (by omega))
            | (rw [if_neg (show ¬ canP K a t y load lb m dn ((allW K y a t).getD i wy0) = true from fun q => h32 (of_decide_eq_true q).2)]
               exact ih (i + 1) (by omega))
        · skip
          refine Wp.n (pc' := 36) 1 rfl ?_
          refine Wp.retZ (len := 1) (c := true) rfl rfl rfl ?_
          rw [if_pos (show canP K a t y load lb m dn ((allW K y a t).getD i wy0) = true from decide_eq_true ⟨h21, h32⟩)]
          exact ⟨rfl, rfl⟩

theorem fnd_any {p : Nat → Bool} : ∀ (n i : Nat), (fnd p n i).isSome = true ↔ ∃ j, i ≤ j ∧ j < i + n ∧ p j = true := by
  intro n i
  constructor
  · intro h
    cases e : fnd p n i with
    | none => rw [e] at h; cases h
    | some j => exact ⟨j, fnd_lt e⟩
  · rintro ⟨j, h1, h2, h3⟩
    obtain ⟨k, hk⟩ := fnd_some h1 h2 h3
    rw [hk]
    rfl
theorem t_can (hk : RK M r K) (ha : a < kh K 0) (hy : y < 31) (hl : load ≤ 9) (hW : WR κ K r a t y load) (h3 : (allW K y a t).length ≤ 326) {lb m dn : Nat} (hdn : dn < 2 ^ 31) (hm : m ≤ 1000) : Ev (d + 10) md_86 0 [some (.ref 273), some (.int (nI lb)), some (.int (nI m)), some (.int (nI dn)), none] [] (cset M κ) (some (.int (bI ((allW K y a t).any (canP K a t y load lb m dn)))), cset M κ) := by
  refine Wp.toEv ?_
  refine Wp.n (pc' := 3) 2 rfl ?_
  have w := t_can_l (d := d) (lb := lb) hk ha hy hl hW h3 hdn hm (allW K y a t).length 0 (by omega)
  have e : (fnd (fun i => canP K a t y load lb m dn ((allW K y a t).getD i wy0)) (allW K y a t).length 0).isSome = (allW K y a t).any (canP K a t y load lb m dn) := by
    rw [Bool.eq_iff_iff, fnd_any, List.any_eq_true]
    constructor
    · rintro ⟨j, h1, h2, h4⟩
      exact ⟨_, getDw_mem (by omega), h4⟩
    · rintro ⟨x, hx, h4⟩
      obtain ⟨j, hj, hjx⟩ := List.getElem_of_mem hx
      refine ⟨j, Nat.zero_le _, by omega, ?_⟩
      rw [List.getD_eq_getElem?_getD, List.getElem?_eq_getElem hj]
      show canP K a t y load lb m dn ((allW K y a t)[j]) = true
      rw [hjx]
      exact h4
  rw [e] at w
  exact w
end ASK
end WAYS2
