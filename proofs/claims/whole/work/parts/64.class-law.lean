/-! THE CLASS: watchers, the law, slots, the tape, images, counts. -/
section WATCH
variable {d : Nat} {M : AM} {r : Nat} {K : KD} {κ κ' : CS} {Q : Option Value → AM → Prop}
def owP (K : KD) (s w : Nat) : Bool := lawK K w && decide (0 < dutW K w) && decide (bitsM (TRr K w).2.2 &&& s = 0)
theorem k_meets_l (hD : HD M) (hk : RK M 36 K) (h11 : kh K 11 = 0) {s : Nat} : ∀ (n w : Nat) (κ2 : CS), w + n = kh K 4 → ScC κ κ2 → Wp (d + 11) md_132 2 [some (.ref 32), some (.int (nI s)), some (.int (nI w))] [] (cset M κ2) (fun v M' => v = some (.int (bI (!(fnd (owP K s) n w).isSome))) ∧ ∃ κ', M' = cset M κ' ∧ ScC κ κ') := by
  obtain ⟨ρ, hR, hK, hDC, ok, hr1, hr2⟩ := id hk
  obtain ⟨b0, b1, b2, b3, b4, b5, b6, b7, b8, b9, b10, b11, b12⟩ := ok_h ok
  have hO : ∀ κ : CS, cset M κ 32 = .inr (9, hdl) := fun κ => (cset_o (by omega)).trans hD
  have hRc : ∀ κ : CS, RA (cset M κ) 36 ρ := fun κ => RA_c hR hr1 hr2
  intro n
  induction n with
  | zero =>
    intro w κ2 hw hS
    refine Wp.n (pc' := 4) 2 rfl ?_
    refine Wp.get (len := 3) rfl (hO _) rfl ?_
    refine Wp.get (len := 3) rfl (ra_obj (hRc _)) rfl ?_
    refine Wp.top (rc_wk hK) ?_
    refine Wp.nc3 (x := w) (y := kh K 4) (tgt := 55) (len := 3) rfl (by omega) (by omega) (fun h10 => ?_) (fun h10 => ?_)
    · skip
      refine Wp.n (pc' := 56) 1 rfl ?_
      refine Wp.retZ (len := 1) (c := true) rfl rfl rfl ?_
      exact ⟨rfl, κ2, rfl, hS⟩
    · omega
  | succ n ih =>
    intro w κ2 hw hS
    have hdb := dutW_b ok (w := w) (by omega)
    have hbl := SB_bits ok (TRr_b ok (w := w) (by omega)).1
    have hnd : bitsM (TRr K w).2.2 &&& s < 2 ^ 31 := Nat.lt_of_le_of_lt Nat.and_le_left (by omega)
    rw [show fnd (owP K s) (n + 1) w = if owP K s w = true then some w else fnd (owP K s) n (w + 1) from rfl]
    refine Wp.n (pc' := 4) 2 rfl ?_
    refine Wp.get (len := 3) rfl (hO _) rfl ?_
    refine Wp.get (len := 3) rfl (ra_obj (hRc _)) rfl ?_
    refine Wp.top (rc_wk hK) ?_
    refine Wp.nc3 (x := w) (y := kh K 4) (tgt := 55) (len := 3) rfl (by first | omega | exact hnd) (by first | omega | exact hnd) (fun h10 => ?_) (fun h10 => ?_)
    · omega
    · skip
      refine Wp.n (pc' := 15) 2 rfl ?_
      refine Wp.get (len := 3) rfl (hO _) rfl ?_
      refine Wp.n (pc' := 19) 1 rfl ?_
      refine Wp.callV (len := 3) rfl rfl rfl (hO _) rfl (by decide) rfl (k_isLawful hD hk (by omega)) ?_
      rintro _ _ ⟨rfl, κ3, rfl, hF, hT⟩
      refine Wp.ifb0 (tgt := 49) (len := 3) rfl (fun h22 => ?_) (fun h22 => ?_)
      · skip
        refine Wp.incN (x := w) (len := 3) rfl rfl ?_
        refine Wp.n (pc' := 2) 1 rfl ?_
        have hn : ¬ owP K s w = true := by
          unfold owP
          first
            | (rw [h22, Bool.false_and, Bool.false_and]; decide)
            | (rw [decide_eq_false (show ¬ 0 < dutW K w by omega), Bool.and_false, Bool.false_and]; decide)
            | (rw [decide_eq_false h44, Bool.and_false]; decide)
        rw [if_neg hn]
        exact ih (w + 1) κ3 (by omega) (ScC_t hS (ScC_11 hF))
      · skip
        refine Wp.n (pc' := 26) 1 rfl ?_
        refine Wp.get (len := 3) rfl (hO _) rfl ?_
        refine Wp.get (len := 3) rfl (rfl) rfl ?_
        refine Wp.top hT.2.2.2 ?_
        refine Wp.nz5 (x := dutW K w) (tgt := 49) (len := 3) rfl (by first | omega | exact hnd) (fun h32 => ?_) (fun h32 => ?_)
        · skip
          refine Wp.incN (x := w) (len := 3) rfl rfl ?_
          refine Wp.n (pc' := 2) 1 rfl ?_
          have hn : ¬ owP K s w = true := by
            unfold owP
            first
              | (rw [h22, Bool.false_and, Bool.false_and]; decide)
              | (rw [decide_eq_false (show ¬ 0 < dutW K w by omega), Bool.and_false, Bool.false_and]; decide)
              | (rw [decide_eq_false h44, Bool.and_false]; decide)
          rw [if_neg hn]
          exact ih (w + 1) κ3 (by omega) (ScC_t hS (ScC_11 hF))
        · skip
          refine Wp.n (pc' := 36) 1 rfl ?_
          refine Wp.get (len := 3) rfl (hO _) rfl ?_
          refine Wp.get (len := 3) rfl (rfl) rfl ?_
          refine Wp.top (hT.1.2.2.1.trans (by rw [bitsC_0 ok h11 (TRr_b ok (by omega)).1.2.2])) ?_
          refine Wp.n (pc' := 44) 2 rfl ?_
          refine Wp.top (n_and _ _) ?_
          refine Wp.nz1 (x := bitsM (TRr K w).2.2 &&& s) (tgt := 49) (len := 3) rfl (by first | omega | exact hnd) (fun h44 => ?_) (fun h44 => ?_)
          · skip
            refine Wp.incN (x := w) (len := 3) rfl rfl ?_
            refine Wp.n (pc' := 2) 1 rfl ?_
            have hn : ¬ owP K s w = true := by
              unfold owP
              first
                | (rw [h22, Bool.false_and, Bool.false_and]; decide)
                | (rw [decide_eq_false (show ¬ 0 < dutW K w by omega), Bool.and_false, Bool.false_and]; decide)
                | (rw [decide_eq_false h44, Bool.and_false]; decide)
            rw [if_neg hn]
            exact ih (w + 1) κ3 (by omega) (ScC_t hS (ScC_11 hF))
          · skip
            refine Wp.n (pc' := 48) 1 rfl ?_
            refine Wp.retZ (len := 1) (c := false) rfl rfl rfl ?_
            rw [if_pos (show owP K s w = true from by unfold owP; rw [h22, decide_eq_true h32, decide_eq_true h44]; rfl)]
            exact ⟨rfl, κ3, rfl, ScC_t hS (ScC_11 hF)⟩

theorem ow_all {s : Nat} : (!(fnd (owP K s) (kh K 4) 0).isSome) = (owlK K).all (fun l => decide (l &&& s ≠ 0)) := by
  have h : ∀ (n i : Nat) (acc : List Nat), (fld (owl K) n i acc).all (fun l => decide (l &&& s ≠ 0)) = (acc.all (fun l => decide (l &&& s ≠ 0)) && !(fnd (owP K s) n i).isSome) := by
    intro n
    induction n with
    | zero => intro i acc; show acc.all _ = (acc.all _ && true); rw [Bool.and_true]
    | succ n ih =>
      intro i acc
      show (fld (owl K) n (i + 1) (owl K acc i)).all _ = (acc.all _ && !(if owP K s i = true then some i else fnd (owP K s) n (i + 1)).isSome)
      rw [ih (i + 1) (owl K acc i)]
      unfold owl
      by_cases c : lawK K i = true ∧ dutW K i ≠ 0
      · rw [if_pos c, List.all_append]
        have e : owP K s i = decide (bitsM (TRr K i).2.2 &&& s = 0) := by
          unfold owP
          rw [c.1, decide_eq_true (by omega : 0 < dutW K i)]
          rfl
        rw [e]
        by_cases z : bitsM (TRr K i).2.2 &&& s = 0
        · rw [if_pos (decide_eq_true z)]
          simp [z]
        · rw [if_neg (by rw [decide_eq_true_iff]; exact z)]
          simp [z]
      · rw [if_neg c]
        have e : ¬ owP K s i = true := by
          intro q
          unfold owP at q
          rw [Bool.and_eq_true, Bool.and_eq_true] at q
          exact c ⟨q.1.1, by have := of_decide_eq_true q.1.2; omega⟩
        rw [if_neg e]
  have := h (kh K 4) 0 []
  rw [List.all_nil, Bool.true_and] at this
  exact this.symm
theorem k_meets (hD : HD M) (hk : RK M 36 K) (h11 : kh K 11 = 0) {s : Nat} : Wp (d + 11) md_132 0 [some (.ref 32), some (.int (nI s)), none] [] (cset M κ) (fun v M' => v = some (.int (bI ((owlK K).all (fun l => decide (l &&& s ≠ 0))))) ∧ ∃ κ', M' = cset M κ' ∧ ScC κ κ') := by
  refine Wp.n (pc' := 2) 2 rfl ?_
  have w := k_meets_l (d := d) (κ := κ) hD hk h11 (s := s) (kh K 4) 0 κ (by omega) ScC_r
  rw [ow_all] at w
  exact w
theorem k_wa_l (hD : HD M) (hk : RK M 36 K) (h11 : kh K 11 = 0) {q : Nat} (hq : q < 2) : ∀ (n s : Nat) (c : Option Nat) (κ2 : CS), s + n = 2 ^ kh K 3 → (∀ b, c = some b → b < 256) → ScC κ κ2 → Wp (d + 12) md_131 26 [some (.ref 32), some (.int (nI q)), some (.int (oI c)), some (.int (nI s))] [] (cset M κ2) (RCI M κ (wE q (fld (wst (owlK K)) n s c))) := by
  obtain ⟨ρ, hR, hK, hDC, ok, hr1, hr2⟩ := id hk
  obtain ⟨b0, b1, b2, b3, b4, b5, b6, b7, b8, b9, b10, b11, b12⟩ := ok_h ok
  have hO : ∀ κ : CS, cset M κ 32 = .inr (9, hdl) := fun κ => (cset_o (by omega)).trans hD
  have hRc : ∀ κ : CS, RA (cset M κ) 36 ρ := fun κ => RA_c hR hr1 hr2
  have h28 : 2 ^ kh K 3 ≤ 256 := Nat.pow_le_pow_right (by decide) b3
  have h8 : rhd ρ 8 = nI (kh K 3) := by rw [rc_la hK, h11, Nat.add_zero]
  intro n
  induction n with
  | zero =>
    intro s c κ2 hs hc hS
    show Wp _ _ _ _ _ _ (RCI M κ (wE q c))
    refine Wp.n (pc' := 29) 3 rfl ?_
    refine Wp.get (len := 3) rfl (hO _) rfl ?_
    refine Wp.get (len := 3) rfl (ra_obj (hRc _)) rfl ?_
    refine Wp.top h8 ?_
    refine Wp.n (pc' := 36) 1 rfl ?_
    refine Wp.top (n_sh1 _ (by omega)) ?_
    refine Wp.nc3 (x := s) (y := 2 ^ kh K 3) (tgt := 71) (len := 3) rfl (by omega) (by omega) (fun h36 => ?_) (fun h36 => ?_)
    · skip
      rcases c with _ | b
      · skip
        refine Wp.n (pc' := 72) 1 rfl ?_
        refine Wp.nz1 (x := q) (tgt := 87) (len := 3) rfl (by omega) (fun h72 => ?_) (fun h72 => ?_)
        · skip
          refine Wp.n (pc' := 88) 1 rfl ?_
          refine Wp.retI (len := 1) rfl rfl ?_
          first
            | exact RCI_s hS rfl
            | exact RCI_s hS (by show _ = (if q = 1 then nI b else nI (pop b)); rw [if_neg (by omega)])
            | exact RCI_s hS (by show _ = (if q = 1 then nI b else nI (pop b)); rw [if_pos (by omega)]; rfl)
        · skip
          refine Wp.n (pc' := 77) 2 rfl ?_
          refine Wp.ic0 (tgt := 87) (len := 3) rfl (fun h77 => ?_) (fun h77 => ?_)
          · skip
            refine Wp.n (pc' := 88) 1 rfl ?_
            refine Wp.retI (len := 1) rfl rfl ?_
            first
              | exact RCI_s hS rfl
              | exact RCI_s hS (by show _ = (if q = 1 then nI b else nI (pop b)); rw [if_neg (by omega)])
              | exact RCI_s hS (by show _ = (if q = 1 then nI b else nI (pop b)); rw [if_pos (by omega)]; rfl)
          · exact absurd rfl h77
      · have hb2 := hc b rfl
        refine Wp.n (pc' := 72) 1 rfl ?_
        refine Wp.nz1 (x := q) (tgt := 87) (len := 3) rfl (by omega) (fun h72 => ?_) (fun h72 => ?_)
        · skip
          refine Wp.n (pc' := 88) 1 rfl ?_
          refine Wp.retI (len := 1) rfl rfl ?_
          first
            | exact RCI_s hS rfl
            | exact RCI_s hS (by show _ = (if q = 1 then nI b else nI (pop b)); rw [if_neg (by omega)])
            | exact RCI_s hS (by show _ = (if q = 1 then nI b else nI (pop b)); rw [if_pos (by omega)]; rfl)
        · skip
          refine Wp.n (pc' := 77) 2 rfl ?_
          refine Wp.ic0 (tgt := 87) (len := 3) rfl (fun h77 => ?_) (fun h77 => ?_)
          · exact absurd h77 (oI_ne (by omega))
          · skip
            refine Wp.n (pc' := 81) 1 rfl ?_
            refine Wp.ecallS (len := 3) rfl rfl rfl rfl (j_bitCount (by omega)) ?_
            refine Wp.top (show _ = nI (pop b) from by rw [pop4_8 hb2]) ?_
            refine Wp.n (pc' := 88) 1 rfl ?_
            refine Wp.retI (len := 1) rfl rfl ?_
            first
              | exact RCI_s hS rfl
              | exact RCI_s hS (by show _ = (if q = 1 then nI b else nI (pop b)); rw [if_neg (by omega)])
              | exact RCI_s hS (by show _ = (if q = 1 then nI b else nI (pop b)); rw [if_pos (by omega)]; rfl)
    · omega
  | succ n ih =>
    intro s c κ2 hs hc hS
    have hs2 : s < 256 := by omega
    have kk : ∀ (b : Bool) (κ3 : CS), ScC κ κ3 → (cB c s && (owlK K).all (fun l => decide (l &&& s ≠ 0))) = b → Wp (d + 12) md_131 26 [some (.ref 32), some (.int (nI q)), some (.int (oI (if b = true then some s else c))), some (.int (nI (s + 1)))] [] (cset M κ3) (RCI M κ (wE q (fld (wst (owlK K)) (n + 1) s c))) := by
      intro b κ3 hS3 hb
      show Wp _ _ _ _ _ _ (RCI M κ (wE q (fld (wst (owlK K)) n (s + 1) (wst (owlK K) c s))))
      have e : wst (owlK K) c s = if b = true then some s else c := by
        unfold wst
        subst hb
        cases cB c s <;> cases (owlK K).all (fun l => decide (l &&& s ≠ 0)) <;> rfl
      rw [e]
      refine ih (s + 1) _ κ3 (by omega) (fun x hx => ?_) hS3
      by_cases z : b = true
      · rw [if_pos z] at hx; cases hx; exact hs2
      · rw [if_neg z] at hx; exact hc x hx
    refine Wp.n (pc' := 29) 3 rfl ?_
    refine Wp.get (len := 3) rfl (hO _) rfl ?_
    refine Wp.get (len := 3) rfl (ra_obj (hRc _)) rfl ?_
    refine Wp.top h8 ?_
    refine Wp.n (pc' := 36) 1 rfl ?_
    refine Wp.top (n_sh1 _ (by omega)) ?_
    refine Wp.nc3 (x := s) (y := 2 ^ kh K 3) (tgt := 71) (len := 3) rfl (by omega) (by omega) (fun h36 => ?_) (fun h36 => ?_)
    · omega
    · skip
      rcases c with _ | b
      · skip
        refine Wp.n (pc' := 41) 2 rfl ?_
        refine Wp.ic0 (tgt := 55) (len := 3) rfl (fun h41 => ?_) (fun h41 => ?_)
        · skip
          refine Wp.n (pc' := 57) 2 rfl ?_
          refine Wp.callV (len := 3) rfl rfl rfl (hO _) rfl (by decide) rfl (k_meets hD hk h11) ?_
          rintro _ _ ⟨rfl, κ3, rfl, hS3⟩
          refine Wp.ifb0 (tgt := 65) (len := 3) rfl (fun h60 => ?_) (fun h60 => ?_)
          · skip
            refine Wp.incN (x := s) (len := 3) rfl rfl ?_
            refine Wp.n (pc' := 26) 1 rfl ?_
            first
              | exact kk true κ3 (ScC_t hS hS3) (by rw [h60, show cB none s = true from rfl]; rfl)
              | exact kk false κ3 (ScC_t hS hS3) (by rw [h60, Bool.and_false])
              | exact kk true κ3 (ScC_t hS hS3) (by rw [h60, show cB (some b) s = true from decide_eq_true h52]; rfl)
              | exact kk false κ2 hS (by rw [show cB (some b) s = false from decide_eq_false (by omega)]; rfl)
          · skip
            refine Wp.n (pc' := 65) 2 rfl ?_
            refine Wp.incN (x := s) (len := 3) rfl rfl ?_
            refine Wp.n (pc' := 26) 1 rfl ?_
            first
              | exact kk true κ3 (ScC_t hS hS3) (by rw [h60, show cB none s = true from rfl]; rfl)
              | exact kk false κ3 (ScC_t hS hS3) (by rw [h60, Bool.and_false])
              | exact kk true κ3 (ScC_t hS hS3) (by rw [h60, show cB (some b) s = true from decide_eq_true h52]; rfl)
              | exact kk false κ2 hS (by rw [show cB (some b) s = false from decide_eq_false (by omega)]; rfl)
        · exact absurd rfl h41
      · have hb2 := hc b rfl
        have pb1 := pop_b (v := b)
        have pb2 := pop_b (v := s)
        refine Wp.n (pc' := 41) 2 rfl ?_
        refine Wp.ic0 (tgt := 55) (len := 3) rfl (fun h41 => ?_) (fun h41 => ?_)
        · exact absurd h41 (oI_ne (by omega))
        · skip
          refine Wp.n (pc' := 45) 1 rfl ?_
          refine Wp.ecallS (len := 3) rfl rfl rfl rfl (j_bitCount (by omega)) ?_
          refine Wp.top (show _ = nI (pop s) from by rw [pop4_8 hs2]) ?_
          refine Wp.n (pc' := 49) 1 rfl ?_
          refine Wp.ecallS (len := 3) rfl rfl rfl rfl (j_bitCount (by omega)) ?_
          refine Wp.top (show _ = nI (pop b) from by rw [pop4_8 hb2]) ?_
          refine Wp.nc3 (x := pop s) (y := pop b) (tgt := 65) (len := 3) rfl (by omega) (by omega) (fun h52 => ?_) (fun h52 => ?_)
          · skip
            refine Wp.incN (x := s) (len := 3) rfl rfl ?_
            refine Wp.n (pc' := 26) 1 rfl ?_
            first
              | exact kk true κ3 (ScC_t hS hS3) (by rw [h60, show cB none s = true from rfl]; rfl)
              | exact kk false κ3 (ScC_t hS hS3) (by rw [h60, Bool.and_false])
              | exact kk true κ3 (ScC_t hS hS3) (by rw [h60, show cB (some b) s = true from decide_eq_true h52]; rfl)
              | exact kk false κ2 hS (by rw [show cB (some b) s = false from decide_eq_false (by omega)]; rfl)
          · skip
            refine Wp.n (pc' := 57) 2 rfl ?_
            refine Wp.callV (len := 3) rfl rfl rfl (hO _) rfl (by decide) rfl (k_meets hD hk h11) ?_
            rintro _ _ ⟨rfl, κ3, rfl, hS3⟩
            refine Wp.ifb0 (tgt := 65) (len := 3) rfl (fun h60 => ?_) (fun h60 => ?_)
            · skip
              refine Wp.incN (x := s) (len := 3) rfl rfl ?_
              refine Wp.n (pc' := 26) 1 rfl ?_
              first
                | exact kk true κ3 (ScC_t hS hS3) (by rw [h60, show cB none s = true from rfl]; rfl)
                | exact kk false κ3 (ScC_t hS hS3) (by rw [h60, Bool.and_false])
                | exact kk true κ3 (ScC_t hS hS3) (by rw [h60, show cB (some b) s = true from decide_eq_true h52]; rfl)
                | exact kk false κ2 hS (by rw [show cB (some b) s = false from decide_eq_false (by omega)]; rfl)
            · skip
              refine Wp.n (pc' := 65) 2 rfl ?_
              refine Wp.incN (x := s) (len := 3) rfl rfl ?_
              refine Wp.n (pc' := 26) 1 rfl ?_
              first
                | exact kk true κ3 (ScC_t hS hS3) (by rw [h60, show cB none s = true from rfl]; rfl)
                | exact kk false κ3 (ScC_t hS hS3) (by rw [h60, Bool.and_false])
                | exact kk true κ3 (ScC_t hS hS3) (by rw [h60, show cB (some b) s = true from decide_eq_true h52]; rfl)
                | exact kk false κ2 hS (by rw [show cB (some b) s = false from decide_eq_false (by omega)]; rfl)

theorem k_watchers (hD : HD M) (hk : RK M 36 K) (h11 : kh K 11 = 0) (x : Int32) : Wp (d + 12) md_131 0 [some (.ref 32), some (.int x), none, none] [] (cset M κ) (RCI M κ (watA K x)) := by
  obtain ⟨ρ, hR, hK, hDC, ok, hr1, hr2⟩ := id hk
  obtain ⟨b0, b1, b2, b3, b4, b5, b6, b7, b8, b9, b10, b11, b12⟩ := ok_h ok
  have hO : ∀ κ : CS, cset M κ 32 = .inr (9, hdl) := fun κ => (cset_o (by omega)).trans hD
  have hRc : ∀ κ : CS, RA (cset M κ) 36 ρ := fun κ => RA_c hR hr1 hr2
  unfold watA
  refine Wp.n (pc' := 1) 1 rfl ?_
  refine Wp.get (len := 3) rfl (hO _) rfl ?_
  refine Wp.ecallV (len := 3) rfl rfl rfl (ra_obj (hRc _)) rfl (by decide) rfl (k_exists (RK_c hk)) ?_
  refine Wp.ifb0 (tgt := 19) (len := 3) rfl (fun h7 => ?_) (fun h7 => ?_)
  · skip
    refine Wp.n (pc' := 21) 1 rfl ?_
    refine Wp.retI (len := 1) rfl rfl ?_
    first
      | (rw [if_neg (fun q => of_decide_eq_false h7 q.1)]; exact RCI_r rfl)
      | (rw [if_neg (fun q => by have := of_decide_eq_true q.2; have e1 : x.toInt < 0 := h11_; omega)]; exact RCI_r rfl)
      | (rw [if_neg (fun q => by have := of_decide_eq_true q.2; have e1 : ¬ x.toInt ≤ 1 := h16; omega)]; exact RCI_r rfl)
  · skip
    refine Wp.n (pc' := 11) 1 rfl ?_
    refine Wp.if2 (tgt := 19) (len := 3) rfl (fun h11_ => ?_) (fun h11_ => ?_)
    · rw [i_lt] at h11_
      refine Wp.n (pc' := 21) 1 rfl ?_
      refine Wp.retI (len := 1) rfl rfl ?_
      first
        | (rw [if_neg (fun q => of_decide_eq_false h7 q.1)]; exact RCI_r rfl)
        | (rw [if_neg (fun q => by have := of_decide_eq_true q.2; have e1 : x.toInt < 0 := h11_; omega)]; exact RCI_r rfl)
        | (rw [if_neg (fun q => by have := of_decide_eq_true q.2; have e1 : ¬ x.toInt ≤ 1 := h16; omega)]; exact RCI_r rfl)
    · rw [i_lt] at h11_
      refine Wp.n (pc' := 16) 2 rfl ?_
      refine Wp.ic5 (tgt := 22) (len := 3) rfl (fun h16 => ?_) (fun h16 => ?_)
      · rw [i_le] at h16
        have hN : isN 2 x = true := decide_eq_true (by have e1 : ¬ x.toInt < 0 := h11_; have e2 : x.toInt ≤ 1 := h16; omega)
        obtain ⟨k, hk2, rfl⟩ := isN_of hN
        rw [if_pos ⟨of_decide_eq_true h7, hN⟩]
        refine Wp.n (pc' := 26) 4 rfl ?_
        refine Wp.mono (k_wa_l (κ := κ) hD hk h11 hk2 (2 ^ kh K 3) 0 none κ (by omega) (fun b q => by cases q) ScC_r) ?_
        rintro _ _ ⟨rfl, κ2, rfl, hS⟩
        refine RCI_s hS ?_
        unfold watK wE
        have ek : (nI k = (1 : Int32)) ↔ k = 1 := nI_eq (b := 1) (by omega) (by decide)
        cases fld (wst (owlK K)) (2 ^ kh K 3) 0 none with
        | none => rfl
        | some b =>
          dsimp only
          by_cases c : k = 1
          · rw [if_pos c, if_pos (ek.mpr c)]
          · rw [if_neg c, if_neg (fun q => c (ek.mp q))]
      · rw [i_le] at h16
        refine Wp.n (pc' := 21) 1 rfl ?_
        refine Wp.retI (len := 1) rfl rfl ?_
        first
          | (rw [if_neg (fun q => of_decide_eq_false h7 q.1)]; exact RCI_r rfl)
          | (rw [if_neg (fun q => by have := of_decide_eq_true q.2; have e1 : x.toInt < 0 := h11_; omega)]; exact RCI_r rfl)
          | (rw [if_neg (fun q => by have := of_decide_eq_true q.2; have e1 : ¬ x.toInt ≤ 1 := h16; omega)]; exact RCI_r rfl)

theorem set_repC {ρ : RC} (hK : RepC ρ K) {w m : Nat} (hw : w < 5) : RepC (wset ρ w (nI m)) (setK K w m) := by
  obtain ⟨p0, p1, p2, p3, p6, p8, p10, pl, pr, pn, pw⟩ := hK
  have e : ∀ i, i < 6 ∨ 11 ≤ i → kh (setK K w m) i = kh K i := fun i hi => if_neg (by omega)
  refine ⟨?_, ?_, ?_, ?_, ?_, ?_, ?_, fun h0 j hj => ?_, ?_, ?_, ?_⟩
  · rw [e 0 (by omega)]; exact p0
  · rw [e 1 (by omega)]; exact p1
  · rw [e 5 (by omega)]; exact p2
  · rw [e 12 (by omega)]; exact p3
  · rw [e 2 (by omega)]; exact p6
  · rw [e 3 (by omega), e 11 (by omega)]; exact p8
  · rw [e 4 (by omega)]; exact p10
  · rw [e 0 (by omega)] at h0
    show upd (rlw ρ) w (nI m) j = nI (if 6 + j = 6 + w then m else kh K (6 + j))
    by_cases c : j = w
    · rw [if_pos (by omega), c, pk_us]
    · rw [if_neg (by omega), pk_un c]
      exact pl h0 j hj
  · rw [e 2 (by omega)]; exact pr
  · intro l hl
    rw [e 3 (by omega), e 11 (by omega)] at hl
    have ph : phL (setK K w m) l = phL K l := by
      unfold phL
      rw [e 3 (by omega)]
    rw [ph]
    exact pn l hl
  · rw [e 4 (by omega)]; exact pw
theorem k_exchange {ρ : RC} {w : Nat} (hw : w < 5) {x : Int32} : Wp d md_4 0 [some (.ref (r + 1)), some (.int (nI w)), some (.int x), none] [] (rset M r ρ) (fun v M' => v = some (.int (rlw ρ w)) ∧ M' = rset M r (wset ρ w x)) := by
  refine Wp.n (pc' := 3) 3 rfl ?_
  have ex : (nI w).toInt = (0 : Int) + w := by rw [nI_toInt (by omega)]; omega
  match w, hw, ex with

  | 0, _, ex =>
    refine Wp.sw (len := 29) (t := 32) rfl (sw_at rfl 0 ex rfl) ?_
    refine Wp.n (pc' := 33) 1 rfl ?_
    refine Wp.get (len := 3) rfl (rs_law) rfl ?_
    refine Wp.n (pc' := 39) 3 rfl ?_
    refine Wp.wput 0 rfl (len := 3) rfl ?_
    refine Wp.n (pc' := 95) 2 rfl ?_
    refine Wp.retI (len := 1) rfl rfl ?_
    exact ⟨rfl, rfl⟩
  | 1, _, ex =>
    refine Wp.sw (len := 29) (t := 45) rfl (sw_at rfl 1 ex rfl) ?_
    refine Wp.n (pc' := 46) 1 rfl ?_
    refine Wp.get (len := 3) rfl (rs_law) rfl ?_
    refine Wp.n (pc' := 52) 3 rfl ?_
    refine Wp.wput 1 rfl (len := 3) rfl ?_
    refine Wp.n (pc' := 95) 2 rfl ?_
    refine Wp.retI (len := 1) rfl rfl ?_
    exact ⟨rfl, rfl⟩
  | 2, _, ex =>
    refine Wp.sw (len := 29) (t := 58) rfl (sw_at rfl 2 ex rfl) ?_
    refine Wp.n (pc' := 59) 1 rfl ?_
    refine Wp.get (len := 3) rfl (rs_law) rfl ?_
    refine Wp.n (pc' := 65) 3 rfl ?_
    refine Wp.wput 2 rfl (len := 3) rfl ?_
    refine Wp.n (pc' := 95) 2 rfl ?_
    refine Wp.retI (len := 1) rfl rfl ?_
    exact ⟨rfl, rfl⟩
  | 3, _, ex =>
    refine Wp.sw (len := 29) (t := 71) rfl (sw_at rfl 3 ex rfl) ?_
    refine Wp.n (pc' := 72) 1 rfl ?_
    refine Wp.get (len := 3) rfl (rs_law) rfl ?_
    refine Wp.n (pc' := 78) 3 rfl ?_
    refine Wp.wput 3 rfl (len := 3) rfl ?_
    refine Wp.n (pc' := 95) 2 rfl ?_
    refine Wp.retI (len := 1) rfl rfl ?_
    exact ⟨rfl, rfl⟩
  | 4, _, ex =>
    refine Wp.sw (len := 29) (t := 84) rfl (sw_def rfl (Or.inr (by rw [ex]; decide))) ?_
    refine Wp.n (pc' := 85) 1 rfl ?_
    refine Wp.get (len := 3) rfl (rs_law) rfl ?_
    refine Wp.n (pc' := 91) 3 rfl ?_
    refine Wp.wput 4 rfl (len := 3) rfl ?_
    refine Wp.n (pc' := 95) 1 rfl ?_
    refine Wp.retI (len := 1) rfl rfl ?_
    exact ⟨rfl, rfl⟩
theorem k_law (hD : HD M) (hk : RK M 36 K) (x y : Int32) : Wp (d + 2) md_136 0 [some (.ref 32), some (.int x), some (.int y)] [] (cset M κ) (fun v M' => v = some (.int (lawA K x y)) ∧ ∃ ρ, M' = cset (rset M 36 ρ) κ ∧ RK (rset M 36 ρ) 36 (lawN K x y)) := by
  obtain ⟨ρ, hR, hK, hDC, ok, hr1, hr2⟩ := id hk
  obtain ⟨b0, b1, b2, b3, b4, b5, b6, b7, b8, b9, b10, b11, b12⟩ := ok_h ok
  have hO : ∀ κ : CS, cset M κ 32 = .inr (9, hdl) := fun κ => (cset_o (by omega)).trans hD
  have hRc : ∀ κ : CS, RA (cset M κ) 36 ρ := fun κ => RA_c hR hr1 hr2
  unfold lawA lawN
  have kn : ∃ ρ, cset M κ = cset (rset M 36 ρ) κ ∧ RK (rset M 36 ρ) 36 K := by
    refine ⟨ρ, ?_, ?_⟩
    · rw [show rset M 36 ρ = M from hR]
    · rw [show rset M 36 ρ = M from hR]; exact hk
  refine Wp.n (pc' := 1) 1 rfl ?_
  refine Wp.get (len := 3) rfl (hO _) rfl ?_
  refine Wp.ecallV (len := 3) rfl rfl rfl (ra_obj (hRc _)) rfl (by decide) rfl (k_exists (RK_c hk)) ?_
  refine Wp.ifb0 (tgt := 38) (len := 3) rfl (fun h7 => ?_) (fun h7 => ?_)
  · skip
    refine Wp.n (pc' := 40) 1 rfl ?_
    refine Wp.retI (len := 1) rfl rfl ?_
    have hC : lawC K x y = false := by
      unfold lawC
      first
        | (rw [h7, Bool.false_and, Bool.false_and])
        | (rw [h16, Bool.and_false, Bool.false_and])
        | (rw [show decide ((0 : Int32).toInt ≤ y.toInt ∧ y.toInt ≤ (99 : Int32).toInt) = isN 100 y from isR_0 (hi := 99)] at h35
           rw [if_pos (by rw [i_le] at h23; have : x.toInt ≤ 2 := h23; omega), h35, Bool.and_false])
        | (rw [show decide ((0 : Int32).toInt ≤ y.toInt ∧ y.toInt ≤ (1 : Int32).toInt) = isN 2 y from isR_0 (hi := 1)] at h35
           rw [if_neg (by rw [i_le] at h23; have : ¬ x.toInt ≤ 2 := h23; omega), h35, Bool.and_false])
    rw [if_neg (by rw [hC]; decide), if_neg (by rw [hC]; decide)]
    exact ⟨rfl, kn⟩
  · skip
    refine Wp.n (pc' := 13) 3 rfl ?_
    refine Wp.ecallS (len := 3) rfl rfl rfl rfl (k_isWithinN (hi := 4) x (by decide)) ?_
    refine Wp.ifb0 (tgt := 38) (len := 3) rfl (fun h16 => ?_) (fun h16 => ?_)
    · skip
      refine Wp.n (pc' := 40) 1 rfl ?_
      refine Wp.retI (len := 1) rfl rfl ?_
      have hC : lawC K x y = false := by
        unfold lawC
        first
          | (rw [h7, Bool.false_and, Bool.false_and])
          | (rw [h16, Bool.and_false, Bool.false_and])
          | (rw [show decide ((0 : Int32).toInt ≤ y.toInt ∧ y.toInt ≤ (99 : Int32).toInt) = isN 100 y from isR_0 (hi := 99)] at h35
             rw [if_pos (by rw [i_le] at h23; have : x.toInt ≤ 2 := h23; omega), h35, Bool.and_false])
          | (rw [show decide ((0 : Int32).toInt ≤ y.toInt ∧ y.toInt ≤ (1 : Int32).toInt) = isN 2 y from isR_0 (hi := 1)] at h35
             rw [if_neg (by rw [i_le] at h23; have : ¬ x.toInt ≤ 2 := h23; omega), h35, Bool.and_false])
      rw [if_neg (by rw [hC]; decide), if_neg (by rw [hC]; decide)]
      exact ⟨rfl, kn⟩
    · skip
      refine Wp.n (pc' := 23) 4 rfl ?_
      refine Wp.ic5 (tgt := 30) (len := 3) rfl (fun h23 => ?_) (fun h23 => ?_)
      · skip
        refine Wp.n (pc' := 32) 1 rfl ?_
        refine Wp.ecallS (len := 3) rfl rfl rfl rfl (c_isWithin _ _ _) ?_
        refine Wp.ifb1 (tgt := 41) (len := 3) rfl (fun h35 => ?_) (fun h35 => ?_)
        · skip
          have hC : lawC K x y = true := by
            unfold lawC
            rw [h7, h16]
            first
              | (rw [show decide ((0 : Int32).toInt ≤ y.toInt ∧ y.toInt ≤ (99 : Int32).toInt) = isN 100 y from isR_0 (hi := 99)] at h35
                 rw [if_pos (by rw [i_le] at h23; have : x.toInt ≤ 2 := h23; omega), h35]; rfl)
              | (rw [show decide ((0 : Int32).toInt ≤ y.toInt ∧ y.toInt ≤ (1 : Int32).toInt) = isN 2 y from isR_0 (hi := 1)] at h35
                 rw [if_neg (by rw [i_le] at h23; have : ¬ x.toInt ≤ 2 := h23; omega), h35]; rfl)
          obtain ⟨h0, w, m, hw, hm, rfl, rfl, hm1⟩ := lawC_of hC
          rw [if_pos hC, if_pos hC, nI_clamp (by omega), nI_clamp (by omega)]
          refine Wp.n (pc' := 42) 1 rfl ?_
          refine Wp.get (len := 3) rfl (hO _) rfl ?_
          refine Wp.get (len := 3) rfl (ra_obj (hRc _)) rfl ?_
          refine Wp.n (pc' := 50) 2 rfl ?_
          rw [show cset M κ = rset (cset M κ) 36 ρ from (hRc κ).symm]
          refine Wp.callV (len := 3) rfl rfl rfl rs_law rfl (by decide) rfl (k_exchange hw) ?_
          rintro _ _ ⟨rfl, rfl⟩
          refine Wp.retI (len := 1) rfl rfl ?_
          refine ⟨by rw [rc_law hK h0 hw], _, rset_c (by decide) (by decide), _, rset_ra, set_repC hK hw, ?_, setK_ok ok hw hm, by decide, by decide⟩
          intro p q hp hq
          have e0 : kh (setK K w m) 0 = kh K 0 := if_neg (by omega)
          rw [e0] at hp hq
          have ed : distK (setK K w m) = distK K := by
            unfold distK
            rw [e0]
            have e2 : D0 (setK K w m) = D0 K := by
              funext a b
              unfold D0 roadK
              rw [show kh (setK K w m) 2 = kh K 2 from if_neg (by omega)]
              rfl
            rw [e2]
          rw [ed]
          exact hDC p q hp hq
        · skip
          refine Wp.n (pc' := 40) 1 rfl ?_
          refine Wp.retI (len := 1) rfl rfl ?_
          have hC : lawC K x y = false := by
            unfold lawC
            first
              | (rw [h7, Bool.false_and, Bool.false_and])
              | (rw [h16, Bool.and_false, Bool.false_and])
              | (rw [show decide ((0 : Int32).toInt ≤ y.toInt ∧ y.toInt ≤ (99 : Int32).toInt) = isN 100 y from isR_0 (hi := 99)] at h35
                 rw [if_pos (by rw [i_le] at h23; have : x.toInt ≤ 2 := h23; omega), h35, Bool.and_false])
              | (rw [show decide ((0 : Int32).toInt ≤ y.toInt ∧ y.toInt ≤ (1 : Int32).toInt) = isN 2 y from isR_0 (hi := 1)] at h35
                 rw [if_neg (by rw [i_le] at h23; have : ¬ x.toInt ≤ 2 := h23; omega), h35, Bool.and_false])
          rw [if_neg (by rw [hC]; decide), if_neg (by rw [hC]; decide)]
          exact ⟨rfl, kn⟩
      · skip
        refine Wp.n (pc' := 32) 2 rfl ?_
        refine Wp.ecallS (len := 3) rfl rfl rfl rfl (c_isWithin _ _ _) ?_
        refine Wp.ifb1 (tgt := 41) (len := 3) rfl (fun h35 => ?_) (fun h35 => ?_)
        · skip
          have hC : lawC K x y = true := by
            unfold lawC
            rw [h7, h16]
            first
              | (rw [show decide ((0 : Int32).toInt ≤ y.toInt ∧ y.toInt ≤ (99 : Int32).toInt) = isN 100 y from isR_0 (hi := 99)] at h35
                 rw [if_pos (by rw [i_le] at h23; have : x.toInt ≤ 2 := h23; omega), h35]; rfl)
              | (rw [show decide ((0 : Int32).toInt ≤ y.toInt ∧ y.toInt ≤ (1 : Int32).toInt) = isN 2 y from isR_0 (hi := 1)] at h35
                 rw [if_neg (by rw [i_le] at h23; have : ¬ x.toInt ≤ 2 := h23; omega), h35]; rfl)
          obtain ⟨h0, w, m, hw, hm, rfl, rfl, hm1⟩ := lawC_of hC
          rw [if_pos hC, if_pos hC, nI_clamp (by omega), nI_clamp (by omega)]
          refine Wp.n (pc' := 42) 1 rfl ?_
          refine Wp.get (len := 3) rfl (hO _) rfl ?_
          refine Wp.get (len := 3) rfl (ra_obj (hRc _)) rfl ?_
          refine Wp.n (pc' := 50) 2 rfl ?_
          rw [show cset M κ = rset (cset M κ) 36 ρ from (hRc κ).symm]
          refine Wp.callV (len := 3) rfl rfl rfl rs_law rfl (by decide) rfl (k_exchange hw) ?_
          rintro _ _ ⟨rfl, rfl⟩
          refine Wp.retI (len := 1) rfl rfl ?_
          refine ⟨by rw [rc_law hK h0 hw], _, rset_c (by decide) (by decide), _, rset_ra, set_repC hK hw, ?_, setK_ok ok hw hm, by decide, by decide⟩
          intro p q hp hq
          have e0 : kh (setK K w m) 0 = kh K 0 := if_neg (by omega)
          rw [e0] at hp hq
          have ed : distK (setK K w m) = distK K := by
            unfold distK
            rw [e0]
            have e2 : D0 (setK K w m) = D0 K := by
              funext a b
              unfold D0 roadK
              rw [show kh (setK K w m) 2 = kh K 2 from if_neg (by omega)]
              rfl
            rw [e2]
          rw [ed]
          exact hDC p q hp hq
        · skip
          refine Wp.n (pc' := 40) 1 rfl ?_
          refine Wp.retI (len := 1) rfl rfl ?_
          have hC : lawC K x y = false := by
            unfold lawC
            first
              | (rw [h7, Bool.false_and, Bool.false_and])
              | (rw [h16, Bool.and_false, Bool.false_and])
              | (rw [show decide ((0 : Int32).toInt ≤ y.toInt ∧ y.toInt ≤ (99 : Int32).toInt) = isN 100 y from isR_0 (hi := 99)] at h35
                 rw [if_pos (by rw [i_le] at h23; have : x.toInt ≤ 2 := h23; omega), h35, Bool.and_false])
              | (rw [show decide ((0 : Int32).toInt ≤ y.toInt ∧ y.toInt ≤ (1 : Int32).toInt) = isN 2 y from isR_0 (hi := 1)] at h35
                 rw [if_neg (by rw [i_le] at h23; have : ¬ x.toInt ≤ 2 := h23; omega), h35, Bool.and_false])
          rw [if_neg (by rw [hC]; decide), if_neg (by rw [hC]; decide)]
          exact ⟨rfl, kn⟩

end WATCH
section MUSTC
variable {d : Nat} {M : AM} {K : KD} {κ κ' : CS} {Q : Option Value → AM → Prop}
theorem k_must_l {ρ : RC} {κ2 : CS} {a b w dn lg : Nat} {z6 : Option Value} (hD : HD (rset M 83 ρ)) (hk : RK (rset M 83 ρ) 83 (laneK K a b 1 (kh K 1 - 1))) (hw : w < kh K 4) (hW : WRw κ2 (laneK K a b 1 (kh K 1 - 1)) 83 w) (hS : ScC κ κ2) (hdn : dn < 2 ^ 31) (hlg : lg ≤ 99) : ∀ (n m : Nat), m + n = lg + 1 → 1 ≤ m → Wp (d + 11) md_140 131 [some (.ref 32), some (.int (nI a)), some (.int (nI b)), some (.int (nI w)), some (.int (nI dn)), some (.int (nI (2 ^ kh K 3))), z6, some (.int (nI lg)), some (.int (nI m))] [] (cset (rset M 83 ρ) κ2) (RDI M κ (oI (fnd (fun m => (allW (laneK K a b 1 (kh K 1 - 1)) (kw K w 2) (kw K w 4) (kw K w (3 + kw K w 3))).any (canP (laneK K a b 1 (kh K 1 - 1)) (kw K w 4) (kw K w (3 + kw K w 3)) (kw K w 2) (kw K w 1) (2 ^ kh K 3) (m - 1) dn)) n m))) := by
  have hO : ∀ κ : CS, cset (rset M 83 ρ) κ 32 = .inr (9, hdl) := fun κ => (cset_o (by omega)).trans hD
  obtain ⟨p0, p1, p2, p3, p4⟩ := walk_b (K := laneK K a b 1 (kh K 1 - 1)) hk.choose_spec.2.2.2.1 hw
  intro n
  induction n with
  | zero =>
    intro m hm h1
    refine Wp.n (pc' := 135) 2 rfl ?_
    refine Wp.nc4 (x := m) (y := lg) (tgt := 165) (len := 3) rfl (by omega) (by omega) (fun h135 => ?_) (fun h135 => ?_)
    · skip
      refine Wp.n (pc' := 166) 1 rfl ?_
      refine Wp.retI (len := 1) rfl rfl ?_
      exact RDI_s hS rfl
    · omega
  | succ n ih =>
    intro m hm h1
    rw [show ∀ p : Nat → Bool, fnd p (n + 1) m = if p m = true then some m else fnd p n (m + 1) from fun p => rfl]
    refine Wp.n (pc' := 135) 2 rfl ?_
    refine Wp.nc4 (x := m) (y := lg) (tgt := 165) (len := 3) rfl (by omega) (by omega) (fun h135 => ?_) (fun h135 => ?_)
    · omega
    · skip
      refine Wp.n (pc' := 139) 1 rfl ?_
      refine Wp.get (len := 3) rfl (hO _) rfl ?_
      refine Wp.n (pc' := 147) 3 rfl ?_
      refine Wp.isubN (x := m) (y := 1) (len := 1) rfl (by omega) ?_
      refine Wp.n (pc' := 150) 1 rfl ?_
      refine Wp.ecallV (len := 3) rfl rfl rfl (rfl) rfl (by decide) rfl (t_can (lb := 2 ^ kh K 3) (m := m - 1) (dn := dn) hk p0 p2 p3 hW p4 hdn (by omega)) ?_
      refine Wp.ifb0 (tgt := 159) (len := 3) rfl (fun h153 => ?_) (fun h153 => ?_)
      · skip
        refine Wp.incN (x := m) (len := 3) rfl rfl ?_
        refine Wp.n (pc' := 131) 1 rfl ?_
        have h153f : (allW (laneK K a b 1 (kh K 1 - 1)) (kw K w 2) (kw K w 4) (kw K w (3 + kw K w 3))).any (canP (laneK K a b 1 (kh K 1 - 1)) (kw K w 4) (kw K w (3 + kw K w 3)) (kw K w 2) (kw K w 1) (2 ^ kh K 3) (m - 1) dn) = false := h153
        rw [if_neg (by rw [h153f]; decide)]
        exact ih (m + 1) (by omega) (by omega)
      · skip
        refine Wp.n (pc' := 158) 1 rfl ?_
        refine Wp.retI (len := 1) rfl rfl ?_
        have h153t : (allW (laneK K a b 1 (kh K 1 - 1)) (kw K w 2) (kw K w 4) (kw K w (3 + kw K w 3))).any (canP (laneK K a b 1 (kh K 1 - 1)) (kw K w 4) (kw K w (3 + kw K w 3)) (kw K w 2) (kw K w 1) (2 ^ kh K 3) (m - 1) dn) = true := h153
        rw [if_pos h153t]
        exact RDI_s hS rfl

theorem k_must (hH : HDR M K) (h11 : kh K 11 = 0) (hd1 : 0 < kh K 0 → 1 ≤ kh K 1) (x y z u : Int32) : Wp (d + 14) md_140 0 [some (.ref 32), some (.int x), some (.int y), some (.int z), some (.int u), none, none, none, none] [] (cset M κ) (RDI M κ (mustA K x y z u)) := by
  obtain ⟨ρr, hR, hK, hDC, ok, hr1, hr2⟩ := id hH.2.1
  obtain ⟨b0, b1, b2, b3, b4, b5, b6, b7, b8, b9, b10, b11, b12⟩ := ok_h ok
  have hO : ∀ (ρ : RC) (κ : CS), cset (rset M 83 ρ) κ 32 = .inr (9, hdl) := fun ρ κ => (cset_o (by omega)).trans (HDR_d hH).1
  have hO0 : ∀ κ : CS, cset M κ 32 = .inr (9, hdl) := fun κ => (cset_o (by omega)).trans hH.1
  have hR0 : ∀ κ : CS, RA (cset M κ) 36 ρr := fun κ => RA_c hR hr1 hr2
  have hRd : ∀ (ρ : RC) (κ : CS), RA (cset (rset M 83 ρ) κ) 36 ρr := fun ρ κ => RA_c (RA_of hR (fun k a b => rset_ne (by omega))) hr1 hr2
  have hDd : ∀ (ρ : RC) (κ : CS), cset (rset M 83 ρ) κ 83 = .inr (3, rfs 83 ρ) := fun ρ κ => (cset_o (by omega)).trans rs_obj
  have hD0 : ∃ ρ0, ∀ κ : CS, cset M κ 83 = .inr (3, rfs 83 ρ0) := by
    obtain ⟨ρ0, h0⟩ := hH.2.2
    exact ⟨ρ0, fun κ => (cset_o (by omega)).trans (ra_obj h0)⟩
  obtain ⟨ρ0, hD0⟩ := hD0
  have h8 : rhd ρr 8 = nI (kh K 3) := by rw [rc_la hK, h11, Nat.add_zero]
  unfold mustA
  refine Wp.n (pc' := 3) 3 rfl ?_
  refine Wp.ecallV (len := 3) rfl rfl rfl (hO0 _) rfl (by decide) rfl (k_arePlaces hH.1 hH.2.1 _ _) ?_
  refine Wp.ifb0 (tgt := 30) (len := 3) rfl (fun h6 => ?_) (fun h6 => ?_)
  · skip
    refine Wp.n (pc' := 32) 1 rfl ?_
    refine Wp.retI (len := 1) rfl rfl ?_
    refine RDI_r hH.2.2 ScC_r ?_
    first
      | rw [if_neg (fun q => by have q1 := q.1; unfold areT at q1; rw [h6] at q1; cases q1)]
      | rw [if_neg (fun q => by have q1 := q.1; unfold areT at q1; rw [decide_eq_true h11_, Bool.not_true, Bool.and_false] at q1; cases q1)]
      | rw [if_neg (fun q => by rw [h22] at q; exact absurd q.2.1 (by decide))]
      | rw [if_neg (fun q => h27 q.2.2)]
  · skip
    refine Wp.n (pc' := 11) 2 rfl ?_
    refine Wp.ic0 (tgt := 30) (len := 3) rfl (fun h11_ => ?_) (fun h11_ => ?_)
    · skip
      refine Wp.n (pc' := 32) 1 rfl ?_
      refine Wp.retI (len := 1) rfl rfl ?_
      refine RDI_r hH.2.2 ScC_r ?_
      first
        | rw [if_neg (fun q => by have q1 := q.1; unfold areT at q1; rw [h6] at q1; cases q1)]
        | rw [if_neg (fun q => by have q1 := q.1; unfold areT at q1; rw [decide_eq_true h11_, Bool.not_true, Bool.and_false] at q1; cases q1)]
        | rw [if_neg (fun q => by rw [h22] at q; exact absurd q.2.1 (by decide))]
        | rw [if_neg (fun q => h27 q.2.2)]
    · skip
      refine Wp.n (pc' := 15) 1 rfl ?_
      refine Wp.get (len := 3) rfl (hO0 _) rfl ?_
      refine Wp.n (pc' := 19) 1 rfl ?_
      refine Wp.ecallV (len := 3) rfl rfl rfl (ra_obj (hR0 _)) rfl (by decide) rfl (k_hasWalk (RK_c hH.2.1) _) ?_
      refine Wp.ifb0 (tgt := 30) (len := 3) rfl (fun h22 => ?_) (fun h22 => ?_)
      · skip
        refine Wp.n (pc' := 32) 1 rfl ?_
        refine Wp.retI (len := 1) rfl rfl ?_
        refine RDI_r hH.2.2 ScC_r ?_
        first
          | rw [if_neg (fun q => by have q1 := q.1; unfold areT at q1; rw [h6] at q1; cases q1)]
          | rw [if_neg (fun q => by have q1 := q.1; unfold areT at q1; rw [decide_eq_true h11_, Bool.not_true, Bool.and_false] at q1; cases q1)]
          | rw [if_neg (fun q => by rw [h22] at q; exact absurd q.2.1 (by decide))]
          | rw [if_neg (fun q => h27 q.2.2)]
      · skip
        refine Wp.n (pc' := 27) 1 rfl ?_
        refine Wp.if3 (tgt := 33) (len := 3) rfl (fun h27 => ?_) (fun h27 => ?_)
        · skip
          have hT : areT K x y = true := by unfold areT; rw [h6, decide_eq_false h11_]; rfl
          obtain ⟨a, t, ha, ht, hat, rfl, rfl⟩ := areT_of hT
          obtain ⟨w, hw, rfl⟩ := isN_of h22
          obtain ⟨dn, hdn, rfl⟩ := ge_of h27
          have tw := ok_walk ok hw
          rw [if_pos ⟨hT, h22, h27⟩, nI_clamp (by omega), nI_clamp (by omega), nI_clamp (by omega), nI_clamp hdn]
          refine Wp.n (pc' := 34) 1 rfl ?_
          refine Wp.get (len := 3) rfl (hO0 _) rfl ?_
          refine Wp.n (pc' := 38) 1 rfl ?_
          refine Wp.get (len := 3) rfl (hO0 _) rfl ?_
          refine Wp.callV (len := 3) rfl rfl rfl (hD0 _) rfl (by decide) rfl (k_becomeD hH h11) ?_
          rintro _ _ ⟨rfl, ρ1, rfl, hK1, hDC1⟩
          refine Wp.n (pc' := 45) 1 rfl ?_
          refine Wp.get (len := 3) rfl (hO _ _) rfl ?_
          refine Wp.callV (len := 3) rfl rfl rfl (hDd _ _) rfl (by decide) rfl (k_addLaneD hK1 ok h11 (hd1 (by omega))) ?_
          rintro _ _ ⟨rfl, ρ2, rfl, hP2, hd2⟩
          refine Wp.n (pc' := 52) 1 rfl ?_
          refine Wp.get (len := 3) rfl (hO _ _) rfl ?_
          refine Wp.n (pc' := 58) 3 rfl ?_
          refine Wp.callV (len := 3) rfl rfl rfl (hDd _ _) rfl (by decide) rfl (k_placeD (a := a) (b := t) (m := 1) hP2 ok) ?_
          rintro _ _ ⟨rfl, ρ3, rfl, hP3, hK3, hd3⟩
          have hD3 : DC (rds ρ3) K (distK K) := by rw [hd3, hd2]; exact hDC1
          have ok3 := laneK_ok ok (e := kh K 1 - 1) ha ht hat (Nat.le_refl 1) (by decide) (by omega)
          have hkL : RK (rset M 83 ρ3) 83 (laneK K a t 1 (kh K 1 - 1)) := RK_lane ok3 hK3 hD3
          refine Wp.n (pc' := 63) 2 rfl ?_
          refine Wp.get (len := 3) rfl (hO _ _) rfl ?_
          refine Wp.n (pc' := 67) 1 rfl ?_
          refine Wp.callV (len := 3) rfl rfl rfl (hO _ _) rfl (by decide) rfl (k_findForWalk (HDR_d hH).1 hkL (w := w) hw) ?_
          rintro _ _ ⟨rfl, κ4, rfl, hS4, hW4⟩
          have q := rc_walk hK hw
          have hwk : cset (rset M 83 ρ3) κ4 (36 + 26 + 2 * w) = .inr (7, wfs (rwk ρr w) (36 + 27 + 2 * w)) := ra_walk (hRd _ _) (by omega)
          refine Wp.n (pc' := 72) 2 rfl ?_
          refine Wp.get (len := 3) rfl (hO _ _) rfl ?_
          refine Wp.get (len := 3) rfl (ra_obj (hRd _ _)) rfl ?_
          refine Wp.top h8 ?_
          refine Wp.n (pc' := 79) 1 rfl ?_
          refine Wp.top (n_sh1 _ (by omega)) ?_
          refine Wp.n (pc' := 82) 2 rfl ?_
          refine Wp.get (len := 3) rfl (hO _ _) rfl ?_
          refine Wp.n (pc' := 88) 3 rfl ?_
          refine Wp.get (len := 3) rfl (hO _ _) rfl ?_
          refine Wp.get (len := 3) rfl (ra_obj (hRd _ _)) rfl ?_
          refine Wp.n (pc' := 95) 1 rfl ?_
          refine Wp.aaldN (j := w) (len := 1) rfl (ra_walks (hRd _ _)) rfl (by omega) (by decide) (if_pos (by omega)) ?_
          refine Wp.get (len := 3) rfl (hwk) rfl ?_
          refine Wp.top q.2.2.1 ?_
          refine Wp.ecallV (len := 3) rfl rfl rfl (ra_obj (hRd _ _)) rfl (by decide) rfl (k_linkOf (hRd _ _) hK ok (by decide) (by omega) (by omega) (by omega)) ?_
          rcases hj : joinK K a t (kw K w 2) with _ | j
          · have hlg : lngK K a t (kw K w 2) = 99 := by unfold lngK; rw [hj]
            refine Wp.n (pc' := 106) 2 rfl ?_
            refine Wp.s (pc' := 109) rfl ?_
            refine Wp.n (pc' := 131) 5 rfl ?_
            have hl99 : lngK K a t (kw K w 2) ≤ 99 := by rw [hlg]; omega
            rw [fnd_cut (m := lngK K a t (kw K w 2)) (q := fun m => (allW (laneK K a t 1 (kh K 1 - 1)) (kw K w 2) (kw K w 4) (kw K w (3 + kw K w 3))).any (canP (laneK K a t 1 (kh K 1 - 1)) (kw K w 4) (kw K w (3 + kw K w 3)) (kw K w 2) (kw K w 1) (2 ^ kh K 3) (m - 1) dn)) 99 1 (fun j h1 h2 => must_eq ok h11 ha ht hat hw h1 (by omega)) (by omega) (by omega)]
            have wl := fun z6 => k_must_l (d := d + 3) (κ := κ) (z6 := z6) (a := a) (b := t) (dn := dn) (lg := lngK K a t (kw K w 2)) (HDR_d hH).1 hkL hw hW4 hS4 hdn hl99 (lngK K a t (kw K w 2) + 1 - 1) 1 (by omega) (Nat.le_refl 1)
            rw [hlg] at wl ⊢
            exact wl _
          · have hjv := joinK_v ok hj
            have hsj := spanJ_b ok hjv
            have hlg : lngK K a t (kw K w 2) = min 99 (spanJ K j - 1) := by unfold lngK; rw [hj]
            obtain ⟨n0, f0, q1, hf3, _, _⟩ := j_obj (hRd ρ3 κ4) hK ok hjv
            have hjm : cset (rset M 83 ρ3) κ4 (jad K 36 j) = .inr (1, kfs n0 f0) := q1
            refine Wp.n (pc' := 106) 2 rfl ?_
            refine Wp.s (pc' := 114) rfl ?_
            refine Wp.n (pc' := 118) 2 rfl ?_
            refine Wp.get (len := 3) rfl (hjm) rfl ?_
            refine Wp.top hf3 ?_
            refine Wp.n (pc' := 122) 1 rfl ?_
            refine Wp.isubN (x := spanJ K j) (y := 1) (len := 1) rfl (by omega) ?_
            refine Wp.bi (len := 3) rfl (by decide) rfl (by omega) ?_
            refine Wp.top (n_min (x := 99) (y := spanJ K j - 1) (by decide) (by omega)) ?_
            refine Wp.n (pc' := 131) 3 rfl ?_
            have hl99 : lngK K a t (kw K w 2) ≤ 99 := by rw [hlg]; omega
            rw [fnd_cut (m := lngK K a t (kw K w 2)) (q := fun m => (allW (laneK K a t 1 (kh K 1 - 1)) (kw K w 2) (kw K w 4) (kw K w (3 + kw K w 3))).any (canP (laneK K a t 1 (kh K 1 - 1)) (kw K w 4) (kw K w (3 + kw K w 3)) (kw K w 2) (kw K w 1) (2 ^ kh K 3) (m - 1) dn)) 99 1 (fun j h1 h2 => must_eq ok h11 ha ht hat hw h1 (by omega)) (by omega) (by omega)]
            have wl := fun z6 => k_must_l (d := d + 3) (κ := κ) (z6 := z6) (a := a) (b := t) (dn := dn) (lg := lngK K a t (kw K w 2)) (HDR_d hH).1 hkL hw hW4 hS4 hdn hl99 (lngK K a t (kw K w 2) + 1 - 1) 1 (by omega) (Nat.le_refl 1)
            rw [hlg] at wl ⊢
            exact wl _
        · skip
          refine Wp.n (pc' := 32) 1 rfl ?_
          refine Wp.retI (len := 1) rfl rfl ?_
          refine RDI_r hH.2.2 ScC_r ?_
          first
            | rw [if_neg (fun q => by have q1 := q.1; unfold areT at q1; rw [h6] at q1; cases q1)]
            | rw [if_neg (fun q => by have q1 := q.1; unfold areT at q1; rw [decide_eq_true h11_, Bool.not_true, Bool.and_false] at q1; cases q1)]
            | rw [if_neg (fun q => by rw [h22] at q; exact absurd q.2.1 (by decide))]
            | rw [if_neg (fun q => h27 q.2.2)]

end MUSTC
