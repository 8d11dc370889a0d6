/-! IMAGES: keep and back. -/
def keepA (x : Int32) : Int32 := if isN 3 x = true then 0 else -2
def keepN (I : Nat → Option KD) (K : KD) (x : Int32) : Nat → Option KD := if isN 3 x = true then va_up I x.toNatClampNeg (some K) else I
def backA (I : Nat → Option KD) (x : Int32) : Int32 := if isN 3 x = true then (match I x.toNatClampNeg with | none => -6 | some _ => 0) else -2
def backN (I : Nat → Option KD) (K : KD) (x : Int32) : KD := if isN 3 x = true then (match I x.toNatClampNeg with | none => K | some K' => K') else K
/-- the reference's images -/
def IMm (σ : MS) (I : Nat → Option KD) : Prop := ∀ k, k < 3 → (I k = none ∧ σ.2.2.1 12 k = 0) ∨ ∃ K, I k = some K ∧ σ.2.2.1 12 k = 1 ∧ RepM σ (1 + k) K ∧ KOK K ∧ kh K 11 = 0
section IMG
variable {d : Nat} {M : AM} {σ σ' : MS} {K : KD} {I : Nat → Option KD} {κ : CS} {Q : Option Value → AM → Prop}
theorem rm12 {s : Nat} {v : Nat → Int32} (h : RepM σ s K) : RepM (aset σ 12 v) s K := h
theorem m_keep (hM : MK σ K) (h11 : kh K 11 = 0) (hI : IMm σ I) (x : Int32) : Wp (d + 2) md_261 0 [some (.ref 287), some (.int x)] [] (mset M σ) (fun v M' => v = some (.int (keepA x)) ∧ ∃ σ', M' = mset M σ' ∧ MK σ' K ∧ IMm σ' (keepN I K x) ∧ σ'.1 = σ.1 ∧ σ'.2.1 = σ.2.1 ∧ (∀ k, List.elem k [5, 6, 7, 9, 10, 11, 12] = false → σ'.2.2.1 k = σ.2.2.1 k) ∧ (∀ k, k ≠ 8 → σ'.2.2.2 k = σ.2.2.2 k)) := by
  have ok := hM.2.1
  have hσ0 := hM.2.2.2
  unfold keepA keepN
  refine Wp.n (pc' := 2) 2 rfl ?_
  refine Wp.mput0 (len := 3) rfl hσ0 ?_
  refine Wp.n (pc' := 11) 4 rfl ?_
  refine Wp.ecallS (len := 3) rfl rfl rfl rfl (m_in _ _ _) ?_
  refine Wp.ifb1 (tgt := 20) (len := 3) rfl (fun h14 => ?_) (fun h14 => ?_)
  · rw [in_isN (k := 3) (by decide)] at h14
    obtain ⟨k, hk, rfl⟩ := isN_of h14
    rw [if_pos h14, if_pos h14, nI_clamp (by omega)]
    refine Wp.n (pc' := 24) 4 rfl ?_
    refine Wp.iaddN (x := 1) (y := k) (len := 1) rfl ?_
    refine Wp.callV (len := 3) rfl rfl rfl (rfl) rfl (by decide) rfl (m_copyKingdom (a := 0) (b := 1 + k) (by decide) (by omega) (by omega)) ?_
    rintro _ _ ⟨rfl, τ, rfl, hC⟩
    refine Wp.n (pc' := 34) 4 rfl ?_
    refine Wp.mbast12 (len := 1) rfl hk ?_
    refine Wp.n (pc' := 36) 1 rfl ?_
    refine Wp.retI (len := 1) rfl rfl ?_
    have e12 : τ.2.2.1 12 = σ.2.2.1 12 := hC.2.2.1 12 rfl
    refine ⟨rfl, _, rfl, ⟨rm12 (CK_o hC ok (show (0:Nat) ≠ 1 + k by omega) hM.1), ok, by show τ.1 25 = _; rw [hC.1]; exact hM.2.2.1, by show τ.1 0 = _; rw [hC.1]; exact hσ0⟩, fun j hj => ?_, hC.1, hC.2.1, fun q hq => ?_, hC.2.2.2.1⟩
    · by_cases c : j = k
      · subst c
        refine Or.inr ⟨K, va_up_self _ _ _, ?_, rm12 (CK_t hC ok hM.1), ok, h11⟩
        rw [aset_get, pk_us]
        rfl
      · have e1 : (aset τ 12 (upd (τ.2.2.1 12) k (anar 3 1))).2.2.1 12 j = σ.2.2.1 12 j := by rw [aset_get, pk_un c, e12]
        rw [e1, va_up_ne _ _ c]
        rcases hI j hj with q | ⟨K', q1, q2, q3, q4, q5⟩
        · exact Or.inl q
        · exact Or.inr ⟨K', q1, q2, rm12 (CK_o hC q4 (show 1 + j ≠ 1 + k by omega) q3), q4, q5⟩
    · show va_up τ.2.2.1 12 _ q = _
      rw [va_up_ne _ _ (fun e => by rw [e] at hq; cases hq)]
      refine hC.2.2.1 q (elem_sub (F' := [5, 6, 7, 9, 10, 11, 12]) rfl hq)
  · rw [in_isN (k := 3) (by decide)] at h14
    refine Wp.n (pc' := 19) 1 rfl ?_
    refine Wp.retI (len := 1) rfl rfl ?_
    rw [if_neg (by rw [h14]; decide), if_neg (by rw [h14]; decide)]
    exact ⟨rfl, σ, rfl, hM, hI, rfl, rfl, fun _ _ => rfl, fun _ _ => rfl⟩

theorem m_back (hM : MK σ K) (h11 : kh K 11 = 0) (hI : IMm σ I) (x : Int32) : Wp (d + 2) md_262 0 [some (.ref 287), some (.int x)] [] (mset M σ) (fun v M' => v = some (.int (backA I x)) ∧ ∃ σ', M' = mset M σ' ∧ MK σ' (backN I K x) ∧ IMm σ' I ∧ σ'.1 = σ.1 ∧ σ'.2.1 = σ.2.1 ∧ (∀ k, List.elem k [5, 6, 7, 9, 10, 11, 12] = false → σ'.2.2.1 k = σ.2.2.1 k) ∧ (∀ k, k ≠ 8 → σ'.2.2.2 k = σ.2.2.2 k)) := by
  have ok := hM.2.1
  have hσ0 := hM.2.2.2
  unfold backA backN
  refine Wp.n (pc' := 2) 2 rfl ?_
  refine Wp.mput0 (len := 3) rfl hσ0 ?_
  refine Wp.n (pc' := 11) 4 rfl ?_
  refine Wp.ecallS (len := 3) rfl rfl rfl rfl (m_in _ _ _) ?_
  refine Wp.ifb1 (tgt := 20) (len := 3) rfl (fun h14 => ?_) (fun h14 => ?_)
  · rw [in_isN (k := 3) (by decide)] at h14
    obtain ⟨k, hk, rfl⟩ := isN_of h14
    rw [if_pos h14, if_pos h14, nI_clamp (by omega)]
    refine Wp.n (pc' := 25) 3 rfl ?_
    refine Wp.baldN (j := k) (len := 1) rfl rfl rfl (hk) (by decide) ?_
    rcases hI k hk with ⟨e, e0⟩ | ⟨K2, e, e1, hR2, ok2, h112⟩
    · rw [e, e0]
      refine Wp.if1 (tgt := 32) (len := 3) rfl (fun h26 => ?_) (fun h26 => ?_)
      · exact absurd rfl h26
      · skip
        refine Wp.n (pc' := 31) 1 rfl ?_
        refine Wp.retI (len := 1) rfl rfl ?_
        exact ⟨rfl, σ, rfl, hM, hI, rfl, rfl, fun _ _ => rfl, fun _ _ => rfl⟩
    · rw [e, e1]
      refine Wp.if1 (tgt := 32) (len := 3) rfl (fun h26 => ?_) (fun h26 => ?_)
      · skip
        refine Wp.n (pc' := 35) 3 rfl ?_
        refine Wp.iaddN (x := 1) (y := k) (len := 1) rfl ?_
        refine Wp.n (pc' := 37) 1 rfl ?_
        refine Wp.callV (len := 3) rfl rfl rfl (rfl) rfl (by decide) rfl (m_copyKingdom (a := 1 + k) (b := 0) (by omega) (by decide) (by omega)) ?_
        rintro _ _ ⟨rfl, τ, rfl, hC⟩
        refine Wp.n (pc' := 41) 1 rfl ?_
        refine Wp.retI (len := 1) rfl rfl ?_
        refine ⟨rfl, τ, rfl, ⟨CK_t hC ok2 hR2, ok2, by rw [hC.1, hM.2.2.1, h11]; show nI 0 = nI (kh K2 11); rw [h112], by rw [hC.1]; exact hσ0⟩, fun j hj => ?_, hC.1, hC.2.1, fun q hq => hC.2.2.1 q (elem_sub (F' := [5, 6, 7, 9, 10, 11, 12]) rfl hq), hC.2.2.2.1⟩
        rw [hC.2.2.1 12 rfl]
        rcases hI j hj with q | ⟨K', q1, q2, q3, q4, q5⟩
        · exact Or.inl q
        · exact Or.inr ⟨K', q1, q2, CK_o hC q4 (by omega) q3, q4, q5⟩
      · exact absurd h26 (by decide)
  · rw [in_isN (k := 3) (by decide)] at h14
    refine Wp.n (pc' := 19) 1 rfl ?_
    refine Wp.retI (len := 1) rfl rfl ?_
    rw [if_neg (by rw [h14]; decide), if_neg (by rw [h14]; decide)]
    exact ⟨rfl, σ, rfl, hM, hI, rfl, rfl, fun _ _ => rfl, fun _ _ => rfl⟩

theorem ca_same {κ : CS} {s : Nat} : ca κ s (κ.2.1 s) = κ := by
  unfold ca
  rw [show va_up κ.2.1 s (κ.2.1 s) = κ.2.1 from by
    funext j
    by_cases c : j = s
    · rw [c, va_up_self]
    · rw [va_up_ne _ _ c]]
/-- the class's images -/
def HI (M : AM) : Prop := M 130 = .inl (6, 3, .inr (.inr (.inr (.inr (fun i => if i < 3 then some (131 + 47 * i) else none)))))
def IMc (M : AM) (κ : CS) (I : Nat → Option KD) : Prop := (∀ k, k < 3 → ∃ ρ, RA M (131 + 47 * k) ρ) ∧ ∀ k, k < 3 → (I k = none ∧ κ.2.1 3 k = 0) ∨ ∃ K, I k = some K ∧ κ.2.1 3 k = 1 ∧ RK M (131 + 47 * k) K ∧ kh K 11 = 0
theorem k_keep (hD : HD M) (hk : RK M 36 K) (h11 : kh K 11 = 0) (hH : HI M) (hI : IMc M κ I) (x : Int32) : Wp (d + 10) md_144 0 [some (.ref 32), some (.int x)] [] (cset M κ) (fun v M' => v = some (.int (keepA x)) ∧ ∃ M2 f, M' = cset M2 (ca κ 3 f) ∧ IMc M2 (ca κ 3 f) (keepN I K x) ∧ ∀ q, q < 131 ∨ 272 ≤ q → M2 q = M q) := by
  obtain ⟨ρ, hR, hK, hDC, ok, hr1, hr2⟩ := id hk
  have b0 := (ok_h ok).1
  obtain ⟨ow, hDo⟩ := hD.1
  have hO : ∀ κ : CS, cset M κ 32 = .inr (9, hdl ow) := fun κ => (cset_o (by omega)).trans hDo
  have hH2 : ∀ κ : CS, cset M κ 130 = .inl (6, 3, .inr (.inr (.inr (.inr (fun i => if i < 3 then some (131 + 47 * i) else none))))) := fun κ => (cset_o (by omega)).trans hH
  unfold keepA keepN
  refine Wp.n (pc' := 3) 3 rfl ?_
  refine Wp.ecallS (len := 3) rfl rfl rfl rfl (k_isWithinN (hi := 2) x (by decide)) ?_
  refine Wp.ifb1 (tgt := 12) (len := 3) rfl (fun h6 => ?_) (fun h6 => ?_)
  · skip
    obtain ⟨k, hk3, rfl⟩ := isN_of h6
    obtain ⟨ρk, hρk⟩ := hI.1 k hk3
    have hT : ∀ κ : CS, cset M κ (131 + 47 * k) = .inr (3, rfs (131 + 47 * k) ρk) := fun κ => (cset_o (by omega)).trans (ra_obj hρk)
    rw [if_pos h6, if_pos h6, nI_clamp (by omega)]
    refine Wp.n (pc' := 13) 1 rfl ?_
    refine Wp.get (len := 3) rfl (hO _) rfl ?_
    refine Wp.n (pc' := 17) 1 rfl ?_
    refine Wp.aaldN (j := k) (len := 1) rfl (hH2 _) rfl (by omega) (by decide) (if_pos (by omega)) ?_
    refine Wp.n (pc' := 19) 1 rfl ?_
    refine Wp.get (len := 3) rfl (hO _) rfl ?_
    refine Wp.callV (len := 3) rfl rfl rfl (hT _) rfl (by omega) rfl (k_become (RA_c hρk (by omega) (by omega)) (RA_c hR (by decide) (by decide)) (by omega) (by omega) (by decide) hK ok h11) ?_
    rintro _ _ ⟨rfl, ρ2, rfl, hK2, hd2⟩
    rw [rset_c (by omega) (by omega)]
    have hO2 : rset M (131 + 47 * k) ρ2 32 = .inr (9, hdl ow) := (rset_ne (by omega)).trans hDo
    refine Wp.n (pc' := 26) 1 rfl ?_
    refine Wp.get (len := 3) rfl ((cset_o (by omega)).trans hO2) rfl ?_
    refine Wp.n (pc' := 31) 2 rfl ?_
    refine Wp.cbast3 (len := 1) rfl hk3 ?_
    refine Wp.n (pc' := 33) 1 rfl ?_
    refine Wp.retI (len := 1) rfl rfl ?_
    have hkk : RK (rset M (131 + 47 * k) ρ2) (131 + 47 * k) K := ⟨ρ2, rset_ra, hK2, fun p q hp hq => by rw [hd2 _ (by omega)]; exact hDC p q hp hq, ok, by omega, by omega⟩
    refine ⟨rfl, rset M (131 + 47 * k) ρ2, _, rfl, ⟨fun j hj => ?_, fun j hj => ?_⟩, fun q hq => rset_ne (by omega)⟩
    · by_cases c : j = k
      · subst c; exact ⟨ρ2, rset_ra⟩
      · obtain ⟨ρj, hρj⟩ := hI.1 j hj
        exact ⟨ρj, RA_of hρj (fun q a b => rset_ne (by omega))⟩
    · by_cases c : j = k
      · subst c
        refine Or.inr ⟨K, va_up_self _ _ _, ?_, hkk, h11⟩
        rw [ca_get, pk_us]
        rfl
      · rw [ca_get, pk_un c, va_up_ne _ _ c]
        rcases hI.2 j hj with q | ⟨K', q1, q2, q3, q4⟩
        · exact Or.inl q
        · exact Or.inr ⟨K', q1, q2, RK_of q3 (fun q a b => rset_ne (by omega)), q4⟩
  · skip
    refine Wp.n (pc' := 11) 1 rfl ?_
    refine Wp.retI (len := 1) rfl rfl ?_
    rw [if_neg (by rw [h6]; decide), if_neg (by rw [h6]; decide)]
    refine ⟨rfl, M, κ.2.1 3, ?_, ?_, fun _ _ => rfl⟩
    · rw [ca_same]
    · rw [ca_same]; exact hI

theorem k_back (hD : HD M) (hk : RK M 36 K) (hH : HI M) (hI : IMc M κ I) (x : Int32) : Wp (d + 10) md_145 0 [some (.ref 32), some (.int x)] [] (cset M κ) (fun v M' => v = some (.int (backA I x)) ∧ ∃ M2, M' = cset M2 κ ∧ RK M2 36 (backN I K x) ∧ ∀ q, q < 36 ∨ 83 ≤ q → M2 q = M q) := by
  obtain ⟨ρ, hR, hK, hDC, ok, hr1, hr2⟩ := id hk
  obtain ⟨ow, hDo⟩ := hD.1
  have hO : ∀ κ : CS, cset M κ 32 = .inr (9, hdl ow) := fun κ => (cset_o (by omega)).trans hDo
  have hH2 : ∀ κ : CS, cset M κ 130 = .inl (6, 3, .inr (.inr (.inr (.inr (fun i => if i < 3 then some (131 + 47 * i) else none))))) := fun κ => (cset_o (by omega)).trans hH
  unfold backA backN
  refine Wp.n (pc' := 3) 3 rfl ?_
  refine Wp.ecallS (len := 3) rfl rfl rfl rfl (k_isWithinN (hi := 2) x (by decide)) ?_
  refine Wp.ifb1 (tgt := 12) (len := 3) rfl (fun h6 => ?_) (fun h6 => ?_)
  · skip
    obtain ⟨k, hk3, rfl⟩ := isN_of h6
    rw [if_pos h6, if_pos h6, nI_clamp (by omega)]
    refine Wp.n (pc' := 13) 1 rfl ?_
    refine Wp.get (len := 3) rfl (hO _) rfl ?_
    refine Wp.n (pc' := 17) 1 rfl ?_
    refine Wp.baldN (j := k) (len := 1) rfl (rfl) rfl (hk3) (by decide) ?_
    rcases hI.2 k hk3 with ⟨e, e0⟩ | ⟨K2, e, e1, ⟨ρ2, hR2, hK2, hDC2, ok2, _, _⟩, h112⟩
    · rw [e, e0]
      refine Wp.if1 (tgt := 24) (len := 3) rfl (fun h18 => ?_) (fun h18 => ?_)
      · exact absurd rfl h18
      · skip
        refine Wp.n (pc' := 23) 1 rfl ?_
        refine Wp.retI (len := 1) rfl rfl ?_
        exact ⟨rfl, M, rfl, hk, fun _ _ => rfl⟩
    · rw [e, e1]
      refine Wp.if1 (tgt := 24) (len := 3) rfl (fun h18 => ?_) (fun h18 => ?_)
      · skip
        refine Wp.n (pc' := 25) 1 rfl ?_
        refine Wp.get (len := 3) rfl (hO _) rfl ?_
        refine Wp.n (pc' := 29) 1 rfl ?_
        refine Wp.get (len := 3) rfl (hO _) rfl ?_
        refine Wp.n (pc' := 33) 1 rfl ?_
        refine Wp.aaldN (j := k) (len := 1) rfl (hH2 _) rfl (by omega) (by decide) (if_pos (by omega)) ?_
        refine Wp.callV (len := 3) rfl rfl rfl (ra_obj (RA_c hR (by decide) (by decide))) rfl (by decide) rfl (k_become (RA_c hR (by decide) (by decide)) (RA_c hR2 (by omega) (by omega)) (by omega) (by decide) (by omega) hK2 ok2 h112) ?_
        rintro _ _ ⟨rfl, ρ3, rfl, hK3, hd3⟩
        rw [rset_c (by decide) (by decide)]
        refine Wp.n (pc' := 38) 1 rfl ?_
        refine Wp.retI (len := 1) rfl rfl ?_
        have b02 := (ok_h ok2).1
        exact ⟨rfl, rset M 36 ρ3, rfl, ⟨ρ3, rset_ra, hK3, fun p q hp hq => by have hp' : p < kh K2 0 := hp; have hq' : q < kh K2 0 := hq; rw [hd3 _ (by omega)]; exact hDC2 p q hp hq, ok2, by decide, by decide⟩, fun q hq => rset_ne (by omega)⟩
      · exact absurd h18 (by decide)
  · skip
    refine Wp.n (pc' := 11) 1 rfl ?_
    refine Wp.retI (len := 1) rfl rfl ?_
    rw [if_neg (by rw [h6]; decide), if_neg (by rw [h6]; decide)]
    exact ⟨rfl, M, rfl, hk, fun _ _ => rfl⟩

end IMG
