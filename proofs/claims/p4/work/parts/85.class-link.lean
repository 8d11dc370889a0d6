/-! A LINK OF THE DRAFT is being written (q: 0..11 a road, 12..20 a lane; p: where it lies). -/
def lkA (q p : Nat) : Prop := (q < 12 ∧ p = 83 + 3 + q) ∨ (12 ≤ q ∧ q < 21 ∧ p = 83 + 16 + (q - 12))
def LkF (q : Nat) (g : Nat → Int32) (ρ ρ' : RC) : Prop := ρ'.1 = ρ.1 ∧ ρ'.2.1 = ρ.2.1 ∧ ρ'.2.2.2 = ρ.2.2.2 ∧ (∀ i, i ≠ q → rlk ρ' i = rlk ρ i) ∧ rlk ρ' q = g
section LKD
variable {d : Nat} {X : MD} {pc len q p b : Nat} {l : AL} {sk : List Value} {M : AM} {κ κ' : CS} {T : TP} {st : St} {K : KD} {ρ ρ' ρ0 : RC} {g : Nat → Int32} {v : Value} {Q : Option Value → AM → Prop}
theorem LkF.r : LkF q (rlk ρ q) ρ ρ := ⟨rfl, rfl, rfl, fun _ _ => rfl, rfl⟩
theorem LkF.s (h : LkF q g ρ0 ρ) {j : Nat} {x : Int32} : LkF q (upd g j x) ρ0 (kset ρ q j x) := ⟨h.1, h.2.1, h.2.2.1, fun i hi => (rlk_kn hi).trans (h.2.2.2.1 i hi), by rw [rlk_ks, h.2.2.2.2]⟩
theorem dk_get (hA : lkA q p) : ∃ n, cset (rset M 83 ρ) κ p = .inr (1, kfs n (rlk ρ q)) := by
  rcases hA with ⟨h, rfl⟩ | ⟨h1, h2, rfl⟩
  · exact ⟨q, droad h⟩
  · have w := dlane (M := M) (ρ := ρ) (κ := κ) (i := q - 12) (by omega)
    rw [show 12 + (q - 12) = q by omega] at w
    exact ⟨q - 12, w⟩
theorem Wp.dk {x : Int32} (hA : lkA q p) (hF : LkF q g ρ0 ρ) (j : Nat) (hj : (Nat.ble 1 j && Nat.ble j 6) = true) (hc : cdx X pc = some (.inr (.inr (1, 1, j, v)), len)) (kk : ∀ ρ', LkF q (upd g j x) ρ0 ρ' → Wp d X (pc + len) l sk (cset (rset M 83 ρ') κ) Q) : Wp d X pc l (.int x :: .ref p :: sk) (cset (rset M 83 ρ) κ) Q := by
  rcases hA with ⟨h, rfl⟩ | ⟨h1, h2, rfl⟩
  · exact Wp.dkR j hj h hc (kk _ hF.s)
  · refine Wp.dkL (i := q - 12) j hj (by omega) hc ?_
    rw [show 12 + (q - 12) = q by omega]
    exact kk _ hF.s
theorem k_linkBeginD (hA : lkA q p) {x : Int32} : Wp d md_6 0 [some (.ref p), some (.int x)] [] (cset (rset M 83 ρ) κ) (fun v M' => v = none ∧ ∃ ρ' g, M' = cset (rset M 83 ρ') κ ∧ LkF q g ρ ρ' ∧ g 1 = x ∧ ∀ j, 2 ≤ j → j ≤ 6 → g j = 0) := by
  have F0 : LkF q (rlk ρ q) ρ ρ := LkF.r
  refine Wp.n (pc' := 2) 2 rfl ?_
  refine Wp.dk hA F0 1 rfl (len := 3) rfl (fun ρ1 F1 => ?_)
  refine Wp.n (pc' := 7) 2 rfl ?_
  refine Wp.dk hA F1 2 rfl (len := 3) rfl (fun ρ2 F2 => ?_)
  refine Wp.n (pc' := 12) 2 rfl ?_
  refine Wp.dk hA F2 3 rfl (len := 3) rfl (fun ρ3 F3 => ?_)
  refine Wp.n (pc' := 17) 2 rfl ?_
  refine Wp.dk hA F3 4 rfl (len := 3) rfl (fun ρ4 F4 => ?_)
  refine Wp.n (pc' := 22) 2 rfl ?_
  refine Wp.dk hA F4 5 rfl (len := 3) rfl (fun ρ5 F5 => ?_)
  refine Wp.n (pc' := 27) 2 rfl ?_
  refine Wp.dk hA F5 6 rfl (len := 3) rfl (fun ρ6 F6 => ?_)
  refine Wp.retV (len := 1) rfl rfl ?_
  refine ⟨rfl, ρ6, _, rfl, F6, rfl, fun j h2 h6 => ?_⟩
  obtain rfl | rfl | rfl | rfl | rfl : j = 2 ∨ j = 3 ∨ j = 4 ∨ j = 5 ∨ j = 6 := by omega
  all_goals rfl
/-- where the next link is kept -/
def lkQ (K : KD) (k : Nat) : Nat := if k = 0 then kh K 2 else 12 + kh K 3
def lkP (K : KD) (k : Nat) : Nat := if k = 0 then 83 + 3 + kh K 2 else 83 + 16 + kh K 3
def lkO (K : KD) (k : Nat) : Option Nat := if k = 0 then (if kh K 2 < 12 then some (83 + 3 + kh K 2) else none) else (if kh K 3 < 8 then some (83 + 16 + kh K 3) else none)
theorem k_spareLink (hK : RepC ρ K) (ok : KOK K) (h11 : kh K 11 = 0) {k : Nat} (hk : k ≤ 3) : Ev d md_28 0 [some (.ref 83), some (.int (nI k))] [] (cset (rset M 83 ρ) κ) (some (va_rf (lkO K k)), cset (rset M 83 ρ) κ) := by
  refine Wp.toEv ?_
  have b2 := (ok_h ok).2.2.1
  have b3 := (ok_h ok).2.2.2.1
  have e8 : rhd ρ 8 = nI (kh K 3) := by rw [hK.2.2.2.2.2.1, h11, Nat.add_zero]
  have e6 := hK.2.2.2.2.1
  refine Wp.n (pc' := 1) 1 rfl ?_
  refine Wp.nz1 (x := k) (tgt := 27) (len := 3) rfl (by omega) (fun h1 => ?_) (fun h1 => ?_)
  · skip
    refine Wp.n (pc' := 28) 1 rfl ?_
    refine Wp.get (len := 3) rfl (dobj) rfl ?_
    refine Wp.top e8 ?_
    refine Wp.n (pc' := 33) 1 rfl ?_
    refine Wp.nc3 (x := kh K 3) (y := 8) (tgt := 48) (len := 3) rfl (by omega) (by omega) (fun h33 => ?_) (fun h33 => ?_)
    · skip
      refine Wp.n (pc' := 49) 1 rfl ?_
      refine Wp.retN (len := 1) rfl rfl ?_
      first
        | (have e : lkO K k = some (83 + 3 + kh K 2) := (if_pos (by omega)).trans (if_pos (by omega))
           rw [e]; exact ⟨rfl, rfl⟩)
        | (have e : lkO K k = some (83 + 16 + kh K 3) := (if_neg (by omega)).trans (if_pos (by omega))
           rw [e]; exact ⟨rfl, rfl⟩)
        | (have e : lkO K k = none := (if_pos (by omega)).trans (if_neg (by omega))
           rw [e]; exact ⟨rfl, rfl⟩)
        | (have e : lkO K k = none := (if_neg (by omega)).trans (if_neg (by omega))
           rw [e]; exact ⟨rfl, rfl⟩)
    · skip
      refine Wp.n (pc' := 37) 1 rfl ?_
      refine Wp.get (len := 3) rfl (dobj) rfl ?_
      refine Wp.n (pc' := 41) 1 rfl ?_
      refine Wp.get (len := 3) rfl (dobj) rfl ?_
      refine Wp.top e8 ?_
      refine Wp.aaldN (j := kh K 3) (len := 1) rfl (dlanes) rfl (by omega) (by decide) (if_pos (by omega)) ?_
      refine Wp.n (pc' := 49) 1 rfl ?_
      refine Wp.retR (len := 1) rfl rfl ?_
      first
        | (have e : lkO K k = some (83 + 3 + kh K 2) := (if_pos (by omega)).trans (if_pos (by omega))
           rw [e]; exact ⟨rfl, rfl⟩)
        | (have e : lkO K k = some (83 + 16 + kh K 3) := (if_neg (by omega)).trans (if_pos (by omega))
           rw [e]; exact ⟨rfl, rfl⟩)
        | (have e : lkO K k = none := (if_pos (by omega)).trans (if_neg (by omega))
           rw [e]; exact ⟨rfl, rfl⟩)
        | (have e : lkO K k = none := (if_neg (by omega)).trans (if_neg (by omega))
           rw [e]; exact ⟨rfl, rfl⟩)
  · skip
    refine Wp.n (pc' := 5) 1 rfl ?_
    refine Wp.get (len := 3) rfl (dobj) rfl ?_
    refine Wp.top e6 ?_
    refine Wp.n (pc' := 10) 1 rfl ?_
    refine Wp.nc3 (x := kh K 2) (y := 12) (tgt := 25) (len := 3) rfl (by omega) (by omega) (fun h10 => ?_) (fun h10 => ?_)
    · skip
      refine Wp.n (pc' := 26) 1 rfl ?_
      refine Wp.retN (len := 1) rfl rfl ?_
      first
        | (have e : lkO K k = some (83 + 3 + kh K 2) := (if_pos (by omega)).trans (if_pos (by omega))
           rw [e]; exact ⟨rfl, rfl⟩)
        | (have e : lkO K k = some (83 + 16 + kh K 3) := (if_neg (by omega)).trans (if_pos (by omega))
           rw [e]; exact ⟨rfl, rfl⟩)
        | (have e : lkO K k = none := (if_pos (by omega)).trans (if_neg (by omega))
           rw [e]; exact ⟨rfl, rfl⟩)
        | (have e : lkO K k = none := (if_neg (by omega)).trans (if_neg (by omega))
           rw [e]; exact ⟨rfl, rfl⟩)
    · skip
      refine Wp.n (pc' := 14) 1 rfl ?_
      refine Wp.get (len := 3) rfl (dobj) rfl ?_
      refine Wp.n (pc' := 18) 1 rfl ?_
      refine Wp.get (len := 3) rfl (dobj) rfl ?_
      refine Wp.top e6 ?_
      refine Wp.aaldN (j := kh K 2) (len := 1) rfl (droads) rfl (by omega) (by decide) (if_pos (by omega)) ?_
      refine Wp.n (pc' := 26) 1 rfl ?_
      refine Wp.retR (len := 1) rfl rfl ?_
      first
        | (have e : lkO K k = some (83 + 3 + kh K 2) := (if_pos (by omega)).trans (if_pos (by omega))
           rw [e]; exact ⟨rfl, rfl⟩)
        | (have e : lkO K k = some (83 + 16 + kh K 3) := (if_neg (by omega)).trans (if_pos (by omega))
           rw [e]; exact ⟨rfl, rfl⟩)
        | (have e : lkO K k = none := (if_pos (by omega)).trans (if_neg (by omega))
           rw [e]; exact ⟨rfl, rfl⟩)
        | (have e : lkO K k = none := (if_neg (by omega)).trans (if_neg (by omega))
           rw [e]; exact ⟨rfl, rfl⟩)
end LKD
