/-! THE REFERENCE'S QUESTIONS: roads, lanes, what joins, a walk's facts; all that seeks. -/
theorem isT_of {K : KD} {x y z : Int32} (h : isT K x y z = true) : ∃ a t v : Nat, a < kh K 0 ∧ t < kh K 0 ∧ v < kh K 1 ∧ a ≠ t ∧ x = nI a ∧ y = nI t ∧ z = nI v := by
  unfold isT areT at h
  simp only [Bool.and_eq_true, Bool.not_eq_true', decide_eq_false_iff_not] at h
  obtain ⟨⟨⟨h1, h2⟩, h3⟩, h4⟩ := h
  obtain ⟨a, ha, rfl⟩ := isN_of h1
  obtain ⟨t, ht, rfl⟩ := isN_of h2
  obtain ⟨v, hv, rfl⟩ := isN_of h4
  exact ⟨a, t, v, ha, ht, hv, fun e => h3 (by rw [e]), rfl, rfl, rfl⟩
theorem areT_of {K : KD} {x y : Int32} (h : areT K x y = true) : ∃ a t : Nat, a < kh K 0 ∧ t < kh K 0 ∧ a ≠ t ∧ x = nI a ∧ y = nI t := by
  unfold areT at h
  simp only [Bool.and_eq_true, Bool.not_eq_true', decide_eq_false_iff_not] at h
  obtain ⟨⟨h1, h2⟩, h3⟩ := h
  obtain ⟨a, ha, rfl⟩ := isN_of h1
  obtain ⟨t, ht, rfl⟩ := isN_of h2
  exact ⟨a, t, ha, ht, fun e => h3 (by rw [e]), rfl, rfl⟩
/-- a number from lo to hi -/
def isR (lo hi : Nat) (x : Int32) : Bool := decide ((lo : Int) ≤ x.toInt ∧ x.toInt ≤ (hi : Int))
theorem isR_of {lo hi : Nat} {x : Int32} (h : isR lo hi x = true) : ∃ m : Nat, lo ≤ m ∧ m ≤ hi ∧ m < 2 ^ 31 ∧ x = nI m := by
  have h1 := of_decide_eq_true h
  obtain ⟨a, ha, rfl⟩ := nI_of (x := x) (by rw [i_lt]; intro q; have : x.toInt < 0 := q; omega)
  rw [nI_toInt ha] at h1
  exact ⟨a, by omega, by omega, ha, rfl⟩
def roadA (K : KD) (x y : Int32) : Int32 := if (isN (kh K 0) x && isN (kh K 0) y) = true then dI (distK K x.toNatClampNeg y.toNatClampNeg) else -2
def wayQ (K : KD) (x y i : Int32) : Int32 := if (isN (kh K 0) x && isN (kh K 0) y) = true then wayA K x.toNatClampNeg y.toNatClampNeg i else -2
def openA (K : KD) (x y : Int32) : Int32 := if isN (kh K 3) x = true ∧ isN (kh K 1) y = true then bI (openK K x.toNatClampNeg y.toNatClampNeg) else -2
def joinsA (K : KD) (x y z : Int32) : Int32 := if isT K x y z = true then oI (joinK K x.toNatClampNeg y.toNatClampNeg z.toNatClampNeg) else -2
def walkQ (K : KD) (w k : Nat) : Nat := if k < 3 then kw K w k else if k = 3 then kw K w 4 else if k = 4 then kw K w (3 + kw K w 3) else kw K w 3 - 1
def walkA (K : KD) (x y : Int32) : Int32 := if isN (kh K 4) x = true ∧ isN 6 y = true then nI (walkQ K x.toNatClampNeg y.toNatClampNeg) else -2
def shortW (f : MT) : Int32 := if f.1 = 0 then -1 else nI f.2.2.1
def bestW (f : MT) (k : Nat) : Int32 := if f.1 = 0 then -1 else if k = 0 then nI f.2.1 else if k = 1 then nI f.2.2.1 else if k = 2 then nI (bD f) else nI (bP f).length
def goesW (f : MT) (i : Int32) : Int32 := if 0 < f.1 ∧ isN (bP f).length i = true then nI ((bP f).getD i.toNatClampNeg 0) else -1
def shortestA (K : KD) (x y z : Int32) : Int32 := if isT K x y z = true then shortW (fin K 0 x.toNatClampNeg y.toNatClampNeg z.toNatClampNeg 1 0) else -2
def hiddenA (K : KD) (x y z : Int32) : Int32 := if isT K x y z = true then shortW (fin K 1 x.toNatClampNeg y.toNatClampNeg z.toNatClampNeg 1 0) else -2
def waysA (K : KD) (x y z : Int32) : Int32 := if isT K x y z = true then nI (fin K 0 x.toNatClampNeg y.toNatClampNeg z.toNatClampNeg 1 0).1 else -2
def bestA (K : KD) (x y z l k : Int32) : Int32 := if isT K x y z = true ∧ isR 1 9 l = true ∧ isN 4 k = true then bestW (fin K 2 x.toNatClampNeg y.toNatClampNeg z.toNatClampNeg l.toNatClampNeg 0) k.toNatClampNeg else -2
def goesA (K : KD) (x y z l i : Int32) : Int32 := if isT K x y z = true ∧ isR 1 9 l = true then goesW (fin K 2 x.toNatClampNeg y.toNatClampNeg z.toNatClampNeg l.toNatClampNeg 0) i else -2
section RQ2
variable {d : Nat} {M : AM} {σ σ' : MS} {K : KD} {Q : Option Value → AM → Prop}

theorem m_road (hM : MK σ K) (x y : Int32) : Wp (d + 2) md_186 0 [some (.ref 287), some (.int x), some (.int y)] [] (mset M σ) (RI M σ (roadA K x y)) := by
  have ok := hM.2.1
  have hσ0 := hM.2.2.2
  obtain ⟨b0, b1, b2, b3, b4, b5, b6, b7, b8, b9, b10, b11, b12⟩ := ok_h ok
  unfold roadA
  refine Wp.n (pc' := 2) 2 rfl ?_
  refine Wp.mput0 (len := 3) rfl hσ0 ?_
  refine Wp.n (pc' := 7) 2 rfl ?_
  refine Wp.ecallV (len := 3) rfl rfl rfl (rfl) rfl (by decide) rfl (m_isPlaceK hM.1 ok _) ?_
  refine Wp.ifb0 (tgt := 30) (len := 3) rfl (fun h10 => ?_) (fun h10 => ?_)
  · skip
    refine Wp.n (pc' := 32) 1 rfl ?_
    refine Wp.retI (len := 1) rfl rfl ?_
    first
      | exact RI_s (Scr_13 Scr_r) rfl
      | (rw [if_neg (by rw [h10, Bool.false_and]; decide)]; exact RI_r rfl)
      | (rw [if_neg (by rw [h18, Bool.and_false]; decide)]; exact RI_r rfl)
  · skip
    refine Wp.n (pc' := 15) 2 rfl ?_
    refine Wp.ecallV (len := 3) rfl rfl rfl (rfl) rfl (by decide) rfl (m_isPlaceK hM.1 ok _) ?_
    refine Wp.ifb0 (tgt := 30) (len := 3) rfl (fun h18 => ?_) (fun h18 => ?_)
    · skip
      refine Wp.n (pc' := 32) 1 rfl ?_
      refine Wp.retI (len := 1) rfl rfl ?_
      first
        | exact RI_s (Scr_13 Scr_r) rfl
        | (rw [if_neg (by rw [h10, Bool.false_and]; decide)]; exact RI_r rfl)
        | (rw [if_neg (by rw [h18, Bool.and_false]; decide)]; exact RI_r rfl)
    · skip
      obtain ⟨a, ha, rfl⟩ := isN_of h10
      obtain ⟨t, ht, rfl⟩ := isN_of h18
      rw [if_pos (by rw [h10, h18]; rfl), nI_clamp (by omega), nI_clamp (by omega)]
      refine Wp.n (pc' := 24) 3 rfl ?_
      refine Wp.callV (len := 3) rfl rfl rfl (rfl) rfl (by decide) rfl (m_byRoad hM.1 ok ha (by omega)) ?_
      rintro _ _ ⟨rfl, h, rfl, hh⟩
      refine Wp.n (pc' := 32) 1 rfl ?_
      refine Wp.retI (len := 1) rfl rfl ?_
      first
        | exact RI_s (Scr_13 Scr_r) rfl
        | (rw [if_neg (by rw [h10, Bool.false_and]; decide)]; exact RI_r rfl)
        | (rw [if_neg (by rw [h18, Bool.and_false]; decide)]; exact RI_r rfl)

theorem m_wayQ (hM : MK σ K) (x y i : Int32) : Wp (d + 3) md_190 0 [some (.ref 287), some (.int x), some (.int y), some (.int i), none, none, none, none] [] (mset M σ) (RI M σ (wayQ K x y i)) := by
  refine Wp.mono (m_way hM.1 hM.2.1 hM.2.2.2 x y i) ?_
  rintro _ _ ⟨rfl, h, rfl⟩
  exact RI_s (Scr_13 Scr_r) rfl
theorem m_open (hM : MK σ K) (x y : Int32) : Wp (d + 2) md_192 0 [some (.ref 287), some (.int x), some (.int y)] [] (mset M σ) (RI M σ (openA K x y)) := by
  have ok := hM.2.1
  have hσ0 := hM.2.2.2
  obtain ⟨b0, b1, b2, b3, b4, b5, b6, b7, b8, b9, b10, b11, b12⟩ := ok_h ok
  unfold openA
  refine Wp.n (pc' := 2) 2 rfl ?_
  refine Wp.mput0 (len := 3) rfl hσ0 ?_
  refine Wp.n (pc' := 13) 6 rfl ?_
  refine Wp.mialdN (j := 3) (len := 1) rfl rfl rfl (by omega) ?_
  refine Wp.n (pc' := 17) 3 rfl ?_
  refine Wp.ecallS (len := 3) rfl rfl rfl rfl (m_in _ _ _) ?_
  refine Wp.ifb0 (tgt := 48) (len := 3) rfl (fun h20 => ?_) (fun h20 => ?_)
  · rw [show (0 : Int64).toInt = 0 from rfl, il_toInt, il_toInt, isN_le (n := kh K 3) (by omega) (r0_has hM.1 (by decide))] at h20
    refine Wp.n (pc' := 50) 1 rfl ?_
    refine Wp.retI (len := 1) rfl rfl ?_
    first
      | exact RI_s Scr_r (by rw [h37]; rfl)
      | (rw [if_neg (fun q => by rw [h20] at q; exact absurd q.1 (by decide))]; exact RI_r rfl)
      | (rw [if_neg (fun q => by rw [h28] at q; exact absurd q.2 (by decide))]; exact RI_r rfl)
  · rw [show (0 : Int64).toInt = 0 from rfl, il_toInt, il_toInt, isN_le (n := kh K 3) (by omega) (r0_has hM.1 (by decide))] at h20
    refine Wp.n (pc' := 25) 2 rfl ?_
    refine Wp.ecallV (len := 3) rfl rfl rfl (rfl) rfl (by decide) rfl (m_isDayK hM.1 ok _) ?_
    refine Wp.ifb0 (tgt := 48) (len := 3) rfl (fun h28 => ?_) (fun h28 => ?_)
    · skip
      refine Wp.n (pc' := 50) 1 rfl ?_
      refine Wp.retI (len := 1) rfl rfl ?_
      first
        | exact RI_s Scr_r (by rw [h37]; rfl)
        | (rw [if_neg (fun q => by rw [h20] at q; exact absurd q.1 (by decide))]; exact RI_r rfl)
        | (rw [if_neg (fun q => by rw [h28] at q; exact absurd q.2 (by decide))]; exact RI_r rfl)
    · skip
      obtain ⟨l, hl, rfl⟩ := isN_of h20
      obtain ⟨v, hv, rfl⟩ := isN_of h28
      rw [if_pos ⟨h20, h28⟩, nI_clamp (by omega), nI_clamp (by omega)]
      refine Wp.n (pc' := 34) 3 rfl ?_
      refine Wp.ecallV (len := 3) rfl rfl rfl (rfl) rfl (by decide) rfl (m_isOpen hM.1 ok (l := l) (y := v) (Or.inl hl) (by omega)) ?_
      refine Wp.ifb0 (tgt := 44) (len := 3) rfl (fun h37 => ?_) (fun h37 => ?_)
      · skip
        refine Wp.n (pc' := 50) 2 rfl ?_
        refine Wp.retI (len := 1) rfl rfl ?_
        first
          | exact RI_s Scr_r (by rw [h37]; rfl)
          | (rw [if_neg (fun q => by rw [h20] at q; exact absurd q.1 (by decide))]; exact RI_r rfl)
          | (rw [if_neg (fun q => by rw [h28] at q; exact absurd q.2 (by decide))]; exact RI_r rfl)
      · skip
        refine Wp.n (pc' := 50) 2 rfl ?_
        refine Wp.retI (len := 1) rfl rfl ?_
        first
          | exact RI_s Scr_r (by rw [h37]; rfl)
          | (rw [if_neg (fun q => by rw [h20] at q; exact absurd q.1 (by decide))]; exact RI_r rfl)
          | (rw [if_neg (fun q => by rw [h28] at q; exact absurd q.2 (by decide))]; exact RI_r rfl)

theorem m_joins (hM : MK σ K) (x y z : Int32) : Wp (d + 3) md_195 0 [some (.ref 287), some (.int x), some (.int y), some (.int z)] [] (mset M σ) (RI M σ (joinsA K x y z)) := by
  have ok := hM.2.1
  have hσ0 := hM.2.2.2
  obtain ⟨b0, b1, b2, b3, b4, b5, b6, b7, b8, b9, b10, b11, b12⟩ := ok_h ok
  unfold joinsA
  refine Wp.n (pc' := 2) 2 rfl ?_
  refine Wp.mput0 (len := 3) rfl hσ0 ?_
  refine Wp.n (pc' := 8) 3 rfl ?_
  refine Wp.ecallV (len := 3) rfl rfl rfl (rfl) rfl (by decide) rfl (m_areTwo hM.1 ok _ _) ?_
  refine Wp.ifb0 (tgt := 32) (len := 3) rfl (fun h11 => ?_) (fun h11 => ?_)
  · skip
    refine Wp.n (pc' := 34) 1 rfl ?_
    refine Wp.retI (len := 1) rfl rfl ?_
    first
      | exact RI_s Scr_r rfl
      | (rw [if_neg (by unfold isT; rw [h11, Bool.false_and]; decide)]; exact RI_r rfl)
      | (rw [if_neg (by unfold isT; rw [h19, Bool.and_false]; decide)]; exact RI_r rfl)
  · skip
    refine Wp.n (pc' := 16) 2 rfl ?_
    refine Wp.ecallV (len := 3) rfl rfl rfl (rfl) rfl (by decide) rfl (m_isDayK hM.1 ok _) ?_
    refine Wp.ifb0 (tgt := 32) (len := 3) rfl (fun h19 => ?_) (fun h19 => ?_)
    · skip
      refine Wp.n (pc' := 34) 1 rfl ?_
      refine Wp.retI (len := 1) rfl rfl ?_
      first
        | exact RI_s Scr_r rfl
        | (rw [if_neg (by unfold isT; rw [h11, Bool.false_and]; decide)]; exact RI_r rfl)
        | (rw [if_neg (by unfold isT; rw [h19, Bool.and_false]; decide)]; exact RI_r rfl)
    · skip
      have hT : isT K x y z = true := by unfold isT; rw [h11, h19]; rfl
      obtain ⟨a, t, v, ha, ht, hv, hat, rfl, rfl, rfl⟩ := isT_of hT
      rw [if_pos hT, nI_clamp (by omega), nI_clamp (by omega), nI_clamp (by omega)]
      refine Wp.n (pc' := 26) 4 rfl ?_
      refine Wp.ecallV (len := 3) rfl rfl rfl (rfl) rfl (by decide) rfl (m_joined hM.1 hM.2.2.1 ok (a := a) (b := t) (y := v) (by omega) (by omega) (by omega)) ?_
      refine Wp.n (pc' := 34) 1 rfl ?_
      refine Wp.retI (len := 1) rfl rfl ?_
      first
        | exact RI_s Scr_r rfl
        | (rw [if_neg (by unfold isT; rw [h11, Bool.false_and]; decide)]; exact RI_r rfl)
        | (rw [if_neg (by unfold isT; rw [h19, Bool.and_false]; decide)]; exact RI_r rfl)

theorem m_walk (hM : MK σ K) (x y : Int32) : Wp (d + 3) md_198 0 [some (.ref 287), some (.int x), some (.int y)] [] (mset M σ) (RI M σ (walkA K x y)) := by
  have ok := hM.2.1
  have hσ0 := hM.2.2.2
  obtain ⟨b0, b1, b2, b3, b4, b5, b6, b7, b8, b9, b10, b11, b12⟩ := ok_h ok
  unfold walkA
  refine Wp.n (pc' := 2) 2 rfl ?_
  refine Wp.mput0 (len := 3) rfl hσ0 ?_
  refine Wp.n (pc' := 7) 2 rfl ?_
  refine Wp.ecallV (len := 3) rfl rfl rfl (rfl) rfl (by decide) rfl (m_isWalkK hM.1 ok _) ?_
  refine Wp.ifb0 (tgt := 25) (len := 3) rfl (fun h10 => ?_) (fun h10 => ?_)
  · skip
    refine Wp.n (pc' := 27) 1 rfl ?_
    refine Wp.retI (len := 1) rfl rfl ?_
    first
      | exact RI_s Scr_r (by rw [if_pos h30])
      | exact RI_s Scr_r (by rw [if_neg (by omega), if_pos h44])
      | exact RI_s Scr_r (by rw [if_neg (by omega), if_neg (by omega), if_pos h57])
      | exact RI_s Scr_r (by rw [if_neg (by omega), if_neg (by omega), if_neg (by omega)])
      | (rw [if_neg (fun q => by rw [h10] at q; exact absurd q.1 (by decide))]; exact RI_r rfl)
      | (rw [if_neg (fun q => by rw [h22] at q; exact absurd q.2 (by decide))]; exact RI_r rfl)
  · skip
    refine Wp.n (pc' := 19) 4 rfl ?_
    refine Wp.ecallS (len := 3) rfl rfl rfl rfl (m_in _ _ _) ?_
    refine Wp.ifb1 (tgt := 28) (len := 3) rfl (fun h22 => ?_) (fun h22 => ?_)
    · rw [in_isN (k := 6) (by decide)] at h22
      obtain ⟨w, hw, rfl⟩ := isN_of h10
      obtain ⟨k, hk, rfl⟩ := isN_of h22
      have tw := ok_walk ok hw
      rw [if_pos ⟨h10, h22⟩, nI_clamp (by omega), nI_clamp (by omega)]
      unfold walkQ
      refine Wp.n (pc' := 30) 2 rfl ?_
      refine Wp.nc3 (x := k) (y := 3) (tgt := 42) (len := 3) rfl (by omega) (by omega) (fun h30 => ?_) (fun h30 => ?_)
      · skip
        refine Wp.n (pc' := 44) 2 rfl ?_
        refine Wp.nc1 (x := k) (y := 3) (tgt := 55) (len := 3) rfl (by omega) (by omega) (fun h44 => ?_) (fun h44 => ?_)
        · skip
          refine Wp.n (pc' := 57) 2 rfl ?_
          refine Wp.nc1 (x := k) (y := 4) (tgt := 68) (len := 3) rfl (by omega) (by omega) (fun h57 => ?_) (fun h57 => ?_)
          · skip
            refine Wp.n (pc' := 70) 2 rfl ?_
            refine Wp.ecallV (len := 3) rfl rfl rfl (rfl) rfl (by decide) rfl (m_many0 hM.1 ok hw) ?_
            refine Wp.n (pc' := 74) 1 rfl ?_
            refine Wp.isubN (x := kw K w 3) (y := 1) (len := 1) rfl (by omega) ?_
            refine Wp.retI (len := 1) rfl rfl ?_
            first
              | exact RI_s Scr_r (by rw [if_pos h30])
              | exact RI_s Scr_r (by rw [if_neg (by omega), if_pos h44])
              | exact RI_s Scr_r (by rw [if_neg (by omega), if_neg (by omega), if_pos h57])
              | exact RI_s Scr_r (by rw [if_neg (by omega), if_neg (by omega), if_neg (by omega)])
              | (rw [if_neg (fun q => by rw [h10] at q; exact absurd q.1 (by decide))]; exact RI_r rfl)
              | (rw [if_neg (fun q => by rw [h22] at q; exact absurd q.2 (by decide))]; exact RI_r rfl)
          · skip
            refine Wp.n (pc' := 62) 2 rfl ?_
            refine Wp.ecallV (len := 3) rfl rfl rfl (rfl) rfl (by decide) rfl (m_to hM.1 ok hw) ?_
            refine Wp.n (pc' := 75) 1 rfl ?_
            refine Wp.retI (len := 1) rfl rfl ?_
            first
              | exact RI_s Scr_r (by rw [if_pos h30])
              | exact RI_s Scr_r (by rw [if_neg (by omega), if_pos h44])
              | exact RI_s Scr_r (by rw [if_neg (by omega), if_neg (by omega), if_pos h57])
              | exact RI_s Scr_r (by rw [if_neg (by omega), if_neg (by omega), if_neg (by omega)])
              | (rw [if_neg (fun q => by rw [h10] at q; exact absurd q.1 (by decide))]; exact RI_r rfl)
              | (rw [if_neg (fun q => by rw [h22] at q; exact absurd q.2 (by decide))]; exact RI_r rfl)
        · skip
          refine Wp.n (pc' := 49) 2 rfl ?_
          refine Wp.ecallV (len := 3) rfl rfl rfl (rfl) rfl (by decide) rfl (m_from hM.1 ok hw) ?_
          refine Wp.n (pc' := 75) 1 rfl ?_
          refine Wp.retI (len := 1) rfl rfl ?_
          first
            | exact RI_s Scr_r (by rw [if_pos h30])
            | exact RI_s Scr_r (by rw [if_neg (by omega), if_pos h44])
            | exact RI_s Scr_r (by rw [if_neg (by omega), if_neg (by omega), if_pos h57])
            | exact RI_s Scr_r (by rw [if_neg (by omega), if_neg (by omega), if_neg (by omega)])
            | (rw [if_neg (fun q => by rw [h10] at q; exact absurd q.1 (by decide))]; exact RI_r rfl)
            | (rw [if_neg (fun q => by rw [h22] at q; exact absurd q.2 (by decide))]; exact RI_r rfl)
      · skip
        refine Wp.n (pc' := 36) 3 rfl ?_
        refine Wp.ecallV (len := 3) rfl rfl rfl (rfl) rfl (by decide) rfl (m_of σ w k (by omega)) ?_
        refine Wp.top (r0_walk hM.1 hw (by omega) rfl) ?_
        refine Wp.n (pc' := 75) 1 rfl ?_
        refine Wp.retI (len := 1) rfl rfl ?_
        first
          | exact RI_s Scr_r (by rw [if_pos h30])
          | exact RI_s Scr_r (by rw [if_neg (by omega), if_pos h44])
          | exact RI_s Scr_r (by rw [if_neg (by omega), if_neg (by omega), if_pos h57])
          | exact RI_s Scr_r (by rw [if_neg (by omega), if_neg (by omega), if_neg (by omega)])
          | (rw [if_neg (fun q => by rw [h10] at q; exact absurd q.1 (by decide))]; exact RI_r rfl)
          | (rw [if_neg (fun q => by rw [h22] at q; exact absurd q.2 (by decide))]; exact RI_r rfl)
    · rw [in_isN (k := 6) (by decide)] at h22
      refine Wp.n (pc' := 27) 1 rfl ?_
      refine Wp.retI (len := 1) rfl rfl ?_
      first
        | exact RI_s Scr_r (by rw [if_pos h30])
        | exact RI_s Scr_r (by rw [if_neg (by omega), if_pos h44])
        | exact RI_s Scr_r (by rw [if_neg (by omega), if_neg (by omega), if_pos h57])
        | exact RI_s Scr_r (by rw [if_neg (by omega), if_neg (by omega), if_neg (by omega)])
        | (rw [if_neg (fun q => by rw [h10] at q; exact absurd q.1 (by decide))]; exact RI_r rfl)
        | (rw [if_neg (fun q => by rw [h22] at q; exact absurd q.2 (by decide))]; exact RI_r rfl)


theorem m_shortest (hM : MK σ K) (x y z : Int32) : Wp (d + 14) md_225 0 [some (.ref 287), some (.int x), some (.int y), some (.int z)] [] (mset M σ) (RI M σ (shortestA K x y z)) := by
  have ok := hM.2.1
  have hσ0 := hM.2.2.2
  obtain ⟨b0, b1, b2, b3, b4, b5, b6, b7, b8, b9, b10, b11, b12⟩ := ok_h ok
  unfold shortestA
  refine Wp.n (pc' := 2) 2 rfl ?_
  refine Wp.mput0 (len := 3) rfl hσ0 ?_
  refine Wp.n (pc' := 9) 4 rfl ?_
  refine Wp.ecallV (len := 3) rfl rfl rfl (rfl) rfl (by decide) rfl (m_isTrip hM.1 ok _ _ _) ?_
  refine Wp.ifb1 (tgt := 18) (len := 3) rfl (fun h12 => ?_) (fun h12 => ?_)
  · skip
    obtain ⟨a, t, v, ha, ht, hv, hat, rfl, rfl, rfl⟩ := isT_of h12
    rw [if_pos h12, nI_clamp (by omega), nI_clamp (by omega), nI_clamp (by omega)]
    obtain ⟨hf1, hf2, hf3⟩ := fin_i ok (aim := 0) (y := v) (load := 1) (dn := 0) ha ht (by omega)
    refine Wp.n (pc' := 24) 6 rfl ?_
    refine Wp.callV (len := 3) rfl rfl rfl (rfl) rfl (by decide) rfl (m_seeks (aim := 0) (load := 1) (dn := 0) (by omega) ht (by omega) (by omega) (by omega) ha hM (fun q => by omega)) ?_
    rintro _ _ ⟨rfl, τ, rfl, hS, hR⟩
    refine Wp.n (pc' := 31) 2 rfl ?_
    refine Wp.top hR.1 ?_
    refine Wp.nz1 (x := (fin K 0 a t v 1 0).1) (tgt := 38) (len := 3) rfl (by omega) (fun h31 => ?_) (fun h31 => ?_)
    · skip
      refine Wp.n (pc' := 42) 2 rfl ?_
      refine Wp.top hR.2.2.1 ?_
      refine Wp.retI (len := 1) rfl rfl ?_
      first
        | exact RI_s hS rfl
        | exact RI_s hS (by unfold shortW; rw [if_pos h31])
        | exact RI_s hS (by unfold shortW; rw [if_neg h31])
        | (rw [if_neg (by rw [h12]; decide)]; exact RI_r rfl)
    · skip
      refine Wp.n (pc' := 42) 2 rfl ?_
      refine Wp.retI (len := 1) rfl rfl ?_
      first
        | exact RI_s hS rfl
        | exact RI_s hS (by unfold shortW; rw [if_pos h31])
        | exact RI_s hS (by unfold shortW; rw [if_neg h31])
        | (rw [if_neg (by rw [h12]; decide)]; exact RI_r rfl)
  · skip
    refine Wp.n (pc' := 17) 1 rfl ?_
    refine Wp.retI (len := 1) rfl rfl ?_
    first
      | exact RI_s hS rfl
      | exact RI_s hS (by unfold shortW; rw [if_pos h31])
      | exact RI_s hS (by unfold shortW; rw [if_neg h31])
      | (rw [if_neg (by rw [h12]; decide)]; exact RI_r rfl)


theorem m_hidden (hM : MK σ K) (x y z : Int32) : Wp (d + 14) md_230 0 [some (.ref 287), some (.int x), some (.int y), some (.int z)] [] (mset M σ) (RI M σ (hiddenA K x y z)) := by
  have ok := hM.2.1
  have hσ0 := hM.2.2.2
  obtain ⟨b0, b1, b2, b3, b4, b5, b6, b7, b8, b9, b10, b11, b12⟩ := ok_h ok
  unfold hiddenA
  refine Wp.n (pc' := 2) 2 rfl ?_
  refine Wp.mput0 (len := 3) rfl hσ0 ?_
  refine Wp.n (pc' := 9) 4 rfl ?_
  refine Wp.ecallV (len := 3) rfl rfl rfl (rfl) rfl (by decide) rfl (m_isTrip hM.1 ok _ _ _) ?_
  refine Wp.ifb1 (tgt := 18) (len := 3) rfl (fun h12 => ?_) (fun h12 => ?_)
  · skip
    obtain ⟨a, t, v, ha, ht, hv, hat, rfl, rfl, rfl⟩ := isT_of h12
    rw [if_pos h12, nI_clamp (by omega), nI_clamp (by omega), nI_clamp (by omega)]
    obtain ⟨hf1, hf2, hf3⟩ := fin_i ok (aim := 1) (y := v) (load := 1) (dn := 0) ha ht (by omega)
    refine Wp.n (pc' := 24) 6 rfl ?_
    refine Wp.callV (len := 3) rfl rfl rfl (rfl) rfl (by decide) rfl (m_seeks (aim := 1) (load := 1) (dn := 0) (by omega) ht (by omega) (by omega) (by omega) ha hM (fun q => by omega)) ?_
    rintro _ _ ⟨rfl, τ, rfl, hS, hR⟩
    refine Wp.n (pc' := 31) 2 rfl ?_
    refine Wp.top hR.1 ?_
    refine Wp.nz1 (x := (fin K 1 a t v 1 0).1) (tgt := 38) (len := 3) rfl (by omega) (fun h31 => ?_) (fun h31 => ?_)
    · skip
      refine Wp.n (pc' := 42) 2 rfl ?_
      refine Wp.top hR.2.2.1 ?_
      refine Wp.retI (len := 1) rfl rfl ?_
      first
        | exact RI_s hS rfl
        | exact RI_s hS (by unfold shortW; rw [if_pos h31])
        | exact RI_s hS (by unfold shortW; rw [if_neg h31])
        | (rw [if_neg (by rw [h12]; decide)]; exact RI_r rfl)
    · skip
      refine Wp.n (pc' := 42) 2 rfl ?_
      refine Wp.retI (len := 1) rfl rfl ?_
      first
        | exact RI_s hS rfl
        | exact RI_s hS (by unfold shortW; rw [if_pos h31])
        | exact RI_s hS (by unfold shortW; rw [if_neg h31])
        | (rw [if_neg (by rw [h12]; decide)]; exact RI_r rfl)
  · skip
    refine Wp.n (pc' := 17) 1 rfl ?_
    refine Wp.retI (len := 1) rfl rfl ?_
    first
      | exact RI_s hS rfl
      | exact RI_s hS (by unfold shortW; rw [if_pos h31])
      | exact RI_s hS (by unfold shortW; rw [if_neg h31])
      | (rw [if_neg (by rw [h12]; decide)]; exact RI_r rfl)


theorem m_ways (hM : MK σ K) (x y z : Int32) : Wp (d + 14) md_234 0 [some (.ref 287), some (.int x), some (.int y), some (.int z)] [] (mset M σ) (RI M σ (waysA K x y z)) := by
  have ok := hM.2.1
  have hσ0 := hM.2.2.2
  obtain ⟨b0, b1, b2, b3, b4, b5, b6, b7, b8, b9, b10, b11, b12⟩ := ok_h ok
  unfold waysA
  refine Wp.n (pc' := 2) 2 rfl ?_
  refine Wp.mput0 (len := 3) rfl hσ0 ?_
  refine Wp.n (pc' := 9) 4 rfl ?_
  refine Wp.ecallV (len := 3) rfl rfl rfl (rfl) rfl (by decide) rfl (m_isTrip hM.1 ok _ _ _) ?_
  refine Wp.ifb1 (tgt := 18) (len := 3) rfl (fun h12 => ?_) (fun h12 => ?_)
  · skip
    obtain ⟨a, t, v, ha, ht, hv, hat, rfl, rfl, rfl⟩ := isT_of h12
    rw [if_pos h12, nI_clamp (by omega), nI_clamp (by omega), nI_clamp (by omega)]
    obtain ⟨hf1, hf2, hf3⟩ := fin_i ok (aim := 0) (y := v) (load := 1) (dn := 0) ha ht (by omega)
    refine Wp.n (pc' := 24) 6 rfl ?_
    refine Wp.callV (len := 3) rfl rfl rfl (rfl) rfl (by decide) rfl (m_seeks (aim := 0) (load := 1) (dn := 0) (by omega) ht (by omega) (by omega) (by omega) ha hM (fun q => by omega)) ?_
    rintro _ _ ⟨rfl, τ, rfl, hS, hR⟩
    refine Wp.n (pc' := 31) 2 rfl ?_
    refine Wp.top hR.1 ?_
    refine Wp.retI (len := 1) rfl rfl ?_
    first
      | exact RI_s hS rfl
      | exact RI_s hS (by unfold shortW; rw [if_pos h31])
      | exact RI_s hS (by unfold shortW; rw [if_neg h31])
      | (rw [if_neg (by rw [h12]; decide)]; exact RI_r rfl)
  · skip
    refine Wp.n (pc' := 17) 1 rfl ?_
    refine Wp.retI (len := 1) rfl rfl ?_
    first
      | exact RI_s hS rfl
      | exact RI_s hS (by unfold shortW; rw [if_pos h31])
      | exact RI_s hS (by unfold shortW; rw [if_neg h31])
      | (rw [if_neg (by rw [h12]; decide)]; exact RI_r rfl)


theorem m_best (hM : MK σ K) (x y z l k : Int32) : Wp (d + 14) md_231 0 [some (.ref 287), some (.int x), some (.int y), some (.int z), some (.int l), some (.int k)] [] (mset M σ) (RI M σ (bestA K x y z l k)) := by
  have ok := hM.2.1
  have hσ0 := hM.2.2.2
  obtain ⟨b0, b1, b2, b3, b4, b5, b6, b7, b8, b9, b10, b11, b12⟩ := ok_h ok
  unfold bestA
  refine Wp.n (pc' := 2) 2 rfl ?_
  refine Wp.mput0 (len := 3) rfl hσ0 ?_
  refine Wp.n (pc' := 9) 4 rfl ?_
  refine Wp.ecallV (len := 3) rfl rfl rfl (rfl) rfl (by decide) rfl (m_isTrip hM.1 ok _ _ _) ?_
  refine Wp.ifb0 (tgt := 36) (len := 3) rfl (fun h12 => ?_) (fun h12 => ?_)
  · skip
    refine Wp.n (pc' := 38) 1 rfl ?_
    refine Wp.retI (len := 1) rfl rfl ?_
    first
      | exact RI_s hS (by rw [if_pos h53])
      | exact RI_s hS (by rw [if_pos h60])
      | exact RI_s hS (by rw [if_neg h60, if_pos h73])
      | exact RI_s hS (by rw [if_neg h60, if_neg h73, if_pos h86])
      | exact RI_s hS (by rw [if_neg h60, if_neg h73, if_neg h86])
      | (rw [if_neg (fun q => by rw [h12] at q; exact absurd q.1 (by decide))]; exact RI_r rfl)
      | (rw [if_neg (fun q => by rw [show isR 1 9 l = false from h20] at q; exact absurd q.2.1 (by decide))]; exact RI_r rfl)
      | (rw [if_neg (fun q => by rw [h33] at q; exact absurd q.2.2 (by decide))]; exact RI_r rfl)
  · skip
    refine Wp.n (pc' := 17) 1 rfl ?_
    refine Wp.ecallS (len := 3) rfl rfl rfl rfl (m_isLoad _) ?_
    refine Wp.ifb0 (tgt := 36) (len := 3) rfl (fun h20 => ?_) (fun h20 => ?_)
    · skip
      refine Wp.n (pc' := 38) 1 rfl ?_
      refine Wp.retI (len := 1) rfl rfl ?_
      first
        | exact RI_s hS (by rw [if_pos h53])
        | exact RI_s hS (by rw [if_pos h60])
        | exact RI_s hS (by rw [if_neg h60, if_pos h73])
        | exact RI_s hS (by rw [if_neg h60, if_neg h73, if_pos h86])
        | exact RI_s hS (by rw [if_neg h60, if_neg h73, if_neg h86])
        | (rw [if_neg (fun q => by rw [h12] at q; exact absurd q.1 (by decide))]; exact RI_r rfl)
        | (rw [if_neg (fun q => by rw [show isR 1 9 l = false from h20] at q; exact absurd q.2.1 (by decide))]; exact RI_r rfl)
        | (rw [if_neg (fun q => by rw [h33] at q; exact absurd q.2.2 (by decide))]; exact RI_r rfl)
    · skip
      refine Wp.n (pc' := 30) 4 rfl ?_
      refine Wp.ecallS (len := 3) rfl rfl rfl rfl (m_in _ _ _) ?_
      refine Wp.ifb1 (tgt := 39) (len := 3) rfl (fun h33 => ?_) (fun h33 => ?_)
      · rw [in_isN (k := 4) (by decide)] at h33
        obtain ⟨a, t, v, ha, ht, hv, hat, rfl, rfl, rfl⟩ := isT_of h12
        obtain ⟨l, hl1, hl9, hl, rfl⟩ := isR_of (lo := 1) (hi := 9) h20
        obtain ⟨hf1, hf2, hf3⟩ := fin_i ok (aim := 2) (y := v) (load := l) (dn := 0) ha ht (by omega)
        obtain ⟨k, hk, rfl⟩ := isN_of h33
        rw [if_pos ⟨h12, h20, h33⟩, nI_clamp (by omega), nI_clamp (by omega), nI_clamp (by omega), nI_clamp hl, nI_clamp (by omega)]
        unfold bestW
        refine Wp.n (pc' := 46) 6 rfl ?_
        refine Wp.callV (len := 3) rfl rfl rfl (rfl) rfl (by decide) rfl (m_seeks (aim := 2) (dn := 0) (by omega) ht (by omega) (by omega) (by omega) ha hM (fun q => by omega)) ?_
        rintro _ _ ⟨rfl, τ, rfl, hS, hR⟩
        refine Wp.n (pc' := 53) 2 rfl ?_
        refine Wp.top hR.1 ?_
        refine Wp.nz1 (x := (fin K 2 a t v l 0).1) (tgt := 58) (len := 3) rfl (by omega) (fun h53 => ?_) (fun h53 => ?_)
        · skip
          obtain ⟨hc1, hc2, dq, pq, he, hdq, hp1, hp7, hpb⟩ := hf3 (by decide) (by omega)
          obtain ⟨q1, q2, q3⟩ := hR.2.2.2.2 dq pq he
          have eD : bD (fin K 2 a t v l 0) = dq := by unfold bD; rw [he]
          have eP : bP (fin K 2 a t v l 0) = pq := by unfold bP; rw [he]
          rw [if_neg h53, eD, eP]
          refine Wp.n (pc' := 60) 1 rfl ?_
          refine Wp.nz1 (x := k) (tgt := 70) (len := 3) rfl (by omega) (fun h60 => ?_) (fun h60 => ?_)
          · skip
            refine Wp.n (pc' := 73) 2 rfl ?_
            refine Wp.nc1 (x := k) (y := 1) (tgt := 83) (len := 3) rfl (by omega) (by omega) (fun h73 => ?_) (fun h73 => ?_)
            · skip
              refine Wp.n (pc' := 86) 2 rfl ?_
              refine Wp.nc1 (x := k) (y := 2) (tgt := 96) (len := 3) rfl (by omega) (by omega) (fun h86 => ?_) (fun h86 => ?_)
              · skip
                refine Wp.n (pc' := 100) 2 rfl ?_
                refine Wp.top q2 ?_
                refine Wp.retI (len := 1) rfl rfl ?_
                first
                  | exact RI_s hS (by rw [if_pos h53])
                  | exact RI_s hS (by rw [if_pos h60])
                  | exact RI_s hS (by rw [if_neg h60, if_pos h73])
                  | exact RI_s hS (by rw [if_neg h60, if_neg h73, if_pos h86])
                  | exact RI_s hS (by rw [if_neg h60, if_neg h73, if_neg h86])
                  | (rw [if_neg (fun q => by rw [h12] at q; exact absurd q.1 (by decide))]; exact RI_r rfl)
                  | (rw [if_neg (fun q => by rw [show isR 1 9 l = false from h20] at q; exact absurd q.2.1 (by decide))]; exact RI_r rfl)
                  | (rw [if_neg (fun q => by rw [h33] at q; exact absurd q.2.2 (by decide))]; exact RI_r rfl)
              · skip
                refine Wp.n (pc' := 93) 2 rfl ?_
                refine Wp.top q1 ?_
                refine Wp.n (pc' := 100) 1 rfl ?_
                refine Wp.retI (len := 1) rfl rfl ?_
                first
                  | exact RI_s hS (by rw [if_pos h53])
                  | exact RI_s hS (by rw [if_pos h60])
                  | exact RI_s hS (by rw [if_neg h60, if_pos h73])
                  | exact RI_s hS (by rw [if_neg h60, if_neg h73, if_pos h86])
                  | exact RI_s hS (by rw [if_neg h60, if_neg h73, if_neg h86])
                  | (rw [if_neg (fun q => by rw [h12] at q; exact absurd q.1 (by decide))]; exact RI_r rfl)
                  | (rw [if_neg (fun q => by rw [show isR 1 9 l = false from h20] at q; exact absurd q.2.1 (by decide))]; exact RI_r rfl)
                  | (rw [if_neg (fun q => by rw [h33] at q; exact absurd q.2.2 (by decide))]; exact RI_r rfl)
            · skip
              refine Wp.n (pc' := 80) 2 rfl ?_
              refine Wp.top hR.2.2.1 ?_
              refine Wp.n (pc' := 100) 1 rfl ?_
              refine Wp.retI (len := 1) rfl rfl ?_
              first
                | exact RI_s hS (by rw [if_pos h53])
                | exact RI_s hS (by rw [if_pos h60])
                | exact RI_s hS (by rw [if_neg h60, if_pos h73])
                | exact RI_s hS (by rw [if_neg h60, if_neg h73, if_pos h86])
                | exact RI_s hS (by rw [if_neg h60, if_neg h73, if_neg h86])
                | (rw [if_neg (fun q => by rw [h12] at q; exact absurd q.1 (by decide))]; exact RI_r rfl)
                | (rw [if_neg (fun q => by rw [show isR 1 9 l = false from h20] at q; exact absurd q.2.1 (by decide))]; exact RI_r rfl)
                | (rw [if_neg (fun q => by rw [h33] at q; exact absurd q.2.2 (by decide))]; exact RI_r rfl)
          · skip
            refine Wp.n (pc' := 67) 2 rfl ?_
            refine Wp.top hR.2.1 ?_
            refine Wp.n (pc' := 100) 1 rfl ?_
            refine Wp.retI (len := 1) rfl rfl ?_
            first
              | exact RI_s hS (by rw [if_pos h53])
              | exact RI_s hS (by rw [if_pos h60])
              | exact RI_s hS (by rw [if_neg h60, if_pos h73])
              | exact RI_s hS (by rw [if_neg h60, if_neg h73, if_pos h86])
              | exact RI_s hS (by rw [if_neg h60, if_neg h73, if_neg h86])
              | (rw [if_neg (fun q => by rw [h12] at q; exact absurd q.1 (by decide))]; exact RI_r rfl)
              | (rw [if_neg (fun q => by rw [show isR 1 9 l = false from h20] at q; exact absurd q.2.1 (by decide))]; exact RI_r rfl)
              | (rw [if_neg (fun q => by rw [h33] at q; exact absurd q.2.2 (by decide))]; exact RI_r rfl)
        · skip
          refine Wp.n (pc' := 57) 1 rfl ?_
          refine Wp.retI (len := 1) rfl rfl ?_
          first
            | exact RI_s hS (by rw [if_pos h53])
            | exact RI_s hS (by rw [if_pos h60])
            | exact RI_s hS (by rw [if_neg h60, if_pos h73])
            | exact RI_s hS (by rw [if_neg h60, if_neg h73, if_pos h86])
            | exact RI_s hS (by rw [if_neg h60, if_neg h73, if_neg h86])
            | (rw [if_neg (fun q => by rw [h12] at q; exact absurd q.1 (by decide))]; exact RI_r rfl)
            | (rw [if_neg (fun q => by rw [show isR 1 9 l = false from h20] at q; exact absurd q.2.1 (by decide))]; exact RI_r rfl)
            | (rw [if_neg (fun q => by rw [h33] at q; exact absurd q.2.2 (by decide))]; exact RI_r rfl)
      · rw [in_isN (k := 4) (by decide)] at h33
        refine Wp.n (pc' := 38) 1 rfl ?_
        refine Wp.retI (len := 1) rfl rfl ?_
        first
          | exact RI_s hS (by rw [if_pos h53])
          | exact RI_s hS (by rw [if_pos h60])
          | exact RI_s hS (by rw [if_neg h60, if_pos h73])
          | exact RI_s hS (by rw [if_neg h60, if_neg h73, if_pos h86])
          | exact RI_s hS (by rw [if_neg h60, if_neg h73, if_neg h86])
          | (rw [if_neg (fun q => by rw [h12] at q; exact absurd q.1 (by decide))]; exact RI_r rfl)
          | (rw [if_neg (fun q => by rw [show isR 1 9 l = false from h20] at q; exact absurd q.2.1 (by decide))]; exact RI_r rfl)
          | (rw [if_neg (fun q => by rw [h33] at q; exact absurd q.2.2 (by decide))]; exact RI_r rfl)

theorem m_goes (hM : MK σ K) (x y z l i : Int32) : Wp (d + 14) md_233 0 [some (.ref 287), some (.int x), some (.int y), some (.int z), some (.int l), some (.int i)] [] (mset M σ) (RI M σ (goesA K x y z l i)) := by
  have ok := hM.2.1
  have hσ0 := hM.2.2.2
  obtain ⟨b0, b1, b2, b3, b4, b5, b6, b7, b8, b9, b10, b11, b12⟩ := ok_h ok
  unfold goesA
  refine Wp.n (pc' := 2) 2 rfl ?_
  refine Wp.mput0 (len := 3) rfl hσ0 ?_
  refine Wp.n (pc' := 9) 4 rfl ?_
  refine Wp.ecallV (len := 3) rfl rfl rfl (rfl) rfl (by decide) rfl (m_isTrip hM.1 ok _ _ _) ?_
  refine Wp.ifb0 (tgt := 23) (len := 3) rfl (fun h12 => ?_) (fun h12 => ?_)
  · skip
    refine Wp.n (pc' := 25) 1 rfl ?_
    refine Wp.retI (len := 1) rfl rfl ?_
    first
      | exact RI_s hS rfl
      | exact RI_s hS (by rw [if_neg (fun q => by omega)])
      | exact RI_s hS (by rw [if_neg (fun q => by rw [h57] at q; exact absurd q.2 (by decide))])
      | (rw [if_neg (fun q => by rw [h12] at q; exact absurd q.1 (by decide))]; exact RI_r rfl)
      | (rw [if_neg (fun q => by rw [show isR 1 9 l = false from h20] at q; exact absurd q.2 (by decide))]; exact RI_r rfl)
  · skip
    refine Wp.n (pc' := 17) 1 rfl ?_
    refine Wp.ecallS (len := 3) rfl rfl rfl rfl (m_isLoad _) ?_
    refine Wp.ifb1 (tgt := 26) (len := 3) rfl (fun h20 => ?_) (fun h20 => ?_)
    · skip
      obtain ⟨a, t, v, ha, ht, hv, hat, rfl, rfl, rfl⟩ := isT_of h12
      obtain ⟨l, hl1, hl9, hl, rfl⟩ := isR_of (lo := 1) (hi := 9) h20
      obtain ⟨hf1, hf2, hf3⟩ := fin_i ok (aim := 2) (y := v) (load := l) (dn := 0) ha ht (by omega)
      rw [if_pos ⟨h12, h20⟩, nI_clamp (by omega), nI_clamp (by omega), nI_clamp (by omega), nI_clamp hl]
      unfold goesW
      refine Wp.n (pc' := 33) 6 rfl ?_
      refine Wp.callV (len := 3) rfl rfl rfl (rfl) rfl (by decide) rfl (m_seeks (aim := 2) (dn := 0) (by omega) ht (by omega) (by omega) (by omega) ha hM (fun q => by omega)) ?_
      rintro _ _ ⟨rfl, τ, rfl, hS, hR⟩
      refine Wp.n (pc' := 40) 2 rfl ?_
      refine Wp.top hR.1 ?_
      refine Wp.nz5 (x := (fin K 2 a t v l 0).1) (tgt := 70) (len := 3) rfl (by omega) (fun h40 => ?_) (fun h40 => ?_)
      · skip
        refine Wp.n (pc' := 71) 1 rfl ?_
        refine Wp.retI (len := 1) rfl rfl ?_
        first
          | exact RI_s hS rfl
          | exact RI_s hS (by rw [if_neg (fun q => by omega)])
          | exact RI_s hS (by rw [if_neg (fun q => by rw [h57] at q; exact absurd q.2 (by decide))])
          | (rw [if_neg (fun q => by rw [h12] at q; exact absurd q.1 (by decide))]; exact RI_r rfl)
          | (rw [if_neg (fun q => by rw [show isR 1 9 l = false from h20] at q; exact absurd q.2 (by decide))]; exact RI_r rfl)
      · skip
        obtain ⟨hc1, hc2, dq, pq, he, hdq, hp1, hp7, hpb⟩ := hf3 (by decide) (by omega)
        obtain ⟨q1, q2, q3⟩ := hR.2.2.2.2 dq pq he
        have eD : bD (fin K 2 a t v l 0) = dq := by unfold bD; rw [he]
        have eP : bP (fin K 2 a t v l 0) = pq := by unfold bP; rw [he]
        rw [eP]
        refine Wp.n (pc' := 51) 5 rfl ?_
        refine Wp.top q2 ?_
        refine Wp.n (pc' := 52) 1 rfl ?_
        refine Wp.isubN (x := pq.length) (y := 1) (len := 1) rfl (by omega) ?_
        refine Wp.i2lM (x := (pq.length) - 1) (len := 1) rfl (by omega) ?_
        refine Wp.ecallS (len := 3) rfl rfl rfl rfl (m_in _ _ _) ?_
        refine Wp.ifb0 (tgt := 70) (len := 3) rfl (fun h57 => ?_) (fun h57 => ?_)
        · rw [in_isN (k := pq.length) (by rw [l_toInt (by omega)]; omega)] at h57
          refine Wp.n (pc' := 71) 1 rfl ?_
          refine Wp.retI (len := 1) rfl rfl ?_
          first
            | exact RI_s hS rfl
            | exact RI_s hS (by rw [if_neg (fun q => by omega)])
            | exact RI_s hS (by rw [if_neg (fun q => by rw [h57] at q; exact absurd q.2 (by decide))])
            | (rw [if_neg (fun q => by rw [h12] at q; exact absurd q.1 (by decide))]; exact RI_r rfl)
            | (rw [if_neg (fun q => by rw [show isR 1 9 l = false from h20] at q; exact absurd q.2 (by decide))]; exact RI_r rfl)
        · rw [in_isN (k := pq.length) (by rw [l_toInt (by omega)]; omega)] at h57
          obtain ⟨j, hj, rfl⟩ := isN_of h57
          rw [if_pos ⟨h40, h57⟩, nI_clamp (by omega)]
          refine Wp.n (pc' := 66) 3 rfl ?_
          refine Wp.mialdN (j := j) (len := 1) rfl rfl rfl (by omega) ?_
          refine Wp.top (q3 j hj) ?_
          refine Wp.n (pc' := 71) 1 rfl ?_
          refine Wp.retI (len := 1) rfl rfl ?_
          first
            | exact RI_s hS rfl
            | exact RI_s hS (by rw [if_neg (fun q => by omega)])
            | exact RI_s hS (by rw [if_neg (fun q => by rw [h57] at q; exact absurd q.2 (by decide))])
            | (rw [if_neg (fun q => by rw [h12] at q; exact absurd q.1 (by decide))]; exact RI_r rfl)
            | (rw [if_neg (fun q => by rw [show isR 1 9 l = false from h20] at q; exact absurd q.2 (by decide))]; exact RI_r rfl)
    · skip
      refine Wp.n (pc' := 25) 1 rfl ?_
      refine Wp.retI (len := 1) rfl rfl ?_
      first
        | exact RI_s hS rfl
        | exact RI_s hS (by rw [if_neg (fun q => by omega)])
        | exact RI_s hS (by rw [if_neg (fun q => by rw [h57] at q; exact absurd q.2 (by decide))])
        | (rw [if_neg (fun q => by rw [h12] at q; exact absurd q.1 (by decide))]; exact RI_r rfl)
        | (rw [if_neg (fun q => by rw [show isR 1 9 l = false from h20] at q; exact absurd q.2 (by decide))]; exact RI_r rfl)


def finW (K : KD) (w : Nat) : MT := fin K 2 (kw K w 4) (kw K w (3 + kw K w 3)) (kw K w 2) (kw K w 1) 0
def shareK (K : KD) (k w : Nat) : Nat := if (finW K w).1 = 0 then (if k = 3 then 1 else 0) else if k = 0 then bD (finW K w) else if k = 1 then (finW K w).2.1 else if k = 2 then (finW K w).2.2.1 else 0
def allK (K : KD) (k : Nat) : Nat := fld (fun s w => s + shareK K k w) (kh K 4) 0 0
theorem m_allOf_l (hM : MK σ K) {k : Nat} (hk : k < 4) : ∀ (n w s : Nat) (τ : MS), w + n = kh K 4 → Scr σ τ → Wp (d + 14) md_236 4 [some (.ref 287), some (.int (nI k)), some (.int (nI s)), some (.int (nI w))] [] (mset M τ) (RI M σ (nI (fld (fun s w => s + shareK K k w) n w s))) := by
  have ok := hM.2.1
  have hσ0 := hM.2.2.2
  obtain ⟨b0, b1, b2, b3, b4, b5, b6, b7, b8, b9, b10, b11, b12⟩ := ok_h ok
  intro n
  induction n with
  | zero =>
    intro w s τ hw hS
    have hK := MK_scr hM hS
    refine Wp.n (pc' := 10) 4 rfl ?_
    refine Wp.mialdN (j := 4) (len := 1) rfl rfl rfl (by omega) ?_
    refine Wp.top (r0_has hK.1 (by decide)) ?_
    refine Wp.nc3 (x := w) (y := kh K 4) (tgt := 109) (len := 3) rfl (by omega) (by omega) (fun h11 => ?_) (fun h11 => ?_)
    · skip
      refine Wp.n (pc' := 110) 1 rfl ?_
      refine Wp.retI (len := 1) rfl rfl ?_
      exact RI_s hS rfl
    · omega
  | succ n ih =>
    intro w s τ hw hS
    have hK := MK_scr hM hS
    have tw := ok_walk ok (i := w) (by omega)
    have p0 := tw.2.2.2.2.2.2.1 0 (by omega)
    have p1 := tw.2.2.2.2.2.2.1 (kw K w 3 - 1) (by omega)
    rw [show 4 + (kw K w 3 - 1) = 3 + kw K w 3 by omega] at p1
    obtain ⟨hf1, hf2, hf3⟩ := fin_i ok (aim := 2) (y := kw K w 2) (load := kw K w 1) (dn := 0) p0 p1 (by omega)
    replace hf2 : (finW K w).1 ≤ 326 := hf2
    rw [show fld (fun s w => s + shareK K k w) (n + 1) w s = fld (fun s w => s + shareK K k w) n (w + 1) (s + shareK K k w) from rfl]
    refine Wp.n (pc' := 10) 4 rfl ?_
    refine Wp.mialdN (j := 4) (len := 1) rfl rfl rfl (by omega) ?_
    refine Wp.top (r0_has hK.1 (by decide)) ?_
    refine Wp.nc3 (x := w) (y := kh K 4) (tgt := 109) (len := 3) rfl (by omega) (by omega) (fun h11 => ?_) (fun h11 => ?_)
    · omega
    · skip
      refine Wp.n (pc' := 18) 4 rfl ?_
      refine Wp.ecallV (len := 3) rfl rfl rfl (rfl) rfl (by decide) rfl (m_from hK.1 ok (w := w) (by omega)) ?_
      refine Wp.n (pc' := 23) 2 rfl ?_
      refine Wp.ecallV (len := 3) rfl rfl rfl (rfl) rfl (by decide) rfl (m_to hK.1 ok (w := w) (by omega)) ?_
      refine Wp.n (pc' := 29) 3 rfl ?_
      refine Wp.ecallV (len := 3) rfl rfl rfl (rfl) rfl (by decide) rfl (m_of τ w 2 (by omega)) ?_
      refine Wp.top (r0_walk hK.1 (i := w) (by omega) (by decide) rfl) ?_
      refine Wp.n (pc' := 35) 3 rfl ?_
      refine Wp.ecallV (len := 3) rfl rfl rfl (rfl) rfl (by decide) rfl (m_of τ w 1 (by omega)) ?_
      refine Wp.top (r0_walk hK.1 (i := w) (by omega) (by decide) rfl) ?_
      refine Wp.callV (len := 3) rfl rfl rfl (rfl) rfl (by decide) rfl (m_seeks (aim := 2) (dn := 0) (by omega) p1 (by omega) (by omega) (by omega) p0 hK (fun q => by omega)) ?_
      rintro _ _ ⟨rfl, τ2, rfl, hS2, hR⟩
      replace hR : MR τ2 (finW K w) := hR
      refine Wp.n (pc' := 45) 2 rfl ?_
      refine Wp.top hR.1 ?_
      refine Wp.nz1 (x := (finW K w).1) (tgt := 64) (len := 3) rfl (by omega) (fun h45 => ?_) (fun h45 => ?_)
      · skip
        obtain ⟨hc1, hc2, dq, pq, he, hdq, hp1, hp7, hpb⟩ := hf3 (by decide) (Nat.pos_of_ne_zero h45)
        obtain ⟨q1, q2, q3⟩ := hR.2.2.2.2 dq pq he
        have eD : bD (finW K w) = dq := by unfold bD; rw [show (finW K w).2.2.2.2 = some (dq, pq) from he]
        refine Wp.n (pc' := 66) 2 rfl ?_
        refine Wp.nz1 (x := k) (tgt := 76) (len := 3) rfl (by omega) (fun h66 => ?_) (fun h66 => ?_)
        · skip
          refine Wp.n (pc' := 78) 2 rfl ?_
          refine Wp.nc1 (x := k) (y := 1) (tgt := 88) (len := 3) rfl (by omega) (by omega) (fun h78 => ?_) (fun h78 => ?_)
          · skip
            refine Wp.n (pc' := 90) 2 rfl ?_
            refine Wp.nc1 (x := k) (y := 2) (tgt := 100) (len := 3) rfl (by omega) (by omega) (fun h90 => ?_) (fun h90 => ?_)
            · skip
              refine Wp.n (pc' := 101) 1 rfl ?_
              refine Wp.iaddN (x := s) (y := 0) (len := 1) rfl ?_
              refine Wp.n (pc' := 103) 1 rfl ?_
              refine Wp.incN (x := w) (len := 3) rfl rfl ?_
              refine Wp.n (pc' := 4) 1 rfl ?_
              have ih2 := ih (w + 1) (s + shareK K k w) τ2 (by omega) (Scr_t hS hS2)
              unfold shareK at ih2 ⊢
              first
                | (rw [if_pos h45, if_pos h51] at ih2 ⊢; exact ih2)
                | (rw [if_pos h45, if_neg h51] at ih2 ⊢; exact ih2)
                | (rw [if_neg h45, if_pos h66, eD] at ih2 ⊢; exact ih2)
                | (rw [if_neg h45, if_neg h66, if_pos h78] at ih2 ⊢; exact ih2)
                | (rw [if_neg h45, if_neg h66, if_neg h78, if_pos h90] at ih2 ⊢; exact ih2)
                | (rw [if_neg h45, if_neg h66, if_neg h78, if_neg h90] at ih2 ⊢; exact ih2)
            · skip
              refine Wp.n (pc' := 97) 2 rfl ?_
              refine Wp.top hR.2.2.1 ?_
              refine Wp.n (pc' := 101) 1 rfl ?_
              refine Wp.iaddN (x := s) (y := (finW K w).2.2.1) (len := 1) rfl ?_
              refine Wp.n (pc' := 103) 1 rfl ?_
              refine Wp.incN (x := w) (len := 3) rfl rfl ?_
              refine Wp.n (pc' := 4) 1 rfl ?_
              have ih2 := ih (w + 1) (s + shareK K k w) τ2 (by omega) (Scr_t hS hS2)
              unfold shareK at ih2 ⊢
              first
                | (rw [if_pos h45, if_pos h51] at ih2 ⊢; exact ih2)
                | (rw [if_pos h45, if_neg h51] at ih2 ⊢; exact ih2)
                | (rw [if_neg h45, if_pos h66, eD] at ih2 ⊢; exact ih2)
                | (rw [if_neg h45, if_neg h66, if_pos h78] at ih2 ⊢; exact ih2)
                | (rw [if_neg h45, if_neg h66, if_neg h78, if_pos h90] at ih2 ⊢; exact ih2)
                | (rw [if_neg h45, if_neg h66, if_neg h78, if_neg h90] at ih2 ⊢; exact ih2)
          · skip
            refine Wp.n (pc' := 85) 2 rfl ?_
            refine Wp.top hR.2.1 ?_
            refine Wp.n (pc' := 101) 1 rfl ?_
            refine Wp.iaddN (x := s) (y := (finW K w).2.1) (len := 1) rfl ?_
            refine Wp.n (pc' := 103) 1 rfl ?_
            refine Wp.incN (x := w) (len := 3) rfl rfl ?_
            refine Wp.n (pc' := 4) 1 rfl ?_
            have ih2 := ih (w + 1) (s + shareK K k w) τ2 (by omega) (Scr_t hS hS2)
            unfold shareK at ih2 ⊢
            first
              | (rw [if_pos h45, if_pos h51] at ih2 ⊢; exact ih2)
              | (rw [if_pos h45, if_neg h51] at ih2 ⊢; exact ih2)
              | (rw [if_neg h45, if_pos h66, eD] at ih2 ⊢; exact ih2)
              | (rw [if_neg h45, if_neg h66, if_pos h78] at ih2 ⊢; exact ih2)
              | (rw [if_neg h45, if_neg h66, if_neg h78, if_pos h90] at ih2 ⊢; exact ih2)
              | (rw [if_neg h45, if_neg h66, if_neg h78, if_neg h90] at ih2 ⊢; exact ih2)
        · skip
          refine Wp.n (pc' := 73) 2 rfl ?_
          refine Wp.top q1 ?_
          refine Wp.n (pc' := 101) 1 rfl ?_
          refine Wp.iaddN (x := s) (y := dq) (len := 1) rfl ?_
          refine Wp.n (pc' := 103) 1 rfl ?_
          refine Wp.incN (x := w) (len := 3) rfl rfl ?_
          refine Wp.n (pc' := 4) 1 rfl ?_
          have ih2 := ih (w + 1) (s + shareK K k w) τ2 (by omega) (Scr_t hS hS2)
          unfold shareK at ih2 ⊢
          first
            | (rw [if_pos h45, if_pos h51] at ih2 ⊢; exact ih2)
            | (rw [if_pos h45, if_neg h51] at ih2 ⊢; exact ih2)
            | (rw [if_neg h45, if_pos h66, eD] at ih2 ⊢; exact ih2)
            | (rw [if_neg h45, if_neg h66, if_pos h78] at ih2 ⊢; exact ih2)
            | (rw [if_neg h45, if_neg h66, if_neg h78, if_pos h90] at ih2 ⊢; exact ih2)
            | (rw [if_neg h45, if_neg h66, if_neg h78, if_neg h90] at ih2 ⊢; exact ih2)
      · skip
        refine Wp.n (pc' := 51) 3 rfl ?_
        refine Wp.nc1 (x := k) (y := 3) (tgt := 58) (len := 3) rfl (by omega) (by omega) (fun h51 => ?_) (fun h51 => ?_)
        · skip
          refine Wp.n (pc' := 59) 1 rfl ?_
          refine Wp.iaddN (x := s) (y := 0) (len := 1) rfl ?_
          refine Wp.n (pc' := 103) 2 rfl ?_
          refine Wp.incN (x := w) (len := 3) rfl rfl ?_
          refine Wp.n (pc' := 4) 1 rfl ?_
          have ih2 := ih (w + 1) (s + shareK K k w) τ2 (by omega) (Scr_t hS hS2)
          unfold shareK at ih2 ⊢
          first
            | (rw [if_pos h45, if_pos h51] at ih2 ⊢; exact ih2)
            | (rw [if_pos h45, if_neg h51] at ih2 ⊢; exact ih2)
            | (rw [if_neg h45, if_pos h66, eD] at ih2 ⊢; exact ih2)
            | (rw [if_neg h45, if_neg h66, if_pos h78] at ih2 ⊢; exact ih2)
            | (rw [if_neg h45, if_neg h66, if_neg h78, if_pos h90] at ih2 ⊢; exact ih2)
            | (rw [if_neg h45, if_neg h66, if_neg h78, if_neg h90] at ih2 ⊢; exact ih2)
        · skip
          refine Wp.n (pc' := 59) 2 rfl ?_
          refine Wp.iaddN (x := s) (y := 1) (len := 1) rfl ?_
          refine Wp.n (pc' := 103) 2 rfl ?_
          refine Wp.incN (x := w) (len := 3) rfl rfl ?_
          refine Wp.n (pc' := 4) 1 rfl ?_
          have ih2 := ih (w + 1) (s + shareK K k w) τ2 (by omega) (Scr_t hS hS2)
          unfold shareK at ih2 ⊢
          first
            | (rw [if_pos h45, if_pos h51] at ih2 ⊢; exact ih2)
            | (rw [if_pos h45, if_neg h51] at ih2 ⊢; exact ih2)
            | (rw [if_neg h45, if_pos h66, eD] at ih2 ⊢; exact ih2)
            | (rw [if_neg h45, if_neg h66, if_pos h78] at ih2 ⊢; exact ih2)
            | (rw [if_neg h45, if_neg h66, if_neg h78, if_pos h90] at ih2 ⊢; exact ih2)
            | (rw [if_neg h45, if_neg h66, if_neg h78, if_neg h90] at ih2 ⊢; exact ih2)

theorem m_allOf (hM : MK σ K) {k : Nat} (hk : k < 4) : Wp (d + 14) md_236 0 [some (.ref 287), some (.int (nI k)), none, none] [] (mset M σ) (RI M σ (nI (allK K k))) := by
  refine Wp.n (pc' := 4) 4 rfl ?_
  exact m_allOf_l hM hk (kh K 4) 0 0 σ (by omega) Scr_r
def allA (K : KD) (x : Int32) : Int32 := if 0 < kh K 0 ∧ isN 4 x = true then nI (allK K x.toNatClampNeg) else -2
theorem m_all (hM : MK σ K) (x : Int32) : Wp (d + 15) md_235 0 [some (.ref 287), some (.int x)] [] (mset M σ) (RI M σ (allA K x)) := by
  have ok := hM.2.1
  have hσ0 := hM.2.2.2
  obtain ⟨b0, b1, b2, b3, b4, b5, b6, b7, b8, b9, b10, b11, b12⟩ := ok_h ok
  unfold allA
  refine Wp.n (pc' := 2) 2 rfl ?_
  refine Wp.mput0 (len := 3) rfl hσ0 ?_
  refine Wp.n (pc' := 6) 1 rfl ?_
  refine Wp.ecallV (len := 3) rfl rfl rfl (rfl) rfl (by decide) rfl (m_isKingdom hM.1 ok) ?_
  refine Wp.ifb0 (tgt := 32) (len := 3) rfl (fun h9 => ?_) (fun h9 => ?_)
  · skip
    refine Wp.n (pc' := 34) 1 rfl ?_
    refine Wp.retI (len := 1) rfl rfl ?_
    first
      | exact RI_s hS rfl
      | (rw [if_neg (fun q => of_decide_eq_false h9 q.1)]; exact RI_r rfl)
      | (rw [if_neg (fun q => by rw [h21] at q; exact absurd q.2 (by decide))]; exact RI_r rfl)
  · skip
    refine Wp.n (pc' := 18) 4 rfl ?_
    refine Wp.ecallS (len := 3) rfl rfl rfl rfl (m_in _ _ _) ?_
    refine Wp.ifb0 (tgt := 32) (len := 3) rfl (fun h21 => ?_) (fun h21 => ?_)
    · rw [in_isN (k := 4) (by decide)] at h21
      refine Wp.n (pc' := 34) 1 rfl ?_
      refine Wp.retI (len := 1) rfl rfl ?_
      first
        | exact RI_s hS rfl
        | (rw [if_neg (fun q => of_decide_eq_false h9 q.1)]; exact RI_r rfl)
        | (rw [if_neg (fun q => by rw [h21] at q; exact absurd q.2 (by decide))]; exact RI_r rfl)
    · rw [in_isN (k := 4) (by decide)] at h21
      obtain ⟨k, hk, rfl⟩ := isN_of h21
      rw [if_pos ⟨of_decide_eq_true h9, h21⟩, nI_clamp (by omega)]
      refine Wp.n (pc' := 26) 2 rfl ?_
      refine Wp.callV (len := 3) rfl rfl rfl (rfl) rfl (by decide) rfl (m_allOf hM hk) ?_
      rintro _ _ ⟨rfl, τ, rfl, hS⟩
      refine Wp.n (pc' := 34) 1 rfl ?_
      refine Wp.retI (len := 1) rfl rfl ?_
      first
        | exact RI_s hS rfl
        | (rw [if_neg (fun q => of_decide_eq_false h9 q.1)]; exact RI_r rfl)
        | (rw [if_neg (fun q => by rw [h21] at q; exact absurd q.2 (by decide))]; exact RI_r rfl)

end RQ2
