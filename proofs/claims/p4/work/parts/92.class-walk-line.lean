/-! A WALK OF THE DRAFT is being written; its line, the class. -/
def WkF (w : Nat) (g h : Nat → Int32) (ρ ρ' : RC) : Prop := ρ'.1 = ρ.1 ∧ ρ'.2.1 = ρ.2.1 ∧ ρ'.2.2.1 = ρ.2.2.1 ∧ (∀ i, i ≠ w → rwk ρ' i = rwk ρ i ∧ rst ρ' i = rst ρ i) ∧ rwk ρ' w = g ∧ rst ρ' w = h
section WKD
variable {d : Nat} {X : MD} {pc len w : Nat} {l : AL} {sk : List Value} {M : AM} {κ κ' : CS} {T : TP} {st : St} {K : KD} {ρ ρ' ρ0 : RC} {g h : Nat → Int32} {v : Value} {Q : Option Value → AM → Prop}
theorem WkF.r : WkF w (rwk ρ w) (rst ρ w) ρ ρ := ⟨rfl, rfl, rfl, fun _ _ => ⟨rfl, rfl⟩, rfl, rfl⟩
theorem WkF.p (F : WkF w g h ρ0 ρ) {j : Nat} {x : Int32} : WkF w (upd g j x) h ρ0 (gset ρ w j x) := ⟨F.1, F.2.1, F.2.2.1, fun i hi => ⟨(rwk_gn hi).trans (F.2.2.2.1 i hi).1, (F.2.2.2.1 i hi).2⟩, by rw [rwk_gs, F.2.2.2.2.1], F.2.2.2.2.2⟩
theorem WkF.t (F : WkF w g h ρ0 ρ) {f : Nat → Int32} : WkF w g f ρ0 (tset ρ w f) := ⟨F.1, F.2.1, F.2.2.1, fun i hi => ⟨(F.2.2.2.1 i hi).1, (rst_tn hi).trans (F.2.2.2.1 i hi).2⟩, F.2.2.2.2.1, rst_ts⟩
theorem dwalks : cset (rset M 83 ρ) κ 108 = .inl (5, 10, .inr (.inr (.inr (.inr (fun i => if i < 10 then some (83 + 26 + 2 * i) else none))))) := (cset_o (by omega)).trans (rs_walks (r := 83))
theorem dwalk {i : Nat} (hi : i < 10) : cset (rset M 83 ρ) κ (83 + 26 + 2 * i) = .inr (7, wfs (rwk ρ i) (83 + 27 + 2 * i)) := (cset_o (by omega)).trans (rs_walk hi)
theorem Wp.dw {x : Int32} (hw : w < 10) (F : WkF w g h ρ0 ρ) (j : Nat) (hj : Nat.ble j 3 = true) (hc : cdx X pc = some (.inr (.inr (1, 7, j, v)), len)) (kk : ∀ ρ', WkF w (upd g j x) h ρ0 ρ' → Wp d X (pc + len) l sk (cset (rset M 83 ρ') κ) Q) : Wp d X pc l (.int x :: .ref (83 + 26 + 2 * w) :: sk) (cset (rset M 83 ρ) κ) Q := Wp.dgp j hj hw hc (kk _ F.p)
theorem Wp.ds {x : Int32} (hw : w < 10) (F : WkF w g h ρ0 ρ) {j : Nat} (hj : j < 7) (hc : cdx X pc = some (.inr (.inl .iastore), len)) (kk : ∀ ρ', WkF w g (upd h j x) ρ0 ρ' → Wp d X (pc + len) l sk (cset (rset M 83 ρ') κ) Q) : Wp d X pc l (.int x :: .int (nI j) :: .ref (83 + 27 + 2 * w) :: sk) (cset (rset M 83 ρ) κ) Q := by
  have k2 := kk _ (F.t (f := upd h j x))
  rw [← rset_c (by decide) (by decide)] at k2 ⊢
  refine Wp.iastN hc (rs_stops hw) hj (by decide) ?_
  rw [ru_stops hw, F.2.2.2.2.2]
  exact k2
theorem k_stopD (hw : w < 10) (F : WkF w g h ρ0 ρ) {j p : Nat} (hj : j < 7) (e : h j = nI p) : Ev d md_69 0 [some (.ref (83 + 26 + 2 * w)), some (.int (nI j))] [] (cset (rset M 83 ρ) κ) (some (.int (nI p)), cset (rset M 83 ρ) κ) := by
  have q := c_stopAt (d := d) (M := cset M κ) (ρ := ρ) (r := 83) (i := w) hw (nI j)
  rw [rset_c (by decide) (by decide), nI_toInt (by omega), if_pos (by omega), nI_clamp (by omega), F.2.2.2.2.2, e] at q
  exact q
theorem RepC_w (hK : RepC ρ K) (F : WkF (kh K 4) g h ρ ρ') : RepC ρ' K := by
  obtain ⟨f1, f2, f3, f4, f5, f6⟩ := F
  obtain ⟨r0, r1, r2, r3, r6, r8, r10, rl, rr, rn_, rw_⟩ := hK
  unfold RepC rhd rlw rlk at *
  rw [f1, f2, f3]
  refine ⟨r0, r1, r2, r3, r6, r8, r10, rl, rr, rn_, fun i hi => ?_⟩
  rw [(f4 i (by omega)).1, (f4 i (by omega)).2]
  exact rw_ i hi
theorem k_walk_e {G : Nat → Nat} {κ1 : CS} (hB : BdC ρ K) (hr : kh K 4 < 10) (hG : κ1.2.2.2 1 = some 83) (F : FA κ κ1) (l : LC κ1 T st) (W : WkF (kh K 4) g h ρ ρ') (hv : gd st = true → (g 0 = nI (G 0) ∧ g 1 = nI (G 1) ∧ g 2 = nI (G 2) ∧ g 3 = nI (G 3 - 1)) ∧ ∀ j, j < G 3 → h j = nI (G (4 + j))) {x1 x2 x3 x4 : Option Value} : Wp (d + 12) md_24 207 [some (.ref 35), x1, x2, x3, x4] [] (cset (rset M 83 ρ') κ1) (RCn M κ T st (addW K G)) := by
  have e10 : rhd ρ' 10 = nI (kh K 4) := by
    show ρ'.1 10 = _
    rw [W.1]
    exact hB.1.2.2.2.2.2.2.1
  rcases st with z | s
  · have z1 := l.2.1
    have z3 := l.2.2.1
    refine Wp.n (pc' := 208) 1 rfl ?_
    refine Wp.get (len := 3) rfl (rfl) rfl ?_
    refine Wp.top l.1 ?_
    refine Wp.nz1 (x := z.1) (tgt := 227) (len := 3) rfl (by omega) (fun h211 => ?_) (fun h211 => ?_)
    · skip
      refine Wp.retV (len := 1) rfl rfl ?_
      exact ⟨rfl, ρ', κ1, rfl, F, l, fun q => by cases q⟩
    · omega
  · have vv := hv rfl
    refine Wp.n (pc' := 208) 1 rfl ?_
    refine Wp.get (len := 3) rfl (rfl) rfl ?_
    refine Wp.top l.1 ?_
    refine Wp.nz1 (x := 0) (tgt := 227) (len := 3) rfl (by omega) (fun h211 => ?_) (fun h211 => ?_)
    · omega
    · skip
      refine Wp.n (pc' := 215) 1 rfl ?_
      refine Wp.get (len := 3) rfl (rfl) rfl ?_
      refine Wp.topR hG ?_
      refine Wp.n (pc' := 219) 1 rfl ?_
      refine Wp.get (len := 3) rfl (dobj) rfl ?_
      refine Wp.top e10 ?_
      refine Wp.n (pc' := 223) 1 rfl ?_
      refine Wp.iaddN (x := kh K 4) (y := 1) (len := 1) rfl ?_
      refine Wp.dput (len := 3) 10 rfl rfl ?_
      refine Wp.retV (len := 1) rfl rfl ?_
      refine ⟨rfl, _, κ1, rfl, F, l, fun _ => ?_⟩
      have hK1 := RepC_w hB.1 W
      obtain ⟨_, hl, h11⟩ := hB
      obtain ⟨t0, t1, t2, t3, t6, t8, t10, tl, tr, tn_, tw_⟩ := hK1
      have hl' : ∀ j, j < 5 → rlw ρ' j = nI (kh K (6 + j)) := fun j hj => by show ρ'.2.1 j = _; rw [W.2.1]; exact hl j hj
      have ek : ∀ j, j ≠ 4 → kh (addW K G) j = kh K j := fun j hj => if_neg hj
      refine ⟨⟨t0, t1, t2, t3, t6, t8, rfl, fun _ j hj => ?_, tr, tn_, fun i hi => ?_⟩, fun j hj => ?_, h11⟩
      · rw [ek (6 + j) (by omega)]; exact hl' j hj
      · have hi' : i < kh K 4 + 1 := hi
        have ew : kw (addW K G) i = if i = kh K 4 then G else kw K i := rfl
        rw [ew]
        by_cases q : i = kh K 4
        · rw [if_pos q, q]
          show rwk ρ' (kh K 4) 0 = _ ∧ rwk ρ' (kh K 4) 1 = _ ∧ rwk ρ' (kh K 4) 2 = _ ∧ rwk ρ' (kh K 4) 3 = _ ∧ ∀ j, j < G 3 → rst ρ' (kh K 4) j = _
          rw [W.2.2.2.2.1, W.2.2.2.2.2]
          exact ⟨vv.1.1, vv.1.2.1, vv.1.2.2.1, vv.1.2.2.2, vv.2⟩
        · rw [if_neg q]
          exact tw_ i (by omega)
      · rw [ek (6 + j) (by omega)]; exact hl' j hj
theorem k_walk_l (hT : TC κ T) (hS : κ.2.2.2 0 = some 33) (hG : κ.2.2.2 1 = some 83) (hB : BdC ρ K) (ok : KOK K) (hP : 2 ≤ kh K 0) (hr : kh K 4 < 10) {w0 w1 w2 : Nat} : ∀ (N i : Nat) {pl : Nat → Nat} {g h : Nat → Int32} {ρ' : RC} {κ' : CS} {s : Nat} {x3 x4 : Option Value}, N + i = 7 → 1 ≤ i → FA κ κ' → WkF (kh K 4) g h ρ ρ' → LC κ' T (.inr s) → g 0 = nI w0 ∧ g 1 = nI w1 ∧ g 2 = nI w2 → (∀ j, j < i → h j = nI (pl j)) → (∀ j, j < i → pl j < 7) → Wp (d + 12) md_24 154 [some (.ref 35), some (.ref (83 + 26 + 2 * kh K 4)), some (.int (nI i)), x3, x4] [] (cset (rset M 83 ρ') κ') (RCn M κ T (wlk T (kh K 0) N pl i (.inr s)).1 (addW K (wkG w0 w1 w2 (wlk T (kh K 0) N pl i (.inr s))))) := by
  intro N
  induction N with
  | zero =>
    intro i pl g h ρ' κ' s x3 x4 hN hi F0 W L hg hh hp
    have b0 := (ok_h ok).1
    have hK1 := RepC_w hB.1 W
    have hG0 : κ'.2.2.2 1 = some 83 := by rw [F0.2]; exact hG
    have hS0 : κ'.2.2.2 0 = some 33 := by rw [F0.2]; exact hS
    have hT0 := F0.tc hT
    refine Wp.n (pc' := 155) 1 rfl ?_
    refine Wp.get (len := 3) rfl (rfl) rfl ?_
    refine Wp.top L.2.2.2.1 ?_
    refine Wp.n (pc' := 163) 5 rfl ?_
    refine Wp.isubN (x := i) (y := 1) (len := 1) rfl (by omega) ?_
    refine Wp.ecallV (len := 3) rfl rfl rfl (dwalk hr) rfl (by omega) rfl (k_stopD hr W (j := i - 1) (p := pl (i - 1)) (by omega) (hh (i - 1) (by omega))) ?_
    refine Wp.n (pc' := 168) 1 rfl ?_
    refine Wp.callV (len := 3) rfl rfl rfl (rfl) rfl (by decide) rfl (k_takeOther (w := false) (a := pl (i - 1)) (f := wlo pl i) hT0 hS0 hG0 L hK1 ok hP (fun _ => ⟨rfl, hp (i - 1) (by omega)⟩) (fun _ v => by unfold wlo; simp)) ?_
    rintro _ _ ⟨x, rfl, hx, κ1, rfl, f1, l1⟩
    have F1 := F0.t f1
    have hG1 : κ1.2.2.2 1 = some 83 := by rw [F1.2]; exact hG
    have hS1 : κ1.2.2.2 0 = some 33 := by rw [F1.2]; exact hS
    have hT1 := F1.tc hT
    refine Wp.n (pc' := 176) 3 rfl ?_
    refine Wp.nc5 (x := i) (y := 6) (tgt := 188) (len := 3) rfl (by omega) (by omega) (fun h176 => ?_) (fun h176 => ?_)
    · omega
    · skip
      refine Wp.n (pc' := 182) 3 rfl ?_
      refine Wp.callV (len := 3) rfl rfl rfl (rfl) rfl (by decide) rfl (k_fail (p := s) (k := 3) hT1 l1 (by decide) _ (fun _ => rfl)) ?_
      rintro _ _ ⟨rfl, κ2, rfl, f2, l2⟩
      have F2 := F1.t f2
      have hG2 : κ2.2.2.2 1 = some 83 := by rw [F2.2]; exact hG
      have hS2 : κ2.2.2.2 0 = some 33 := by rw [F2.2]; exact hS
      have hT2 := F2.tc hT
      refine Wp.n (pc' := 201) 1 rfl ?_
      refine Wp.incN (x := i) (len := 3) rfl rfl ?_
      refine Wp.n (pc' := 131) 3 rfl ?_
      refine Wp.nc4 (x := i + 1) (y := 7) (tgt := 207) (len := 3) rfl (by omega) (by omega) (fun h131 => ?_) (fun h131 => ?_)
      · skip
        have e : (if gd (otS T (kh K 0) (wlo pl i) (.inr s)) = true then .inl (3, s) else otS T (kh K 0) (wlo pl i) (.inr s)) = (wlk T (kh K 0) 0 pl i (.inr s)).1 := by
          show _ = fl3 (.inr s) (otS T (kh K 0) (wlo pl i) (.inr s))
          rcases otS T (kh K 0) (wlo pl i) (.inr s) with z | s2 <;> rfl
        rw [e] at l2
        refine k_walk_e hB hr hG2 F2 l2 W (fun q => ?_)
        have e2 : gd (fl3 (.inr s) (otS T (kh K 0) (wlo pl i) (.inr s))) = true := q
        rcases hq : otS T (kh K 0) (wlo pl i) (.inr s) with z | s2
        · rw [hq] at e2; cases e2
        · rw [hq] at e2; cases e2
      · omega
  | succ n ih =>
    intro i pl g h ρ' κ' s x3 x4 hN hi F0 W L hg hh hp
    have b0 := (ok_h ok).1
    have hK1 := RepC_w hB.1 W
    have hG0 : κ'.2.2.2 1 = some 83 := by rw [F0.2]; exact hG
    have hS0 : κ'.2.2.2 0 = some 33 := by rw [F0.2]; exact hS
    have hT0 := F0.tc hT
    refine Wp.n (pc' := 155) 1 rfl ?_
    refine Wp.get (len := 3) rfl (rfl) rfl ?_
    refine Wp.top L.2.2.2.1 ?_
    refine Wp.n (pc' := 163) 5 rfl ?_
    refine Wp.isubN (x := i) (y := 1) (len := 1) rfl (by omega) ?_
    refine Wp.ecallV (len := 3) rfl rfl rfl (dwalk hr) rfl (by omega) rfl (k_stopD hr W (j := i - 1) (p := pl (i - 1)) (by omega) (hh (i - 1) (by omega))) ?_
    refine Wp.n (pc' := 168) 1 rfl ?_
    refine Wp.callV (len := 3) rfl rfl rfl (rfl) rfl (by decide) rfl (k_takeOther (w := false) (a := pl (i - 1)) (f := wlo pl i) hT0 hS0 hG0 L hK1 ok hP (fun _ => ⟨rfl, hp (i - 1) (by omega)⟩) (fun _ v => by unfold wlo; simp)) ?_
    rintro _ _ ⟨x, rfl, hx, κ1, rfl, f1, l1⟩
    have F1 := F0.t f1
    have hG1 : κ1.2.2.2 1 = some 83 := by rw [F1.2]; exact hG
    have hS1 : κ1.2.2.2 0 = some 33 := by rw [F1.2]; exact hS
    have hT1 := F1.tc hT
    refine Wp.n (pc' := 176) 3 rfl ?_
    refine Wp.nc5 (x := i) (y := 6) (tgt := 188) (len := 3) rfl (by omega) (by omega) (fun h176 => ?_) (fun h176 => ?_)
    · skip
      refine Wp.n (pc' := 189) 1 rfl ?_
      refine Wp.get (len := 3) rfl (dwalk hr) rfl ?_
      refine Wp.n (pc' := 195) 2 rfl ?_
      refine Wp.ds hr W (j := i) (by omega) (len := 1) rfl (fun ρ2 W2 => ?_)
      refine Wp.n (pc' := 198) 2 rfl ?_
      refine Wp.dw hr W2 3 rfl (len := 3) rfl (fun ρ3 W3 => ?_)
      refine Wp.incN (x := i) (len := 3) rfl rfl ?_
      refine Wp.n (pc' := 131) 3 rfl ?_
      refine Wp.nc4 (x := i + 1) (y := 7) (tgt := 207) (len := 3) rfl (by omega) (by omega) (fun h131 => ?_) (fun h131 => ?_)
      · omega
      · skip
        rcases hq : otS T (kh K 0) (wlo pl i) (.inr s) with z | s2
        · rw [hq] at l1
          have z1 := l1.2.1
          have z3 := l1.2.2.1
          have e : wlk T (kh K 0) (n + 1) pl i (.inr s) = (.inl z, pl, i) := by
            unfold wlk
            rw [hq]
          refine Wp.n (pc' := 135) 1 rfl ?_
          refine Wp.get (len := 3) rfl (rfl) rfl ?_
          refine Wp.top l1.1 ?_
          refine Wp.nz1 (x := z.1) (tgt := 207) (len := 3) rfl (by omega) (fun h138 => ?_) (fun h138 => ?_)
          · skip
            rw [e]
            exact k_walk_e (st := .inl z) hB hr hG1 F1 l1 W3 (fun q => by cases q)
          · omega
        · rw [hq] at l1 hx
          obtain rfl := hx rfl
          have hk := tk_le (T := T) (s := s2)
          have hck : ck (tk T s2) ≤ 5 := by unfold ck; split <;> omega
          have hc2 : ck (tk T s2) = 2 ↔ tk T s2 = 2 := by unfold ck; split <;> omega
          have hv := m_walk_c (j := i - 1) hq (by omega)
          have hn : ∀ j, j < i + 1 → upd h i (nI (nmV T (.inr s))) j = nI (nup pl i (nmV T (.inr s)) j) := fun j hj => by
            unfold nup
            by_cases c : j = i
            · rw [c, pk_us, if_pos rfl]
            · rw [pk_un c, if_neg c]; exact hh j (by omega)
          refine Wp.n (pc' := 135) 1 rfl ?_
          refine Wp.get (len := 3) rfl (rfl) rfl ?_
          refine Wp.top l1.1 ?_
          refine Wp.nz1 (x := 0) (tgt := 207) (len := 3) rfl (by omega) (fun h138 => ?_) (fun h138 => ?_)
          · omega
          · skip
            refine Wp.n (pc' := 143) 2 rfl ?_
            refine Wp.nc0 (x := i + 1) (y := 1) (tgt := 154) (len := 3) rfl (by omega) (by omega) (fun h143 => ?_) (fun h143 => ?_)
            · omega
            · skip
              refine Wp.n (pc' := 147) 1 rfl ?_
              refine Wp.get (len := 3) rfl (rfl) rfl ?_
              refine Wp.top l1.2.2.1 ?_
              refine Wp.n (pc' := 151) 1 rfl ?_
              refine Wp.nc1 (x := ck (tk T s2)) (y := 2) (tgt := 207) (len := 3) rfl (by omega) (by omega) (fun h151 => ?_) (fun h151 => ?_)
              · skip
                have e : wlk T (kh K 0) (n + 1) pl i (.inr s) = (.inr s2, nup pl i (nmV T (.inr s)), i + 1) := by
                  unfold wlk
                  rw [hq]
                  exact if_neg (by omega)
                rw [e]
                refine k_walk_e (st := .inr s2) (G := wkG w0 w1 w2 (.inr s2, nup pl i (nmV T (.inr s)), i + 1)) hB hr hG1 F1 l1 W3 (fun q => ⟨⟨hg.1, hg.2.1, hg.2.2, rfl⟩, fun j hj => ?_⟩)
                rw [wkG_4]
                exact hn j hj
              · skip
                have e : wlk T (kh K 0) (n + 1) pl i (.inr s) = wlk T (kh K 0) n (nup pl i (nmV T (.inr s))) (i + 1) (.inr s2) := by
                  rw [wlk, hq]
                  exact if_pos (by omega)
                rw [e]
                refine ih (i + 1) (by omega) (by omega) F1 W3 l1 hg hn (fun j hj => ?_)
                unfold nup
                by_cases c : j = i
                · rw [if_pos c]; show vl T s < 7; omega
                · rw [if_neg c]; exact hp j (by omega)
    · omega
theorem k_readWalkF {s : Nat} (hT : TC κ T) (hG : κ.2.2.2 1 = some 83) (hL : LC κ T (.inr s)) (hB : BdC ρ K) (h4 : kh K 4 = 10) : Wp (d + 12) md_24 0 [some (.ref 35), none, none, none, none] [] (cset (rset M 83 ρ) κ) (RCn M κ T (.inl (3, s)) K) := by
  refine Wp.n (pc' := 1) 1 rfl ?_
  refine Wp.get (len := 3) rfl (rfl) rfl ?_
  refine Wp.topR hG ?_
  refine Wp.get (len := 3) rfl (dobj) rfl ?_
  refine Wp.top hB.1.2.2.2.2.2.2.1 ?_
  refine Wp.n (pc' := 9) 1 rfl ?_
  refine Wp.nc2 (x := kh K 4) (y := 10) (tgt := 22) (len := 3) rfl (by omega) (by omega) (fun h9 => ?_) (fun h9 => ?_)
  · omega
  · skip
    refine Wp.n (pc' := 15) 3 rfl ?_
    refine Wp.get (len := 3) rfl (rfl) rfl ?_
    refine Wp.callV (len := 3) rfl rfl rfl (rfl) rfl (by decide) rfl (k_fail (p := s) (k := 3) hT hL (by decide) _ (fun _ => hL.2.2.2.1)) ?_
    rintro _ _ ⟨rfl, κ1, rfl, f1, l1⟩
    change LC κ1 T (.inl (3, s)) at l1
    refine Wp.retV (len := 1) rfl rfl ?_
    exact ⟨rfl, ρ, κ1, rfl, f1, l1, fun q => by cases q⟩
theorem k_readWalk {s : Nat} (hT : TC κ T) (hS : κ.2.2.2 0 = some 33) (hG : κ.2.2.2 1 = some 83) (hW : HW M) (hL : LC κ T (.inr s)) (hB : BdC ρ K) (ok : KOK K) (hP : 2 ≤ kh K 0) (hD : 1 ≤ kh K 1) (hr : kh K 4 < 10) : Wp (d + 12) md_24 0 [some (.ref 35), none, none, none, none] [] (cset (rset M 83 ρ) κ) (RCn M κ T (wkr T K (.inr (nx T s))).1 (wkK T K (.inr (nx T s)))) := by
  have b0 := (ok_h ok).1
  have b1 := (ok_h ok).2.1
  have F0 : FA κ κ := FA.r
  have W0 : WkF (kh K 4) (rwk ρ (kh K 4)) (rst ρ (kh K 4)) ρ ρ := WkF.r
  refine Wp.n (pc' := 1) 1 rfl ?_
  refine Wp.get (len := 3) rfl (rfl) rfl ?_
  refine Wp.topR hG ?_
  refine Wp.get (len := 3) rfl (dobj) rfl ?_
  refine Wp.top hB.1.2.2.2.2.2.2.1 ?_
  refine Wp.n (pc' := 9) 1 rfl ?_
  refine Wp.nc2 (x := kh K 4) (y := 10) (tgt := 22) (len := 3) rfl (by omega) (by omega) (fun h9 => ?_) (fun h9 => ?_)
  · skip
    refine Wp.n (pc' := 23) 1 rfl ?_
    refine Wp.get (len := 3) rfl (rfl) rfl ?_
    refine Wp.topR hG ?_
    refine Wp.get (len := 3) rfl (dobj) rfl ?_
    refine Wp.n (pc' := 30) 1 rfl ?_
    refine Wp.get (len := 3) rfl (rfl) rfl ?_
    refine Wp.topR hG ?_
    refine Wp.get (len := 3) rfl (dobj) rfl ?_
    refine Wp.top hB.1.2.2.2.2.2.2.1 ?_
    refine Wp.aaldN (j := kh K 4) (len := 1) rfl (dwalks) rfl (by omega) (by decide) (if_pos (by omega)) ?_
    refine Wp.n (pc' := 39) 2 rfl ?_
    refine Wp.callV (len := 3) rfl rfl rfl (rfl) rfl (by decide) rfl (k_advance hT hS hL) ?_
    rintro _ _ ⟨rfl, κ1, rfl, f1, l1⟩
    have F1 := F0.t f1
    have hG1 : κ1.2.2.2 1 = some 83 := by rw [F1.2]; exact hG
    have hS1 : κ1.2.2.2 0 = some 33 := by rw [F1.2]; exact hS
    have hT1 := F1.tc hT
    refine Wp.n (pc' := 46) 4 rfl ?_
    refine Wp.callV (len := 3) rfl rfl rfl (rfl) rfl (by decide) rfl (k_takeNumber (lo := 0) (hi := 4) hT1 hS1 l1 (fun q => ⟨rfl, rfl, by omega, by omega⟩)) ?_
    rintro _ _ ⟨a, rfl, ha, κ2, rfl, f2, l2⟩
    have F2 := F1.t f2
    have hG2 : κ2.2.2.2 1 = some 83 := by rw [F2.2]; exact hG
    have hS2 : κ2.2.2.2 0 = some 33 := by rw [F2.2]; exact hS
    have hT2 := F2.tc hT
    change LC κ2 T (wk1 T (.inr (nx T s))) at l2
    refine Wp.dw hr W0 0 rfl (len := 3) rfl (fun ρ1 W1 => ?_)
    refine Wp.n (pc' := 59) 5 rfl ?_
    refine Wp.callV (len := 3) rfl rfl rfl (rfl) rfl (by decide) rfl (k_tN 16 wno_16 (by decide) hT2 hS2 (HW_r hW) l2 (lo := 1) (hb := 9) (fun q => ⟨rfl, rfl, by decide, by decide⟩)) ?_
    rintro _ _ ⟨b, rfl, hb, κ3, rfl, f3, l3⟩
    have F3 := F2.t f3
    have hG3 : κ3.2.2.2 1 = some 83 := by rw [F3.2]; exact hG
    have hS3 : κ3.2.2.2 0 = some 33 := by rw [F3.2]; exact hS
    have hT3 := F3.tc hT
    change LC κ3 T (wk2 T (.inr (nx T s))) at l3
    refine Wp.dw hr W1 1 rfl (len := 3) rfl (fun ρ2 W2 => ?_)
    refine Wp.n (pc' := 68) 2 rfl ?_
    refine Wp.callV (len := 3) rfl rfl rfl (rfl) rfl (by decide) rfl (k_tW 14 wno_14 (by decide) hT3 hS3 (HW_r hW) l3) ?_
    rintro _ _ ⟨rfl, κ4, rfl, f4, l4⟩
    have F4 := F3.t f4
    have hG4 : κ4.2.2.2 1 = some 83 := by rw [F4.2]; exact hG
    have hS4 : κ4.2.2.2 0 = some 33 := by rw [F4.2]; exact hS
    have hT4 := F4.tc hT
    change LC κ4 T (wkb T (.inr (nx T s))) at l4
    refine Wp.n (pc' := 75) 4 rfl ?_
    refine Wp.get (len := 3) rfl (rfl) rfl ?_
    refine Wp.topR hG4 ?_
    refine Wp.get (len := 3) rfl (dobj) rfl ?_
    refine Wp.top (show ρ2.1 1 = nI (kh K 1) by rw [W2.1]; exact hB.1.2.1) ?_
    refine Wp.n (pc' := 82) 1 rfl ?_
    refine Wp.isubN (x := kh K 1) (y := 1) (len := 1) rfl (by omega) ?_
    refine Wp.callV (len := 3) rfl rfl rfl (rfl) rfl (by decide) rfl (k_takeNumber (lo := 0) (hi := kh K 1 - 1) hT4 hS4 l4 (fun q => ⟨rfl, rfl, by omega, by omega⟩)) ?_
    rintro _ _ ⟨c, rfl, hc, κ5, rfl, f5, l5⟩
    have F5 := F4.t f5
    have hG5 : κ5.2.2.2 1 = some 83 := by rw [F5.2]; exact hG
    have hS5 : κ5.2.2.2 0 = some 33 := by rw [F5.2]; exact hS
    have hT5 := F5.tc hT
    change LC κ5 T (wk3 T K (.inr (nx T s))) at l5
    refine Wp.dw hr W2 2 rfl (len := 3) rfl (fun ρ3 W3 => ?_)
    refine Wp.n (pc' := 92) 2 rfl ?_
    refine Wp.callV (len := 3) rfl rfl rfl (rfl) rfl (by decide) rfl (k_tW 8 wno_8 (by decide) hT5 hS5 (HW_r hW) l5) ?_
    rintro _ _ ⟨rfl, κ6, rfl, f6, l6⟩
    have F6 := F5.t f6
    have hG6 : κ6.2.2.2 1 = some 83 := by rw [F6.2]; exact hG
    have hS6 : κ6.2.2.2 0 = some 33 := by rw [F6.2]; exact hS
    have hT6 := F6.tc hT
    change LC κ6 T (wkc T K (.inr (nx T s))) at l6
    refine Wp.n (pc' := 96) 1 rfl ?_
    refine Wp.get (len := 3) rfl (dwalk hr) rfl ?_
    refine Wp.n (pc' := 103) 4 rfl ?_
    refine Wp.get (len := 3) rfl (rfl) rfl ?_
    refine Wp.topR hG6 ?_
    refine Wp.get (len := 3) rfl (dobj) rfl ?_
    refine Wp.top (show ρ3.1 0 = nI (kh K 0) by rw [W3.1]; exact hB.1.1) ?_
    refine Wp.n (pc' := 110) 1 rfl ?_
    refine Wp.isubN (x := kh K 0) (y := 1) (len := 1) rfl (by omega) ?_
    refine Wp.callV (len := 3) rfl rfl rfl (rfl) rfl (by decide) rfl (k_takeNumber (lo := 0) (hi := kh K 0 - 1) hT6 hS6 l6 (fun q => ⟨rfl, rfl, by omega, by omega⟩)) ?_
    rintro _ _ ⟨e, rfl, he, κ7, rfl, f7, l7⟩
    have F7 := F6.t f7
    have hG7 : κ7.2.2.2 1 = some 83 := by rw [F7.2]; exact hG
    have hS7 : κ7.2.2.2 0 = some 33 := by rw [F7.2]; exact hS
    have hT7 := F7.tc hT
    change LC κ7 T (wk4 T K (.inr (nx T s))) at l7
    refine Wp.ds hr W3 (j := 0) (by decide) (len := 1) rfl (fun ρ4 W4 => ?_)
    refine Wp.n (pc' := 118) 2 rfl ?_
    refine Wp.callV (len := 3) rfl rfl rfl (rfl) rfl (by decide) rfl (k_tW 17 wno_17 (by decide) hT7 hS7 (HW_r hW) l7) ?_
    rintro _ _ ⟨rfl, κ8, rfl, f8, l8⟩
    have F8 := F7.t f8
    have hG8 : κ8.2.2.2 1 = some 83 := by rw [F8.2]; exact hG
    have hS8 : κ8.2.2.2 0 = some 33 := by rw [F8.2]; exact hS
    have hT8 := F8.tc hT
    change LC κ8 T (wk5 T K (.inr (nx T s))) at l8
    refine Wp.n (pc' := 123) 2 rfl ?_
    refine Wp.dw hr W4 3 rfl (len := 3) rfl (fun ρ5 W5 => ?_)
    refine Wp.n (pc' := 131) 4 rfl ?_
    refine Wp.nc4 (x := 1) (y := 7) (tgt := 207) (len := 3) rfl (by omega) (by omega) (fun h131 => ?_) (fun h131 => ?_)
    · omega
    · skip
      rcases hq : wk5 T K (.inr (nx T s)) with z | s5
      · rw [hq] at l8
        have z1 := l8.2.1
        have z3 := l8.2.2.1
        have e : wkr T K (.inr (nx T s)) = (.inl z, fun _ => nmV T (wkc T K (.inr (nx T s))), 1) := by
          unfold wkr
          rw [hq]
          rfl
        refine Wp.n (pc' := 135) 1 rfl ?_
        refine Wp.get (len := 3) rfl (rfl) rfl ?_
        refine Wp.top l8.1 ?_
        refine Wp.nz1 (x := z.1) (tgt := 207) (len := 3) rfl (by omega) (fun h138 => ?_) (fun h138 => ?_)
        · skip
          unfold wkK
          rw [e]
          exact k_walk_e (st := .inl z) hB hr hG8 F8 l8 W5 (fun q => by cases q)
        · omega
      · rw [hq] at l8
        have e : wkr T K (.inr (nx T s)) = wlk T (kh K 0) 6 (fun _ => nmV T (wkc T K (.inr (nx T s)))) 1 (.inr s5) := by
          unfold wkr
          rw [hq]
        have g5 : gd (wk5 T K (.inr (nx T s))) = true := by rw [hq]; rfl
        have g4 : gd (wk4 T K (.inr (nx T s))) = true := gd_wd g5
        have g3 : gd (wk3 T K (.inr (nx T s))) = true := gd_wd (gd_nm g4)
        have g2 : gd (wk2 T (.inr (nx T s))) = true := gd_wd (gd_nm g3)
        have g1 : gd (wk1 T (.inr (nx T s))) = true := gd_wd (gd_nm g2)
        obtain rfl := ha g1
        obtain rfl := hb g2
        obtain rfl := hc g3
        obtain rfl := he g4
        have n4 := nm_le (T := T) (lo := 0) (hi := kh K 0 - 1) (st := wkc T K (.inr (nx T s))) g4
        refine Wp.n (pc' := 135) 1 rfl ?_
        refine Wp.get (len := 3) rfl (rfl) rfl ?_
        refine Wp.top l8.1 ?_
        refine Wp.nz1 (x := 0) (tgt := 207) (len := 3) rfl (by omega) (fun h138 => ?_) (fun h138 => ?_)
        · omega
        · skip
          refine Wp.n (pc' := 143) 2 rfl ?_
          refine Wp.nc0 (x := 1) (y := 1) (tgt := 154) (len := 3) rfl (by omega) (by omega) (fun h143 => ?_) (fun h143 => ?_)
          · skip
            unfold wkK
            rw [e]
            refine k_walk_l hT hS hG hB ok hP hr 6 1 rfl (by decide) F8 W5 l8 ⟨rfl, rfl, rfl⟩ (fun j hj => ?_) (fun j hj => ?_)
            · obtain rfl : j = 0 := by omega
              rfl
            · show nmV T (wkc T K (.inr (nx T s))) < 7
              omega
          · omega
  · omega
end WKD
