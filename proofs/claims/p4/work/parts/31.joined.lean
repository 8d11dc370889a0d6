/-! joined, longOf. -/
def lst (K : KD) : Option Nat → Nat
  | none => 1000000
  | some j => spanJ K j
def jstep (K : KD) (a b y : Nat) (c : Option Nat) (l : Nat) : Option Nat := if l < kh K 3 ∨ (l = 8 ∧ kh K 11 = 1) then joinStep K a b y c l else c
theorem fld_add {α : Type} {f : α → Nat → α} : ∀ (m n i : Nat) (x : α), fld f (m + n) i x = fld f n (i + m) (fld f m i x)
  | 0, n, i, x => by rw [Nat.zero_add, Nat.add_zero]; rfl
  | m + 1, n, i, x => by
    rw [show m + 1 + n = (m + n) + 1 by omega]
    show fld f (m + n) (i + 1) (f x i) = fld f n (i + (m + 1)) (fld f m (i + 1) (f x i))
    rw [fld_add m n (i + 1), show i + 1 + m = i + (m + 1) by omega]
theorem fld_id {α : Type} {f : α → Nat → α} : ∀ (n i : Nat) (x : α), (∀ j, i ≤ j → j < i + n → ∀ y, f y j = y) → fld f n i x = x
  | 0, _, _, _ => rfl
  | n + 1, i, x, h => by
    show fld f n (i + 1) (f x i) = x
    rw [h i (by omega) (by omega), fld_id n (i + 1) x (fun j h1 h2 => h j (by omega) (by omega))]
theorem joinK_m {K : KD} (ok : KOK K) (a b y : Nat) : fld (jstep K a b y) 9 0 (roadK K a b) = joinK K a b y := by
  obtain ⟨b0, b1, b2, b3, b4, b5, b6, b7, b8, b9, b10, b11, b12⟩ := ok_h ok
  have e1 : fld (jstep K a b y) 8 0 (roadK K a b) = fld (joinStep K a b y) (kh K 3) 0 (roadK K a b) := by
    rw [show 8 = kh K 3 + (8 - kh K 3) by omega, fld_add, fld_id (8 - kh K 3)]
    · exact fld_c _ _ _ (fun j _ h2 c => if_pos (Or.inl (by omega)))
    · intro j h1 h2 c
      exact if_neg (by omega)
  rw [show 9 = 8 + 1 by omega, fld_s, e1]
  unfold joinK jstep
  by_cases h : kh K 11 = 1
  · rw [h, if_pos (Or.inr ⟨by omega, rfl⟩)]
    rfl
  · rw [if_neg (by omega)]
    exact (if_neg h).symm
section JOINED
variable {d : Nat} {M : AM} {σ : MS} {K : KD}
theorem lst_b (ok : KOK K) {c : Option Nat} (h : ∀ j, c = some j → JV K j) : lst K c ≤ 1000000 := by
  cases c with
  | none => exact Nat.le_refl _
  | some j =>
    have := spanJ_b ok (h j rfl)
    show spanJ K j ≤ _
    omega
theorem lst_lt (ok : KOK K) {c : Option Nat} {l : Nat} (hl : LV K l) : kl K l 2 < lst K c ↔ shr K c l = true := by
  have t := ok_lane ok hl
  cases c with
  | none => exact ⟨fun _ => rfl, fun _ => by show _ < 1000000; omega⟩
  | some j => exact (decide_eq_true_iff (p := kl K l 2 < spanJ K j)).symm
theorem joinStep_v {a b y : Nat} {c : Option Nat} {l : Nat} (hl : LV K l) (h : ∀ j, c = some j → JV K j) : ∀ j, joinStep K a b y c l = some j → JV K j := by
  intro j hj
  unfold joinStep at hj
  split at hj
  · cases hj
    exact Or.inr ⟨by omega, by rw [show 20 + l - 20 = l by omega]; exact hl⟩
  · exact h j hj
theorem m_joined_l (hM : RepM σ 0 K) (hmr : σ.1 25 = nI (kh K 11)) (ok : KOK K) {a b y : Nat} (ha : a < 7) (hb : b < 7) (hy : y < 31) : ∀ (n l : Nat) (cur : Option Nat) (z : Option Value), l + n = 9 → (∀ j, cur = some j → JV K j) → Wp (d + 2) md_197 35 [some (.ref 287), some (.int (nI a)), some (.int (nI b)), some (.int (nI y)), some (.int (oI cur)), some (.int (nI (lst K cur))), some (.int (nI l)), z] [] (mset M σ) (IsR (some (.int (oI (fld (jstep K a b y) n l cur))) ) (mset M σ)) := by
  intro n
  obtain ⟨b0, b1, b2, b3, b4, b5, b6, b7, b8, b9, b10, b11, b12⟩ := ok_h ok
  induction n with
  | zero =>
    intro l cur z hi hc
    refine Wp.n (pc' := 39) 2 rfl ?_
    refine Wp.nc4 (x := l) (y := 8) (tgt := 153) (len := 3) rfl (by omega) (by omega) (fun h39 => ?_) (fun h39 => ?_)
    · skip
      refine Wp.n (pc' := 155) 1 rfl ?_
      refine Wp.retI (len := 1) rfl rfl ?_
      exact ⟨rfl, rfl⟩
    · omega
  | succ n ih =>
    intro l cur z hi hc
    have hls := lst_b ok hc
    have kn : ∀ z : Option Value, ¬ LV K l → Wp (d + 2) md_197 35 [some (.ref 287), some (.int (nI a)), some (.int (nI b)), some (.int (nI y)), some (.int (oI cur)), some (.int (nI (lst K cur))), some (.int (nI (l + 1))), z] [] (mset M σ) (IsR (some (.int (oI (fld (jstep K a b y) (n + 1) l cur))) ) (mset M σ)) := by
      intro z hC
      have e2 : jstep K a b y cur l = cur := if_neg hC
      show Wp _ _ _ _ _ _ (IsR (some (.int (oI (fld (jstep K a b y) n (l + 1) (jstep K a b y cur l)))) ) (mset M σ))
      rw [e2]
      exact ih (l + 1) cur z (by omega) hc
    have kf : ∀ z : Option Value, LV K l → ¬ (shr K cur l = true ∧ btw (kl K l 0) (kl K l 1) a b = true ∧ openK K l y = true) → Wp (d + 2) md_197 35 [some (.ref 287), some (.int (nI a)), some (.int (nI b)), some (.int (nI y)), some (.int (oI cur)), some (.int (nI (lst K cur))), some (.int (nI (l + 1))), z] [] (mset M σ) (IsR (some (.int (oI (fld (jstep K a b y) (n + 1) l cur))) ) (mset M σ)) := by
      intro z hl hC
      have e2 : jstep K a b y cur l = cur := (if_pos hl).trans (if_neg hC)
      show Wp _ _ _ _ _ _ (IsR (some (.int (oI (fld (jstep K a b y) n (l + 1) (jstep K a b y cur l)))) ) (mset M σ))
      rw [e2]
      exact ih (l + 1) cur z (by omega) hc
    have kt : ∀ z : Option Value, LV K l → (shr K cur l = true ∧ btw (kl K l 0) (kl K l 1) a b = true ∧ openK K l y = true) → Wp (d + 2) md_197 35 [some (.ref 287), some (.int (nI a)), some (.int (nI b)), some (.int (nI y)), some (.int (nI (20 + l))), some (.int (nI (kl K l 2))), some (.int (nI (l + 1))), z] [] (mset M σ) (IsR (some (.int (oI (fld (jstep K a b y) (n + 1) l cur))) ) (mset M σ)) := by
      intro z hl hC
      have e2 : jstep K a b y cur l = some (20 + l) := (if_pos hl).trans (if_pos hC)
      have w := ih (l + 1) (some (20 + l)) z (by omega) (fun j hj => by cases hj; exact Or.inr ⟨by omega, by rw [show 20 + l - 20 = l by omega]; exact hl⟩)
      have e3 : lst K (some (20 + l)) = kl K l 2 := by
        show spanJ K (20 + l) = _
        unfold spanJ
        rw [if_neg (by omega), show 20 + l - 20 = l by omega]
      rw [e3] at w
      show Wp _ _ _ _ _ _ (IsR (some (.int (oI (fld (jstep K a b y) n (l + 1) (jstep K a b y cur l)))) ) (mset M σ))
      rw [e2]
      exact w
    by_cases hl : LV K l
    · have t := ok_lane ok hl
      have hlt := lst_lt (c := cur) ok hl
      have hl' : l < kh K 3 ∨ (l = 8 ∧ kh K 11 = 1) := hl
      refine Wp.n (pc' := 39) 2 rfl ?_
      refine Wp.nc4 (x := l) (y := 8) (tgt := 153) (len := 3) rfl (by omega) (by omega) (fun h39 => ?_) (fun h39 => ?_)
      · omega
      · skip
        refine Wp.n (pc' := 49) 4 rfl ?_
        refine Wp.mialdN (j := 3) (len := 1) rfl rfl rfl (by omega) ?_
        refine Wp.top (r0_has hM (by decide)) ?_
        refine Wp.nc2 (x := l) (y := kh K 3) (tgt := 67) (len := 3) rfl (by omega) (by omega) (fun h50 => ?_) (fun h50 => ?_)
        · skip
          refine Wp.n (pc' := 76) 4 rfl ?_
          refine Wp.nz0 (x := 1) (tgt := 147) (len := 3) rfl (by omega) (fun h76 => ?_) (fun h76 => ?_)
          · omega
          · skip
            refine Wp.n (pc' := 87) 4 rfl ?_
            refine Wp.imulN (x := 7) (y := l) (len := 1) rfl ?_
            refine Wp.n (pc' := 90) 2 rfl ?_
            refine Wp.ecallS (len := 3) rfl rfl rfl rfl (m_between10 (by omega) (r0_lane hM hl (j := 0) (by decide) (by omega)) (r0_lane hM hl (j := 1) (by decide) (by omega)) (by omega) (by omega) (by omega) (by omega)) ?_
            refine Wp.ifb0 (tgt := 147) (len := 3) rfl (fun h93 => ?_) (fun h93 => ?_)
            · skip
              refine Wp.incN (x := l) (len := 3) rfl rfl ?_
              refine Wp.n (pc' := 35) 1 rfl ?_
              first
                | exact kt _ hl ⟨hlt.mp h120, h93, h103⟩
                | exact kf _ hl (fun c => absurd (c.2.1.symm.trans h93) (by decide))
                | exact kf _ hl (fun c => absurd (c.2.2.symm.trans h103) (by decide))
                | exact kf _ hl (fun c => absurd (hlt.mpr c.1) (by omega))
            · skip
              refine Wp.n (pc' := 100) 3 rfl ?_
              refine Wp.ecallV (len := 3) rfl rfl rfl (rfl) rfl (by decide) rfl (m_isOpen hM ok hl hy) ?_
              refine Wp.ifb0 (tgt := 147) (len := 3) rfl (fun h103 => ?_) (fun h103 => ?_)
              · skip
                refine Wp.incN (x := l) (len := 3) rfl rfl ?_
                refine Wp.n (pc' := 35) 1 rfl ?_
                first
                  | exact kt _ hl ⟨hlt.mp h120, h93, h103⟩
                  | exact kf _ hl (fun c => absurd (c.2.1.symm.trans h93) (by decide))
                  | exact kf _ hl (fun c => absurd (c.2.2.symm.trans h103) (by decide))
                  | exact kf _ hl (fun c => absurd (hlt.mpr c.1) (by omega))
              · skip
                refine Wp.n (pc' := 114) 4 rfl ?_
                refine Wp.imulN (x := 7) (y := l) (len := 1) rfl ?_
                refine Wp.n (pc' := 116) 1 rfl ?_
                refine Wp.iaddN (x := 7 * l) (y := 2) (len := 1) rfl ?_
                refine Wp.mialdN (j := (7 * l) + 2) (len := 1) rfl rfl rfl (by omega) ?_
                refine Wp.top (r0_lane hM hl (j := 2) (by decide) (by omega)) ?_
                refine Wp.n (pc' := 120) 1 rfl ?_
                refine Wp.nc2 (x := kl K l 2) (y := lst K cur) (tgt := 126) (len := 3) rfl (by omega) (by omega) (fun h120 => ?_) (fun h120 => ?_)
                · skip
                  refine Wp.n (pc' := 130) 2 rfl ?_
                  refine Wp.iaddN (x := 20) (y := l) (len := 1) rfl ?_
                  refine Wp.n (pc' := 141) 5 rfl ?_
                  refine Wp.imulN (x := 7) (y := l) (len := 1) rfl ?_
                  refine Wp.n (pc' := 143) 1 rfl ?_
                  refine Wp.iaddN (x := 7 * l) (y := 2) (len := 1) rfl ?_
                  refine Wp.mialdN (j := (7 * l) + 2) (len := 1) rfl rfl rfl (by omega) ?_
                  refine Wp.top (r0_lane hM hl (j := 2) (by decide) (by omega)) ?_
                  refine Wp.n (pc' := 147) 1 rfl ?_
                  refine Wp.incN (x := l) (len := 3) rfl rfl ?_
                  refine Wp.n (pc' := 35) 1 rfl ?_
                  first
                    | exact kt _ hl ⟨hlt.mp h120, h93, h103⟩
                    | exact kf _ hl (fun c => absurd (c.2.1.symm.trans h93) (by decide))
                    | exact kf _ hl (fun c => absurd (c.2.2.symm.trans h103) (by decide))
                    | exact kf _ hl (fun c => absurd (hlt.mpr c.1) (by omega))
                · skip
                  refine Wp.n (pc' := 147) 1 rfl ?_
                  refine Wp.incN (x := l) (len := 3) rfl rfl ?_
                  refine Wp.n (pc' := 35) 1 rfl ?_
                  first
                    | exact kt _ hl ⟨hlt.mp h120, h93, h103⟩
                    | exact kf _ hl (fun c => absurd (c.2.1.symm.trans h93) (by decide))
                    | exact kf _ hl (fun c => absurd (c.2.2.symm.trans h103) (by decide))
                    | exact kf _ hl (fun c => absurd (hlt.mpr c.1) (by omega))
        · skip
          refine Wp.n (pc' := 57) 2 rfl ?_
          refine Wp.nc1 (x := l) (y := 8) (tgt := 71) (len := 3) rfl (by omega) (by omega) (fun h57 => ?_) (fun h57 => ?_)
          · exact absurd hl' (by omega)
          · skip
            refine Wp.n (pc' := 64) 2 rfl ?_
            refine Wp.top hmr ?_
            refine Wp.nz0 (x := kh K 11) (tgt := 71) (len := 3) rfl (by omega) (fun h64 => ?_) (fun h64 => ?_)
            · exact absurd hl' (by omega)
            · skip
              refine Wp.n (pc' := 76) 4 rfl ?_
              refine Wp.nz0 (x := 1) (tgt := 147) (len := 3) rfl (by omega) (fun h76 => ?_) (fun h76 => ?_)
              · omega
              · skip
                refine Wp.n (pc' := 87) 4 rfl ?_
                refine Wp.imulN (x := 7) (y := l) (len := 1) rfl ?_
                refine Wp.n (pc' := 90) 2 rfl ?_
                refine Wp.ecallS (len := 3) rfl rfl rfl rfl (m_between10 (by omega) (r0_lane hM hl (j := 0) (by decide) (by omega)) (r0_lane hM hl (j := 1) (by decide) (by omega)) (by omega) (by omega) (by omega) (by omega)) ?_
                refine Wp.ifb0 (tgt := 147) (len := 3) rfl (fun h93 => ?_) (fun h93 => ?_)
                · skip
                  refine Wp.incN (x := l) (len := 3) rfl rfl ?_
                  refine Wp.n (pc' := 35) 1 rfl ?_
                  first
                    | exact kt _ hl ⟨hlt.mp h120, h93, h103⟩
                    | exact kf _ hl (fun c => absurd (c.2.1.symm.trans h93) (by decide))
                    | exact kf _ hl (fun c => absurd (c.2.2.symm.trans h103) (by decide))
                    | exact kf _ hl (fun c => absurd (hlt.mpr c.1) (by omega))
                · skip
                  refine Wp.n (pc' := 100) 3 rfl ?_
                  refine Wp.ecallV (len := 3) rfl rfl rfl (rfl) rfl (by decide) rfl (m_isOpen hM ok hl hy) ?_
                  refine Wp.ifb0 (tgt := 147) (len := 3) rfl (fun h103 => ?_) (fun h103 => ?_)
                  · skip
                    refine Wp.incN (x := l) (len := 3) rfl rfl ?_
                    refine Wp.n (pc' := 35) 1 rfl ?_
                    first
                      | exact kt _ hl ⟨hlt.mp h120, h93, h103⟩
                      | exact kf _ hl (fun c => absurd (c.2.1.symm.trans h93) (by decide))
                      | exact kf _ hl (fun c => absurd (c.2.2.symm.trans h103) (by decide))
                      | exact kf _ hl (fun c => absurd (hlt.mpr c.1) (by omega))
                  · skip
                    refine Wp.n (pc' := 114) 4 rfl ?_
                    refine Wp.imulN (x := 7) (y := l) (len := 1) rfl ?_
                    refine Wp.n (pc' := 116) 1 rfl ?_
                    refine Wp.iaddN (x := 7 * l) (y := 2) (len := 1) rfl ?_
                    refine Wp.mialdN (j := (7 * l) + 2) (len := 1) rfl rfl rfl (by omega) ?_
                    refine Wp.top (r0_lane hM hl (j := 2) (by decide) (by omega)) ?_
                    refine Wp.n (pc' := 120) 1 rfl ?_
                    refine Wp.nc2 (x := kl K l 2) (y := lst K cur) (tgt := 126) (len := 3) rfl (by omega) (by omega) (fun h120 => ?_) (fun h120 => ?_)
                    · skip
                      refine Wp.n (pc' := 130) 2 rfl ?_
                      refine Wp.iaddN (x := 20) (y := l) (len := 1) rfl ?_
                      refine Wp.n (pc' := 141) 5 rfl ?_
                      refine Wp.imulN (x := 7) (y := l) (len := 1) rfl ?_
                      refine Wp.n (pc' := 143) 1 rfl ?_
                      refine Wp.iaddN (x := 7 * l) (y := 2) (len := 1) rfl ?_
                      refine Wp.mialdN (j := (7 * l) + 2) (len := 1) rfl rfl rfl (by omega) ?_
                      refine Wp.top (r0_lane hM hl (j := 2) (by decide) (by omega)) ?_
                      refine Wp.n (pc' := 147) 1 rfl ?_
                      refine Wp.incN (x := l) (len := 3) rfl rfl ?_
                      refine Wp.n (pc' := 35) 1 rfl ?_
                      first
                        | exact kt _ hl ⟨hlt.mp h120, h93, h103⟩
                        | exact kf _ hl (fun c => absurd (c.2.1.symm.trans h93) (by decide))
                        | exact kf _ hl (fun c => absurd (c.2.2.symm.trans h103) (by decide))
                        | exact kf _ hl (fun c => absurd (hlt.mpr c.1) (by omega))
                    · skip
                      refine Wp.n (pc' := 147) 1 rfl ?_
                      refine Wp.incN (x := l) (len := 3) rfl rfl ?_
                      refine Wp.n (pc' := 35) 1 rfl ?_
                      first
                        | exact kt _ hl ⟨hlt.mp h120, h93, h103⟩
                        | exact kf _ hl (fun c => absurd (c.2.1.symm.trans h93) (by decide))
                        | exact kf _ hl (fun c => absurd (c.2.2.symm.trans h103) (by decide))
                        | exact kf _ hl (fun c => absurd (hlt.mpr c.1) (by omega))
    · have hl' : ¬ (l < kh K 3 ∨ (l = 8 ∧ kh K 11 = 1)) := hl
      refine Wp.n (pc' := 39) 2 rfl ?_
      refine Wp.nc4 (x := l) (y := 8) (tgt := 153) (len := 3) rfl (by omega) (by omega) (fun h39 => ?_) (fun h39 => ?_)
      · omega
      · skip
        refine Wp.n (pc' := 49) 4 rfl ?_
        refine Wp.mialdN (j := 3) (len := 1) rfl rfl rfl (by omega) ?_
        refine Wp.top (r0_has hM (by decide)) ?_
        refine Wp.nc2 (x := l) (y := kh K 3) (tgt := 67) (len := 3) rfl (by omega) (by omega) (fun h50 => ?_) (fun h50 => ?_)
        · omega
        · skip
          refine Wp.n (pc' := 57) 2 rfl ?_
          refine Wp.nc1 (x := l) (y := 8) (tgt := 71) (len := 3) rfl (by omega) (by omega) (fun h57 => ?_) (fun h57 => ?_)
          · skip
            refine Wp.n (pc' := 76) 3 rfl ?_
            refine Wp.nz0 (x := 0) (tgt := 147) (len := 3) rfl (by omega) (fun h76 => ?_) (fun h76 => ?_)
            · skip
              refine Wp.incN (x := l) (len := 3) rfl rfl ?_
              refine Wp.n (pc' := 35) 1 rfl ?_
              exact kn _ hl
            · omega
          · skip
            refine Wp.n (pc' := 64) 2 rfl ?_
            refine Wp.top hmr ?_
            refine Wp.nz0 (x := kh K 11) (tgt := 71) (len := 3) rfl (by omega) (fun h64 => ?_) (fun h64 => ?_)
            · skip
              refine Wp.n (pc' := 76) 3 rfl ?_
              refine Wp.nz0 (x := 0) (tgt := 147) (len := 3) rfl (by omega) (fun h76 => ?_) (fun h76 => ?_)
              · skip
                refine Wp.incN (x := l) (len := 3) rfl rfl ?_
                refine Wp.n (pc' := 35) 1 rfl ?_
                exact kn _ hl
              · omega
            · exact absurd (Or.inr ⟨h57, by omega⟩) hl'

theorem m_joined (hM : RepM σ 0 K) (hmr : σ.1 25 = nI (kh K 11)) (ok : KOK K) {a b y : Nat} (ha : a < 7) (hb : b < 7) (hy : y < 31) : Ev (d + 2) md_197 0 [some (.ref 287), some (.int (nI a)), some (.int (nI b)), some (.int (nI y)), none, none, none, none] [] (mset M σ) (some (.int (oI (joinK K a b y))), mset M σ) := by
  refine Wp.toEv ?_
  obtain ⟨b0, b1, b2, b3, b4, b5, b6, b7, b8, b9, b10, b11, b12⟩ := ok_h ok
  refine Wp.n (pc' := 3) 3 rfl ?_
  refine Wp.ecallV (len := 3) rfl rfl rfl rfl rfl (by decide) rfl (m_roadOf hM ok ha hb) ?_
  rw [← joinK_m ok]
  have w := m_joined_l (d := d) (M := M) hM hmr ok ha hb hy 9 0 (roadK K a b) none (by omega) (fun j hj => Or.inl (roadK_v hj).1)
  cases hrd : roadK K a b with
  | none =>
    rw [hrd] at w
    refine Wp.n (pc' := 11) 3 rfl ?_
    refine Wp.ic1 (tgt := 19) (len := 3) rfl (fun h11 => ?_) (fun h11 => ?_)
    · exact absurd rfl h11
    · skip
      refine Wp.n (pc' := 35) 5 rfl ?_
      exact w
  | some j =>
    rw [hrd] at w
    have hj := (roadK_v hrd).1
    have e3 : lst K (some j) = kr K j 2 := by
      show spanJ K j = _
      unfold spanJ
      rw [if_pos (by omega)]
    rw [e3] at w
    refine Wp.n (pc' := 11) 3 rfl ?_
    refine Wp.ic1 (tgt := 19) (len := 3) rfl (fun h11 => ?_) (fun h11 => ?_)
    · skip
      refine Wp.n (pc' := 26) 4 rfl ?_
      refine Wp.imulN (x := 3) (y := j) (len := 1) rfl ?_
      refine Wp.n (pc' := 28) 1 rfl ?_
      refine Wp.iaddN (x := 3 * j) (y := 2) (len := 1) rfl ?_
      refine Wp.mialdN (j := (3 * j) + 2) (len := 1) rfl rfl rfl (by omega) ?_
      refine Wp.top (r0_road hM hj (j := 2) (by decide) (by omega)) ?_
      refine Wp.n (pc' := 35) 3 rfl ?_
      exact w
    · exact absurd h11 (oI_ne (by omega))

theorem m_longOf (hM : RepM σ 0 K) (ok : KOK K) {j : Nat} (hj : JV K j) : Ev d md_208 0 [some (.ref 287), some (.int (nI j))] [] (mset M σ) (some (.int (nI (spanJ K j))), mset M σ) := by
  refine Wp.toEv ?_
  obtain ⟨b0, b1, b2, b3, b4, b5, b6, b7, b8, b9, b10, b11, b12⟩ := ok_h ok
  have hj8 : j < 12 ∨ (20 ≤ j ∧ j - 20 ≤ 8) := by unfold JV LV at hj; omega
  have hr : j < 20 → j < kh K 2 := by unfold JV at hj; omega
  have hl : 20 ≤ j → LV K (j - 20) := fun h => by
    rcases hj with q | q
    · omega
    · exact q.2
  unfold spanJ
  refine Wp.n (pc' := 3) 2 rfl ?_
  refine Wp.nc3 (x := j) (y := 20) (tgt := 19) (len := 3) rfl (by omega) (by omega) (fun h3 => ?_) (fun h3 => ?_)
  · skip
    refine Wp.n (pc' := 28) 5 rfl ?_
    refine Wp.isubN (x := j) (y := 20) (len := 1) rfl (by omega) ?_
    refine Wp.imulN (x := 7) (y := j - 20) (len := 1) rfl ?_
    refine Wp.n (pc' := 31) 1 rfl ?_
    refine Wp.iaddN (x := 7 * (j - 20)) (y := 2) (len := 1) rfl ?_
    refine Wp.mialdN (j := (7 * (j - 20)) + 2) (len := 1) rfl rfl rfl (by omega) ?_
    refine Wp.top (r0_lane hM (hl h3) (j := 2) (by decide) (by omega)) ?_
    refine Wp.retI (len := 1) rfl rfl ?_
    first | (rw [if_pos (by omega)]; exact ⟨rfl, rfl⟩) | (rw [if_neg (by omega)]; exact ⟨rfl, rfl⟩)
  · skip
    refine Wp.n (pc' := 12) 4 rfl ?_
    refine Wp.imulN (x := 3) (y := j) (len := 1) rfl ?_
    refine Wp.n (pc' := 14) 1 rfl ?_
    refine Wp.iaddN (x := 3 * j) (y := 2) (len := 1) rfl ?_
    refine Wp.mialdN (j := (3 * j) + 2) (len := 1) rfl rfl rfl (by omega) ?_
    refine Wp.top (r0_road hM (hr h3) (j := 2) (by decide) (by omega)) ?_
    refine Wp.n (pc' := 33) 1 rfl ?_
    refine Wp.retI (len := 1) rfl rfl ?_
    first | (rw [if_pos (by omega)]; exact ⟨rfl, rfl⟩) | (rw [if_neg (by omega)]; exact ⟨rfl, rfl⟩)

end JOINED
