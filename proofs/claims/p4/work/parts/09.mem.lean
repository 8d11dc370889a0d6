/-! Memory instructions. -/
section STEPM
variable {p : Program} {l : Launch} {e : Env} {R : Room} {s : State} {m : MethodId} {args : Array Value} {below : List Frame} {meth : Method} {c : Code} {H : Heap} {locs : List Loc} {cells slots : Nat} {Q : State → Prop}
variable {G : SG} {sc : Nat × (Nat → Int32)} {adV : Nat → Nat} {X : MD} {pc len : Nat} {ls : Array Slot} {ll : AL} {st st' : List Value} {M M' : AM}
theorem HR.upd {k : Nat} {e : AE} {H1 : Heap} {locs1 : List Loc} (h : HR G sc s M H locs) (h1 : 32 ≤ k) (h2 : k - 32 < cnt M 0) (he : ∀ t n x, e = .inl (t, n, x) → t < 7) (hP : va_P G.2.2.2 vwCl ((lay G M).set (k - 32) (ad G k, ce G e)) H1) (hS : va_S (fun q => G.1 ≤ q) s.heap H1 locs1) : HR G sc s (va_up M k e) H1 locs1 := by
  rw [lay_upd h1 h2] at hP
  exact ⟨hP, hS, h.2.2.up h1 h2 he⟩
theorem map_up (f : Nat → Option Nat) (i v : Nat) : (fun q => (va_up f i (some v) q).map (ad G)) = va_up (fun q => (f q).map (ad G)) i (some (ad G v)) := by
  funext q
  by_cases hq : q = i
  · subst hq
    rw [va_up_self, va_up_self]
    rfl
  · rw [va_up_ne _ _ hq, va_up_ne _ _ hq]
theorem tag_ty {t : Nat} (h4 : 4 ≤ t) (h6 : t ≤ 6) : (tysA G)[t]? = some (G.2.2.1 t, .object (cnm (tag_cls t))) := by
  match t, h4, h6 with
  | 4, _, _ => rfl
  | 5, _, _ => rfl
  | 6, _, _ => rfl
/-- where a new cell lies: just behind those that are there -/
theorem new_at {q : Nat} {e : va_E} {T : State} {N0 : Nat} (hsz : s.heap.size = G.1 + N0) (hN : N0 ≤ cnt M 0) (hD : va_D (fun q => G.1 ≤ q) (lay G M ++ [(q, e)])) (hP : va_P G.2.2.2 vwCl (lay G M ++ [(q, e)]) T.heap) (hT : T.heap.size ≤ s.heap.size + (cnt M 0 - N0 + 1)) : q = G.1 + cnt M 0 := by
  have hl : (lay G M ++ [(q, e)])[cnt M 0]? = some (q, e) := by
    rw [List.getElem?_append_right (by rw [lay_len]; exact Nat.le_refl _), lay_len, Nat.sub_self]
    rfl
  have h1 : G.1 ≤ q := hD.2 _ _ hl
  have h2 : q < T.heap.size := (hP _ _ hl).lt
  by_cases h3 : q < G.1 + cnt M 0
  · exfalso
    have hk : q - G.1 < cnt M 0 := by omega
    have h4 : (lay G M ++ [(q, e)])[q - G.1]? = some (G.1 + (q - G.1), ce G (M (32 + (q - G.1)))) := by
      rw [List.getElem?_append_left (by rw [lay_len]; exact hk), lay_get hk]
    have := hD.1 _ _ _ _ h4 hl (show G.1 + (q - G.1) = q by omega)
    omega
  · omega
theorem HR.new {q : Nat} {e : AE} {sz : Nat} {H1 : Heap} (h : HR G sc s M H locs) (he : ∀ t n x, e = .inl (t, n, x) → t < 7) (hq : q = G.1 + cnt M 0) (hP : va_P G.2.2.2 vwCl (lay G M ++ [(q, ce G e)]) H1) (hS : va_S (fun q => G.1 ≤ q) s.heap H1 locs) : HR G sc s (mnew M e sz) H1 locs := by
  subst hq
  rw [← lay_push G M e sz] at hP
  exact ⟨hP, hS, h.2.2.new he⟩
theorem new_ref (G : SG) (M : AM) : cv G (.ref (32 + cnt M 0)) = .ref (G.1 + cnt M 0) := by
  show Value.ref (ad G (32 + cnt M 0)) = _
  rw [ad_ge (by omega), show 32 + cnt M 0 - 32 = cnt M 0 by omega]
/-- the array class of a new array is the known one -/
theorem newa_cls {cA : ClassId} {ty : FieldType} {t : Nat} (hK : va_K G.2.2.2 vwCl (tysA G) s) (ht : (tysA G)[t]? = some (G.2.2.1 t, ty)) (hK1 : va_K G.2.2.2 vwCl (tysA G ++ [(cA, ty)]) s) : cA = G.2.2.1 t := by
  have h1 := (hK.2 t _ ht).2
  have h2 := (hK1.2 7 (cA, ty) rfl).2
  cases ty with
  | object C =>
    obtain ⟨kA, comp, -, -, -, a4⟩ := h1
    obtain ⟨kB, compB, -, -, -, b4⟩ := h2
    exact Option.some.inj (b4.symm.trans a4)
  | _ => exact Option.some.inj (h2.symm.trans h1)
/-- the one int array that isn't the machine's own is the script -/
theorem Wf.scr (h : Wf sc M) {q t n : Nat} {x : ADt} (hM : M q = .inl (t, n, x)) (ht : ¬ t < 7) (h8 : t ≠ 8) : q = 2 ∧ t = 7 ∧ n = sc.1 ∧ x = .inl sc.2 := by
  obtain ⟨⟨n0, h0⟩, ⟨n1, h1⟩, h2, h3, h4, h5, h6⟩ := h
  by_cases a : 32 ≤ q
  · exact absurd (h6 q t n _ a hM) ht
  · by_cases a0 : q = 0
    · subst a0; rw [hM] at h0; cases h0
    by_cases a1 : q = 1
    · subst a1; rw [hM] at h1; cases h1
    by_cases a2 : q = 2
    · subst a2
      rw [hM] at h2
      injection h2 with h2
      exact ⟨rfl, congrArg Prod.fst h2, congrArg (fun z => z.2.1) h2, congrArg (fun z => z.2.2) h2⟩
    by_cases a3 : q < 24
    · have := h3 (q - 3) (by omega)
      rw [show 3 + (q - 3) = q by omega, hM] at this
      injection this with this
      exact absurd (congrArg Prod.fst this) h8
    · have := h4 q (by omega) (by omega)
      rw [hM] at this; cases this
theorem HR.any (h : HR G sc s M H locs) {v ci : Nat} {fs : List Value} (v32 : 32 ≤ v) (hMv : M v = .inr (ci, fs)) (hne : ci ≠ 99) : v - 32 < cnt M 0 ∧ (lay G M)[v - 32]? = some (ad G v, .inr (ci, fs.map (cv G))) := by
  have hv2 : v - 32 < cnt M 0 := by
    by_cases hz : v - 32 < cnt M 0
    · exact hz
    · have := h.2.2.2.2.2.2.2.1 v (by omega)
      rw [hMv] at this
      injection this with this
      exact absurd (congrArg Prod.fst this) hne
  refine ⟨hv2, ?_⟩
  rw [lay_get hv2, ad_ge v32, show 32 + (v - 32) = v by omega, hMv]
  rfl
set_option maxHeartbeats 2000000 in
theorem w_mstep {i : Instr} {N0 S0 : Nat} (F : FRm G sc adV X p s m args meth c) (hH : HR G sc s M H locs) (hd : decode (md_b X) pc = .ok (i, len)) (hlen : (match (generalizing := false) i with | .newarray _ => Nat.beq len 2 | _ => Nat.beq len 1) = true) (hp : mstep i st M = some (st', M')) (hsz : s.heap.size = G.1 + N0) (hN : N0 ≤ cnt M 0) (hS0 : S0 ≤ cnt M 1) (hRc : cnt M' 0 - N0 ≤ R.cells) (hRs : cnt M' 1 - S0 ≤ R.slots)
    (k : ∀ (H' : Heap) (locs' : List Loc), HR G sc s M' H' locs' → cnt M 0 ≤ cnt M' 0 → cnt M 1 ≤ cnt M' 1 → W p l e R s m args below meth c H' locs' (cnt M' 0 - N0) (cnt M' 1 - S0) Q (F0 m (pc + len) ls (st'.map (cv G)))) : W p l e R s m args below meth c H locs (cnt M 0 - N0) (cnt M 1 - S0) Q (F0 m pc ls (st.map (cv G))) := by
  obtain ⟨hx, hb, hml, hown, hts, hin, hK, hO, hG⟩ := F
  unfold mstep at hp
  split at hp
  · -- iaload
    rename_i j q r
    have hl : len = 1 := (Nat.eq_of_beq_eq_true hlen)
    subst hl
    split at hp
    · rename_i t n f hM
      cases hb1 : ((Nat.beq t 0 || Nat.beq t 7) && ain j n) with
      | false => rw [hb1] at hp; cases hp
      | true =>
        rw [hb1] at hp
        cases hp
        rw [Bool.and_eq_true, Bool.or_eq_true] at hb1
        rcases hb1.1 with ht | ht
        · have ht := Nat.eq_of_beq_eq_true ht
          subst ht
          obtain ⟨g1, g2, g3⟩ := hH.arr hM (by omega)
          exact va_iald hx hb hK hH.1 (q - 32) 0 g3 rfl (ain_to hb1.2) hd (k H locs hH (Nat.le_refl _) (Nat.le_refl _))
        · have ht := Nat.eq_of_beq_eq_true ht
          subst ht
          obtain ⟨rfl, -, rfl, ef⟩ := hH.2.2.scr hM (by omega) (by omega)
          injection ef with ef
          subst ef
          exact va_sld (b := G.2.1 2) hx hb hO.1 (by have := hO.2.1; omega) (by have := hO.2.1; show ¬ G.1 ≤ _; omega) hH.2.1 (ain_to hb1.2) hd (k H locs hH (Nat.le_refl _) (Nat.le_refl _))
    · cases hp
  · -- baload
    rename_i j q r
    have hl : len = 1 := (Nat.eq_of_beq_eq_true hlen)
    subst hl
    split at hp
    · rename_i t n f hM
      cases hb1 : ((Nat.beq t 2 || Nat.beq t 3) && ain j n) with
      | false => rw [hb1] at hp; cases hp
      | true =>
        rw [hb1] at hp
        cases hp
        rw [Bool.and_eq_true, Bool.or_eq_true] at hb1
        rcases hb1.1 with ht | ht
        · have ht := Nat.eq_of_beq_eq_true ht
          subst ht
          obtain ⟨g1, g2, g3⟩ := hH.arr hM (by omega)
          exact va_bald hx hb hK hH.1 (q - 32) 2 g3 rfl (ain_to hb1.2) hd (k H locs hH (Nat.le_refl _) (Nat.le_refl _))
        · have ht := Nat.eq_of_beq_eq_true ht
          subst ht
          obtain ⟨g1, g2, g3⟩ := hH.arr hM (by omega)
          exact va_zald hx hb hK hH.1 (q - 32) 3 g3 rfl (ain_to hb1.2) hd (k H locs hH (Nat.le_refl _) (Nat.le_refl _))
    · cases hp
  · -- laload
    rename_i j q r
    have hl : len = 1 := (Nat.eq_of_beq_eq_true hlen)
    subst hl
    split at hp
    · rename_i t n f hM
      cases hb1 : (Nat.beq t 1 && ain j n) with
      | false => rw [hb1] at hp; cases hp
      | true =>
        rw [hb1] at hp
        cases hp
        rw [Bool.and_eq_true] at hb1
        have ht := Nat.eq_of_beq_eq_true hb1.1
        subst ht
        obtain ⟨g1, g2, g3⟩ := hH.arr hM (by omega)
        exact va_lald hx hb hK hH.1 (q - 32) 1 g3 rfl (ain_to hb1.2) hd (k H locs hH (Nat.le_refl _) (Nat.le_refl _))
    · cases hp
  · -- aaload
    rename_i j q r
    have hl : len = 1 := (Nat.eq_of_beq_eq_true hlen)
    subst hl
    split at hp
    · rename_i t n f hM
      cases hb1 : (Nat.ble 4 t && Nat.ble t 6 && ain j n) with
      | false => rw [hb1] at hp; cases hp
      | true =>
        rw [hb1] at hp
        cases hp
        rw [Bool.and_eq_true, Bool.and_eq_true] at hb1
        have t4 := Nat.le_of_ble_eq_true hb1.1.1
        have t6 := Nat.le_of_ble_eq_true hb1.1.2
        obtain ⟨g1, g2, g3⟩ := hH.arr hM (by omega)
        have k1 := k H locs hH (Nat.le_refl _) (Nat.le_refl _)
        rw [List.map_cons, va_rf_cv] at k1
        exact va_aldq hx hb hK hH.1 (q - 32) t g3 (tag_ty t4 t6) (ain_to hb1.2) hd k1
    · cases hp
  · -- iastore
    rename_i x j q r
    have hl : len = 1 := (Nat.eq_of_beq_eq_true hlen)
    subst hl
    split at hp
    · rename_i t n f hM
      cases hb1 : (Nat.beq t 0 && ain j n) with
      | false => rw [hb1] at hp; cases hp
      | true =>
        rw [hb1] at hp
        cases hp
        rw [Bool.and_eq_true] at hb1
        have ht := Nat.eq_of_beq_eq_true hb1.1
        subst ht
        obtain ⟨g1, g2, g3⟩ := hH.arr hM (by omega)
        have hc0 : cnt (va_up M q (.inl (0, n, .inl (upd f j.toNatClampNeg x)))) 0 = cnt M 0 := cnt_up (by omega)
        have hc1 : cnt (va_up M q (.inl (0, n, .inl (upd f j.toNatClampNeg x)))) 1 = cnt M 1 := cnt_up (by omega)
        refine va_iast hx hb hK hH.1 (lay_D G M) hH.2.1 (q - 32) 0 g3 rfl (ain_to hb1.2) hd (fun H1 locs1 hP1 _ hS1 => ?_)
        have k1 := k H1 locs1 (hH.upd g1 g2 (fun t n x h => by cases h; omega) hP1 hS1) (by rw [hc0]; exact Nat.le_refl _) (by rw [hc1]; exact Nat.le_refl _)
        rw [hc0, hc1] at k1
        exact k1
    · cases hp
  · -- bastore
    rename_i x j q r
    have hl : len = 1 := (Nat.eq_of_beq_eq_true hlen)
    subst hl
    split at hp
    · rename_i t n f hM
      cases hb1 : ((Nat.beq t 2 || Nat.beq t 3) && ain j n) with
      | false => rw [hb1] at hp; cases hp
      | true =>
        rw [hb1] at hp
        cases hp
        rw [Bool.and_eq_true, Bool.or_eq_true] at hb1
        rcases hb1.1 with ht | ht
        · have ht := Nat.eq_of_beq_eq_true ht
          subst ht
          obtain ⟨g1, g2, g3⟩ := hH.arr hM (by omega)
          have hc0 : cnt (va_up M q (.inl (2, n, .inl (upd f j.toNatClampNeg (anar 2 x))))) 0 = cnt M 0 := cnt_up (by omega)
          have hc1 : cnt (va_up M q (.inl (2, n, .inl (upd f j.toNatClampNeg (anar 2 x))))) 1 = cnt M 1 := cnt_up (by omega)
          refine va_bast hx hb hK hH.1 (lay_D G M) hH.2.1 (q - 32) 2 g3 rfl (ain_to hb1.2) hd (fun H1 locs1 hP1 _ hS1 => ?_)
          have k1 := k H1 locs1 (hH.upd g1 g2 (fun t n x h => by cases h; omega) hP1 hS1) (by rw [hc0]; exact Nat.le_refl _) (by rw [hc1]; exact Nat.le_refl _)
          rw [hc0, hc1] at k1
          exact k1
        · have ht := Nat.eq_of_beq_eq_true ht
          subst ht
          obtain ⟨g1, g2, g3⟩ := hH.arr hM (by omega)
          have hc0 : cnt (va_up M q (.inl (3, n, .inl (upd f j.toNatClampNeg (anar 3 x))))) 0 = cnt M 0 := cnt_up (by omega)
          have hc1 : cnt (va_up M q (.inl (3, n, .inl (upd f j.toNatClampNeg (anar 3 x))))) 1 = cnt M 1 := cnt_up (by omega)
          refine va_zast hx hb hK hH.1 (lay_D G M) hH.2.1 (q - 32) 3 g3 rfl (ain_to hb1.2) hd (fun H1 locs1 hP1 _ hS1 => ?_)
          have k1 := k H1 locs1 (hH.upd g1 g2 (fun t n x h => by cases h; omega) hP1 hS1) (by rw [hc0]; exact Nat.le_refl _) (by rw [hc1]; exact Nat.le_refl _)
          rw [hc0, hc1] at k1
          exact k1
    · cases hp
  · -- lastore
    rename_i x j q r
    have hl : len = 1 := (Nat.eq_of_beq_eq_true hlen)
    subst hl
    split at hp
    · rename_i t n f hM
      cases hb1 : (Nat.beq t 1 && ain j n) with
      | false => rw [hb1] at hp; cases hp
      | true =>
        rw [hb1] at hp
        cases hp
        rw [Bool.and_eq_true] at hb1
        have ht := Nat.eq_of_beq_eq_true hb1.1
        subst ht
        obtain ⟨g1, g2, g3⟩ := hH.arr hM (by omega)
        have hc0 : cnt (va_up M q (.inl (1, n, .inr (.inl (vp_updL f j.toNatClampNeg x))))) 0 = cnt M 0 := cnt_up (by omega)
        have hc1 : cnt (va_up M q (.inl (1, n, .inr (.inl (vp_updL f j.toNatClampNeg x))))) 1 = cnt M 1 := cnt_up (by omega)
        refine va_last hx hb hK hH.1 (lay_D G M) hH.2.1 (q - 32) 1 g3 rfl (ain_to hb1.2) hd (fun H1 locs1 hP1 _ hS1 => ?_)
        have k1 := k H1 locs1 (hH.upd g1 g2 (fun t n x h => by cases h; omega) hP1 hS1) (by rw [hc0]; exact Nat.le_refl _) (by rw [hc1]; exact Nat.le_refl _)
        rw [hc0, hc1] at k1
        exact k1
    · cases hp
  · -- aastore
    rename_i v j q r
    have hl : len = 1 := (Nat.eq_of_beq_eq_true hlen)
    subst hl
    split at hp
    · rename_i t n f ci fs hM hMv
      cases hb1 : (Nat.ble 4 t && Nat.ble t 6 && Nat.beq ci (tag_cls t) && Nat.ble 32 v && ain j n) with
      | false => rw [hb1] at hp; cases hp
      | true =>
        rw [hb1] at hp
        cases hp
        simp only [Bool.and_eq_true] at hb1
        obtain ⟨⟨⟨⟨b1, b2⟩, b3⟩, b5⟩, b4⟩ := hb1
        have t4 := Nat.le_of_ble_eq_true b1
        have t6 := Nat.le_of_ble_eq_true b2
        have v32 := Nat.le_of_ble_eq_true b5
        have hci := Nat.eq_of_beq_eq_true b3
        obtain ⟨g1, g2, g3⟩ := hH.arr hM (by omega)
        obtain ⟨-, g4⟩ := hH.any v32 hMv (by
          rw [hci]
          match t, t4, t6 with
          | 4, _, _ => decide
          | 5, _, _ => decide
          | 6, _, _ => decide)
        have hcl : vwCl[ci]? = some (cnm (tag_cls t), fTX (tag_cls t), fN (tag_cls t)) := by
          rw [hci]
          match t, t4, t6 with
          | 4, _, _ => rfl
          | 5, _, _ => rfl
          | 6, _, _ => rfl
        have hc0 : cnt (va_up M q (.inl (t, n, .inr (.inr (.inr (.inr (va_up f j.toNatClampNeg (some v)))))))) 0 = cnt M 0 := cnt_up (by omega)
        have hc1 : cnt (va_up M q (.inl (t, n, .inr (.inr (.inr (.inr (va_up f j.toNatClampNeg (some v)))))))) 1 = cnt M 1 := cnt_up (by omega)
        refine va_astq hx hb hK hH.1 (lay_D G M) hH.2.1 (q - 32) t (v - 32) ci g3 (r := (cnm (tag_cls t), fTX (tag_cls t), fN (tag_cls t))) (tag_ty t4 t6) g4 hcl (ain_to b4) hd (fun H1 locs1 hP1 _ hS1 => ?_)
        have k1 := k H1 locs1 (hH.upd (e := .inl (t, n, .inr (.inr (.inr (.inr (va_up f j.toNatClampNeg (some v))))))) g1 g2 (fun t n x h => by cases h; omega) (by
          show va_P _ _ ((lay G M).set (q - 32) (ad G q, .inl (G.2.2.1 t, n, .inr (.inr (.inr (.inr (fun z => (va_up f j.toNatClampNeg (some v) z).map (ad G)))))))) H1
          rw [map_up]
          exact hP1) hS1) (by rw [hc0]; exact Nat.le_refl _) (by rw [hc1]; exact Nat.le_refl _)
        rw [hc0, hc1] at k1
        exact k1
    · cases hp
  · -- arraylength
    rename_i q r
    have hl : len = 1 := (Nat.eq_of_beq_eq_true hlen)
    subst hl
    split at hp
    · rename_i t n y hM
      cases hb1 : Nat.beq t 8 with
      | true => rw [hb1] at hp; cases hp
      | false =>
        rw [hb1] at hp
        cases hp
        have ht8 : t ≠ 8 := fun q => by subst q; cases hb1
        by_cases ht : t < 7
        · obtain ⟨g1, g2, g3⟩ := hH.arr hM ht
          have hty : ∃ ty, (tysA G)[t]? = some (G.2.2.1 t, ty) := by
            match t, ht with
            | 0, _ => exact ⟨_, rfl⟩ | 1, _ => exact ⟨_, rfl⟩ | 2, _ => exact ⟨_, rfl⟩ | 3, _ => exact ⟨_, rfl⟩ | 4, _ => exact ⟨_, rfl⟩ | 5, _ => exact ⟨_, rfl⟩ | 6, _ => exact ⟨_, rfl⟩
          obtain ⟨ty, hty⟩ := hty
          exact va_alen hx hb hK hH.1 (q - 32) t g3 hty (v := Int32.ofNat n) rfl hd (k H locs hH (Nat.le_refl _) (Nat.le_refl _))
        · obtain ⟨rfl, rfl, rfl, -⟩ := hH.2.2.scr hM ht ht8
          exact va_slen (b := G.2.1 2) hx hb hO.1 (by have := hO.2.1; omega) (by have := hO.2.1; show ¬ G.1 ≤ _; omega) hH.2.1 hd (k H locs hH (Nat.le_refl _) (Nat.le_refl _))
    · cases hp
  · -- newarray
    rename_i ty n r
    have hl : len = 2 := (Nat.eq_of_beq_eq_true hlen)
    subst hl
    cases hb1 : (decide (n < 0) || Nat.blt 100000 n.toNatClampNeg) with
    | true => rw [hb1] at hp; cases hp
    | false =>
      rw [hb1] at hp
      rw [Bool.or_eq_false_iff] at hb1
      have hn0 : ¬ n < 0 := of_decide_eq_false hb1.1
      have hnb : n.toNatClampNeg ≤ 100000 := by
        have := hb1.2
        by_cases hz : n.toNatClampNeg ≤ 100000
        · exact hz
        · rw [show Nat.blt 100000 n.toNatClampNeg = true from Nat.ble_eq_true_of_le (by omega)] at this
          cases this
      have fin : ∀ (t : Nat) (x : ADt) (fty : FieldType), t < 7 → newarray.typeOf ty = fty → (Jvm.Cond.arrayClass (newarray.typeOf ty)).before args s = true → (∀ cA : ClassId, vp_cell cA (n.toNatClampNeg, x) = arrV cA n.toNatClampNeg (fun _ => defaultValue fty)) → cdt G x = x → componentBytes fty ≤ 8 → (tysA G)[t]? = some (G.2.2.1 t, fty) → some (Value.ref (32 + cnt M 0) :: r, mnew M (.inl (t, n.toNatClampNeg, x)) n.toNatClampNeg) = some (st', M') → W p l e R s m args below meth c H locs (cnt M 0 - N0) (cnt M 1 - S0) Q (F0 m pc ls ((Value.int n :: r).map (cv G))) := by
        intro t x fty ht7 hfty harr hcell hcdt hcb hty he
        cases he
        have e0 : cnt (mnew M (.inl (t, n.toNatClampNeg, x)) n.toNatClampNeg) 0 - N0 = cnt M 0 - N0 + 1 := by rw [cnt_new0]; omega
        have e1 : cnt (mnew M (.inl (t, n.toNatClampNeg, x)) n.toNatClampNeg) 1 - S0 = cnt M 1 - S0 + n.toNatClampNeg := by rw [cnt_new1]; omega
        rw [e0] at hRc
        rw [e1] at hRs
        have hby : n.toNatClampNeg * componentBytes fty ≤ 536870912 := by
          have := Nat.mul_le_mul hnb hcb
          omega
        refine va_newa hx hb harr hfty hK hH.1 (lay_D G M) hH.2.1 (fun q hq => by show G.1 ≤ q; omega) (a0 := (n.toNatClampNeg, x)) hcell hn0 rfl hby hRc hRs hd (fun q cA H1 hK1 hP1 hD1 hS1 => ?_)
        have hcA := newa_cls hK hty hK1
        subst hcA
        have hce : ce G (.inl (t, n.toNatClampNeg, x)) = .inl (G.2.2.1 t, n.toNatClampNeg, x) := by
          show (Sum.inl (G.2.2.1 t, n.toNatClampNeg, cdt G x) : va_E) = _
          rw [hcdt]
        intro T hT XX
        have hq : q = G.1 + cnt M 0 := new_at hsz hN hD1 (by rw [hT]; exact hP1) XX.heapSize
        have k1 := k H1 locs (hH.new (e := .inl (t, n.toNatClampNeg, x)) (fun t n x h => by cases h; exact ht7) hq (by rw [hce]; exact hP1) hS1) (by rw [cnt_new0]; omega) (by rw [cnt_new1]; omega)
        rw [e0, e1, List.map_cons, new_ref] at k1
        subst hq
        exact k1 T hT XX
      dsimp only [cond_false] at hp
      split at hp
      · exact fin 0 _ .int (by omega) rfl (hts _ (t2_in (by decide +kernel) rfl)) (fun cA => rfl) rfl (by decide) rfl hp
      · exact fin 1 _ .long (by omega) rfl (hts _ (t2_in (by decide +kernel) rfl)) (fun cA => rfl) rfl (by decide) rfl hp
      · exact fin 2 _ .byte (by omega) rfl (hts _ (t2_in (by decide +kernel) rfl)) (fun cA => rfl) rfl (by decide) rfl hp
      · exact fin 3 _ .boolean (by omega) rfl (hts _ (t2_in (by decide +kernel) rfl)) (fun cA => rfl) rfl (by decide) rfl hp
      · cases hp
  · cases hp
end STEPM
