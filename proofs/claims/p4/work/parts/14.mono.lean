/-! The memory keeps its shape, and only grows. -/
set_option maxRecDepth 100000 in
theorem tchk_all : mtl.all (fun c => c.2.all (fun q => (md_c q.2).all (fun d => d.2.all (fun i => match i.2.1 with | .inr (.inr (op, a, _, _)) => (bif Nat.beq op 3 then Nat.blt a 7 else true) | _ => true)))) = true := by decide +kernel
section MONO
variable {sc : Nat × (Nat → Int32)} {X : MD} {mm pc pc' len : Nat} {ll ll' : AL} {st st' : List Value} {M M' : AM}
def Grows (sc : Nat × (Nat → Int32)) (M M' : AM) : Prop := Wf sc M' ∧ cnt M 0 ≤ cnt M' 0 ∧ cnt M 1 ≤ cnt M' 1
theorem Grows.rf (h : Wf sc M) : Grows sc M M := ⟨h, Nat.le_refl _, Nat.le_refl _⟩
theorem Grows.tr {M2 : AM} (h1 : Grows sc M M') (h2 : Grows sc M' M2) : Grows sc M M2 := ⟨h2.1, Nat.le_trans h1.2.1 h2.2.1, Nat.le_trans h1.2.2 h2.2.2⟩
theorem Grows.arr (h : Wf sc M) {k t n n' : Nat} {x x' : ADt} (hk : M k = .inl (t, n, x)) (ht : t < 7) : Grows sc M (va_up M k (.inl (t, n', x'))) := by
  obtain ⟨h1, h2⟩ := h.arr hk ht
  refine ⟨h.up h1 h2 (fun t n x q => by cases q; exact ht), ?_, ?_⟩
  · rw [cnt_up (by omega)]; exact Nat.le_refl _
  · rw [cnt_up (by omega)]; exact Nat.le_refl _
theorem Grows.obj (h : Wf sc M) {k ci : Nat} {fs fs' : List Value} (hk : M k = .inr (ci, fs)) (hf : fs ≠ []) : Grows sc M (va_up M k (.inr (ci, fs'))) := by
  obtain ⟨h1, h2⟩ := h.obj hk hf
  refine ⟨h.up h1 h2 (fun t n x q => by cases q), ?_, ?_⟩
  · rw [cnt_up (by omega)]; exact Nat.le_refl _
  · rw [cnt_up (by omega)]; exact Nat.le_refl _
theorem Grows.new (h : Wf sc M) {e : AE} {sz : Nat} (he : ∀ t n x, e = .inl (t, n, x) → t < 7) : Grows sc M (mnew M e sz) := by
  refine ⟨h.new he, ?_, ?_⟩
  · rw [cnt_new0]; omega
  · rw [cnt_new1]; omega
set_option maxHeartbeats 1000000 in
theorem mstep_grows {i : Instr} (h : Wf sc M) (hp : mstep i st M = some (st', M')) : Grows sc M M' := by
  unfold mstep at hp
  split at hp
  · split at hp
    · rename_i t n f hM
      cases hb : ((Nat.beq t 0 || Nat.beq t 7) && ain _ n) <;> rw [hb] at hp <;> first | (cases hp; done) | (cases hp; exact Grows.rf h)
    · cases hp
  · split at hp
    · rename_i t n f hM
      cases hb : ((Nat.beq t 2 || Nat.beq t 3) && ain _ n) <;> rw [hb] at hp <;> first | (cases hp; done) | (cases hp; exact Grows.rf h)
    · cases hp
  · split at hp
    · rename_i t n f hM
      cases hb : (Nat.beq t 1 && ain _ n) <;> rw [hb] at hp <;> first | (cases hp; done) | (cases hp; exact Grows.rf h)
    · cases hp
  · split at hp
    · rename_i t n f hM
      cases hb : (Nat.ble 4 t && Nat.ble t 6 && ain _ n) <;> rw [hb] at hp <;> first | (cases hp; done) | (cases hp; exact Grows.rf h)
    · cases hp
  · split at hp
    · rename_i t n f hM
      cases hb : (Nat.beq t 0 && ain _ n) with
      | false => rw [hb] at hp; cases hp
      | true =>
        rw [hb] at hp
        cases hp
        rw [Bool.and_eq_true] at hb
        have ht := Nat.eq_of_beq_eq_true hb.1
        exact Grows.arr h hM (by omega)
    · cases hp
  · split at hp
    · rename_i t n f hM
      cases hb : ((Nat.beq t 2 || Nat.beq t 3) && ain _ n) with
      | false => rw [hb] at hp; cases hp
      | true =>
        rw [hb] at hp
        cases hp
        rw [Bool.and_eq_true, Bool.or_eq_true] at hb
        rcases hb.1 with ht | ht
        · have ht := Nat.eq_of_beq_eq_true ht
          exact Grows.arr h hM (by omega)
        · have ht := Nat.eq_of_beq_eq_true ht
          exact Grows.arr h hM (by omega)
    · cases hp
  · split at hp
    · rename_i t n f hM
      cases hb : (Nat.beq t 1 && ain _ n) with
      | false => rw [hb] at hp; cases hp
      | true =>
        rw [hb] at hp
        cases hp
        rw [Bool.and_eq_true] at hb
        have ht := Nat.eq_of_beq_eq_true hb.1
        exact Grows.arr h hM (by omega)
    · cases hp
  · split at hp
    · rename_i t n f ci fs hM hMv
      cases hb : (Nat.ble 4 t && Nat.ble t 6 && Nat.beq ci (tag_cls t) && Nat.ble 32 _ && ain _ n) with
      | false => rw [hb] at hp; cases hp
      | true =>
        rw [hb] at hp
        cases hp
        simp only [Bool.and_eq_true] at hb
        have t6 := Nat.le_of_ble_eq_true hb.1.1.1.2
        exact Grows.arr h hM (by omega)
    · cases hp
  · split at hp
    · rename_i t n y hM
      cases hb : Nat.beq t 8 <;> rw [hb] at hp <;> first | (cases hp; done) | (cases hp; exact Grows.rf h)
    · cases hp
  · rename_i ty n r
    cases hb : (decide (n < 0) || Nat.blt 100000 n.toNatClampNeg) with
    | true => rw [hb] at hp; cases hp
    | false =>
      rw [hb, cond_false] at hp
      split at hp
      · cases hp; exact Grows.new h (fun t n x q => by cases q; omega)
      · cases hp; exact Grows.new h (fun t n x q => by cases q; omega)
      · cases hp; exact Grows.new h (fun t n x q => by cases q; omega)
      · cases hp; exact Grows.new h (fun t n x q => by cases q; omega)
      · cases hp
  · cases hp
set_option maxHeartbeats 1000000 in
theorem ostep_grows {swl : List (Nat × Int × List Nat × Nat)} {o op a b : Nat} {ini : Bool} {v : Value} (h : Wf sc M) (ht : (bif Nat.beq op 3 then Nat.blt a 7 else true) = true) (hp : ostep swl o ini op a b v pc len ll st M = some (pc', ll', st', M')) : Grows sc M M' := by
  unfold ostep at hp
  cases h42 : Nat.beq op 42 <;> rw [h42] at hp
  case true => rw [cond_true] at hp; split at hp <;> first | (cases hp; done) | (cases hp; exact Grows.rf h)
  rw [cond_false] at hp
  cases h40 : Nat.beq op 40 <;> rw [h40] at hp
  case true => rw [cond_true] at hp; split at hp <;> first | (cases hp; done) | (cases hp; exact Grows.rf h)
  rw [cond_false] at hp
  cases h0 : Nat.beq op 0 <;> rw [h0] at hp
  case true =>
    rw [cond_true] at hp
    split at hp
    · split at hp
      · rename_i ci fs hM
        cases hc : Nat.beq ci a <;> rw [hc] at hp
        · cases hp
        · rw [cond_true] at hp
          split at hp
          · cases hp; exact Grows.rf h
          · cases hp
      · cases hp
    · cases hp
  rw [cond_false] at hp
  cases h1 : Nat.beq op 1 <;> rw [h1] at hp
  case true =>
    rw [cond_true] at hp
    split at hp
    · split at hp
      · rename_i ci fs hM
        cases hc : (Nat.beq ci a && Nat.blt b fs.length && pfit (fcode a b) _ && (bif (fTX a b).2.2.2 then ini && Nat.beq o a else true)) <;> rw [hc] at hp
        · cases hp
        · cases hp
          simp only [Bool.and_eq_true] at hc
          have hl : b < fs.length := Nat.le_of_ble_eq_true hc.1.1.2
          exact Grows.obj h hM (fun q => by subst q; cases hl)
      · cases hp
    · cases hp
  rw [cond_false] at hp
  cases h43 : Nat.beq op 43 <;> rw [h43] at hp
  case true => rw [cond_true] at hp; split at hp <;> first | (cases hp; done) | (cases hp; exact Grows.rf h)
  rw [cond_false] at hp
  cases h32 : Nat.beq op 32 <;> rw [h32] at hp
  case true => rw [cond_true] at hp; cases hp; exact Grows.rf h
  rw [cond_false] at hp
  cases h46 : Nat.beq op 46 <;> rw [h46] at hp
  case true => rw [cond_true] at hp; split at hp <;> first | (cases hp; done) | (cases hp; exact Grows.rf h)
  rw [cond_false] at hp
  cases h41 : Nat.beq op 41 <;> rw [h41] at hp
  case true => rw [cond_true] at hp; split at hp <;> first | (cases hp; done) | (cases hp; exact Grows.rf h)
  rw [cond_false] at hp
  cases h44 : Nat.beq op 44 <;> rw [h44] at hp
  case true => rw [cond_true] at hp; split at hp <;> first | (cases hp; done) | (cases hp; exact Grows.rf h)
  rw [cond_false] at hp
  cases h45 : Nat.beq op 45 <;> rw [h45] at hp
  case true => rw [cond_true] at hp; split at hp <;> first | (cases hp; done) | (cases hp; exact Grows.rf h)
  rw [cond_false] at hp
  cases h20 : (Nat.ble 20 op && Nat.ble op 25) <;> rw [h20] at hp
  case true => rw [cond_true] at hp; split at hp <;> first | (cases hp; done) | (cases hp; exact Grows.rf h)
  rw [cond_false] at hp
  cases h26 : (Nat.ble 26 op && Nat.ble op 31) <;> rw [h26] at hp
  case true => rw [cond_true] at hp; split at hp <;> first | (cases hp; done) | (cases hp; exact Grows.rf h)
  rw [cond_false] at hp
  cases h33 : Nat.beq op 33 <;> rw [h33] at hp
  case true => rw [cond_true] at hp; split at hp <;> first | (cases hp; done) | (cases hp; exact Grows.rf h)
  rw [cond_false] at hp
  cases h34 : Nat.beq op 34 <;> rw [h34] at hp
  case true => rw [cond_true] at hp; split at hp <;> first | (cases hp; done) | (cases hp; exact Grows.rf h)
  rw [cond_false] at hp
  cases h35 : Nat.beq op 35 <;> rw [h35] at hp
  case true =>
    rw [cond_true] at hp
    split at hp
    · split at hp
      · cases hp; exact Grows.rf h
      · cases hp
    · cases hp
  rw [cond_false] at hp
  cases h2 : Nat.beq op 2 <;> rw [h2] at hp
  case true => rw [cond_true] at hp; cases hp; exact Grows.new h (fun t n x q => by cases q)
  rw [cond_false] at hp
  cases h3 : Nat.beq op 3 <;> rw [h3] at hp
  case true =>
    rw [cond_true] at hp
    rw [h3, cond_true] at ht
    have ha : a < 7 := Nat.le_of_ble_eq_true ht
    split at hp
    · rename_i n r
      cases hb : (decide (n < 0) || Nat.blt 100000 n.toNatClampNeg) <;> rw [hb] at hp
      · cases hp; exact Grows.new h (fun t n x q => by cases q; exact ha)
      · cases hp
    · cases hp
  rw [cond_false] at hp
  cases hp
theorem sstep_grows (hm : mt mm = some X) (h : Wf sc M) (hs : sstep swl X pc ll st M = some (pc', ll', st', M')) : Grows sc M M' := by
  unfold sstep at hs
  split at hs
  · cases hs
  · cases hs; exact Grows.rf h
  · split at hs
    · cases hs; exact Grows.rf h
    · split at hs
      · rename_i hp
        cases hs
        exact mstep_grows h hp
      · cases hs
  · rename_i op a b v len hc
    obtain ⟨c, h1, h2⟩ := lk2_mem hc
    have h4 := lk2_all tchk_all hm
    have h5 := List.all_eq_true.mp (List.all_eq_true.mp h4 c h1) _ h2
    exact ostep_grows h h5 hs
theorem bstep_grows {op : Nat} (h : Wf sc M) (hp : bstep op st M = some (st', M')) : Grows sc M M' := by
  unfold bstep at hp
  cases h10 : Nat.beq op 10 <;> rw [h10] at hp
  case true =>
    rw [cond_true] at hp
    split at hp
    · rename_i r
      cases hb : Nat.ble (List.length _) 4 <;> rw [hb] at hp <;> first | (cases hp; done) | (cases hp; exact Grows.rf h)
    · cases hp
  rw [cond_false] at hp
  cases h7 : Nat.beq op 7 <;> rw [h7] at hp
  case true =>
    rw [cond_true] at hp
    split at hp
    · split at hp
      · rename_i t n y hM
        cases hb : (Nat.beq t 8 && Nat.ble (List.length _) 4) <;> rw [hb] at hp <;> first | (cases hp; done) | (cases hp; exact Grows.rf h)
      · cases hp
    · cases hp
  rw [cond_false] at hp
  cases h8 : Nat.beq op 8 <;> rw [h8] at hp
  case true =>
    rw [cond_true] at hp
    split at hp
    · split at hp
      · rename_i t n f hM
        cases hb : (Nat.beq t 8 && ain _ n && Nat.ble (List.length _) 4) <;> rw [hb] at hp <;> first | (cases hp; done) | (cases hp; exact Grows.rf h)
      · cases hp
    · cases hp
  rw [cond_false] at hp
  cases h9 : Nat.beq op 9 <;> rw [h9] at hp
  case true =>
    rw [cond_true] at hp
    split at hp
    · rename_i n dp k sp k0 r
      cases hb : (decide (n < 0) || decide (dp < 0) || decide (sp < 0) || Nat.blt 4 r.length) <;> rw [hb] at hp
      case true => cases hp
      rw [cond_false] at hp
      split at hp
      · rename_i t0 n0 f t1 n1 g hM0 hM1
        cases hb2 : (Nat.beq t0 0 && Nat.beq t1 0 && Nat.ble (sp.toNatClampNeg + n.toNatClampNeg) n0 && Nat.ble (dp.toNatClampNeg + n.toNatClampNeg) n1) <;> rw [hb2] at hp
        · cases hp
        · cases hp
          simp only [Bool.and_eq_true] at hb2
          have ht := Nat.eq_of_beq_eq_true hb2.1.1.2
          subst ht
          exact Grows.arr h hM1 (by omega)
      · rename_i t0 n0 f t1 n1 g hM0 hM1
        cases hb2 : (Nat.beq t0 1 && Nat.beq t1 1 && Nat.ble (sp.toNatClampNeg + n.toNatClampNeg) n0 && Nat.ble (dp.toNatClampNeg + n.toNatClampNeg) n1) <;> rw [hb2] at hp
        · cases hp
        · cases hp
          simp only [Bool.and_eq_true] at hb2
          have ht := Nat.eq_of_beq_eq_true hb2.1.1.2
          subst ht
          exact Grows.arr h hM1 (by omega)
      · cases hp
    · cases hp
  rw [cond_false] at hp
  cases h11 : Nat.beq op 11 <;> rw [h11] at hp
  case true =>
    rw [cond_true] at hp
    split at hp
    · cases hb : Nat.ble (List.length _) 4 <;> rw [hb] at hp <;> first | (cases hp; done) | (cases hp; exact Grows.rf h)
    · cases hp
  rw [cond_false] at hp
  cases h12 : Nat.beq op 12 <;> rw [h12] at hp
  case true =>
    rw [cond_true] at hp
    split at hp
    · cases hb : Nat.ble (List.length _) 4 <;> rw [hb] at hp <;> first | (cases hp; done) | (cases hp; exact Grows.rf h)
    · cases hp
  rw [cond_false] at hp
  cases hp
theorem rstep_same {rt : Nat} {i : Instr} {r : AR} (h : rstep rt i st M = some r) : r.2 = M := by
  unfold rstep at h
  split at h
  · rename_i v
    cases hb : (Nat.beq rt 1 || (Nat.beq rt 2 && (v == 0 || v == 1))) <;> rw [hb] at h <;> cases h <;> rfl
  · cases hb : Nat.beq rt 3 <;> rw [hb] at h <;> cases h <;> rfl
  · cases hb : Nat.beq rt 4 <;> rw [hb] at h <;> cases h <;> rfl
  · cases hb : Nat.beq rt 4 <;> rw [hb] at h <;> cases h <;> rfl
  · cases hb : Nat.beq rt 0 <;> rw [hb] at h <;> cases h <;> rfl
  · cases h
end MONO
theorem ago_grows {sc : Nat × (Nat → Int32)} : ∀ (n d : Nat) (X : MD) (mm pc : Nat) (ll : AL) (st : List Value) (M : AM) (r : AR), mt mm = some X → Wf sc M → ago n d X pc ll st M = some r → Grows sc M r.2
  | 0, _, _, _, _, _, _, _, _, _, _, h => by cases h
  | n + 1, d, X, mm, pc, ll, st, M, r, hm, hw, h => by
    have h : abody (ago n) d X pc ll st M = some r := h
    rcases abody_cases h with ⟨pc', l', st', M', h1, h2⟩ | ⟨h0, i, len, h1, h2⟩ | ⟨h0, op, a, b, v, len, st', M', h1, h2, h3, h4⟩ | ⟨h0, op, a, b, v, len, Y, d', args, rest, rv, M', h1, h2, h3, rfl, h5, hwm, h6, h7⟩
    · have g := sstep_grows hm hw h1
      exact g.tr (ago_grows n d X mm pc' l' st' M' r hm g.1 h2)
    · rw [rstep_same h2]; exact Grows.rf hw
    · have g := bstep_grows hw h2
      exact g.tr (ago_grows n d X mm _ ll st' M' r hm g.1 h4)
    · have g := ago_grows n d' Y a 0 _ [] M (rv, M') h3 hw h6
      exact g.tr (ago_grows n (d' + 1) X mm _ ll _ M' r hm g.1 h7)
