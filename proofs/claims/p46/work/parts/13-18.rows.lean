section
/-! SOUNDNESS: a run of the abstract machine is a run of the machine. -/
def InA (G : SG) (sc : Nat × (Nat → Int32)) (adV : Nat → Nat) (M : AM) (U : State) : Prop := U.heap.size = G.1 + cnt M 0 ∧ va_P G.2.2.2 vwCl (lay G M) U.heap ∧ va_K G.2.2.2 vwCl (tysA G) U ∧ Old G sc adV U U.heap ∧ Wf sc M
def QA (G : SG) (sc : Nat × (Nat → Int32)) (adV : Nat → Nat) (r : AR) : Array Value → State → Outcome → State → Prop := fun _ st oc t => oc = .returned (r.1.map (cv G)) ∧ InA G sc adV r.2 t ∧ va_F (fun q => G.1 ≤ q) st t
def rmA (d mc ms : Nat) : Room := { frames := d, cells := mc, slots := ms, locals := 40 * d }
def wsA (X : MD) : List Jvm.Cond := Jvm.Cond.code (md_y X) (md_b X) (md_L X) (rF (md_r X)) :: lw_t2
def MetA (l : Launch) (G : SG) (sc : Nat × (Nat → Int32)) (adV : Nat → Nat) (d : Nat) (X : MD) (vs : List Value) (M : AM) (r : AR) : Prop :=
  Met l (md_y X) (wsA X) (rmA d (cnt r.2 0 - cnt M 0) (cnt r.2 1 - cnt M 1)) (va_Pc (vs.map (cv G)) (InA G sc adV M)) (QA G sc adV r) (cnt r.2 0 - cnt M 0) (cnt r.2 1 - cnt M 1) (fun q => G.1 ≤ q)
theorem Old.same {G : SG} {sc : Nat × (Nat → Int32)} {adV : Nat → Nat} {U V : State} (h : Old G sc adV U U.heap) (hv : V.vm = U.vm) (hh : V.heap = U.heap) : Old G sc adV V V.heap := by
  rw [hh]
  obtain ⟨h1, h2, h3, h4, h5, h6⟩ := h
  have ha : U.vm.Alike V.vm := by rw [hv]; exact Vm.Alike.refl _
  exact ⟨h1.moved ha, h2, h3.moved ha, fun i hi => (h4 i hi).same hv, h5.moved ha, h6.moved ha⟩
theorem InA.blind {G : SG} {sc : Nat × (Nat → Int32)} {adV : Nat → Nat} {M : AM} (vs : List Value) : FrameBlind (va_Pc vs (InA G sc adV M)) := by
  intro a U g mk h
  obtain ⟨e, h1, h2, h3, h4, h5⟩ := h
  exact ⟨e, h1, h2, va_K.moved (u := U) (U := U.calling g mk a) (Vm.Alike.refl U.vm) h3, h4.same rfl rfl, h5⟩
theorem mlT_ok {o i mm op n x y z : Nat} {ne : Bool} {Y : MD} (hi : i < 1000) (h : lk2 mlT (1000 * o + i) = some (mm, op, n, ne, x, y, z)) (hm : mt mm = some Y) :
    (bif ne then Jvm.Cond.methodLinkNest (cnm o) i (md_y Y) RX9 else Jvm.Cond.methodLink (cnm o) i (md_y Y)) ∈ lw_t2 ∧ (op = 4 → Jvm.Cond.static (md_y Y) ∈ lw_t2) ∧ (op ≠ 4 → Jvm.Cond.instanceMethod (md_y Y) ∈ lw_t2) ∧ (op = 5 → Jvm.Cond.selects (md_y Y).cls (md_y Y) (md_y Y) ∈ lw_t2) ∧ (op = 6 → md_i Y = true ∧ md_r Y = 0) ∧ (parseMethodDescriptor (md_y Y).desc).map (fun d => d.parameters.length) = some n ∧ mm ≠ 263 := by
  have h1 := lk2_all mlT_all h
  simp only [mlP, hm, Bool.and_eq_true, decide_eq_true_eq] at h1
  obtain ⟨⟨⟨⟨⟨⟨a1, a2⟩, a3⟩, a4⟩, a5⟩, a6⟩, a7⟩ := h1
  rw [key1 hi, key2 hi] at a1
  refine ⟨t2_in (lwz_mem a1) (by cases ne <;> rfl), fun e => ?_, fun e => ?_, fun e => ?_, fun e => ?_, a5, fun e => ?_⟩
  · subst e
    exact t2_in (lwz_mem (of_decide_eq_true a2)) rfl
  · have hb : Nat.beq op 4 = false := by
      cases hq : Nat.beq op 4 with
      | false => rfl
      | true => exact absurd (Nat.eq_of_beq_eq_true hq) e
    rw [hb] at a2
    exact t2_in (lwz_mem (of_decide_eq_true a2)) rfl
  · subst e
    exact t2_in (lwz_mem (of_decide_eq_true a3)) rfl
  · subst e
    have a4 : (md_i Y && Nat.beq (md_r Y) 0) = true := a4
    rw [Bool.and_eq_true] at a4
    exact ⟨a4.1, Nat.eq_of_beq_eq_true a4.2⟩
  · subst e
    cases a7
theorem csplit_op {op b : Nat} {st : List Value} {M : AM} {Y : MD} {q : List Value × List Value} (h : csplit op b st M Y = some q) : op = 4 ∨ op = 5 ∨ op = 6 := by
  unfold csplit at h
  cases h4 : Nat.beq op 4 with
  | true => exact Or.inl (Nat.eq_of_beq_eq_true h4)
  | false =>
    rw [h4, cond_false] at h
    split at h
    · cases h5 : Nat.beq op 5 with
      | true => exact Or.inr (Or.inl (Nat.eq_of_beq_eq_true h5))
      | false =>
        rw [h5, cond_false] at h
        cases h6 : Nat.beq op 6 with
        | true => exact Or.inr (Or.inr (Nat.eq_of_beq_eq_true h6))
        | false => rw [h6, Bool.false_and, cond_false] at h; cases h
    · cases h
theorem csplit_s {b : Nat} {st vs rest : List Value} {M : AM} {Y : MD} (h : csplit 4 b st M Y = some (vs, rest)) : b ≤ st.length ∧ True ∧ rok (st.drop b) = true ∧ vs = (st.take b).reverse ∧ rest = st.drop b := by
  replace h : (bif Nat.ble b st.length && rok (st.drop b) then some ((st.take b).reverse, st.drop b) else none) = some (vs, rest) := h
  cases hb : (Nat.ble b st.length && rok (st.drop b)) with
  | false => rw [hb] at h; cases h
  | true =>
    rw [hb] at h
    cases h
    rw [Bool.and_eq_true] at hb
    exact ⟨Nat.le_of_ble_eq_true hb.1, trivial, hb.2, rfl, rfl⟩
theorem csplit_v {b : Nat} {st vs rest : List Value} {M : AM} {Y : MD} (h : csplit 5 b st M Y = some (vs, rest)) : ∃ (q ci : Nat) (fs : List Value), st.drop b = .ref q :: rest ∧ M q = .inr (ci, fs) ∧ ci = md_o Y ∧ rok rest = true ∧ 32 ≤ q ∧ vs = .ref q :: (st.take b).reverse := by
  unfold csplit at h
  replace h : (match (st.drop b) with
    | .ref k :: r => (match M k with
        | .inr (ci, _) => bif Nat.beq ci (md_o Y) && rok r && Nat.ble 32 k then some (.ref k :: (st.take b).reverse, r) else none
        | .inl _ => none)
    | _ => none) = some (vs, rest) := h
  split at h
  · rename_i k r hd
    split at h
    · rename_i ci fs hM
      cases hb : (Nat.beq ci (md_o Y) && rok r && Nat.ble 32 k) with
      | false => rw [hb] at h; cases h
      | true =>
        rw [hb] at h
        cases h
        simp only [Bool.and_eq_true] at hb
        exact ⟨k, ci, fs, hd, hM, Nat.eq_of_beq_eq_true hb.1.1, hb.1.2, Nat.le_of_ble_eq_true hb.2, rfl⟩
    · cases h
  · cases h
theorem csplit_i {b : Nat} {st vs rest : List Value} {M : AM} {Y : MD} (h : csplit 6 b st M Y = some (vs, rest)) : ∃ q : Nat, st.drop b = .ref q :: rest ∧ rok rest = true ∧ vs = .ref q :: (st.take b).reverse := by
  unfold csplit at h
  replace h : (match (st.drop b) with
    | .ref k :: r => bif rok r then some (.ref k :: (st.take b).reverse, r) else none
    | _ => none) = some (vs, rest) := h
  split at h
  · rename_i k r hd
    cases hb : rok r with
    | false => rw [hb] at h; cases h
    | true =>
      rw [hb] at h
      cases h
      exact ⟨k, hd, hb, rfl⟩
  · cases h
set_option maxHeartbeats 1000000 in
theorem ochk_v {o a b pc len : Nat} {v : Value} {dd : Except DecodeError (Instr × Nat)} (h : ochk o 5 a b v pc len dd = true) : ∃ (i : Nat) (ne : Bool) (x y z : Nat), dd = .ok (.invokevirtual i, 3) ∧ len = 3 ∧ i < 1000 ∧ lk2 mlT (1000 * o + i) = some (a, 5, b, ne, x, y, z) := by
  unfold ochk at h
  split at h
  all_goals try exact absurd (show false = true from h) (by decide)
  · rename_i cnd off
    rw [Bool.and_eq_true] at h
    revert h
    cases cnd <;> exact fun h => absurd (show false = true from h.2) (by decide)
  · rename_i cnd off
    rw [Bool.and_eq_true] at h
    revert h
    cases cnd <;> exact fun h => absurd (show false = true from h.2) (by decide)
  · rename_i i
    simp only [Bool.and_eq_true] at h
    obtain ⟨⟨h1, h2⟩, h3⟩ := h
    split at h3
    · rename_i mm pp n rr hl
      obtain ⟨ne, x, y, z⟩ := rr
      simp only [Bool.and_eq_true] at h3
      obtain ⟨⟨⟨g1, g2⟩, g3⟩, g4⟩ := h3
      have g2 := Nat.eq_of_beq_eq_true g2
      have g3 := Nat.eq_of_beq_eq_true g3
      have g4 := Nat.eq_of_beq_eq_true g4
      subst g2; subst g3; subst g4
      exact ⟨i, ne, x, y, z, rfl, Nat.eq_of_beq_eq_true h1, Nat.le_of_ble_eq_true h2, hl⟩
    · split at h3
      · rename_i pp x hl
        simp only [Bool.and_eq_true, Bool.or_eq_true] at h3
        have g1 := Nat.eq_of_beq_eq_true h3.1
        subst g1
        rcases h3.2 with g | g <;> exact absurd (show false = true from g) (by decide)
      · cases h3
  · rename_i i
    simp only [Bool.and_eq_true] at h
    have h3 := h.2
    split at h3
    · exact absurd (show false = true from h3) (by decide)
    · split at h3
      · rename_i pp x hl
        simp only [Bool.and_eq_true] at h3
        have g1 := Nat.eq_of_beq_eq_true h3.1
        subst g1
        exact absurd (show false = true from h3.2) (by decide)
      · cases h3
  · rename_i i
    simp only [Bool.and_eq_true] at h
    have h3 := h.2
    split at h3
    · exact absurd (show false = true from h3) (by decide)
    · split at h3
      · rename_i pp x hl
        simp only [Bool.and_eq_true, Bool.or_eq_true] at h3
        have g1 := Nat.eq_of_beq_eq_true h3.1
        subst g1
        rcases h3.2 with (g | g) | g <;> exact absurd (show false = true from g) (by decide)
      · cases h3
set_option maxHeartbeats 1000000 in
theorem ochk_i {o a b pc len : Nat} {v : Value} {dd : Except DecodeError (Instr × Nat)} (h : ochk o 6 a b v pc len dd = true) : ∃ (i : Nat) (ne : Bool) (x y z : Nat), dd = .ok (.invokespecial i, 3) ∧ len = 3 ∧ i < 1000 ∧ lk2 mlT (1000 * o + i) = some (a, 6, b, ne, x, y, z) := by
  unfold ochk at h
  split at h
  all_goals try exact absurd (show false = true from h) (by decide)
  · rename_i cnd off
    rw [Bool.and_eq_true] at h
    revert h
    cases cnd <;> exact fun h => absurd (show false = true from h.2) (by decide)
  · rename_i cnd off
    rw [Bool.and_eq_true] at h
    revert h
    cases cnd <;> exact fun h => absurd (show false = true from h.2) (by decide)
  · rename_i i
    simp only [Bool.and_eq_true] at h
    have h3 := h.2
    split at h3
    · exact absurd (show false = true from h3) (by decide)
    · split at h3
      · rename_i pp x hl
        simp only [Bool.and_eq_true, Bool.or_eq_true] at h3
        have g1 := Nat.eq_of_beq_eq_true h3.1
        subst g1
        rcases h3.2 with g | g <;> exact absurd (show false = true from g) (by decide)
      · cases h3
  · rename_i i
    simp only [Bool.and_eq_true] at h
    obtain ⟨⟨h1, h2⟩, h3⟩ := h
    split at h3
    · rename_i mm pp n rr hl
      obtain ⟨ne, x, y, z⟩ := rr
      simp only [Bool.and_eq_true] at h3
      obtain ⟨⟨⟨g1, g2⟩, g3⟩, g4⟩ := h3
      have g2 := Nat.eq_of_beq_eq_true g2
      have g3 := Nat.eq_of_beq_eq_true g3
      have g4 := Nat.eq_of_beq_eq_true g4
      subst g2; subst g3; subst g4
      exact ⟨i, ne, x, y, z, rfl, Nat.eq_of_beq_eq_true h1, Nat.le_of_ble_eq_true h2, hl⟩
    · split at h3
      · rename_i pp x hl
        simp only [Bool.and_eq_true] at h3
        have g1 := Nat.eq_of_beq_eq_true h3.1
        subst g1
        exact absurd (show false = true from h3.2) (by decide)
      · cases h3
  · rename_i i
    simp only [Bool.and_eq_true] at h
    have h3 := h.2
    split at h3
    · exact absurd (show false = true from h3) (by decide)
    · split at h3
      · rename_i pp x hl
        simp only [Bool.and_eq_true, Bool.or_eq_true] at h3
        have g1 := Nat.eq_of_beq_eq_true h3.1
        subst g1
        rcases h3.2 with (g | g) | g <;> exact absurd (show false = true from g) (by decide)
      · cases h3
set_option maxHeartbeats 1000000 in
theorem ochk_s {o a b pc len : Nat} {v : Value} {dd : Except DecodeError (Instr × Nat)} (h : ochk o 4 a b v pc len dd = true) : ∃ (i : Nat) (ne : Bool) (x y z : Nat), dd = .ok (.invokestatic i, 3) ∧ len = 3 ∧ i < 1000 ∧ lk2 mlT (1000 * o + i) = some (a, 4, b, ne, x, y, z) := by
  unfold ochk at h
  split at h
  all_goals try exact absurd (show false = true from h) (by decide)
  · rename_i cnd off
    rw [Bool.and_eq_true] at h
    revert h
    cases cnd <;> exact fun h => absurd (show false = true from h.2) (by decide)
  · rename_i cnd off
    rw [Bool.and_eq_true] at h
    revert h
    cases cnd <;> exact fun h => absurd (show false = true from h.2) (by decide)
  · rename_i i
    simp only [Bool.and_eq_true] at h
    have h3 := h.2
    split at h3
    · exact absurd (show false = true from h3) (by decide)
    · split at h3
      · rename_i pp x hl
        simp only [Bool.and_eq_true, Bool.or_eq_true] at h3
        have g1 := Nat.eq_of_beq_eq_true h3.1
        subst g1
        rcases h3.2 with g | g <;> exact absurd (show false = true from g) (by decide)
      · cases h3
  · rename_i i
    simp only [Bool.and_eq_true] at h
    have h3 := h.2
    split at h3
    · exact absurd (show false = true from h3) (by decide)
    · split at h3
      · rename_i pp x hl
        simp only [Bool.and_eq_true] at h3
        have g1 := Nat.eq_of_beq_eq_true h3.1
        subst g1
        exact absurd (show false = true from h3.2) (by decide)
      · cases h3
  · rename_i i
    simp only [Bool.and_eq_true] at h
    obtain ⟨⟨h1, h2⟩, h3⟩ := h
    split at h3
    · rename_i mm pp n rr hl
      obtain ⟨ne, x, y, z⟩ := rr
      simp only [Bool.and_eq_true] at h3
      obtain ⟨⟨⟨g1, g2⟩, g3⟩, g4⟩ := h3
      have g2 := Nat.eq_of_beq_eq_true g2
      have g3 := Nat.eq_of_beq_eq_true g3
      have g4 := Nat.eq_of_beq_eq_true g4
      subst g2; subst g3; subst g4
      exact ⟨i, ne, x, y, z, rfl, Nat.eq_of_beq_eq_true h1, Nat.le_of_ble_eq_true h2, hl⟩
    · split at h3
      · rename_i pp x hl
        simp only [Bool.and_eq_true, Bool.or_eq_true] at h3
        have g1 := Nat.eq_of_beq_eq_true h3.1
        subst g1
        rcases h3.2 with (g | g) | g <;> exact absurd (show false = true from g) (by decide)
      · cases h3
set_option maxRecDepth 100000 in
theorem mo_all : mtl.all (fun c => c.2.all (fun q => Nat.blt (md_o q.2) 15)) = true := by decide +kernel
theorem md_o_ne {mm : Nat} {Y : MD} (hm : mt mm = some Y) : md_o Y ≠ 99 := by
  have h := lk2_all mo_all hm
  have h : md_o Y < 15 := Nat.le_of_ble_eq_true h
  omega
theorem md_o_obj {o i a b x y z : Nat} {ne : Bool} {Y : MD} (_ : i < 1000) (h : lk2 mlT (1000 * o + i) = some (a, 5, b, ne, x, y, z)) (hm : mt a = some Y) : md_o Y < 11 := by
  have h1 := lk2_all mlT_all h
  simp only [mlP, hm, Bool.and_eq_true] at h1
  exact Nat.le_of_ble_eq_true h1.1.2
section SOUND
variable {p : Program} {l : Launch} {e : Env} {R : Room} {s : State} {m : MethodId} {args : Array Value} {below : List Frame} {meth : Method} {c : Code} {H : Heap} {locs : List Loc} {cells slots : Nat} {Q : State → Prop}
variable {G : SG} {sc : Nat × (Nat → Int32)} {adV : Nat → Nat} {X : MD} {pc pc' len : Nat} {ls : Array Slot} {ll ll' : AL} {st st' : List Value} {M M' : AM}
theorem w_ran {mc ms : Nat} {st0 rest : List Value} {a : Array Value} {r : AR} (hr : va_Run p l e R s m args below meth c H locs cells slots mc ms (F0 m pc ls st0) rest (QA G sc adV r a) (fun q => G.1 ≤ q)) (hS : va_S (fun q => G.1 ≤ q) s.heap H locs)
    (kk : ∀ (H1 : Heap) (locs1 : List Loc), HR G sc s r.2 H1 locs1 → W p l e R s m args below meth c H1 locs1 (cells + mc) (slots + ms) Q (F0 m (pc + 3) ls ((r.1.map (cv G)).toList ++ rest))) : W p l e R s m args below meth c H locs cells slots Q (F0 m pc ls st0) := by
  intro T hT XX
  obtain ⟨v, st₀, t, T', L, h0, X', hL, e1, e2, ⟨hv, ⟨i1, i2, i3, i4, i5⟩, hz, hk⟩, st⟩ := hr T hT XX
  cases hv
  rw [h0] at hz hk
  have hS1 : va_S (fun q => G.1 ≤ q) s.heap T'.heap (locs ++ L) := ⟨Nat.le_trans hS.1 (by rw [e1]; exact hz), fun q h1 h2 => by rw [e1, hk q (Nat.lt_of_lt_of_le h1 hS.1) h2]; exact hS.2.1 q h1 h2, fun q hq => by
      rcases List.mem_append.mp hq with h | h
      · exact hS.2.2 q h
      · exact hL q h⟩
  obtain ⟨t2, a1, b1⟩ := kk T'.heap (locs ++ L) ⟨by rw [e1]; exact i2, hS1, i5⟩ T' rfl X'
  exact ⟨t2, st t2 a1, b1⟩
/-- what a callee finds: the heap as it is -/
theorem w_pre {N0 : Nat} {T : State} (F : FRm G sc adV X p s m args meth c) (hH : HR G sc s M H locs) (hsz : s.heap.size = G.1 + N0) (hN : N0 ≤ cnt M 0) (hT : T.heap = H) (XX : Stand p l e R s m args below meth c T locs (cnt M 0 - N0) slots) (vs : List Value) : ∀ U : State, U.heap = H → s.WarmedH U.vm → va_Pc (vs.map (cv G)) (InA G sc adV M) (vs.map (cv G)).toArray U := by
  intro U hU hW
  obtain ⟨hx, hb, hml, hown, hts, hin, hK, hO, hG⟩ := F
  have hup : H.size ≤ G.1 + cnt M 0 := by
    have := XX.heapSize
    rw [hT] at this
    omega
  have hlo : G.1 + cnt M 0 ≤ H.size := by
    by_cases hz : cnt M 0 = 0
    · have h9 : s.heap.size ≤ H.size := hH.2.1.1
      omega
    · have h9 := (hH.1 (cnt M 0 - 1) _ (lay_get (by omega))).lt
      have h9 : G.1 + (cnt M 0 - 1) < H.size := h9
      omega
  refine ⟨rfl, by rw [hU]; omega, by rw [hU]; exact hH.1, va_K.moved hW.alike hK, hO.go hG hH.2.1 hU hW, hH.2.2⟩
theorem wsum_le (r : List Value) : wsum r ≤ 2 * r.length := by
  induction r with
  | nil => exact Nat.le_refl _
  | cons v t ih =>
    have h1 : wsum (v :: t) = v.category + wsum t := rfl
    have h2 : (v :: t).length = t.length + 1 := rfl
    rcases lv_cat v with h | h <;> omega
theorem rest_room {r : List Value} (h : r.length ≤ 4) : ((r.map (cv G)).map fun v => v.category).sum ≤ 8 := by
  have h1 := wsum_le r
  have h2 : wsum (r.map (cv G)) = wsum r := wsum_cv G r
  have h3 : wsum (r.map (cv G)) = ((r.map (cv G)).map fun v => v.category).sum := rfl
  omega
theorem rest_roomK {r : List Value} (h : rok r = true) : ((r.map (cv G)).map fun v => v.category).sum ≤ 8 := by
  unfold rok at h
  rw [Bool.or_eq_true] at h
  rcases h with h | h
  · exact rest_room (Nat.le_of_ble_eq_true h)
  · have h1 : wsum r ≤ 8 := Nat.le_of_ble_eq_true h
    have h2 : wsum (r.map (cv G)) = wsum r := wsum_cv G r
    have h3 : wsum (r.map (cv G)) = ((r.map (cv G)).map fun v => v.category).sum := rfl
    omega
/-- a call of a method of which the contract is known -/
theorem w_call {op a b d N0 S0 mm : Nat} {v : Value} {Y : MD} {vs rest : List Value} {r : AR} (F : FRm G sc adV X p s m args meth c) (hH : HR G sc s M H locs) (hL : LH G ls (md_L X) ll) (hc : ochk (md_o X) op a b v pc len (decode (md_b X) pc) = true) (hm : mt a = some Y) (hp : csplit op b st M Y = some (vs, rest)) (hY : MetA l G sc adV d Y vs M r) (hsz : s.heap.size = G.1 + N0) (hN : N0 ≤ cnt M 0) (hS0 : S0 ≤ cnt M 1) (hm0 : cnt M 0 ≤ cnt r.2 0) (hm1 : cnt M 1 ≤ cnt r.2 1) (hRc : cnt r.2 0 - N0 ≤ R.cells) (hRs : cnt r.2 1 - S0 ≤ R.slots) (hRf : d + 1 ≤ R.frames) (hRl : 40 * (d + 1) ≤ R.locals)
    (k : ∀ (H' : Heap) (locs' : List Loc), HR G sc s r.2 H' locs' → W p l e R s m args below meth c H' locs' (cnt r.2 0 - N0) (cnt r.2 1 - S0) Q (F0 m (pc + len) ls ((r.1.toList ++ rest).map (cv G)))) : W p l e R s m args below meth c H locs (cnt M 0 - N0) (cnt M 1 - S0) Q (F0 m pc ls (st.map (cv G))) := by
  have F' := F
  obtain ⟨hx, hb, hml, hown, hts, hin, hK, hO, hG⟩ := F
  have e0 : cnt M 0 - N0 + (cnt r.2 0 - cnt M 0) = cnt r.2 0 - N0 := by omega
  have e1 : cnt M 1 - S0 + (cnt r.2 1 - cnt M 1) = cnt r.2 1 - S0 := by omega
  have hk : ∀ (H' : Heap) (locs' : List Loc), HR G sc s r.2 H' locs' → len = 3 → W p l e R s m args below meth c H' locs' (cnt M 0 - N0 + (cnt r.2 0 - cnt M 0)) (cnt M 1 - S0 + (cnt r.2 1 - cnt M 1)) Q (F0 m (pc + 3) ls ((r.1.map (cv G)).toList ++ rest.map (cv G))) := by
    intro H' locs' hH' hl
    subst hl
    rw [e0, e1]
    have k1 := k H' locs' hH'
    have e2 : (r.1.toList ++ rest).map (cv G) = (r.1.map (cv G)).toList ++ rest.map (cv G) := by
      rw [List.map_append]
      cases r.1 <;> rfl
    rw [e2] at k1
    exact k1
  have hfit : cnt M 0 - N0 + (cnt r.2 0 - cnt M 0) ≤ R.cells ∧ cnt M 1 - S0 + (cnt r.2 1 - cnt M 1) ≤ R.slots := ⟨by omega, by omega⟩
  -- what every call needs of Y
  have base : ∀ {o i n x y z op' : Nat} {ne : Bool}, i < 1000 → lk2 mlT (1000 * o + i) = some (a, op', n, ne, x, y, z) → MWok Y := by
    intro o i n x y z op' ne hi hl
    have h1 := (mlT_ok hi hl hm).2.2.2.2.2.2
    rcases (mt_ok hm).2 with h | h
    · exact h
    · exfalso
      subst h
      obtain ⟨cc, c1, c2⟩ := lk2_mem hm
      have hall : mtl.all (fun c => c.2.all (fun q => !(Nat.beq (md_o q.2) 11) || Nat.beq q.1 263)) = true := by decide +kernel
      have h2 := List.all_eq_true.mp (List.all_eq_true.mp hall cc c1) _ c2
      have h3 : (!(Nat.beq (md_o md_263) 11)) = false := rfl
      simp only [h3, Bool.false_or] at h2
      exact h1 (Nat.eq_of_beq_eq_true h2)
  have words : ∀ w ∈ wsA Y, MWok Y → ∀ (a' : Array Value) (U : State), s.WarmedH U.vm → w.before a' U = true := by
    intro w hw hmw a' U hW
    rcases List.mem_cons.mp hw with h | h
    · subst h
      exact lw_go hW hts _ (t2_in hmw.1 rfl)
    · exact lw_go hW hts w h
  have hroom : MWok Y → 8 + (md_L Y + 11) + (rmA d (cnt r.2 0 - cnt M 0) (cnt r.2 1 - cnt M 1)).locals ≤ R.locals := by
    intro hmw
    have h1 := hmw.2.2.2.2.2.1
    show 8 + (md_L Y + 11) + 40 * d ≤ R.locals
    omega
  have cb : ∀ {i n : Nat}, MWok Y → (Jvm.Cond.methodLink (cnm (md_o X)) i (md_y Y)) ∈ lw_t2 → (parseMethodDescriptor (md_y Y).desc).map (fun d => d.parameters.length) = some n → CallB R s args (cnm (md_o X)) i (md_y Y) (md_b Y) (md_L Y) (rF (md_r Y)) (wsA Y) (rmA d (cnt r.2 0 - cnt M 0) (cnt r.2 1 - cnt M 1)) (cnt r.2 0 - cnt M 0) (cnt r.2 1 - cnt M 1) n := by
    intro i n hmw hl hn
    refine ⟨rfl, rfl, hRf, hroom hmw, fun w hw => words w hw hmw, List.mem_cons_self, hts _ (t2_in hmw.1 rfl), hts _ (t2_in hmw.2.1 rfl), hmw.2.2.1, fun sig h => ?_, hts _ hl⟩
    rw [h] at hn
    exact (Option.some.inj hn).symm
  have cn : ∀ {i n : Nat}, MWok Y → (Jvm.Cond.methodLinkNest (cnm (md_o X)) i (md_y Y) RX9) ∈ lw_t2 → (parseMethodDescriptor (md_y Y).desc).map (fun d => d.parameters.length) = some n → va_CN R s args (cnm (md_o X)) i (md_y Y) RX9 (md_b Y) (md_L Y) (rF (md_r Y)) (wsA Y) (rmA d (cnt r.2 0 - cnt M 0) (cnt r.2 1 - cnt M 1)) (cnt r.2 0 - cnt M 0) (cnt r.2 1 - cnt M 1) n := by
    intro i n hmw hl hn
    refine ⟨⟨rfl, rfl, hRf, hroom hmw, fun w hw => words w hw hmw, List.mem_cons_self⟩, hts _ (t2_in hmw.1 rfl), hts _ (t2_in hmw.2.1 rfl), hmw.2.2.1, fun sig h => ?_, hts _ hl⟩
    rw [h] at hn
    exact (Option.some.inj hn).symm
  have fix : CallFix p m c (md_b X) (md_L X) s args lw_t2 (cnm (md_o X)) := ⟨hx, hb, hml, hown, hts⟩
  rcases csplit_op hp with rfl | rfl | rfl
  · -- static
    obtain ⟨i, ne, x, y, z, hd, hl3, hi, hl⟩ := ochk_s hc
    have hmw := base hi hl
    obtain ⟨w1, w2, -, -, -, hn, -⟩ := mlT_ok hi hl hm
    obtain ⟨q1, q2, q3, rfl, rfl⟩ := csplit_s hp
    intro T hT XX
    have hpre : PreS s H (va_Pc (((st.take b).reverse).map (cv G)) (InA G sc adV M)) (((st.take b).reverse).map (cv G)) := ⟨InA.blind _, w_pre F' hH hsz hN hT XX _⟩
    have hst : st.map (cv G) = (((st.take b).reverse).map (cv G)).reverse ++ (st.drop b).map (cv G) := by
      rw [← List.map_reverse, List.reverse_reverse, ← List.map_append, List.take_append_drop]
    have hlen : (((st.take b).reverse).map (cv G)).length = b := by
      rw [List.length_map, List.length_reverse, List.length_take]
      omega
    cases ne with
    | false => exact w_ran (va_runS fix hY ⟨cb hmw w1 hn, hts _ (w2 rfl)⟩ hpre rfl hlen hL.1 hst (lv_room (rest_roomK q3)) hd hfit) hH.2.1 (fun H' locs' h => hk H' locs' h hl3) T hT XX
    | true => exact w_ran (va_runSN fix hY ⟨cn hmw w1 hn, hts _ (w2 rfl), trivial⟩ hpre rfl hlen hL.1 hst (lv_room (rest_roomK q3)) hd hfit) hH.2.1 (fun H' locs' h => hk H' locs' h hl3) T hT XX
  · -- virtual
    obtain ⟨i, ne, x, y, z, hd, hl3, hi, hl⟩ := ochk_v hc
    have hmw := base hi hl
    obtain ⟨w1, -, w2, w3, -, hn, -⟩ := mlT_ok hi hl hm
    obtain ⟨q, ci, fs, q1, q2, q3, q4, q5, rfl⟩ := csplit_v hp
    intro T hT XX
    have hpre : ∀ U : State, U.heap = H → s.WarmedH U.vm → va_Pc ((Value.ref q :: (st.take b).reverse).map (cv G)) (InA G sc adV M) ((Value.ref q :: (st.take b).reverse).map (cv G)).toArray U := w_pre F' hH hsz hN hT XX _
    have hlt : b < st.length := by
      by_cases hz : b < st.length
      · exact hz
      · rw [List.drop_eq_nil_of_le (by omega)] at q1; cases q1
    have hst : st.map (cv G) = (((st.take b).reverse).map (cv G)).reverse ++ .ref (ad G q) :: rest.map (cv G) := by
      have : st = st.take b ++ .ref q :: rest := by rw [← q1, List.take_append_drop]
      rw [← List.map_reverse, List.reverse_reverse]
      conv => lhs; rw [this]
      rw [List.map_append]
      rfl
    have hlen : (((st.take b).reverse).map (cv G)).length = b := by
      rw [List.length_map, List.length_reverse, List.length_take]
      omega
    obtain ⟨v1, v2⟩ := hH.any q5 q2 (by rw [q3]; intro h9; have := hmw.2.2.2.1; exact absurd h9 (md_o_ne hm))
    have hrecv : ∃ cellB : Cell, H[ad G q]? = some cellB ∧ cellB.vm.isStatics = false ∧ s.vm.findClass (md_y Y).cls = some cellB.cls := by
      have h11 : md_o Y < 11 := md_o_obj hi hl hm
      have h12 := va_recv hK hH.1 (q := (cnm (md_o Y), fTX (md_o Y), fN (md_o Y))) (by rw [q3]; exact vw_at (md_o Y) h11) v2
      rw [hmw.2.2.2.1]
      exact h12
    have hpv : PreV s H (md_y Y).cls (ad G q) (va_Pc ((Value.ref q :: (st.take b).reverse).map (cv G)) (InA G sc adV M)) (((st.take b).reverse).map (cv G)) := ⟨InA.blind _, hrecv, hpre⟩
    cases ne with
    | false => exact w_ran (va_runV (C := (md_y Y).cls) fix hY ⟨cb hmw w1 hn, hts _ (w2 (by decide)), hts _ (w3 rfl)⟩ hpv rfl hlen hL.1 hst (lv_room (rest_roomK q4)) hd hfit) hH.2.1 (fun H' locs' h => hk H' locs' h hl3) T hT XX
    | true => exact w_ran (va_runVN (C := (md_y Y).cls) fix hY ⟨cn hmw w1 hn, hts _ (w2 (by decide)), hts _ (w3 rfl)⟩ hpv rfl hlen hL.1 hst (lv_room (rest_roomK q4)) hd hfit) hH.2.1 (fun H' locs' h => hk H' locs' h hl3) T hT XX
  · -- special
    obtain ⟨i, ne, x, y, z, hd, hl3, hi, hl⟩ := ochk_i hc
    have hmw := base hi hl
    obtain ⟨w1, -, w2, -, w4, hn, -⟩ := mlT_ok hi hl hm
    obtain ⟨q, q1, q4, rfl⟩ := csplit_i hp
    have hini := (w4 rfl).1
    have hr0 := (w4 rfl).2
    have hname : (md_y Y).name = "<init>" := (hmw.2.2.2.2.2.2 hini).1
    have hrF : rF (md_r Y) = none := by rw [hr0]; rfl
    intro T hT XX
    have hpre : PreS s H (va_Pc ((Value.ref q :: (st.take b).reverse).map (cv G)) (InA G sc adV M)) (.ref (ad G q) :: ((st.take b).reverse).map (cv G)) := ⟨InA.blind _, w_pre F' hH hsz hN hT XX _⟩
    have hlt : b < st.length := by
      by_cases hz : b < st.length
      · exact hz
      · rw [List.drop_eq_nil_of_le (by omega)] at q1; cases q1
    have hst : st.map (cv G) = (((st.take b).reverse).map (cv G)).reverse ++ .ref (ad G q) :: rest.map (cv G) := by
      have : st = st.take b ++ .ref q :: rest := by rw [← q1, List.take_append_drop]
      rw [← List.map_reverse, List.reverse_reverse]
      conv => lhs; rw [this]
      rw [List.map_append]
      rfl
    have hlen : (((st.take b).reverse).map (cv G)).length = b := by
      rw [List.length_map, List.length_reverse, List.length_take]
      omega
    cases ne with
    | false =>
      have hcb := cb hmw w1 hn
      rw [hrF] at hcb
      exact w_ran (va_runI fix hY ⟨hcb, hname, hts _ (w2 (by decide))⟩ hpre rfl hlen hL.1 hst (lv_room (rest_roomK q4)) hd hfit) hH.2.1 (fun H' locs' h => hk H' locs' h hl3) T hT XX
    | true =>
      have hcn := cn hmw w1 hn
      rw [hrF] at hcn
      exact w_ran (va_runIN fix hY ⟨hcn, hname, hts _ (w2 (by decide))⟩ hpre rfl hlen hL.1 hst (lv_room (rest_roomK q4)) hd hfit) hH.2.1 (fun H' locs' h => hk H' locs' h hl3) T hT XX
end SOUND
end
section
/-! The memory keeps its shape, and only grows. -/
set_option maxRecDepth 100000 in
theorem tchk_all : mtl.all (fun c => c.2.all (fun q => (md_c q.2).all (fun d => d.2.all (fun i => match i.2.1 with | .inr (.inr (op, a, _, _)) => (bif Nat.beq op 3 then Nat.blt a 7 else true) | _ => true)))) = true := by decide +kernel
section MONO
variable {sc : Nat × (Nat → Int32)} {X : MD} {mm pc pc' len : Nat} {ll ll' : AL} {st st' : List Value} {M M' : AM}
def Grows (sc : Nat × (Nat → Int32)) (M M' : AM) : Prop := Wf sc M' ∧ cnt M 0 ≤ cnt M' 0 ∧ cnt M 1 ≤ cnt M' 1
theorem Grows.rf (h : Wf sc M) : Grows sc M M := ⟨h, Nat.le_refl _, Nat.le_refl _⟩
theorem Grows.tr {M2 : AM} (h1 : Grows sc M M') (h2 : Grows sc M' M2) : Grows sc M M2 := ⟨h2.1, Nat.le_trans h1.2.1 h2.2.1, Nat.le_trans h1.2.2 h2.2.2⟩
theorem Grows.arr (h : Wf sc M) {k t n n' : Nat} {x x' : ADt} (hk : M k = .inl (t, n, x)) (ht : t < 7) : Grows sc M (va_up M k (.inl (t, n', x'))) := by
  obtain ⟨h1, h2⟩ := h.arr hk ht
  refine ⟨h.up h1 h2 (fun t n x q => by cases q; exact ht), ?_, ?_⟩
  · rw [cnt_up (by omega)]; exact Nat.le_refl _
  · rw [cnt_up (by omega)]; exact Nat.le_refl _
theorem Grows.obj (h : Wf sc M) {k ci : Nat} {fs fs' : List Value} (hk : M k = .inr (ci, fs)) (hf : fs ≠ []) : Grows sc M (va_up M k (.inr (ci, fs'))) := by
  obtain ⟨h1, h2⟩ := h.obj hk hf
  refine ⟨h.up h1 h2 (fun t n x q => by cases q), ?_, ?_⟩
  · rw [cnt_up (by omega)]; exact Nat.le_refl _
  · rw [cnt_up (by omega)]; exact Nat.le_refl _
theorem Grows.new (h : Wf sc M) {e : AE} {sz : Nat} (he : ∀ t n x, e = .inl (t, n, x) → t < 7) : Grows sc M (mnew M e sz) := by
  refine ⟨h.new he, ?_, ?_⟩
  · rw [cnt_new0]; omega
  · rw [cnt_new1]; omega
set_option maxHeartbeats 1000000 in
theorem mstep_grows {i : Instr} (h : Wf sc M) (hp : mstep i st M = some (st', M')) : Grows sc M M' := by
  unfold mstep at hp
  split at hp
  · split at hp
    · rename_i t n f hM
      cases hb : ((Nat.beq t 0 || Nat.beq t 7) && ain _ n) <;> rw [hb] at hp <;> first | (cases hp; done) | (cases hp; exact Grows.rf h)
    · cases hp
  · split at hp
    · rename_i t n f hM
      cases hb : ((Nat.beq t 2 || Nat.beq t 3) && ain _ n) <;> rw [hb] at hp <;> first | (cases hp; done) | (cases hp; exact Grows.rf h)
    · cases hp
  · split at hp
    · rename_i t n f hM
      cases hb : (Nat.beq t 1 && ain _ n) <;> rw [hb] at hp <;> first | (cases hp; done) | (cases hp; exact Grows.rf h)
    · cases hp
  · split at hp
    · rename_i t n f hM
      cases hb : (Nat.ble 4 t && Nat.ble t 6 && ain _ n) <;> rw [hb] at hp <;> first | (cases hp; done) | (cases hp; exact Grows.rf h)
    · cases hp
  · split at hp
    · rename_i t n f hM
      cases hb : (Nat.beq t 0 && ain _ n) with
      | false => rw [hb] at hp; cases hp
      | true =>
        rw [hb] at hp
        cases hp
        rw [Bool.and_eq_true] at hb
        have ht := Nat.eq_of_beq_eq_true hb.1
        exact Grows.arr h hM (by omega)
    · cases hp
  · split at hp
    · rename_i t n f hM
      cases hb : ((Nat.beq t 2 || Nat.beq t 3) && ain _ n) with
      | false => rw [hb] at hp; cases hp
      | true =>
        rw [hb] at hp
        cases hp
        rw [Bool.and_eq_true, Bool.or_eq_true] at hb
        rcases hb.1 with ht | ht
        · have ht := Nat.eq_of_beq_eq_true ht
          exact Grows.arr h hM (by omega)
        · have ht := Nat.eq_of_beq_eq_true ht
          exact Grows.arr h hM (by omega)
    · cases hp
  · split at hp
    · rename_i t n f hM
      cases hb : (Nat.beq t 1 && ain _ n) with
      | false => rw [hb] at hp; cases hp
      | true =>
        rw [hb] at hp
        cases hp
        rw [Bool.and_eq_true] at hb
        have ht := Nat.eq_of_beq_eq_true hb.1
        exact Grows.arr h hM (by omega)
    · cases hp
  · split at hp
    · rename_i t n f ci fs hM hMv
      cases hb : (Nat.ble 4 t && Nat.ble t 6 && Nat.beq ci (tag_cls t) && Nat.ble 32 _ && ain _ n) with
      | false => rw [hb] at hp; cases hp
      | true =>
        rw [hb] at hp
        cases hp
        simp only [Bool.and_eq_true] at hb
        have t6 := Nat.le_of_ble_eq_true hb.1.1.1.2
        exact Grows.arr h hM (by omega)
    · cases hp
  · split at hp
    · rename_i t n y hM
      cases hb : Nat.beq t 8 <;> rw [hb] at hp <;> first | (cases hp; done) | (cases hp; exact Grows.rf h)
    · cases hp
  · rename_i ty n r
    cases hb : (decide (n < 0) || Nat.blt 100000 n.toNatClampNeg) with
    | true => rw [hb] at hp; cases hp
    | false =>
      rw [hb, cond_false] at hp
      split at hp
      · cases hp; exact Grows.new h (fun t n x q => by cases q; omega)
      · cases hp; exact Grows.new h (fun t n x q => by cases q; omega)
      · cases hp; exact Grows.new h (fun t n x q => by cases q; omega)
      · cases hp; exact Grows.new h (fun t n x q => by cases q; omega)
      · cases hp
  · cases hp
set_option maxHeartbeats 1000000 in
theorem ostep_grows {swl : List (Nat × Int × List Nat × Nat)} {o op a b : Nat} {ini : Bool} {v : Value} (h : Wf sc M) (ht : (bif Nat.beq op 3 then Nat.blt a 7 else true) = true) (hp : ostep swl o ini op a b v pc len ll st M = some (pc', ll', st', M')) : Grows sc M M' := by
  unfold ostep at hp
  cases h42 : Nat.beq op 42 <;> rw [h42] at hp
  case true => rw [cond_true] at hp; split at hp <;> first | (cases hp; done) | (cases hp; exact Grows.rf h)
  rw [cond_false] at hp
  cases h40 : Nat.beq op 40 <;> rw [h40] at hp
  case true => rw [cond_true] at hp; split at hp <;> first | (cases hp; done) | (cases hp; exact Grows.rf h)
  rw [cond_false] at hp
  cases h0 : Nat.beq op 0 <;> rw [h0] at hp
  case true =>
    rw [cond_true] at hp
    split at hp
    · split at hp
      · rename_i ci fs hM
        cases hc : Nat.beq ci a <;> rw [hc] at hp
        · cases hp
        · rw [cond_true] at hp
          split at hp
          · cases hp; exact Grows.rf h
          · cases hp
      · cases hp
    · cases hp
  rw [cond_false] at hp
  cases h1 : Nat.beq op 1 <;> rw [h1] at hp
  case true =>
    rw [cond_true] at hp
    split at hp
    · split at hp
      · rename_i ci fs hM
        cases hc : (Nat.beq ci a && Nat.blt b fs.length && pfit (fcode a b) _ && (bif (fTX a b).2.2.2 then ini && Nat.beq o a else true)) <;> rw [hc] at hp
        · cases hp
        · cases hp
          simp only [Bool.and_eq_true] at hc
          have hl : b < fs.length := Nat.le_of_ble_eq_true hc.1.1.2
          exact Grows.obj h hM (fun q => by subst q; cases hl)
      · cases hp
    · cases hp
  rw [cond_false] at hp
  cases h43 : Nat.beq op 43 <;> rw [h43] at hp
  case true => rw [cond_true] at hp; split at hp <;> first | (cases hp; done) | (cases hp; exact Grows.rf h)
  rw [cond_false] at hp
  cases h32 : Nat.beq op 32 <;> rw [h32] at hp
  case true => rw [cond_true] at hp; cases hp; exact Grows.rf h
  rw [cond_false] at hp
  cases h46 : Nat.beq op 46 <;> rw [h46] at hp
  case true => rw [cond_true] at hp; split at hp <;> first | (cases hp; done) | (cases hp; exact Grows.rf h)
  rw [cond_false] at hp
  cases h41 : Nat.beq op 41 <;> rw [h41] at hp
  case true => rw [cond_true] at hp; split at hp <;> first | (cases hp; done) | (cases hp; exact Grows.rf h)
  rw [cond_false] at hp
  cases h44 : Nat.beq op 44 <;> rw [h44] at hp
  case true => rw [cond_true] at hp; split at hp <;> first | (cases hp; done) | (cases hp; exact Grows.rf h)
  rw [cond_false] at hp
  cases h45 : Nat.beq op 45 <;> rw [h45] at hp
  case true => rw [cond_true] at hp; split at hp <;> first | (cases hp; done) | (cases hp; exact Grows.rf h)
  rw [cond_false] at hp
  cases h20 : (Nat.ble 20 op && Nat.ble op 25) <;> rw [h20] at hp
  case true => rw [cond_true] at hp; split at hp <;> first | (cases hp; done) | (cases hp; exact Grows.rf h)
  rw [cond_false] at hp
  cases h26 : (Nat.ble 26 op && Nat.ble op 31) <;> rw [h26] at hp
  case true => rw [cond_true] at hp; split at hp <;> first | (cases hp; done) | (cases hp; exact Grows.rf h)
  rw [cond_false] at hp
  cases h33 : Nat.beq op 33 <;> rw [h33] at hp
  case true => rw [cond_true] at hp; split at hp <;> first | (cases hp; done) | (cases hp; exact Grows.rf h)
  rw [cond_false] at hp
  cases h34 : Nat.beq op 34 <;> rw [h34] at hp
  case true => rw [cond_true] at hp; split at hp <;> first | (cases hp; done) | (cases hp; exact Grows.rf h)
  rw [cond_false] at hp
  cases h35 : Nat.beq op 35 <;> rw [h35] at hp
  case true =>
    rw [cond_true] at hp
    split at hp
    · split at hp
      · cases hp; exact Grows.rf h
      · cases hp
    · cases hp
  rw [cond_false] at hp
  cases h2 : Nat.beq op 2 <;> rw [h2] at hp
  case true => rw [cond_true] at hp; cases hp; exact Grows.new h (fun t n x q => by cases q)
  rw [cond_false] at hp
  cases h3 : Nat.beq op 3 <;> rw [h3] at hp
  case true =>
    rw [cond_true] at hp
    rw [h3, cond_true] at ht
    have ha : a < 7 := Nat.le_of_ble_eq_true ht
    split at hp
    · rename_i n r
      cases hb : (decide (n < 0) || Nat.blt 100000 n.toNatClampNeg) <;> rw [hb] at hp
      · cases hp; exact Grows.new h (fun t n x q => by cases q; exact ha)
      · cases hp
    · cases hp
  rw [cond_false] at hp
  cases hp
theorem sstep_grows (hm : mt mm = some X) (h : Wf sc M) (hs : sstep swl X pc ll st M = some (pc', ll', st', M')) : Grows sc M M' := by
  unfold sstep at hs
  split at hs
  · cases hs
  · cases hs; exact Grows.rf h
  · split at hs
    · cases hs; exact Grows.rf h
    · split at hs
      · rename_i hp
        cases hs
        exact mstep_grows h hp
      · cases hs
  · rename_i op a b v len hc
    obtain ⟨c, h1, h2⟩ := lk2_mem hc
    have h4 := lk2_all tchk_all hm
    have h5 := List.all_eq_true.mp (List.all_eq_true.mp h4 c h1) _ h2
    exact ostep_grows h h5 hs
theorem bstep_grows {op : Nat} (h : Wf sc M) (hp : bstep op st M = some (st', M')) : Grows sc M M' := by
  unfold bstep at hp
  cases h10 : Nat.beq op 10 <;> rw [h10] at hp
  case true =>
    rw [cond_true] at hp
    split at hp
    · rename_i r
      cases hb : Nat.ble (List.length _) 4 <;> rw [hb] at hp <;> first | (cases hp; done) | (cases hp; exact Grows.rf h)
    · cases hp
  rw [cond_false] at hp
  cases h7 : Nat.beq op 7 <;> rw [h7] at hp
  case true =>
    rw [cond_true] at hp
    split at hp
    · split at hp
      · rename_i t n y hM
        cases hb : (Nat.beq t 8 && Nat.ble (List.length _) 4) <;> rw [hb] at hp <;> first | (cases hp; done) | (cases hp; exact Grows.rf h)
      · cases hp
    · cases hp
  rw [cond_false] at hp
  cases h8 : Nat.beq op 8 <;> rw [h8] at hp
  case true =>
    rw [cond_true] at hp
    split at hp
    · split at hp
      · rename_i t n f hM
        cases hb : (Nat.beq t 8 && ain _ n && Nat.ble (List.length _) 4) <;> rw [hb] at hp <;> first | (cases hp; done) | (cases hp; exact Grows.rf h)
      · cases hp
    · cases hp
  rw [cond_false] at hp
  cases h9 : Nat.beq op 9 <;> rw [h9] at hp
  case true =>
    rw [cond_true] at hp
    split at hp
    · rename_i n dp k sp k0 r
      cases hb : (decide (n < 0) || decide (dp < 0) || decide (sp < 0) || Nat.blt 4 r.length) <;> rw [hb] at hp
      case true => cases hp
      rw [cond_false] at hp
      split at hp
      · rename_i t0 n0 f t1 n1 g hM0 hM1
        cases hb2 : (Nat.beq t0 0 && Nat.beq t1 0 && Nat.ble (sp.toNatClampNeg + n.toNatClampNeg) n0 && Nat.ble (dp.toNatClampNeg + n.toNatClampNeg) n1) <;> rw [hb2] at hp
        · cases hp
        · cases hp
          simp only [Bool.and_eq_true] at hb2
          have ht := Nat.eq_of_beq_eq_true hb2.1.1.2
          subst ht
          exact Grows.arr h hM1 (by omega)
      · rename_i t0 n0 f t1 n1 g hM0 hM1
        cases hb2 : (Nat.beq t0 1 && Nat.beq t1 1 && Nat.ble (sp.toNatClampNeg + n.toNatClampNeg) n0 && Nat.ble (dp.toNatClampNeg + n.toNatClampNeg) n1) <;> rw [hb2] at hp
        · cases hp
        · cases hp
          simp only [Bool.and_eq_true] at hb2
          have ht := Nat.eq_of_beq_eq_true hb2.1.1.2
          subst ht
          exact Grows.arr h hM1 (by omega)
      · cases hp
    · cases hp
  rw [cond_false] at hp
  cases h11 : Nat.beq op 11 <;> rw [h11] at hp
  case true =>
    rw [cond_true] at hp
    split at hp
    · cases hb : Nat.ble (List.length _) 4 <;> rw [hb] at hp <;> first | (cases hp; done) | (cases hp; exact Grows.rf h)
    · cases hp
  rw [cond_false] at hp
  cases h12 : Nat.beq op 12 <;> rw [h12] at hp
  case true =>
    rw [cond_true] at hp
    split at hp
    · cases hb : Nat.ble (List.length _) 4 <;> rw [hb] at hp <;> first | (cases hp; done) | (cases hp; exact Grows.rf h)
    · cases hp
  rw [cond_false] at hp
  cases hp
theorem rstep_same {rt : Nat} {i : Instr} {r : AR} (h : rstep rt i st M = some r) : r.2 = M := by
  unfold rstep at h
  split at h
  · rename_i v
    cases hb : (Nat.beq rt 1 || (Nat.beq rt 2 && (v == 0 || v == 1))) <;> rw [hb] at h <;> cases h <;> rfl
  · cases hb : Nat.beq rt 3 <;> rw [hb] at h <;> cases h <;> rfl
  · cases hb : Nat.beq rt 4 <;> rw [hb] at h <;> cases h <;> rfl
  · cases hb : Nat.beq rt 4 <;> rw [hb] at h <;> cases h <;> rfl
  · cases hb : Nat.beq rt 0 <;> rw [hb] at h <;> cases h <;> rfl
  · cases h
end MONO
theorem ago_grows {sc : Nat × (Nat → Int32)} : ∀ (n d : Nat) (X : MD) (mm pc : Nat) (ll : AL) (st : List Value) (M : AM) (r : AR), mt mm = some X → Wf sc M → ago n d X pc ll st M = some r → Grows sc M r.2
  | 0, _, _, _, _, _, _, _, _, _, _, h => by cases h
  | n + 1, d, X, mm, pc, ll, st, M, r, hm, hw, h => by
    have h : abody (ago n) d X pc ll st M = some r := h
    rcases abody_cases h with ⟨pc', l', st', M', h1, h2⟩ | ⟨h0, i, len, h1, h2⟩ | ⟨h0, op, a, b, v, len, st', M', h1, h2, h3, h4⟩ | ⟨h0, op, a, b, v, len, Y, d', args, rest, rv, M', h1, h2, h3, rfl, h5, hwm, h6, h7⟩
    · have g := sstep_grows hm hw h1
      exact g.tr (ago_grows n d X mm pc' l' st' M' r hm g.1 h2)
    · rw [rstep_same h2]; exact Grows.rf hw
    · have g := bstep_grows hw h2
      exact g.tr (ago_grows n d X mm _ ll st' M' r hm g.1 h4)
    · have g := ago_grows n d' Y a 0 _ [] M (rv, M') h3 hw h6
      exact g.tr (ago_grows n (d' + 1) X mm _ ll _ M' r hm g.1 h7)
end
section
/-! String.length and String.charAt of the String constants, as JDK 17 has them. -/
def wsJ (y : MethodName) (b : ByteArray) (L : Nat) (r : Option FieldType) : List Jvm.Cond := Jvm.Cond.code y b L r :: lw_t2
def SOk (G : SG) (sc : Nat × (Nat → Int32)) (adV : Nat → Nat) (U : State) : Prop := Old G sc adV U U.heap ∧ G.1 ≤ U.heap.size
theorem SOk.blind {G : SG} {sc : Nat × (Nat → Int32)} {adV : Nat → Nat} (vs : List Value) : FrameBlind (va_Pc vs (SOk G sc adV)) := by
  intro a U g mk h
  obtain ⟨e, h1, h2⟩ := h
  exact ⟨e, h1.same rfl rfl, h2⟩
def yJ_prec : MethodName := ⟨"jdk/internal/util/Preconditions", "checkIndex", "(IILjava/util/function/BiFunction;)I"⟩
def yJ_chk : MethodName := ⟨"java/lang/String", "checkIndex", "(II)V"⟩
def yJ_l1 : MethodName := ⟨"java/lang/StringLatin1", "charAt", "([BI)C"⟩
def yJ_coder : MethodName := ⟨"java/lang/String", "coder", "()B"⟩
def yJ_isl : MethodName := ⟨"java/lang/String", "isLatin1", "()Z"⟩
def yJ_len : MethodName := ⟨"java/lang/String", "length", "()I"⟩
def yJ_charAt : MethodName := ⟨"java/lang/String", "charAt", "(I)C"⟩
def rmJ (d : Nat) : Room := { frames := d, cells := 0, slots := 0, locals := 40 * d }
section JSTR
variable {p : Program} {l : Launch} {e : Env} {R : Room} {s : State} {m : MethodId} {args : Array Value} {below : List Frame} {meth : Method} {c : Code} {H : Heap} {locs : List Loc} {cells slots : Nat} {Q : State → Prop}
variable {G : SG} {sc : Nat × (Nat → Int32)} {adV : Nat → Nat}
theorem cbJ {own : String} {idx L n d : Nat} {y : MethodName} {b : ByteArray} {r : Option FieldType} (hts : ∀ w ∈ lw_t2, w.before args s = true) (h1 : Jvm.Cond.code y b L r ∈ lw_tbl) (h2 : Jvm.Cond.initialized y.cls ∈ lw_tbl) (h3 : Jvm.Cond.methodLink own idx y ∈ lw_tbl) (hne : y.cls ≠ "java/lang/invoke/MethodHandle" ∧ y.cls ≠ "java/lang/invoke/VarHandle") (hn : (parseMethodDescriptor y.desc).map (fun d => d.parameters.length) = some n) (hL : L ≤ 20) (hf : d + 1 ≤ R.frames) (hl : 40 * (d + 1) ≤ R.locals) : CallB R s args own idx y b L r (wsJ y b L r) (rmJ d) 0 0 n := by
  refine ⟨rfl, rfl, hf, by show 8 + (L + 11) + 40 * d ≤ R.locals; omega, fun w hw a' U hW => ?_, List.mem_cons_self, hts _ (t2_in h1 rfl), hts _ (t2_in h2 rfl), hne, fun sig h => ?_, hts _ (t2_in h3 rfl)⟩
  · rcases List.mem_cons.mp hw with h | h
    · subst h; exact lw_go hW hts _ (t2_in h1 rfl)
    · exact lw_go hW hts w h
  · rw [h] at hn
    exact (Option.some.inj hn).symm
set_option maxHeartbeats 4000000 in
set_option maxRecDepth 100000 in
theorem c_prec (l : Launch) (d : Nat) (i n : Int32) (v : Value) (hc : v.category = 1) (h0 : ¬ i < 0) (h1 : i < n) : Met l yJ_prec (wsJ yJ_prec prog_19_method_11_code 3 (some .int)) (rmJ d) (va_Pc [.int i, .int n, v] (SOk G sc adV)) (vp_Si (fun _ => True)) 0 0 (fun _ => False) := by
  refine Met.ofW (cc := prog_19_method_11_code) (maxL := 3) (ret := some .int) (by decide) rfl ?_
  intro p e s m args below meth c s₁ B hml hv
  obtain ⟨rfl, hO, hG⟩ := hv
  have hx := B.exec
  have hb := B.bytes
  have hr := B.returns
  have hlocks := B.notSynchronized
  have hl := lv_entry ([.int i, .int n, v]) (n := 3) (by rw [lg_len]; show 1 + (1 + (v.category + 0)) ≤ 3; omega)
  rw [lg_entry_eq]
  generalize (lg_sl ([.int i, .int n, v]) ++ List.replicate (3 - (lg_sl ([.int i, .int n, v])).length) Slot.unset).toArray = ls at hl ⊢
  replace hl : lv_has ls 3 [(0, .int i), (1, .int n), (2, v)] := hl
  refine lv_iload_n (k := 0) hx hb (by decide +kernel) rfl (lv_at hl 0 rfl) ?_
  refine lv_if_lt (off := 8) (tgt := 9) hx hb (by decide +kernel) (by decide) (fun h => absurd h h0) (fun _ => ?_)
  refine lv_iload_n (k := 0) hx hb (by decide +kernel) rfl (lv_at hl 0 rfl) ?_
  refine lv_iload_n (k := 1) hx hb (by decide +kernel) rfl (lv_at hl 1 rfl) ?_
  refine lv_icmp_lt (off := 10) (tgt := 16) hx hb (by decide +kernel) (by decide) (fun _ => ?_) (fun h => absurd h1 h)
  refine lv_iload_n (k := 0) hx hb (by decide +kernel) rfl (lv_at hl 0 rfl) ?_
  exact W.iret hx hb hr (fun t ht hW => ⟨_, rfl, trivial, ht⟩) (fun _ h => by cases h) (by decide +kernel)
set_option maxHeartbeats 4000000 in
set_option maxRecDepth 100000 in
theorem c_chk (l : Launch) (d : Nat) (i n : Int32) (h0 : ¬ i < 0) (h1 : i < n) : Met l yJ_chk (wsJ yJ_chk prog_15_method_155_code 2 none) (rmJ (d + 1)) (va_Pc [.int i, .int n] (SOk G sc adV)) (va_Sv (fun _ => True)) 0 0 (fun _ => False) := by
  refine Met.ofW (cc := prog_15_method_155_code) (maxL := 2) (ret := none) (by decide) rfl ?_
  intro p e s m args below meth c s₁ B hml hv
  obtain ⟨rfl, hO, hG⟩ := hv
  have hx := B.exec
  have hb := B.bytes
  have hr := B.returns
  have hlocks := B.notSynchronized
  have hts0 := atoms_spec (ws := wsJ yJ_chk prog_15_method_155_code 2 none) B.pre
  have hts : ∀ w ∈ lw_t2, w.before #[Value.int i, .int n] s = true := fun w hw => hts0 w (List.mem_cons_of_mem _ hw)
  have hown : s.vm.findClass "java/lang/String" = some m.cls := findClass_of_methodNamed B.named
  have hS : va_S (fun q => G.1 ≤ q) s.heap s.heap [] := va_S.rf
  have hl := lv_entry ([.int i, .int n]) (n := 2) (Nat.le_of_ble_eq_true rfl)
  rw [lg_entry_eq]
  generalize (lg_sl ([.int i, .int n]) ++ List.replicate (2 - (lg_sl ([.int i, .int n])).length) Slot.unset).toArray = ls at hl ⊢
  replace hl : lv_has ls 2 [(0, .int i), (1, .int n)] := hl
  refine lv_iload_n (k := 0) hx hb (by decide +kernel) rfl (lv_at hl 0 rfl) ?_
  refine lv_iload_n (k := 1) hx hb (by decide +kernel) rfl (lv_at hl 1 rfl) ?_
  have fin : ∀ v : Value, v.category = 1 → va_Z "jdk/internal/util/Preconditions" "SIOOBE_FORMATTER" "Ljava/util/function/BiFunction;" v (fun q => G.1 ≤ q) s s.heap → W p l e (headSpec (wsJ yJ_chk prog_15_method_155_code 2 none) (rmJ (d + 1))).room s m #[Value.int i, .int n] below meth c s.heap [] 0 0 (MQ below (va_Sv (fun _ => True)) #[Value.int i, .int n] s 0 0 (fun _ => False)) (F0 m (0 + 1 + 1) ls [.int n, .int i]) := by
    intro v hc hZ
    refine va_gets (index := 1053) hx hb hZ hS hown (hts _ (t2_in (lwz_mem (i := 569) rfl) rfl)) (fun _ h => h) (by decide +kernel) ?_
    refine vp_callSi (W.runS (As := [.int i, .int n, v]) (rest := []) (n := 3) (ret := some .int) ⟨hx, hb, hml, hown, hts⟩ (c_prec (G := G) (sc := sc) (adV := adV) l d i n v hc h0 h1) ⟨cbJ (idx := 1059) hts (lwz_mem (i := 573) rfl) (lwz_mem (i := 101) rfl) (lwz_mem (i := 571) rfl) ⟨by decide, by decide⟩ (by decide +kernel) (by decide) (Nat.le_refl _) (Nat.le_refl _), hts _ (t2_in (lwz_mem (i := 572) rfl) rfl)⟩ ⟨SOk.blind _, fun U hU hW => ⟨rfl, hO.go hG hS hU hW, by rw [hU]; exact hG⟩⟩ rfl rfl hl.1 rfl (lv_room (Nat.zero_le _)) (show decode prog_15_method_155_code 5 = .ok (.invokestatic 1059, 3) from by decide +kernel) ⟨Nat.le_refl _, Nat.le_refl _⟩) (fun r _ => ?_)
    refine lv_pop hx hb (by decide +kernel) rfl ?_
    exact W.vret hx hb hr (fun t ht hW => ⟨rfl, trivial, ht⟩) (fun _ h => by cases h) (by decide +kernel)
  rcases hO.2.2.2.2.2 with h | ⟨t, h⟩
  · exact fin .null rfl h
  · exact fin (.ref t) rfl h
set_option maxHeartbeats 4000000 in
set_option maxRecDepth 100000 in
theorem c_l1 (l : Launch) (d i : Nat) (j : Int32) (hi : i < 21) (hj : vp_in j (slen.getD i 0)) (hbyte : ∀ z, z < slen.getD i 0 → (((sbyt.getD i []).getD z 0 &&& 255).toUInt32 % 65536).toInt32 = (sbyt.getD i []).getD z 0 ∧ narrow .char (.int ((sbyt.getD i []).getD z 0)) = .int ((sbyt.getD i []).getD z 0)) (hlen : slen.getD i 0 < 2 ^ 31) : Met l yJ_l1 (wsJ yJ_l1 prog_16_method_2_code 2 (some .char)) (rmJ (d + 2)) (va_Pc [.ref (adV i), .int j] (SOk G sc adV)) (vp_Si (fun r => r = (sbyt.getD i []).getD j.toNatClampNeg 0)) 0 0 (fun _ => False) := by
  refine Met.ofW (cc := prog_16_method_2_code) (maxL := 2) (ret := some .char) (by decide) rfl ?_
  intro p e s m args below meth c s₁ B hml hv
  obtain ⟨rfl, hO, hG⟩ := hv
  have hx := B.exec
  have hb := B.bytes
  have hr := B.returns
  have hlocks := B.notSynchronized
  have hts0 := atoms_spec (ws := wsJ yJ_l1 prog_16_method_2_code 2 (some .char)) B.pre
  have hts : ∀ w ∈ lw_t2, w.before #[Value.ref (adV i), .int j] s = true := fun w hw => hts0 w (List.mem_cons_of_mem _ hw)
  have hown : s.vm.findClass "java/lang/StringLatin1" = some m.cls := findClass_of_methodNamed B.named
  have hS : va_S (fun q => G.1 ≤ q) s.heap s.heap [] := va_S.rf
  have hT := (hO.2.2.1.1 i hi).2.2.2
  have hl := lv_entry ([.ref (adV i), .int j]) (n := 2) (Nat.le_of_ble_eq_true rfl)
  rw [lg_entry_eq]
  generalize (lg_sl ([.ref (adV i), .int j]) ++ List.replicate (2 - (lg_sl ([.ref (adV i), .int j])).length) Slot.unset).toArray = ls at hl ⊢
  replace hl : lv_has ls 2 [(0, .ref (adV i)), (1, .int j)] := hl
  have hj0 : ¬ j < 0 := fun h => hj (Or.inl h)
  have hjn : j.toNatClampNeg < slen.getD i 0 := Nat.not_le.mp fun h => hj (Or.inr h)
  have hjlt : j < Int32.ofNat (slen.getD i 0) := by
    obtain ⟨z, hz, rfl⟩ := vp_in_of hj hlen
    exact nI_lt hz hlen
  refine lv_iload_n (k := 1) hx hb (by decide +kernel) rfl (lv_at hl 1 rfl) ?_
  refine lv_aload_n (k := 0) hx hb (by decide +kernel) rfl (lv_at hl 0 rfl) ?_
  refine va_tlen hx hb hT hS rfl (by decide +kernel) ?_
  refine va_csv (W.runS (As := [.int j, .int (Int32.ofNat (slen.getD i 0))]) (rest := []) (n := 2) (ret := none) ⟨hx, hb, hml, hown, hts⟩ (c_chk (G := G) (sc := sc) (adV := adV) l d j _ hj0 hjlt) ⟨cbJ (idx := 9) hts (lwz_mem (i := 568) rfl) (lwz_mem (i := 99) rfl) (lwz_mem (i := 566) rfl) ⟨by decide, by decide⟩ (by decide +kernel) (by decide) (Nat.le_refl _) (Nat.le_refl _), hts _ (t2_in (lwz_mem (i := 567) rfl) rfl)⟩ ⟨SOk.blind _, fun U hU hW => ⟨rfl, hO.go hG hS hU hW, by rw [hU]; exact hG⟩⟩ rfl rfl hl.1 rfl (lv_room (Nat.zero_le _)) (show decode prog_16_method_2_code 3 = .ok (.invokestatic 9, 3) from by decide +kernel) ⟨Nat.le_refl _, Nat.le_refl _⟩) (fun _ => ?_)
  refine lv_aload_n (k := 0) hx hb (by decide +kernel) rfl (lv_at hl 0 rfl) ?_
  refine lv_iload_n (k := 1) hx hb (by decide +kernel) rfl (lv_at hl 1 rfl) ?_
  refine va_tb hx hb hT hS hj rfl (by decide +kernel) ?_
  refine lv_sipush (n := 255) (v := 255) hx hb (by decide +kernel) (by decide) ?_
  refine lv_iand hx hb (by decide +kernel) ?_
  refine lv_i2c hx hb (by decide +kernel) (hbyte _ hjn).1 ?_
  exact W.zret hx hb hr (hbyte _ hjn).2 (fun t ht hW => ⟨_, rfl, rfl, ht⟩) (fun _ h => by cases h) (by decide +kernel)
set_option maxHeartbeats 4000000 in
set_option maxRecDepth 100000 in
theorem c_coder (l : Launch) (d i : Nat) (hi : i < 21) : Met l yJ_coder (wsJ yJ_coder prog_15_method_152_code 1 (some .byte)) (rmJ d) (va_Pc [.ref (G.2.1 (3 + i))] (SOk G sc adV)) (vp_Si (fun r => r = 0)) 0 0 (fun _ => False) := by
  refine Met.ofW (cc := prog_15_method_152_code) (maxL := 1) (ret := some .byte) (by decide) rfl ?_
  intro p e s m args below meth c s₁ B hml hv
  obtain ⟨rfl, hO, hG⟩ := hv
  have hx := B.exec
  have hb := B.bytes
  have hr := B.returns
  have hlocks := B.notSynchronized
  have hts0 := atoms_spec (ws := wsJ yJ_coder prog_15_method_152_code 1 (some .byte)) B.pre
  have hts : ∀ w ∈ lw_t2, w.before #[Value.ref (G.2.1 (3 + i))] s = true := fun w hw => hts0 w (List.mem_cons_of_mem _ hw)
  have hown : s.vm.findClass "java/lang/String" = some m.cls := findClass_of_methodNamed B.named
  have hS : va_S (fun q => G.1 ≤ q) s.heap s.heap [] := va_S.rf
  have hl := lv_entry ([.ref (G.2.1 (3 + i))]) (n := 1) (Nat.le_of_ble_eq_true rfl)
  rw [lg_entry_eq]
  generalize (lg_sl ([.ref (G.2.1 (3 + i))]) ++ List.replicate (1 - (lg_sl ([.ref (G.2.1 (3 + i))])).length) Slot.unset).toArray = ls at hl ⊢
  replace hl : lv_has ls 1 [(0, .ref (G.2.1 (3 + i)))] := hl
  refine va_gets (index := 38) hx hb hO.2.2.2.2.1 hS hown (hts _ (t2_in (lwz_mem (i := 553) rfl) rfl)) (fun _ h => h) (by decide +kernel) ?_
  refine lv_if_eq (off := 10) (tgt := 13) hx hb (by decide +kernel) (by decide) (fun h => absurd h (by decide)) (fun _ => ?_)
  refine lv_aload_n (k := 0) hx hb (by decide +kernel) rfl (lv_at hl 0 rfl) ?_
  refine vk_getf (index := 15) hx hb (hO.2.2.1.1 i hi).2.1 hS hown (hts _ (t2_in (lwz_mem (i := 1777) rfl) rfl)) (fun _ h => h) (by decide +kernel) ?_
  refine lv_goto (off := 4) (tgt := 14) hx hb (by decide +kernel) (by decide) ?_
  exact W.zret hx hb hr rfl (fun t ht hW => ⟨_, rfl, rfl, ht⟩) (fun _ h => by cases h) (by decide +kernel)
set_option maxHeartbeats 4000000 in
set_option maxRecDepth 100000 in
theorem c_isl (l : Launch) (d i : Nat) (hi : i < 21) : Met l yJ_isl (wsJ yJ_isl prog_15_method_154_code 1 (some .boolean)) (rmJ d) (va_Pc [.ref (G.2.1 (3 + i))] (SOk G sc adV)) (vp_Si (fun r => r = 1)) 0 0 (fun _ => False) := by
  refine Met.ofW (cc := prog_15_method_154_code) (maxL := 1) (ret := some .boolean) (by decide) rfl ?_
  intro p e s m args below meth c s₁ B hml hv
  obtain ⟨rfl, hO, hG⟩ := hv
  have hx := B.exec
  have hb := B.bytes
  have hr := B.returns
  have hlocks := B.notSynchronized
  have hts0 := atoms_spec (ws := wsJ yJ_isl prog_15_method_154_code 1 (some .boolean)) B.pre
  have hts : ∀ w ∈ lw_t2, w.before #[Value.ref (G.2.1 (3 + i))] s = true := fun w hw => hts0 w (List.mem_cons_of_mem _ hw)
  have hown : s.vm.findClass "java/lang/String" = some m.cls := findClass_of_methodNamed B.named
  have hS : va_S (fun q => G.1 ≤ q) s.heap s.heap [] := va_S.rf
  have hl := lv_entry ([.ref (G.2.1 (3 + i))]) (n := 1) (Nat.le_of_ble_eq_true rfl)
  rw [lg_entry_eq]
  generalize (lg_sl ([.ref (G.2.1 (3 + i))]) ++ List.replicate (1 - (lg_sl ([.ref (G.2.1 (3 + i))])).length) Slot.unset).toArray = ls at hl ⊢
  replace hl : lv_has ls 1 [(0, .ref (G.2.1 (3 + i)))] := hl
  refine va_gets (index := 38) hx hb hO.2.2.2.2.1 hS hown (hts _ (t2_in (lwz_mem (i := 553) rfl) rfl)) (fun _ h => h) (by decide +kernel) ?_
  refine lv_if_eq (off := 14) (tgt := 17) hx hb (by decide +kernel) (by decide) (fun h => absurd h (by decide)) (fun _ => ?_)
  refine lv_aload_n (k := 0) hx hb (by decide +kernel) rfl (lv_at hl 0 rfl) ?_
  refine vk_getf (index := 15) hx hb (hO.2.2.1.1 i hi).2.1 hS hown (hts _ (t2_in (lwz_mem (i := 1777) rfl) rfl)) (fun _ h => h) (by decide +kernel) ?_
  refine lv_if_ne (off := 7) (tgt := 17) hx hb (by decide +kernel) (by decide) (fun h => absurd rfl h) (fun _ => ?_)
  refine lv_iconst (n := 1) (v := 1) hx hb (by decide +kernel) (by decide) ?_
  refine lv_goto (off := 4) (tgt := 18) hx hb (by decide +kernel) (by decide) ?_
  exact W.zret hx hb hr rfl (fun t ht hW => ⟨_, rfl, rfl, ht⟩) (fun _ h => by cases h) (by decide +kernel)
set_option maxHeartbeats 4000000 in
set_option maxRecDepth 100000 in
theorem c_len (l : Launch) (d i : Nat) (hi : i < 21) (hlen : slen.getD i 0 < 2 ^ 31) : Met l yJ_len (wsJ yJ_len prog_15_method_54_code 1 (some .int)) (rmJ (d + 1)) (va_Pc [.ref (G.2.1 (3 + i))] (SOk G sc adV)) (vp_Si (fun r => r = Int32.ofNat (slen.getD i 0))) 0 0 (fun _ => False) := by
  refine Met.ofW (cc := prog_15_method_54_code) (maxL := 1) (ret := some .int) (by decide) rfl ?_
  intro p e s m args below meth c s₁ B hml hv
  obtain ⟨rfl, hO, hG⟩ := hv
  have hx := B.exec
  have hb := B.bytes
  have hr := B.returns
  have hlocks := B.notSynchronized
  have hts0 := atoms_spec (ws := wsJ yJ_len prog_15_method_54_code 1 (some .int)) B.pre
  have hts : ∀ w ∈ lw_t2, w.before #[Value.ref (G.2.1 (3 + i))] s = true := fun w hw => hts0 w (List.mem_cons_of_mem _ hw)
  have hown : s.vm.findClass "java/lang/String" = some m.cls := findClass_of_methodNamed B.named
  have hS : va_S (fun q => G.1 ≤ q) s.heap s.heap [] := va_S.rf
  have hE := hO.2.2.1.1 i hi
  have hl := lv_entry ([.ref (G.2.1 (3 + i))]) (n := 1) (Nat.le_of_ble_eq_true rfl)
  rw [lg_entry_eq]
  generalize (lg_sl ([.ref (G.2.1 (3 + i))]) ++ List.replicate (1 - (lg_sl ([.ref (G.2.1 (3 + i))])).length) Slot.unset).toArray = ls at hl ⊢
  replace hl : lv_has ls 1 [(0, .ref (G.2.1 (3 + i)))] := hl
  refine lv_aload_n (k := 0) hx hb (by decide +kernel) rfl (lv_at hl 0 rfl) ?_
  refine vk_getf (index := 9) hx hb hE.2.2.1 hS hown (hts _ (t2_in (lwz_mem (i := 1776) rfl) rfl)) (fun _ h => h) (by decide +kernel) ?_
  refine va_tlen hx hb hE.2.2.2 hS rfl (by decide +kernel) ?_
  refine lv_aload_n (k := 0) hx hb (by decide +kernel) rfl (lv_at hl 0 rfl) ?_
  refine vp_callSi (W.runV (C := "java/lang/String") (As := []) (rest := [.int (Int32.ofNat (slen.getD i 0))]) (n := 0) (ret := some .byte) ⟨hx, hb, hml, hown, hts⟩ (c_coder (G := G) (sc := sc) (adV := adV) l d i hi) ⟨cbJ (idx := 335) hts (lwz_mem (i := 552) rfl) (lwz_mem (i := 99) rfl) (lwz_mem (i := 549) rfl) ⟨by decide, by decide⟩ (by decide +kernel) (by decide) (Nat.le_refl _) (Nat.le_refl _), hts _ (t2_in (lwz_mem (i := 550) rfl) rfl), hts _ (t2_in (lwz_mem (i := 551) rfl) rfl)⟩ ⟨SOk.blind _, vk_recv hO.2.2.1 hi hS, fun U hU hW => ⟨rfl, hO.go hG hS hU hW, by rw [hU]; exact hG⟩⟩ rfl rfl hl.1 rfl (lv_room (Nat.le_of_ble_eq_true rfl)) (show decode prog_15_method_54_code 6 = .ok (.invokevirtual 335, 3) from by decide +kernel) ⟨Nat.le_refl _, Nat.le_refl _⟩) (fun r hr0 => ?_)
  subst hr0
  refine lv_ishr hx hb (by decide +kernel) ?_
  exact W.iret hx hb hr (fun t ht hW => ⟨_, rfl, sb_shr0 _, ht⟩) (fun _ h => by cases h) (by decide +kernel)
set_option maxHeartbeats 4000000 in
set_option maxRecDepth 100000 in
theorem c_charAt (l : Launch) (d i : Nat) (j : Int32) (hi : i < 21) (hj : vp_in j (slen.getD i 0)) (hbyte : ∀ z, z < slen.getD i 0 → (((sbyt.getD i []).getD z 0 &&& 255).toUInt32 % 65536).toInt32 = (sbyt.getD i []).getD z 0 ∧ narrow .char (.int ((sbyt.getD i []).getD z 0)) = .int ((sbyt.getD i []).getD z 0)) (hlen : slen.getD i 0 < 2 ^ 31) : Met l yJ_charAt (wsJ yJ_charAt prog_15_method_56_code 2 (some .char)) (rmJ (d + 3)) (va_Pc [.ref (G.2.1 (3 + i)), .int j] (SOk G sc adV)) (vp_Si (fun r => r = (sbyt.getD i []).getD j.toNatClampNeg 0)) 0 0 (fun _ => False) := by
  refine Met.ofW (cc := prog_15_method_56_code) (maxL := 2) (ret := some .char) (by decide) rfl ?_
  intro p e s m args below meth c s₁ B hml hv
  obtain ⟨rfl, hO, hG⟩ := hv
  have hx := B.exec
  have hb := B.bytes
  have hr := B.returns
  have hlocks := B.notSynchronized
  have hts0 := atoms_spec (ws := wsJ yJ_charAt prog_15_method_56_code 2 (some .char)) B.pre
  have hts : ∀ w ∈ lw_t2, w.before #[Value.ref (G.2.1 (3 + i)), .int j] s = true := fun w hw => hts0 w (List.mem_cons_of_mem _ hw)
  have hown : s.vm.findClass "java/lang/String" = some m.cls := findClass_of_methodNamed B.named
  have hS : va_S (fun q => G.1 ≤ q) s.heap s.heap [] := va_S.rf
  have hE := hO.2.2.1.1 i hi
  have hl := lv_entry ([.ref (G.2.1 (3 + i)), .int j]) (n := 2) (Nat.le_of_ble_eq_true rfl)
  rw [lg_entry_eq]
  generalize (lg_sl ([.ref (G.2.1 (3 + i)), .int j]) ++ List.replicate (2 - (lg_sl ([.ref (G.2.1 (3 + i)), .int j])).length) Slot.unset).toArray = ls at hl ⊢
  replace hl : lv_has ls 2 [(0, .ref (G.2.1 (3 + i))), (1, .int j)] := hl
  have hjn : j.toNatClampNeg < slen.getD i 0 := Nat.not_le.mp fun h => hj (Or.inr h)
  refine lv_aload_n (k := 0) hx hb (by decide +kernel) rfl (lv_at hl 0 rfl) ?_
  refine vp_callSi (W.runV (C := "java/lang/String") (As := []) (rest := []) (n := 0) (ret := some .boolean) ⟨hx, hb, hml, hown, hts⟩ (c_isl (G := G) (sc := sc) (adV := adV) l (d + 2) i hi) ⟨cbJ (idx := 492) hts (lwz_mem (i := 562) rfl) (lwz_mem (i := 99) rfl) (lwz_mem (i := 559) rfl) ⟨by decide, by decide⟩ (by decide +kernel) (by decide) (Nat.le_refl _) (Nat.le_refl _), hts _ (t2_in (lwz_mem (i := 560) rfl) rfl), hts _ (t2_in (lwz_mem (i := 561) rfl) rfl)⟩ ⟨SOk.blind _, vk_recv hO.2.2.1 hi hS, fun U hU hW => ⟨rfl, hO.go hG hS hU hW, by rw [hU]; exact hG⟩⟩ rfl rfl hl.1 rfl (lv_room (Nat.le_of_ble_eq_true rfl)) (show decode prog_15_method_56_code 1 = .ok (.invokevirtual 492, 3) from by decide +kernel) ⟨Nat.le_refl _, Nat.le_refl _⟩) (fun r hr0 => ?_)
  subst hr0
  refine lv_if_eq (off := 12) (tgt := 16) hx hb (by decide +kernel) (by decide) (fun h => absurd h (by decide)) (fun _ => ?_)
  refine lv_aload_n (k := 0) hx hb (by decide +kernel) rfl (lv_at hl 0 rfl) ?_
  refine vk_getf (index := 9) hx hb hE.2.2.1 hS hown (hts _ (t2_in (lwz_mem (i := 1776) rfl) rfl)) (fun _ h => h) (by decide +kernel) ?_
  refine lv_iload_n (k := 1) hx hb (by decide +kernel) rfl (lv_at hl 1 rfl) ?_
  refine vp_callSi (W.runS (As := [.ref (adV i), .int j]) (rest := []) (n := 2) (ret := some .char) ⟨hx, hb, hml, hown, hts⟩ (c_l1 (G := G) (sc := sc) (adV := adV) l d i j hi hj hbyte hlen) ⟨cbJ (idx := 495) hts (lwz_mem (i := 565) rfl) (lwz_mem (i := 100) rfl) (lwz_mem (i := 563) rfl) ⟨by decide, by decide⟩ (by decide +kernel) (by decide) (Nat.le_refl _) (Nat.le_refl _), hts _ (t2_in (lwz_mem (i := 564) rfl) rfl)⟩ ⟨SOk.blind _, fun U hU hW => ⟨rfl, hO.go hG hS hU hW, by rw [hU]; exact hG⟩⟩ rfl rfl hl.1 rfl (lv_room (Nat.le_of_ble_eq_true rfl)) (show decode prog_15_method_56_code 12 = .ok (.invokestatic 495, 3) from by decide +kernel) ⟨Nat.le_refl _, Nat.le_refl _⟩) (fun r hr0 => ?_)
  subst hr0
  exact W.zret hx hb hr (hbyte _ hjn).2 (fun t ht hW => ⟨_, rfl, rfl, ht⟩) (fun _ h => by cases h) (by decide +kernel)
end JSTR
end
section
/-! The JDK's own, and SOUNDNESS itself. -/
def bnm (op : Nat) : MethodName := bif Nat.beq op 7 then yJ_len else bif Nat.beq op 8 then yJ_charAt else bif Nat.beq op 9 then arraycopyName else bif Nat.beq op 10 then objectInit else bif Nat.beq op 11 then Lib.Math.min.name else Lib.Math.max.name
set_option maxRecDepth 100000 in
theorem blT_all : blT.all (fun c => c.2.all (fun q => decide (lwz q.2.2 = some (Jvm.Cond.methodLink (cnm (q.1 / 1000)) (q.1 % 1000) (bnm q.2.1))))) = true := by decide +kernel
set_option maxHeartbeats 4000000 in
theorem ochk_b {o op a b pc len : Nat} {v : Value} {dd : Except DecodeError (Instr × Nat)} (ho : op = 7 ∨ op = 8 ∨ op = 9 ∨ op = 10 ∨ op = 11 ∨ op = 12) (h : ochk o op a b v pc len dd = true) : ∃ i x : Nat, len = 3 ∧ i < 1000 ∧ lk2 blT (1000 * o + i) = some (op, x) ∧ ((dd = .ok (.invokevirtual i, 3) ∧ (op = 7 ∨ op = 8)) ∨ (dd = .ok (.invokespecial i, 3) ∧ op = 10) ∨ (dd = .ok (.invokestatic i, 3) ∧ (op = 9 ∨ op = 11 ∨ op = 12))) := by
  rcases ho with rfl | rfl | rfl | rfl | rfl | rfl
  all_goals
    unfold ochk at h
    split at h
    all_goals try exact absurd (show false = true from h) (by decide)
    all_goals first
      | (rename_i cnd off
         rw [Bool.and_eq_true] at h
         revert h
         cases cnd <;> exact fun h => absurd (show false = true from h.2) (by decide))
      | (rename_i i
         simp only [Bool.and_eq_true] at h
         obtain ⟨⟨h1, h2⟩, h3⟩ := h
         have h1 := Nat.eq_of_beq_eq_true h1
         have h2 : i < 1000 := Nat.le_of_ble_eq_true h2
         split at h3
         · exact absurd (show false = true from h3) (by decide)
         · split at h3
           · rename_i pp x hl
             simp only [Bool.and_eq_true] at h3
             have g1 := Nat.eq_of_beq_eq_true h3.1
             subst g1
             first
               | exact absurd (show false = true from h3.2) (by decide)
               | exact ⟨i, x, h1, h2, hl, Or.inl ⟨rfl, by decide⟩⟩
               | exact ⟨i, x, h1, h2, hl, Or.inr (Or.inl ⟨rfl, by decide⟩)⟩
               | exact ⟨i, x, h1, h2, hl, Or.inr (Or.inr ⟨rfl, by decide⟩)⟩
           · cases h3)
theorem sb_all : (List.range 21).all (fun i => Nat.blt (slen.getD i 0) 100 && (List.range (slen.getD i 0)).all (fun z => decide ((((sbyt.getD i []).getD z 0 &&& 255).toUInt32 % 65536).toInt32 = (sbyt.getD i []).getD z 0) && decide (narrow .char (.int ((sbyt.getD i []).getD z 0)) = .int ((sbyt.getD i []).getD z 0)))) = true := by decide +kernel
theorem sb_ok {i : Nat} (hi : i < 21) : slen.getD i 0 < 2 ^ 31 ∧ ∀ z, z < slen.getD i 0 → (((sbyt.getD i []).getD z 0 &&& 255).toUInt32 % 65536).toInt32 = (sbyt.getD i []).getD z 0 ∧ narrow .char (.int ((sbyt.getD i []).getD z 0)) = .int ((sbyt.getD i []).getD z 0) := by
  have h := List.all_eq_true.mp sb_all i (List.mem_range.mpr hi)
  rw [Bool.and_eq_true] at h
  have h1 : slen.getD i 0 < 100 := Nat.le_of_ble_eq_true h.1
  refine ⟨by omega, fun z hz => ?_⟩
  have h2 := List.all_eq_true.mp h.2 z (List.mem_range.mpr hz)
  rw [Bool.and_eq_true] at h2
  exact ⟨of_decide_eq_true h2.1, of_decide_eq_true h2.2⟩
theorem Wf.str {sc : Nat × (Nat → Int32)} {M : AM} (h : Wf sc M) {q n : Nat} {x : ADt} (hM : M q = .inl (8, n, x)) : ∃ i, i < 21 ∧ q = 3 + i ∧ n = slen.getD i 0 ∧ x = .inl (fun j => (sbyt.getD i []).getD j 0) := by
  obtain ⟨⟨n0, h0⟩, ⟨n1, h1⟩, h2, h3, h4, h5, h6⟩ := h
  by_cases a : 32 ≤ q
  · exact absurd (h6 q 8 n _ a hM) (by omega)
  · by_cases a0 : q = 0
    · subst a0; rw [hM] at h0; cases h0
    by_cases a1 : q = 1
    · subst a1; rw [hM] at h1; cases h1
    by_cases a2 : q = 2
    · subst a2
      rw [hM] at h2
      injection h2 with h2
      exact absurd (show (8 : Nat) = 7 from congrArg Prod.fst h2) (by decide)
    by_cases a3 : q < 24
    · have h7 := h3 (q - 3) (by omega)
      rw [show 3 + (q - 3) = q by omega, hM] at h7
      injection h7 with h7
      exact ⟨q - 3, by omega, by omega, congrArg (fun z => z.2.1) h7, congrArg (fun z => z.2.2) h7⟩
    · have := h4 q (by omega) (by omega)
      rw [hM] at this; cases this
theorem ad_str (G : SG) {i : Nat} (hi : i < 21) : cv G (.ref (3 + i)) = .ref (G.2.1 (3 + i)) := by
  show Value.ref (ad G (3 + i)) = _
  unfold ad
  rw [if_pos (by omega)]
section MAIN
variable {p : Program} {l : Launch} {e : Env} {R : Room} {s : State} {m : MethodId} {args : Array Value} {below : List Frame} {meth : Method} {c : Code} {H : Heap} {locs : List Loc} {cells slots : Nat} {Q : State → Prop}
variable {G : SG} {sc : Nat × (Nat → Int32)} {adV : Nat → Nat} {X : MD} {pc pc' len : Nat} {ls : Array Slot} {ll ll' : AL} {st st' : List Value} {M M' : AM}
set_option maxHeartbeats 4000000 in
set_option maxRecDepth 100000 in
theorem w_bstep {op a b N0 S0 : Nat} {v : Value} (F : FRm G sc adV X p s m args meth c) (hH : HR G sc s M H locs) (hL : LH G ls (md_L X) ll) (hc : ochk (md_o X) op a b v pc len (decode (md_b X) pc) = true) (hp : bstep op st M = some (st', M')) (hRc : cnt M 0 - N0 ≤ R.cells) (hRs : cnt M 1 - S0 ≤ R.slots) (hRf : 8 ≤ R.frames) (hRl : 320 ≤ R.locals)
    (k : ∀ (H' : Heap) (locs' : List Loc), HR G sc s M' H' locs' → cnt M' 0 = cnt M 0 → cnt M' 1 = cnt M 1 → W p l e R s m args below meth c H' locs' (cnt M 0 - N0) (cnt M 1 - S0) Q (F0 m (pc + len) ls (st'.map (cv G)))) : W p l e R s m args below meth c H locs (cnt M 0 - N0) (cnt M 1 - S0) Q (F0 m pc ls (st.map (cv G))) := by
  obtain ⟨hx, hb, hml, hown, hts, hin, hK, hO, hG⟩ := F
  have hop : op = 7 ∨ op = 8 ∨ op = 9 ∨ op = 10 ∨ op = 11 ∨ op = 12 := by
    unfold bstep at hp
    cases h10 : Nat.beq op 10 <;> rw [h10] at hp
    case true => have := Nat.eq_of_beq_eq_true h10; omega
    cases h7 : Nat.beq op 7 <;> rw [h7] at hp
    case true => have := Nat.eq_of_beq_eq_true h7; omega
    cases h8 : Nat.beq op 8 <;> rw [h8] at hp
    case true => have := Nat.eq_of_beq_eq_true h8; omega
    cases h9 : Nat.beq op 9 <;> rw [h9] at hp
    case true => have := Nat.eq_of_beq_eq_true h9; omega
    cases h11 : Nat.beq op 11 <;> rw [h11] at hp
    case true => have := Nat.eq_of_beq_eq_true h11; omega
    cases h12 : Nat.beq op 12 <;> rw [h12] at hp
    case true => have := Nat.eq_of_beq_eq_true h12; omega
    cases hp
  obtain ⟨i, x, hl3, hi, hbl, hd⟩ := ochk_b hop hc
  subst hl3
  have hlk := of_decide_eq_true (lk2_all blT_all hbl)
  rw [key1 hi, key2 hi] at hlk
  have hlink : (Jvm.Cond.methodLink (cnm (md_o X)) i (bnm op)).before args s = true := hts _ (t2_in (lwz_mem hlk) rfl)
  have hml2 : c.maxLocals = ls.size := by rw [hml]; exact hL.1.symm
  rcases hop with rfl | rfl | rfl | rfl | rfl | rfl
  · -- String.length
    have hd : decode (md_b X) pc = .ok (.invokevirtual i, 3) := by rcases hd with ⟨h, -⟩ | ⟨-, h⟩ | ⟨-, h⟩ <;> first | exact h | omega
    replace hp : (match (generalizing := false) st with | .ref k :: r => (match M k with | .inl (t, n, _) => bif Nat.beq t 8 && Nat.ble r.length 4 then some (.int (Int32.ofNat n) :: r, M) else none | .inr _ => none) | _ => none) = some (st', M') := hp
    split at hp
    · rename_i q r
      split at hp
      · rename_i t n y hM
        cases hb1 : (Nat.beq t 8 && Nat.ble r.length 4) with
        | false => rw [hb1] at hp; cases hp
        | true =>
          rw [hb1] at hp
          cases hp
          rw [Bool.and_eq_true] at hb1
          have ht := Nat.eq_of_beq_eq_true hb1.1
          subst ht
          have hr4 : r.length ≤ 4 := Nat.le_of_ble_eq_true hb1.2
          obtain ⟨j, hj, rfl, rfl, -⟩ := hH.2.2.str hM
          have hsb := sb_ok hj
          rw [List.map_cons, ad_str G hj]
          refine vp_callSi (W.runV (C := "java/lang/String") (As := []) (rest := r.map (cv G)) (n := 0) (ret := some .int) ⟨hx, hb, hml, hown, hts⟩ (c_len (G := G) (sc := sc) (adV := adV) l 0 j hj hsb.1) ⟨cbJ (y := yJ_len) (d := 1) hts (lwz_mem (i := 548) rfl) (lwz_mem (i := 99) rfl) (lwz_mem hlk) ⟨by decide, by decide⟩ (by decide +kernel) (by decide) (by omega) (by omega), hts _ (t2_in (lwz_mem (i := 546) rfl) rfl), hts _ (t2_in (lwz_mem (i := 547) rfl) rfl)⟩ ⟨SOk.blind _, vk_recv hO.2.2.1 hj hH.2.1, fun U hU hW => ⟨rfl, hO.go hG hH.2.1 hU hW, by rw [hU]; exact Nat.le_trans hG hH.2.1.1⟩⟩ rfl rfl hL.1 rfl (lv_room (rest_room hr4)) hd ⟨hRc, hRs⟩) (fun z hz => ?_)
          subst hz
          exact k H locs hH rfl rfl
      · cases hp
    · cases hp
  · -- String.charAt
    have hd : decode (md_b X) pc = .ok (.invokevirtual i, 3) := by rcases hd with ⟨h, -⟩ | ⟨-, h⟩ | ⟨-, h⟩ <;> first | exact h | omega
    replace hp : (match (generalizing := false) st with | .int j :: .ref k :: r => (match M k with | .inl (t, n, .inl f) => bif Nat.beq t 8 && ain j n && Nat.ble r.length 4 then some (.int (f j.toNatClampNeg) :: r, M) else none | _ => none) | _ => none) = some (st', M') := hp
    split at hp
    · rename_i z q r
      split at hp
      · rename_i t n f hM
        cases hb1 : (Nat.beq t 8 && ain z n && Nat.ble r.length 4) with
        | false => rw [hb1] at hp; cases hp
        | true =>
          rw [hb1] at hp
          cases hp
          simp only [Bool.and_eq_true] at hb1
          have ht := Nat.eq_of_beq_eq_true hb1.1.1
          subst ht
          have hz := ain_to hb1.1.2
          have hr4 : r.length ≤ 4 := Nat.le_of_ble_eq_true hb1.2
          obtain ⟨j, hj, rfl, rfl, hf⟩ := hH.2.2.str hM
          injection hf with hf
          subst hf
          have hsb := sb_ok hj
          rw [List.map_cons, List.map_cons, ad_str G hj]
          refine vp_callSi (W.runV (C := "java/lang/String") (As := [.int z]) (rest := r.map (cv G)) (n := 1) (ret := some .char) ⟨hx, hb, hml, hown, hts⟩ (c_charAt (G := G) (sc := sc) (adV := adV) l 0 j z hj hz hsb.2 hsb.1) ⟨cbJ (y := yJ_charAt) (d := 3) hts (lwz_mem (i := 558) rfl) (lwz_mem (i := 99) rfl) (lwz_mem hlk) ⟨by decide, by decide⟩ (by decide +kernel) (by decide) (by omega) (by omega), hts _ (t2_in (lwz_mem (i := 556) rfl) rfl), hts _ (t2_in (lwz_mem (i := 557) rfl) rfl)⟩ ⟨SOk.blind _, vk_recv hO.2.2.1 hj hH.2.1, fun U hU hW => ⟨rfl, hO.go hG hH.2.1 hU hW, by rw [hU]; exact Nat.le_trans hG hH.2.1.1⟩⟩ rfl rfl hL.1 rfl (lv_room (rest_room hr4)) hd ⟨hRc, hRs⟩) (fun w hw => ?_)
          subst hw
          exact k H locs hH rfl rfl
      · cases hp
    · cases hp
  · -- System.arraycopy
    have hd : decode (md_b X) pc = .ok (.invokestatic i, 3) := by rcases hd with ⟨-, h⟩ | ⟨-, h⟩ | ⟨h, -⟩ <;> first | exact h | omega
    replace hp : (match (generalizing := false) st with
      | .int n :: .int dp :: .ref k :: .int sp :: .ref k0 :: r => bif decide (n < 0) || decide (dp < 0) || decide (sp < 0) || Nat.blt 4 r.length then none else (match M k0, M k with
        | .inl (t0, n0, .inl f), .inl (t1, n1, .inl g) => bif Nat.beq t0 0 && Nat.beq t1 0 && Nat.ble (sp.toNatClampNeg + n.toNatClampNeg) n0 && Nat.ble (dp.toNatClampNeg + n.toNatClampNeg) n1 then some (r, va_up M k (.inl (0, n1, .inl (va_cpy f g sp.toNatClampNeg dp.toNatClampNeg n.toNatClampNeg)))) else none
        | .inl (t0, n0, .inr (.inl f)), .inl (t1, n1, .inr (.inl g)) => bif Nat.beq t0 1 && Nat.beq t1 1 && Nat.ble (sp.toNatClampNeg + n.toNatClampNeg) n0 && Nat.ble (dp.toNatClampNeg + n.toNatClampNeg) n1 then some (r, va_up M k (.inl (1, n1, .inr (.inl (va_cpy f g sp.toNatClampNeg dp.toNatClampNeg n.toNatClampNeg))))) else none
        | _, _ => none)
      | _ => none) = some (st', M') := hp
    have hnat := hts _ (t2_in (lwz_mem (i := 693) rfl : Jvm.Cond.native arraycopyName ∈ lw_tbl) rfl)
    have hstt := hts _ (t2_in (lwz_mem (i := 692) rfl : Jvm.Cond.static arraycopyName ∈ lw_tbl) rfl)
    have hini := hts _ (t2_in (lwz_mem (i := 103) rfl : Jvm.Cond.initialized "java/lang/System" ∈ lw_tbl) rfl)
    split at hp
    · rename_i n dp q sp q0 r
      cases hb1 : (decide (n < 0) || decide (dp < 0) || decide (sp < 0) || Nat.blt 4 r.length) with
      | true => rw [hb1] at hp; cases hp
      | false =>
        rw [hb1, cond_false] at hp
        simp only [Bool.or_eq_false_iff] at hb1
        obtain ⟨⟨⟨b1, b2⟩, b3⟩, b4⟩ := hb1
        have b1 : ¬ n < 0 := of_decide_eq_false b1
        have b2 : ¬ dp < 0 := of_decide_eq_false b2
        have b3 : ¬ sp < 0 := of_decide_eq_false b3
        have hr4 : r.length ≤ 4 := by
          by_cases hz : r.length ≤ 4
          · exact hz
          · rw [show Nat.blt 4 r.length = true from Nat.ble_eq_true_of_le (by omega)] at b4
            cases b4
        have hloc : ((r.map (cv G)).map fun v => v.category).sum + (nativeFrameWords "java/lang/System" "arraycopy" 5 + 11) ≤ R.locals := by
          have h1 := rest_room (G := G) hr4
          have h2 : nativeFrameWords "java/lang/System" "arraycopy" 5 = 7 := by decide +kernel
          omega
        split at hp
        · rename_i t0 n0 f t1 n1 g hM0 hM1
          cases hb2 : (Nat.beq t0 0 && Nat.beq t1 0 && Nat.ble (sp.toNatClampNeg + n.toNatClampNeg) n0 && Nat.ble (dp.toNatClampNeg + n.toNatClampNeg) n1) with
          | false => rw [hb2] at hp; cases hp
          | true =>
            rw [hb2] at hp
            cases hp
            simp only [Bool.and_eq_true] at hb2
            obtain ⟨⟨⟨c1, c2⟩, c3⟩, c4⟩ := hb2
            have c1 := Nat.eq_of_beq_eq_true c1
            have c2 := Nat.eq_of_beq_eq_true c2
            subst c1; subst c2
            obtain ⟨g1, g2, g3⟩ := hH.arr hM0 (by omega)
            obtain ⟨e1, e2, e3⟩ := hH.arr hM1 (by omega)
            have hq0 : (0 : Nat) ≠ q := fun h => by rw [← h] at e1; cases e1
            have hq1 : (1 : Nat) ≠ q := fun h => by rw [← h] at e1; exact absurd e1 (by decide)
            refine va_copyi hx hb hml2 hown hlink hnat hstt hini hK hH.1 (lay_D G M) hH.2.1 (q0 - 32) (q - 32) 0 0 g3 e3 rfl rfl rfl b3 b2 b1 (Nat.le_of_ble_eq_true c3) (Nat.le_of_ble_eq_true c4) (fun _ _ => rfl) (by omega) hloc hd (fun H1 locs1 hP1 _ hS1 => ?_)
            exact k H1 locs1 (hH.upd e1 e2 (fun t n x h => by cases h; omega) hP1 hS1) (cnt_up hq0) (cnt_up hq1)
        · rename_i t0 n0 f t1 n1 g hM0 hM1
          cases hb2 : (Nat.beq t0 1 && Nat.beq t1 1 && Nat.ble (sp.toNatClampNeg + n.toNatClampNeg) n0 && Nat.ble (dp.toNatClampNeg + n.toNatClampNeg) n1) with
          | false => rw [hb2] at hp; cases hp
          | true =>
            rw [hb2] at hp
            cases hp
            simp only [Bool.and_eq_true] at hb2
            obtain ⟨⟨⟨c1, c2⟩, c3⟩, c4⟩ := hb2
            have c1 := Nat.eq_of_beq_eq_true c1
            have c2 := Nat.eq_of_beq_eq_true c2
            subst c1; subst c2
            obtain ⟨g1, g2, g3⟩ := hH.arr hM0 (by omega)
            obtain ⟨e1, e2, e3⟩ := hH.arr hM1 (by omega)
            have hq0 : (0 : Nat) ≠ q := fun h => by rw [← h] at e1; cases e1
            have hq1 : (1 : Nat) ≠ q := fun h => by rw [← h] at e1; exact absurd e1 (by decide)
            refine va_copyl hx hb hml2 hown hlink hnat hstt hini hK hH.1 (lay_D G M) hH.2.1 (q0 - 32) (q - 32) 1 1 g3 e3 rfl rfl rfl b3 b2 b1 (Nat.le_of_ble_eq_true c3) (Nat.le_of_ble_eq_true c4) (fun _ _ => rfl) (by omega) hloc hd (fun H1 locs1 hP1 _ hS1 => ?_)
            exact k H1 locs1 (hH.upd e1 e2 (fun t n x h => by cases h; omega) hP1 hS1) (cnt_up hq0) (cnt_up hq1)
        · cases hp
    · cases hp
  · -- Object.<init>
    have hd : decode (md_b X) pc = .ok (.invokespecial i, 3) := by rcases hd with ⟨-, h⟩ | ⟨h, -⟩ | ⟨-, h⟩ <;> first | exact h | omega
    replace hp : (match (generalizing := false) st with | .ref _ :: r => bif Nat.ble r.length 4 then some (r, M) else none | _ => none) = some (st', M') := hp
    split at hp
    · rename_i q r
      cases hb1 : Nat.ble r.length 4 with
      | false => rw [hb1] at hp; cases hp
      | true =>
        rw [hb1] at hp
        cases hp
        have hr4 := Nat.le_of_ble_eq_true hb1
        have h1 := rest_room (G := G) hr4
        exact W.objInit hx hb hown hlink (hts _ (t2_in (lwz_mem (i := 111) rfl : Jvm.Cond.instanceMethod objectInit ∈ lw_tbl) rfl)) (hts _ (t2_in (lwz_mem (i := 112) rfl : Jvm.Cond.code objectInit ⟨#[0xb1]⟩ 1 none ∈ lw_tbl) rfl)) rfl hml2.symm rfl hd (by omega) (by show 2 * 0 + _ + 12 ≤ _; omega) (k H locs hH rfl rfl)
    · cases hp
  · -- Math.min
    have hd : decode (md_b X) pc = .ok (.invokestatic i, 3) := by rcases hd with ⟨-, h⟩ | ⟨-, h⟩ | ⟨h, -⟩ <;> first | exact h | omega
    replace hp : (match (generalizing := false) st with | .int y :: .int x :: r => bif Nat.ble r.length 4 then some (.int (if y < x then y else x) :: r, M) else none | _ => none) = some (st', M') := hp
    split at hp
    · rename_i y z r
      cases hb1 : Nat.ble r.length 4 with
      | false => rw [hb1] at hp; cases hp
      | true =>
        rw [hb1] at hp
        cases hp
        have hr4 := Nat.le_of_ble_eq_true hb1
        have h1 := rest_room (G := G) hr4
        exact va_mmin hx hb hml2 hown hlink (hts _ (t2_in (lwz_mem (i := 521) rfl : Jvm.Cond.static Lib.Math.min.name ∈ lw_tbl) rfl)) (hts _ (t2_in (lwz_mem (i := 98) rfl : Jvm.Cond.initialized "java/lang/Math" ∈ lw_tbl) rfl)) (hts _ (t2_in (lwz_mem (i := 522) rfl : Jvm.Cond.code Lib.Math.min.name Lib.Math.min.code 2 (some .int) ∈ lw_tbl) rfl)) (by omega) (by omega) hRc hRs hd (k H locs hH rfl rfl)
    · cases hp
  · -- Math.max
    have hd : decode (md_b X) pc = .ok (.invokestatic i, 3) := by rcases hd with ⟨-, h⟩ | ⟨-, h⟩ | ⟨h, -⟩ <;> first | exact h | omega
    replace hp : (match (generalizing := false) st with | .int y :: .int x :: r => bif Nat.ble r.length 4 then some (.int (if x < y then y else x) :: r, M) else none | _ => none) = some (st', M') := hp
    split at hp
    · rename_i y z r
      cases hb1 : Nat.ble r.length 4 with
      | false => rw [hb1] at hp; cases hp
      | true =>
        rw [hb1] at hp
        cases hp
        have hr4 := Nat.le_of_ble_eq_true hb1
        have h1 := rest_room (G := G) hr4
        exact va_mmax hx hb hml2 hown hlink (hts _ (t2_in (lwz_mem (i := 807) rfl : Jvm.Cond.static Lib.Math.max.name ∈ lw_tbl) rfl)) (hts _ (t2_in (lwz_mem (i := 98) rfl : Jvm.Cond.initialized "java/lang/Math" ∈ lw_tbl) rfl)) (hts _ (t2_in (lwz_mem (i := 808) rfl : Jvm.Cond.code Lib.Math.max.name Lib.Math.max.code 2 (some .int) ∈ lw_tbl) rfl)) (by omega) (by omega) hRc hRs hd (k H locs hH rfl rfl)
    · cases hp
end MAIN
end
section
/-! SOUNDNESS. -/
section SND
variable {l : Launch} {G : SG} {sc : Nat × (Nat → Int32)} {adV : Nat → Nat}
theorem rret {p : Program} {e : Env} {R : Room} {s : State} {m : MethodId} {args : Array Value} {below : List Frame} {meth : Method} {c : Code} {H : Heap} {locs : List Loc} {cells slots : Nat} {X : MD} {ls : Array Slot} {pc len mm : Nat} {i : Instr} {st : List Value} {r : AR} (F : FRm G sc adV X p s m args meth c) (hm : mt mm = some X) (hret : meth.sig.returnType = rF (md_r X)) (hlocks : meth.locks = false) (hc : cdx X pc = some (.inr (.inl i), len)) (hr : rstep (md_r X) i st r.2 = some r) (hq : ∀ t : State, t.heap = H → s.WarmedH t.vm → QA G sc adV r args s (.returned (r.1.map (cv G))) t) (hf : ∀ q ∈ locs, G.1 ≤ q.base) :
    W p l e R s m args below meth c H locs cells slots (MQ below (QA G sc adV r) args s cells slots (fun q => G.1 ≤ q)) (F0 m pc ls (st.map (cv G))) := by
  obtain ⟨hx, hb, -⟩ := F
  have h1 := (cdx_ok hm hc).1
  replace h1 : (decide (decode (md_b X) pc = .ok (i, len)) && (match (generalizing := false) i with | .newarray _ => Nat.beq len 2 | _ => Nat.beq len 1)) = true := h1
  rw [Bool.and_eq_true] at h1
  have hd := of_decide_eq_true h1.1
  have h2 := h1.2
  obtain ⟨rv, M⟩ := r
  unfold rstep at hr
  split at hr
  · rename_i v
    have hl := Nat.eq_of_beq_eq_true h2
    subst hl
    cases hb1 : (Nat.beq (md_r X) 1 || (Nat.beq (md_r X) 2 && (v == 0 || v == 1))) with
    | false => rw [hb1] at hr; cases hr
    | true =>
      rw [hb1] at hr
      cases hr
      rw [Bool.or_eq_true, Bool.and_eq_true, Bool.or_eq_true] at hb1
      rcases hb1 with h3 | ⟨h3, h4⟩
      · have h3 := Nat.eq_of_beq_eq_true h3
        rw [h3] at hret
        exact W.iret hx hb hret hq hf hd hlocks
      · have h3 := Nat.eq_of_beq_eq_true h3
        rw [h3] at hret
        have hn : narrow .boolean (.int v) = .int v := by
          rcases h4 with h4 | h4
          · have e1 : v = 0 := by simpa using h4
            subst e1; rfl
          · have e1 : v = 1 := by simpa using h4
            subst e1; rfl
        exact W.zret hx hb hret hn hq hf hd hlocks
  · have hl := Nat.eq_of_beq_eq_true h2
    subst hl
    cases hb1 : Nat.beq (md_r X) 3 with
    | false => rw [hb1] at hr; cases hr
    | true =>
      rw [hb1] at hr
      cases hr
      have h3 := Nat.eq_of_beq_eq_true hb1
      rw [h3] at hret
      exact W.lret hx hb hret hq hf hd hlocks
  · have hl := Nat.eq_of_beq_eq_true h2
    subst hl
    cases hb1 : Nat.beq (md_r X) 4 with
    | false => rw [hb1] at hr; cases hr
    | true =>
      rw [hb1] at hr
      cases hr
      have h3 := Nat.eq_of_beq_eq_true hb1
      rw [h3] at hret
      exact W.aret hx hb hret (Or.inl ⟨_, rfl⟩) (Or.inr ⟨_, rfl⟩) hq hf hd hlocks
  · have hl := Nat.eq_of_beq_eq_true h2
    subst hl
    cases hb1 : Nat.beq (md_r X) 4 with
    | false => rw [hb1] at hr; cases hr
    | true =>
      rw [hb1] at hr
      cases hr
      have h3 := Nat.eq_of_beq_eq_true hb1
      rw [h3] at hret
      exact W.aret hx hb hret (Or.inl ⟨_, rfl⟩) (Or.inl rfl) hq hf hd hlocks
  · have hl := Nat.eq_of_beq_eq_true h2
    subst hl
    cases hb1 : Nat.beq (md_r X) 0 with
    | false => rw [hb1] at hr; cases hr
    | true =>
      rw [hb1] at hr
      cases hr
      have h3 := Nat.eq_of_beq_eq_true hb1
      rw [h3] at hret
      exact W.vret hx hb hret hq hf hd hlocks
  · cases hr
def SndAt (l : Launch) (G : SG) (sc : Nat × (Nat → Int32)) (adV : Nat → Nat) (n : Nat) : Prop := ∀ (d : Nat) (X : MD) (mm pc : Nat) (ll : AL) (st : List Value) (M : AM) (r : AR), mt mm = some X → ago n d X pc ll st M = some r → ∀ (p : Program) (e : Env) (R : Room) (s : State) (m : MethodId) (args : Array Value) (below : List Frame) (meth : Method) (c : Code) (H : Heap) (locs : List Loc) (Q : State → Prop) (ls : Array Slot) (N0 S0 : Nat), FRm G sc adV X p s m args meth c → HR G sc s M H locs → LH G ls (md_L X) ll → s.heap.size = G.1 + N0 → N0 ≤ cnt M 0 → S0 ≤ cnt M 1 → cnt r.2 0 - N0 ≤ R.cells → cnt r.2 1 - S0 ≤ R.slots → d ≤ R.frames → 40 * d ≤ R.locals → (∀ (pc : Nat) (i : Instr) (len : Nat) (st : List Value) (H : Heap) (locs : List Loc) (ls : Array Slot), cdx X pc = some (.inr (.inl i), len) → rstep (md_r X) i st r.2 = some r → HR G sc s r.2 H locs → W p l e R s m args below meth c H locs (cnt r.2 0 - N0) (cnt r.2 1 - S0) Q (F0 m pc ls (st.map (cv G)))) → W p l e R s m args below meth c H locs (cnt M 0 - N0) (cnt M 1 - S0) Q (F0 m pc ls (st.map (cv G)))
/-- a method's contract out of its run -/
theorem met_of {n d : Nat} (IH : SndAt l G sc adV n) {Y : MD} {mm : Nat} {vs : List Value} {M : AM} {r : AR} (hm : mt mm = some Y) (hmw : MWok Y) (hw : wsum vs ≤ md_L Y) (hwf : Wf sc M) (h : ago n d Y 0 (ent vs (md_L Y)) [] M = some r) : MetA l G sc adV d Y vs M r := by
  have hg := ago_grows n d Y mm 0 _ [] M r hm hwf h
  refine Met.ofW (cc := md_b Y) (maxL := md_L Y) (ret := rF (md_r Y)) hmw.2.2.2.2.1 rfl ?_
  intro p e s m args below meth c s₁ B hml hv
  obtain ⟨rfl, i1, i2, i3, i4, i5⟩ := hv
  have hts0 := atoms_spec (ws := wsA Y) B.pre
  have hts : ∀ w ∈ lw_t2, w.before (vs.map (cv G)).toArray s = true := fun w hw => hts0 w (List.mem_cons_of_mem _ hw)
  have hown : s.vm.findClass (cnm (md_o Y)) = some m.cls := by
    rw [← hmw.2.2.2.1]
    exact findClass_of_methodNamed B.named
  have hname : md_i Y = true → meth.name = "<init>" := fun hi => by
    rw [(name_of_methodNamed B.named B.method).1]
    exact (hmw.2.2.2.2.2.2 hi).1
  have F : FRm G sc adV Y p s m (vs.map (cv G)).toArray meth c := ⟨B.exec, B.bytes, hml, hown, hts, hname, i3, i4, by rw [i1]; exact Nat.le_add_right _ _⟩
  have hH : HR G sc s M s.heap [] := ⟨i2, va_S.rf, i5⟩
  rw [lg_entry_eq]
  have hL := LH.entry G vs hw
  have hret := B.returns
  have hlocks := B.notSynchronized
  have key := IH d Y mm 0 (ent vs (md_L Y)) [] M r hm h p e (headSpec (wsA Y) (rmA d (cnt r.2 0 - cnt M 0) (cnt r.2 1 - cnt M 1))).room s m (vs.map (cv G)).toArray below meth c s.heap [] (MQ below (QA G sc adV r) (vs.map (cv G)).toArray s (cnt r.2 0 - cnt M 0) (cnt r.2 1 - cnt M 1) (fun q => G.1 ≤ q)) _ (cnt M 0) (cnt M 1) F hH hL i1 (Nat.le_refl _) (Nat.le_refl _) (Nat.le_refl _) (Nat.le_refl _) (Nat.le_refl _) (Nat.le_refl _) ?_
  · rw [Nat.sub_self, Nat.sub_self] at key
    exact key
  · intro pc i len st H locs ls hc hr hH'
    intro T hT XX
    have hsz : H.size = G.1 + cnt r.2 0 := by
      have h1 := XX.heapSize
      rw [hT] at h1
      have h2 : G.1 + cnt r.2 0 ≤ H.size := by
        by_cases hz : cnt r.2 0 = 0
        · have h9 : s.heap.size ≤ H.size := hH'.2.1.1
          omega
        · have h9 := (hH'.1 (cnt r.2 0 - 1) _ (lay_get (by omega))).lt
          have h9 : G.1 + (cnt r.2 0 - 1) < H.size := h9
          omega
      have h3 := hg.2.1
      omega
    refine rret F hm hret hlocks hc hr (fun t ht hW => ⟨rfl, ⟨by rw [ht]; exact hsz, by rw [ht]; exact hH'.1, va_K.moved hW.alike i3, ?_, hH'.2.2⟩, hH'.2.1.F ht⟩) hH'.2.1.2.2 T hT XX
    exact i4.go (by rw [i1]; exact Nat.le_add_right _ _) hH'.2.1 ht hW
theorem snd_all : ∀ n : Nat, SndAt l G sc adV n
  | 0 => by
    intro d X mm pc ll st M r hm h
    cases h
  | n + 1 => by
    have IH := snd_all n
    intro d X mm pc ll st M r hm h p e R s m args below meth c H locs Q ls N0 S0 F hH hL hsz hN hS0 hRc hRs hRf hRl kret
    replace h : abody (ago n) d X pc ll st M = some r := h
    rcases abody_cases h with ⟨pc', l', st', M', h1, h2⟩ | ⟨h0, i, len, h1, h2⟩ | ⟨h0, op, a, b, v, len, st', M', h1, h2, h3, h4⟩ | ⟨h0, op, a, b, v, len, Y, d', vs, rest, rv, M', h1, h2, h3, rfl, h5, hw, h6, h7⟩
    · have g := sstep_grows hm hH.2.2 h1
      have g2 := ago_grows n d X mm pc' l' st' M' r hm g.1 h2
      have a1 := g2.2.1
      have a2 := g2.2.2
      exact w_sstep F hm hH hL h1 hsz hN hS0 (by omega) (by omega) (fun H' locs' ls' hH' hL' c0 c1 => IH d X mm pc' l' st' M' r hm h2 p e R s m args below meth c H' locs' Q ls' N0 S0 F hH' hL' hsz (by omega) (by omega) hRc hRs hRf hRl kret)
    · have e1 := rstep_same h2
      subst e1
      exact kret pc i len st H locs ls h1 h2 hH
    · have g := bstep_grows hH.2.2 h2
      have g2 := ago_grows n d X mm _ ll st' M' r hm g.1 h4
      have a1 := g2.2.1
      have a2 := g2.2.2
      have a3 := g.2.1
      have a4 := g.2.2
      refine w_bstep F hH hL (cdx_ok hm h1).1 h2 (by omega) (by omega) (by omega) (by omega) (fun H' locs' hH' c0 c1 => ?_)
      have k1 := IH d X mm (pc + len) ll st' M' r hm h4 p e R s m args below meth c H' locs' Q ls N0 S0 F hH' hL hsz (by omega) (by omega) hRc hRs hRf hRl kret
      rw [c0, c1] at k1
      exact k1
    · have hmw : MWok Y := by
        have hochk := (cdx_ok hm h1).1
        replace hochk : ochk (md_o X) op a b v pc len (decode (md_b X) pc) = true := hochk
        rcases (mt_ok h3).2 with hq | hq
        · exact hq
        · exfalso
          subst hq
          have hid : a = 263 := by
            obtain ⟨cc, c1, c2⟩ := lk2_mem h3
            have hall : mtl.all (fun c => c.2.all (fun q => !(Nat.beq (md_o q.2) 11) || Nat.beq q.1 263)) = true := by decide +kernel
            have h8 := List.all_eq_true.mp (List.all_eq_true.mp hall cc c1) _ c2
            have h9 : (!(Nat.beq (md_o md_263) 11)) = false := rfl
            simp only [h9, Bool.false_or] at h8
            exact Nat.eq_of_beq_eq_true h8
          rcases csplit_op h5 with rfl | rfl | rfl
          · obtain ⟨i, ne, x, y, z, -, -, hi, hl⟩ := ochk_s hochk
            exact (mlT_ok hi hl h3).2.2.2.2.2.2 hid
          · obtain ⟨i, ne, x, y, z, -, -, hi, hl⟩ := ochk_v hochk
            exact (mlT_ok hi hl h3).2.2.2.2.2.2 hid
          · obtain ⟨i, ne, x, y, z, -, -, hi, hl⟩ := ochk_i hochk
            exact (mlT_ok hi hl h3).2.2.2.2.2.2 hid
      have hY := met_of (d := d') IH h3 hmw hw hH.2.2 h6
      have g := ago_grows n d' Y a 0 _ [] M (rv, M') h3 hH.2.2 h6
      have g2 := ago_grows n (d' + 1) X mm _ ll _ M' r hm g.1 h7
      have a1 := g2.2.1
      have a2 := g2.2.2
      have a3 := g.2.1
      have a4 := g.2.2
      dsimp only at a3 a4
      exact w_call (mm := mm) F hH hL (cdx_ok hm h1).1 h3 h5 hY hsz hN hS0 a3 a4 (by dsimp only; omega) (by dsimp only; omega) hRf hRl (fun H' locs' hH' => IH (d' + 1) X mm (pc + len) ll (rv.toList ++ rest) M' r hm h7 p e R s m args below meth c H' locs' Q ls N0 S0 F hH' hL hsz (by omega) (by omega) hRc hRs hRf hRl kret)
end SND
end
section
/-! THE LAW, from its entry: the skeleton's head, and the start of the abstract run. -/
/-! THE CLAIM OUT OF ONE WALK OF THE LAW'S BODY. Your part is whole_start (and what it stands on); all else here is the same for every law, but numbers. -/
def R_law : String := "ShortcutDutyLaw"
def lw_P (b : Addr) (xs : List Int32) (args : Array Value) (s : State) : Prop := args = #[.ref b] ∧ s.IntsAt b xs ∧ xs.length ≤ 3072 ∧ (Jvm.Cond.and given_1 narrow_1).before args s = true
def lw_Q (_ : Array Value) (s : State) (o : Outcome) (t : State) : Prop := o = .returned (some (.int 1)) ∧ Framed s o t [] 600000 7302250
def lw_Z (below : List Frame) (a : Array Value) (s : State) : State → Prop := fun t => ∃ o, t.status = .running ∧ Ended t below o ∧ lw_Q a s o t
/-- the law's own end, with 1 on the stack, nothing written that was there before, its room as the claim has it -/
theorem lw_ret {p : Program} {l : Launch} {e : Env} {s : State} {m : MethodId} {below : List Frame} {meth : Method} {c : Code} {b : Nat} (hx : p.tables.exec = Jvm.exec) (hb : c.code = code) (hr : meth.sig.returnType = ret) (hlocks : meth.locks = false) {pc : Nat} {H : Heap} {ls : Array Slot} (hdg : decode code pc = .ok (.ireturn, 1)) : W p l e room_1 s m #[Value.ref b] below meth c H [] 600000 7302250 (lw_Z below #[Value.ref b] s) (F0 m pc ls [.int 1]) := by
  intro T hT X
  obtain ⟨fs, hret, hrun, hended, hW, hframe⟩ := X.leave (v := some (.int 1)) (hlocks := hlocks) (fun h => by rw [hr] at h; cases h)
  have hmeth' : T.vm.method? m = some meth := X.method'
  refine ⟨T.setFrames fs, ?_, .returned (some (.int 1)), hrun, hended, rfl, ⟨_, rfl⟩, hW, hframe⟩
  jvm_step X.here [X.here.top, hx, hb, hdg, hmeth', hr, ret, narrow_b1]
  (try refine ⟨rfl, ?_⟩); (try refine ⟨rfl, ?_⟩)
  first | (intro acts; rw [hret _ acts rfl rfl rfl]) | rw [hret _ _ rfl rfl rfl]
  exact Steps.refl _
/-- what holds at the law's entry: the machine, the code, the tables' words (any of lw_tbl by 'hts w (by decide +kernel)'), the script of L ints xs at the cell b, what the Statement gives of the start (any of its parts by flat_of_before) -/
def lw_At (p : Program) (s : State) (m : MethodId) (meth : Method) (c : Code) (b L : Nat) (xs : Nat → Int32) : Prop :=
  p.tables.exec = Jvm.exec ∧ c.code = code ∧ meth.sig.returnType = ret ∧ c.maxLocals = 4 ∧ s.vm.findClass R_law = some m.cls ∧ (∀ w ∈ lw_tbl, w.before #[Value.ref b] s = true) ∧ va_X b L xs s s.heap ∧ b < s.heap.size ∧ meth.locks = false ∧ (Jvm.Cond.and given_1 narrow_1).before #[Value.ref b] s = true

def fl1 : List Jvm.Cond := flatC (Jvm.Cond.and given_1 narrow_1)
def tmS (i : Nat) : Term := .string RX2 (sidx.getD i 0)
def strW (i : Nat) : List Jvm.Cond := [Jvm.Cond.exactly (tmS i) "java/lang/String", .eq (.field (tmS i) "java/lang/String" "coder" "B") (.int 0), .arrayOf (.field (tmS i) "java/lang/String" "value" "[B") .byte, .eq (.length (.field (tmS i) "java/lang/String" "value" "[B")) (.int (Int32.ofNat (slen.getD i 0)))] ++ (List.range (slen.getD i 0)).map (fun j => Jvm.Cond.eq (.elem (.field (tmS i) "java/lang/String" "value" "[B") (.int (Int32.ofNat j))) (.int ((sbyt.getD i []).getD j 0)))
def strN (i : Nat) : List Jvm.Cond := ((List.range i).map (fun j => Jvm.Cond.not (.eq (tmS j) (tmS i))))
def fxi : List Nat → List Jvm.Cond → Bool
  | [], [] => true
  | k :: kt, w :: wt => decide (fl1[k]? = some w) && fxi kt wt
  | _, _ => false
theorem fxi_mem : ∀ {ks : List Nat} {ws : List Jvm.Cond}, fxi ks ws = true → ∀ w ∈ ws, w ∈ fl1
  | [], [], _, w, hw => absurd hw List.not_mem_nil
  | [], _ :: _, h, _, _ => absurd (show false = true from h) (by decide)
  | _ :: _, [], h, _, _ => absurd (show false = true from h) (by decide)
  | k :: kt, v :: wt, h, w, hw => by
    have h2 := Bool.and_eq_true_iff.mp (show (decide (fl1[k]? = some v) && fxi kt wt) = true from h)
    rcases List.mem_cons.mp hw with e | e
    · rw [e]
      exact List.mem_of_getElem? (of_decide_eq_true h2.1)
    · exact fxi_mem h2.2 w e
set_option maxRecDepth 100000 in
theorem strk_0 : fxi [42, 43, 44, 45, 46, 47, 48, 49, 50, 51, 52] (strW 0) = true := by decide +kernel
set_option maxRecDepth 100000 in
theorem strk_1 : fxi [53, 54, 55, 56, 57, 58, 59, 60, 61, 62] (strW 1) = true := by decide +kernel
set_option maxRecDepth 100000 in
theorem strk_2 : fxi [64, 65, 66, 67, 68, 69, 70, 71] (strW 2) = true := by decide +kernel
set_option maxRecDepth 100000 in
theorem strk_3 : fxi [74, 75, 76, 77, 78, 79, 80, 81] (strW 3) = true := by decide +kernel
set_option maxRecDepth 100000 in
theorem strk_4 : fxi [85, 86, 87, 88, 89, 90, 91, 92] (strW 4) = true := by decide +kernel
set_option maxRecDepth 100000 in
theorem strk_5 : fxi [97, 98, 99, 100, 101, 102, 103, 104] (strW 5) = true := by decide +kernel
set_option maxRecDepth 100000 in
theorem strk_6 : fxi [110, 111, 112, 113, 114, 115, 116, 117] (strW 6) = true := by decide +kernel
set_option maxRecDepth 100000 in
theorem strk_7 : fxi [124, 125, 126, 127, 128, 129] (strW 7) = true := by decide +kernel
set_option maxRecDepth 100000 in
theorem strk_8 : fxi [137, 138, 139, 140, 141, 142, 143, 144] (strW 8) = true := by decide +kernel
set_option maxRecDepth 100000 in
theorem strk_9 : fxi [153, 154, 155, 156, 157, 158, 159, 160, 161, 162, 163] (strW 9) = true := by decide +kernel
set_option maxRecDepth 100000 in
theorem strk_10 : fxi [173, 174, 175, 176, 177, 178, 179, 180] (strW 10) = true := by decide +kernel
set_option maxRecDepth 100000 in
theorem strk_11 : fxi [191, 192, 193, 194, 195, 196, 197, 198] (strW 11) = true := by decide +kernel
set_option maxRecDepth 100000 in
theorem strk_12 : fxi [210, 211, 212, 213, 214, 215, 216, 217] (strW 12) = true := by decide +kernel
set_option maxRecDepth 100000 in
theorem strk_13 : fxi [230, 231, 232, 233, 234, 235, 236, 237, 238] (strW 13) = true := by decide +kernel
set_option maxRecDepth 100000 in
theorem strk_14 : fxi [252, 253, 254, 255, 256, 257] (strW 14) = true := by decide +kernel
set_option maxRecDepth 100000 in
theorem strk_15 : fxi [272, 273, 274, 275, 276, 277, 278, 279] (strW 15) = true := by decide +kernel
set_option maxRecDepth 100000 in
theorem strk_16 : fxi [295, 296, 297, 298, 299, 300, 301, 302] (strW 16) = true := by decide +kernel
set_option maxRecDepth 100000 in
theorem strk_17 : fxi [319, 320, 321, 322, 323, 324] (strW 17) = true := by decide +kernel
set_option maxRecDepth 100000 in
theorem strk_18 : fxi [342, 343, 344, 345, 346, 347, 348] (strW 18) = true := by decide +kernel
set_option maxRecDepth 100000 in
theorem strk_19 : fxi [367, 368, 369, 370, 371, 372, 373, 374, 375, 376] (strW 19) = true := by decide +kernel
set_option maxRecDepth 100000 in
theorem strk_20 : fxi [396, 397, 398, 399, 400, 401, 402, 403, 404] (strW 20) = true := by decide +kernel
set_option maxRecDepth 100000 in
theorem strn_0 : fxi [] (strN 0) = true := by decide +kernel
set_option maxRecDepth 100000 in
theorem strn_1 : fxi [63] (strN 1) = true := by decide +kernel
set_option maxRecDepth 100000 in
theorem strn_2 : fxi [72, 73] (strN 2) = true := by decide +kernel
set_option maxRecDepth 100000 in
theorem strn_3 : fxi [82, 83, 84] (strN 3) = true := by decide +kernel
set_option maxRecDepth 100000 in
theorem strn_4 : fxi [93, 94, 95, 96] (strN 4) = true := by decide +kernel
set_option maxRecDepth 100000 in
theorem strn_5 : fxi [105, 106, 107, 108, 109] (strN 5) = true := by decide +kernel
set_option maxRecDepth 100000 in
theorem strn_6 : fxi [118, 119, 120, 121, 122, 123] (strN 6) = true := by decide +kernel
set_option maxRecDepth 100000 in
theorem strn_7 : fxi [130, 131, 132, 133, 134, 135, 136] (strN 7) = true := by decide +kernel
set_option maxRecDepth 100000 in
theorem strn_8 : fxi [145, 146, 147, 148, 149, 150, 151, 152] (strN 8) = true := by decide +kernel
set_option maxRecDepth 100000 in
theorem strn_9 : fxi [164, 165, 166, 167, 168, 169, 170, 171, 172] (strN 9) = true := by decide +kernel
set_option maxRecDepth 100000 in
theorem strn_10 : fxi [181, 182, 183, 184, 185, 186, 187, 188, 189, 190] (strN 10) = true := by decide +kernel
set_option maxRecDepth 100000 in
theorem strn_11 : fxi [199, 200, 201, 202, 203, 204, 205, 206, 207, 208, 209] (strN 11) = true := by decide +kernel
set_option maxRecDepth 100000 in
theorem strn_12 : fxi [218, 219, 220, 221, 222, 223, 224, 225, 226, 227, 228, 229] (strN 12) = true := by decide +kernel
set_option maxRecDepth 100000 in
theorem strn_13 : fxi [239, 240, 241, 242, 243, 244, 245, 246, 247, 248, 249, 250, 251] (strN 13) = true := by decide +kernel
set_option maxRecDepth 100000 in
theorem strn_14 : fxi [258, 259, 260, 261, 262, 263, 264, 265, 266, 267, 268, 269, 270, 271] (strN 14) = true := by decide +kernel
set_option maxRecDepth 100000 in
theorem strn_15 : fxi [280, 281, 282, 283, 284, 285, 286, 287, 288, 289, 290, 291, 292, 293, 294] (strN 15) = true := by decide +kernel
set_option maxRecDepth 100000 in
theorem strn_16 : fxi [303, 304, 305, 306, 307, 308, 309, 310, 311, 312, 313, 314, 315, 316, 317, 318] (strN 16) = true := by decide +kernel
set_option maxRecDepth 100000 in
theorem strn_17 : fxi [325, 326, 327, 328, 329, 330, 331, 332, 333, 334, 335, 336, 337, 338, 339, 340, 341] (strN 17) = true := by decide +kernel
set_option maxRecDepth 100000 in
theorem strn_18 : fxi [349, 350, 351, 352, 353, 354, 355, 356, 357, 358, 359, 360, 361, 362, 363, 364, 365, 366] (strN 18) = true := by decide +kernel
set_option maxRecDepth 100000 in
theorem strn_19 : fxi [377, 378, 379, 380, 381, 382, 383, 384, 385, 386, 387, 388, 389, 390, 391, 392, 393, 394, 395] (strN 19) = true := by decide +kernel
set_option maxRecDepth 100000 in
theorem strn_20 : fxi [405, 406, 407, 408, 409, 410, 411, 412, 413, 414, 415, 416, 417, 418, 419, 420, 421, 422, 423, 424] (strN 20) = true := by decide +kernel
theorem strk {i : Nat} (hi : i < 21) : ∀ w ∈ strW i, w ∈ fl1 := by
  match i, hi with
  | 0, _ => exact fxi_mem strk_0
  | 1, _ => exact fxi_mem strk_1
  | 2, _ => exact fxi_mem strk_2
  | 3, _ => exact fxi_mem strk_3
  | 4, _ => exact fxi_mem strk_4
  | 5, _ => exact fxi_mem strk_5
  | 6, _ => exact fxi_mem strk_6
  | 7, _ => exact fxi_mem strk_7
  | 8, _ => exact fxi_mem strk_8
  | 9, _ => exact fxi_mem strk_9
  | 10, _ => exact fxi_mem strk_10
  | 11, _ => exact fxi_mem strk_11
  | 12, _ => exact fxi_mem strk_12
  | 13, _ => exact fxi_mem strk_13
  | 14, _ => exact fxi_mem strk_14
  | 15, _ => exact fxi_mem strk_15
  | 16, _ => exact fxi_mem strk_16
  | 17, _ => exact fxi_mem strk_17
  | 18, _ => exact fxi_mem strk_18
  | 19, _ => exact fxi_mem strk_19
  | 20, _ => exact fxi_mem strk_20
  | i + 21, h => exact absurd h (by omega)
theorem strn {i : Nat} (hi : i < 21) : ∀ w ∈ strN i, w ∈ fl1 := by
  match i, hi with
  | 0, _ => exact fxi_mem strn_0
  | 1, _ => exact fxi_mem strn_1
  | 2, _ => exact fxi_mem strn_2
  | 3, _ => exact fxi_mem strn_3
  | 4, _ => exact fxi_mem strn_4
  | 5, _ => exact fxi_mem strn_5
  | 6, _ => exact fxi_mem strn_6
  | 7, _ => exact fxi_mem strn_7
  | 8, _ => exact fxi_mem strn_8
  | 9, _ => exact fxi_mem strn_9
  | 10, _ => exact fxi_mem strn_10
  | 11, _ => exact fxi_mem strn_11
  | 12, _ => exact fxi_mem strn_12
  | 13, _ => exact fxi_mem strn_13
  | 14, _ => exact fxi_mem strn_14
  | 15, _ => exact fxi_mem strn_15
  | 16, _ => exact fxi_mem strn_16
  | 17, _ => exact fxi_mem strn_17
  | 18, _ => exact fxi_mem strn_18
  | 19, _ => exact fxi_mem strn_19
  | 20, _ => exact fxi_mem strn_20
  | i + 21, h => exact absurd h (by omega)
end
