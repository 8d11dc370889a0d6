/-! SOUNDNESS: a run of the abstract machine is a run of the machine. -/
def InA (G : SG) (sc : Nat × (Nat → Int32)) (adV : Nat → Nat) (M : AM) (U : State) : Prop := U.heap.size = G.1 + cnt M 0 ∧ va_P G.2.2.2 vwCl (lay G M) U.heap ∧ va_K G.2.2.2 vwCl (tysA G) U ∧ Old G sc adV U U.heap ∧ Wf sc M
def QA (G : SG) (sc : Nat × (Nat → Int32)) (adV : Nat → Nat) (r : AR) : Array Value → State → Outcome → State → Prop := fun _ st oc t => oc = .returned (r.1.map (cv G)) ∧ InA G sc adV r.2 t ∧ va_F (fun q => G.1 ≤ q) st t
def rmA (d mc ms : Nat) : Room := { frames := d, cells := mc, slots := ms, locals := 40 * d }
def wsA (X : MD) : List Jvm.Cond := Jvm.Cond.code (md_y X) (md_b X) (md_L X) (rF (md_r X)) :: lw_t2
def MetA (l : Launch) (G : SG) (sc : Nat × (Nat → Int32)) (adV : Nat → Nat) (d : Nat) (X : MD) (vs : List Value) (M : AM) (r : AR) : Prop :=
  Met l (md_y X) (wsA X) (rmA d (cnt r.2 0 - cnt M 0) (cnt r.2 1 - cnt M 1)) (va_Pc (vs.map (cv G)) (InA G sc adV M)) (QA G sc adV r) (cnt r.2 0 - cnt M 0) (cnt r.2 1 - cnt M 1) (fun q => G.1 ≤ q)
theorem Old.same {G : SG} {sc : Nat × (Nat → Int32)} {adV : Nat → Nat} {U V : State} (h : Old G sc adV U U.heap) (hv : V.vm = U.vm) (hh : V.heap = U.heap) : Old G sc adV V V.heap := by
  rw [hh]
  obtain ⟨h1, h2, h3, h4, h5, h6⟩ := h
  have ha : U.vm.Alike V.vm := by rw [hv]; exact Vm.Alike.refl _
  exact ⟨h1.moved ha, h2, h3.moved ha, fun i hi => (h4 i hi).same hv, h5.moved ha, h6.moved ha⟩
theorem InA.blind {G : SG} {sc : Nat × (Nat → Int32)} {adV : Nat → Nat} {M : AM} (vs : List Value) : FrameBlind (va_Pc vs (InA G sc adV M)) := by
  intro a U g mk h
  obtain ⟨e, h1, h2, h3, h4, h5⟩ := h
  exact ⟨e, h1, h2, va_K.moved (u := U) (U := U.calling g mk a) (Vm.Alike.refl U.vm) h3, h4.same rfl rfl, h5⟩
theorem mlT_ok {o i mm op n x y z : Nat} {ne : Bool} {Y : MD} (hi : i < 1000) (h : lk2 mlT (1000 * o + i) = some (mm, op, n, ne, x, y, z)) (hm : mt mm = some Y) :
    (bif ne then Jvm.Cond.methodLinkNest (cnm o) i (md_y Y) RX9 else Jvm.Cond.methodLink (cnm o) i (md_y Y)) ∈ lw_t2 ∧ (op = 4 → Jvm.Cond.static (md_y Y) ∈ lw_t2) ∧ (op ≠ 4 → Jvm.Cond.instanceMethod (md_y Y) ∈ lw_t2) ∧ (op = 5 → Jvm.Cond.selects (md_y Y).cls (md_y Y) (md_y Y) ∈ lw_t2) ∧ (op = 6 → md_i Y = true ∧ md_r Y = 0) ∧ (parseMethodDescriptor (md_y Y).desc).map (fun d => d.parameters.length) = some n ∧ mm ≠ 263 := by
  have h1 := lk2_all mlT_all h
  simp only [mlP, hm, Bool.and_eq_true, decide_eq_true_eq] at h1
  obtain ⟨⟨⟨⟨⟨⟨a1, a2⟩, a3⟩, a4⟩, a5⟩, a6⟩, a7⟩ := h1
  rw [key1 hi, key2 hi] at a1
  refine ⟨t2_in (List.mem_of_getElem? a1) (by cases ne <;> rfl), fun e => ?_, fun e => ?_, fun e => ?_, fun e => ?_, a5, fun e => ?_⟩
  · subst e
    exact t2_in (List.mem_of_getElem? (of_decide_eq_true a2)) rfl
  · have hb : Nat.beq op 4 = false := by
      cases hq : Nat.beq op 4 with
      | false => rfl
      | true => exact absurd (Nat.eq_of_beq_eq_true hq) e
    rw [hb] at a2
    exact t2_in (List.mem_of_getElem? (of_decide_eq_true a2)) rfl
  · subst e
    exact t2_in (List.mem_of_getElem? (of_decide_eq_true a3)) rfl
  · subst e
    have a4 : (md_i Y && Nat.beq (md_r Y) 0) = true := a4
    rw [Bool.and_eq_true] at a4
    exact ⟨a4.1, Nat.eq_of_beq_eq_true a4.2⟩
  · subst e
    cases a7
theorem csplit_op {op b : Nat} {st : List Value} {M : AM} {Y : MD} {q : List Value × List Value} (h : csplit op b st M Y = some q) : op = 4 ∨ op = 5 ∨ op = 6 := by
  unfold csplit at h
  cases h4 : Nat.beq op 4 with
  | true => exact Or.inl (Nat.eq_of_beq_eq_true h4)
  | false =>
    rw [h4, cond_false] at h
    split at h
    · cases h5 : Nat.beq op 5 with
      | true => exact Or.inr (Or.inl (Nat.eq_of_beq_eq_true h5))
      | false =>
        rw [h5, cond_false] at h
        cases h6 : Nat.beq op 6 with
        | true => exact Or.inr (Or.inr (Nat.eq_of_beq_eq_true h6))
        | false => rw [h6, Bool.false_and, cond_false] at h; cases h
    · cases h
theorem csplit_s {b : Nat} {st vs rest : List Value} {M : AM} {Y : MD} (h : csplit 4 b st M Y = some (vs, rest)) : b ≤ st.length ∧ True ∧ rok (st.drop b) = true ∧ vs = (st.take b).reverse ∧ rest = st.drop b := by
  replace h : (bif Nat.ble b st.length && rok (st.drop b) then some ((st.take b).reverse, st.drop b) else none) = some (vs, rest) := h
  cases hb : (Nat.ble b st.length && rok (st.drop b)) with
  | false => rw [hb] at h; cases h
  | true =>
    rw [hb] at h
    cases h
    rw [Bool.and_eq_true] at hb
    exact ⟨Nat.le_of_ble_eq_true hb.1, trivial, hb.2, rfl, rfl⟩
theorem csplit_v {b : Nat} {st vs rest : List Value} {M : AM} {Y : MD} (h : csplit 5 b st M Y = some (vs, rest)) : ∃ (q ci : Nat) (fs : List Value), st.drop b = .ref q :: rest ∧ M q = .inr (ci, fs) ∧ ci = md_o Y ∧ rok rest = true ∧ 32 ≤ q ∧ vs = .ref q :: (st.take b).reverse := by
  unfold csplit at h
  replace h : (match (st.drop b) with
    | .ref k :: r => (match M k with
        | .inr (ci, _) => bif Nat.beq ci (md_o Y) && rok r && Nat.ble 32 k then some (.ref k :: (st.take b).reverse, r) else none
        | .inl _ => none)
    | _ => none) = some (vs, rest) := h
  split at h
  · rename_i k r hd
    split at h
    · rename_i ci fs hM
      cases hb : (Nat.beq ci (md_o Y) && rok r && Nat.ble 32 k) with
      | false => rw [hb] at h; cases h
      | true =>
        rw [hb] at h
        cases h
        simp only [Bool.and_eq_true] at hb
        exact ⟨k, ci, fs, hd, hM, Nat.eq_of_beq_eq_true hb.1.1, hb.1.2, Nat.le_of_ble_eq_true hb.2, rfl⟩
    · cases h
  · cases h
theorem csplit_i {b : Nat} {st vs rest : List Value} {M : AM} {Y : MD} (h : csplit 6 b st M Y = some (vs, rest)) : ∃ q : Nat, st.drop b = .ref q :: rest ∧ rok rest = true ∧ vs = .ref q :: (st.take b).reverse := by
  unfold csplit at h
  replace h : (match (st.drop b) with
    | .ref k :: r => bif rok r then some (.ref k :: (st.take b).reverse, r) else none
    | _ => none) = some (vs, rest) := h
  split at h
  · rename_i k r hd
    cases hb : rok r with
    | false => rw [hb] at h; cases h
    | true =>
      rw [hb] at h
      cases h
      exact ⟨k, hd, hb, rfl⟩
  · cases h
set_option maxHeartbeats 1000000 in
theorem ochk_v {o a b pc len : Nat} {v : Value} {dd : Except DecodeError (Instr × Nat)} (h : ochk o 5 a b v pc len dd = true) : ∃ (i : Nat) (ne : Bool) (x y z : Nat), dd = .ok (.invokevirtual i, 3) ∧ len = 3 ∧ i < 1000 ∧ lk2 mlT (1000 * o + i) = some (a, 5, b, ne, x, y, z) := by
  unfold ochk at h
  split at h
  all_goals try exact absurd (show false = true from h) (by decide)
  · rename_i cnd off
    rw [Bool.and_eq_true] at h
    revert h
    cases cnd <;> exact fun h => absurd (show false = true from h.2) (by decide)
  · rename_i cnd off
    rw [Bool.and_eq_true] at h
    revert h
    cases cnd <;> exact fun h => absurd (show false = true from h.2) (by decide)
  · rename_i i
    simp only [Bool.and_eq_true] at h
    obtain ⟨⟨h1, h2⟩, h3⟩ := h
    split at h3
    · rename_i mm pp n rr hl
      obtain ⟨ne, x, y, z⟩ := rr
      simp only [Bool.and_eq_true] at h3
      obtain ⟨⟨⟨g1, g2⟩, g3⟩, g4⟩ := h3
      have g2 := Nat.eq_of_beq_eq_true g2
      have g3 := Nat.eq_of_beq_eq_true g3
      have g4 := Nat.eq_of_beq_eq_true g4
      subst g2; subst g3; subst g4
      exact ⟨i, ne, x, y, z, rfl, Nat.eq_of_beq_eq_true h1, Nat.le_of_ble_eq_true h2, hl⟩
    · split at h3
      · rename_i pp x hl
        simp only [Bool.and_eq_true, Bool.or_eq_true] at h3
        have g1 := Nat.eq_of_beq_eq_true h3.1
        subst g1
        rcases h3.2 with g | g <;> exact absurd (show false = true from g) (by decide)
      · cases h3
  · rename_i i
    simp only [Bool.and_eq_true] at h
    have h3 := h.2
    split at h3
    · exact absurd (show false = true from h3) (by decide)
    · split at h3
      · rename_i pp x hl
        simp only [Bool.and_eq_true] at h3
        have g1 := Nat.eq_of_beq_eq_true h3.1
        subst g1
        exact absurd (show false = true from h3.2) (by decide)
      · cases h3
  · rename_i i
    simp only [Bool.and_eq_true] at h
    have h3 := h.2
    split at h3
    · exact absurd (show false = true from h3) (by decide)
    · split at h3
      · rename_i pp x hl
        simp only [Bool.and_eq_true, Bool.or_eq_true] at h3
        have g1 := Nat.eq_of_beq_eq_true h3.1
        subst g1
        rcases h3.2 with (g | g) | g <;> exact absurd (show false = true from g) (by decide)
      · cases h3
set_option maxHeartbeats 1000000 in
theorem ochk_i {o a b pc len : Nat} {v : Value} {dd : Except DecodeError (Instr × Nat)} (h : ochk o 6 a b v pc len dd = true) : ∃ (i : Nat) (ne : Bool) (x y z : Nat), dd = .ok (.invokespecial i, 3) ∧ len = 3 ∧ i < 1000 ∧ lk2 mlT (1000 * o + i) = some (a, 6, b, ne, x, y, z) := by
  unfold ochk at h
  split at h
  all_goals try exact absurd (show false = true from h) (by decide)
  · rename_i cnd off
    rw [Bool.and_eq_true] at h
    revert h
    cases cnd <;> exact fun h => absurd (show false = true from h.2) (by decide)
  · rename_i cnd off
    rw [Bool.and_eq_true] at h
    revert h
    cases cnd <;> exact fun h => absurd (show false = true from h.2) (by decide)
  · rename_i i
    simp only [Bool.and_eq_true] at h
    have h3 := h.2
    split at h3
    · exact absurd (show false = true from h3) (by decide)
    · split at h3
      · rename_i pp x hl
        simp only [Bool.and_eq_true, Bool.or_eq_true] at h3
        have g1 := Nat.eq_of_beq_eq_true h3.1
        subst g1
        rcases h3.2 with g | g <;> exact absurd (show false = true from g) (by decide)
      · cases h3
  · rename_i i
    simp only [Bool.and_eq_true] at h
    obtain ⟨⟨h1, h2⟩, h3⟩ := h
    split at h3
    · rename_i mm pp n rr hl
      obtain ⟨ne, x, y, z⟩ := rr
      simp only [Bool.and_eq_true] at h3
      obtain ⟨⟨⟨g1, g2⟩, g3⟩, g4⟩ := h3
      have g2 := Nat.eq_of_beq_eq_true g2
      have g3 := Nat.eq_of_beq_eq_true g3
      have g4 := Nat.eq_of_beq_eq_true g4
      subst g2; subst g3; subst g4
      exact ⟨i, ne, x, y, z, rfl, Nat.eq_of_beq_eq_true h1, Nat.le_of_ble_eq_true h2, hl⟩
    · split at h3
      · rename_i pp x hl
        simp only [Bool.and_eq_true] at h3
        have g1 := Nat.eq_of_beq_eq_true h3.1
        subst g1
        exact absurd (show false = true from h3.2) (by decide)
      · cases h3
  · rename_i i
    simp only [Bool.and_eq_true] at h
    have h3 := h.2
    split at h3
    · exact absurd (show false = true from h3) (by decide)
    · split at h3
      · rename_i pp x hl
        simp only [Bool.and_eq_true, Bool.or_eq_true] at h3
        have g1 := Nat.eq_of_beq_eq_true h3.1
        subst g1
        rcases h3.2 with (g | g) | g <;> exact absurd (show false = true from g) (by decide)
      · cases h3
set_option maxHeartbeats 1000000 in
theorem ochk_s {o a b pc len : Nat} {v : Value} {dd : Except DecodeError (Instr × Nat)} (h : ochk o 4 a b v pc len dd = true) : ∃ (i : Nat) (ne : Bool) (x y z : Nat), dd = .ok (.invokestatic i, 3) ∧ len = 3 ∧ i < 1000 ∧ lk2 mlT (1000 * o + i) = some (a, 4, b, ne, x, y, z) := by
  unfold ochk at h
  split at h
  all_goals try exact absurd (show false = true from h) (by decide)
  · rename_i cnd off
    rw [Bool.and_eq_true] at h
    revert h
    cases cnd <;> exact fun h => absurd (show false = true from h.2) (by decide)
  · rename_i cnd off
    rw [Bool.and_eq_true] at h
    revert h
    cases cnd <;> exact fun h => absurd (show false = true from h.2) (by decide)
  · rename_i i
    simp only [Bool.and_eq_true] at h
    have h3 := h.2
    split at h3
    · exact absurd (show false = true from h3) (by decide)
    · split at h3
      · rename_i pp x hl
        simp only [Bool.and_eq_true, Bool.or_eq_true] at h3
        have g1 := Nat.eq_of_beq_eq_true h3.1
        subst g1
        rcases h3.2 with g | g <;> exact absurd (show false = true from g) (by decide)
      · cases h3
  · rename_i i
    simp only [Bool.and_eq_true] at h
    have h3 := h.2
    split at h3
    · exact absurd (show false = true from h3) (by decide)
    · split at h3
      · rename_i pp x hl
        simp only [Bool.and_eq_true] at h3
        have g1 := Nat.eq_of_beq_eq_true h3.1
        subst g1
        exact absurd (show false = true from h3.2) (by decide)
      · cases h3
  · rename_i i
    simp only [Bool.and_eq_true] at h
    obtain ⟨⟨h1, h2⟩, h3⟩ := h
    split at h3
    · rename_i mm pp n rr hl
      obtain ⟨ne, x, y, z⟩ := rr
      simp only [Bool.and_eq_true] at h3
      obtain ⟨⟨⟨g1, g2⟩, g3⟩, g4⟩ := h3
      have g2 := Nat.eq_of_beq_eq_true g2
      have g3 := Nat.eq_of_beq_eq_true g3
      have g4 := Nat.eq_of_beq_eq_true g4
      subst g2; subst g3; subst g4
      exact ⟨i, ne, x, y, z, rfl, Nat.eq_of_beq_eq_true h1, Nat.le_of_ble_eq_true h2, hl⟩
    · split at h3
      · rename_i pp x hl
        simp only [Bool.and_eq_true, Bool.or_eq_true] at h3
        have g1 := Nat.eq_of_beq_eq_true h3.1
        subst g1
        rcases h3.2 with (g | g) | g <;> exact absurd (show false = true from g) (by decide)
      · cases h3
set_option maxRecDepth 100000 in
theorem mo_all : mtl.all (fun c => c.2.all (fun q => Nat.blt (md_o q.2) 15)) = true := by decide +kernel
theorem md_o_ne {mm : Nat} {Y : MD} (hm : mt mm = some Y) : md_o Y ≠ 99 := by
  have h := lk2_all mo_all hm
  have h : md_o Y < 15 := Nat.le_of_ble_eq_true h
  omega
theorem md_o_obj {o i a b x y z : Nat} {ne : Bool} {Y : MD} (_ : i < 1000) (h : lk2 mlT (1000 * o + i) = some (a, 5, b, ne, x, y, z)) (hm : mt a = some Y) : md_o Y < 11 := by
  have h1 := lk2_all mlT_all h
  simp only [mlP, hm, Bool.and_eq_true] at h1
  exact Nat.le_of_ble_eq_true h1.1.2
section SOUND
variable {p : Program} {l : Launch} {e : Env} {R : Room} {s : State} {m : MethodId} {args : Array Value} {below : List Frame} {meth : Method} {c : Code} {H : Heap} {locs : List Loc} {cells slots : Nat} {Q : State → Prop}
variable {G : SG} {sc : Nat × (Nat → Int32)} {adV : Nat → Nat} {X : MD} {pc pc' len : Nat} {ls : Array Slot} {ll ll' : AL} {st st' : List Value} {M M' : AM}
theorem w_ran {mc ms : Nat} {st0 rest : List Value} {a : Array Value} {r : AR} (hr : va_Run p l e R s m args below meth c H locs cells slots mc ms (F0 m pc ls st0) rest (QA G sc adV r a) (fun q => G.1 ≤ q)) (hS : va_S (fun q => G.1 ≤ q) s.heap H locs)
    (kk : ∀ (H1 : Heap) (locs1 : List Loc), HR G sc s r.2 H1 locs1 → W p l e R s m args below meth c H1 locs1 (cells + mc) (slots + ms) Q (F0 m (pc + 3) ls ((r.1.map (cv G)).toList ++ rest))) : W p l e R s m args below meth c H locs cells slots Q (F0 m pc ls st0) := by
  intro T hT XX
  obtain ⟨v, st₀, t, T', L, h0, X', hL, e1, e2, ⟨hv, ⟨i1, i2, i3, i4, i5⟩, hz, hk⟩, st⟩ := hr T hT XX
  cases hv
  rw [h0] at hz hk
  have hS1 : va_S (fun q => G.1 ≤ q) s.heap T'.heap (locs ++ L) := ⟨Nat.le_trans hS.1 (by rw [e1]; exact hz), fun q h1 h2 => by rw [e1, hk q (Nat.lt_of_lt_of_le h1 hS.1) h2]; exact hS.2.1 q h1 h2, fun q hq => by
      rcases List.mem_append.mp hq with h | h
      · exact hS.2.2 q h
      · exact hL q h⟩
  obtain ⟨t2, a1, b1⟩ := kk T'.heap (locs ++ L) ⟨by rw [e1]; exact i2, hS1, i5⟩ T' rfl X'
  exact ⟨t2, st t2 a1, b1⟩
/-- what a callee finds: the heap as it is -/
theorem w_pre {N0 : Nat} {T : State} (F : FRm G sc adV X p s m args meth c) (hH : HR G sc s M H locs) (hsz : s.heap.size = G.1 + N0) (hN : N0 ≤ cnt M 0) (hT : T.heap = H) (XX : Stand p l e R s m args below meth c T locs (cnt M 0 - N0) slots) (vs : List Value) : ∀ U : State, U.heap = H → s.WarmedH U.vm → va_Pc (vs.map (cv G)) (InA G sc adV M) (vs.map (cv G)).toArray U := by
  intro U hU hW
  obtain ⟨hx, hb, hml, hown, hts, hin, hK, hO, hG⟩ := F
  have hup : H.size ≤ G.1 + cnt M 0 := by
    have := XX.heapSize
    rw [hT] at this
    omega
  have hlo : G.1 + cnt M 0 ≤ H.size := by
    by_cases hz : cnt M 0 = 0
    · have h9 : s.heap.size ≤ H.size := hH.2.1.1
      omega
    · have h9 := (hH.1 (cnt M 0 - 1) _ (lay_get (by omega))).lt
      have h9 : G.1 + (cnt M 0 - 1) < H.size := h9
      omega
  refine ⟨rfl, by rw [hU]; omega, by rw [hU]; exact hH.1, va_K.moved hW.alike hK, hO.go hG hH.2.1 hU hW, hH.2.2⟩
theorem wsum_le (r : List Value) : wsum r ≤ 2 * r.length := by
  induction r with
  | nil => exact Nat.le_refl _
  | cons v t ih =>
    have h1 : wsum (v :: t) = v.category + wsum t := rfl
    have h2 : (v :: t).length = t.length + 1 := rfl
    rcases lv_cat v with h | h <;> omega
theorem rest_room {r : List Value} (h : r.length ≤ 4) : ((r.map (cv G)).map fun v => v.category).sum ≤ 8 := by
  have h1 := wsum_le r
  have h2 : wsum (r.map (cv G)) = wsum r := wsum_cv G r
  have h3 : wsum (r.map (cv G)) = ((r.map (cv G)).map fun v => v.category).sum := rfl
  omega
theorem rest_roomK {r : List Value} (h : rok r = true) : ((r.map (cv G)).map fun v => v.category).sum ≤ 8 := by
  unfold rok at h
  rw [Bool.or_eq_true] at h
  rcases h with h | h
  · exact rest_room (Nat.le_of_ble_eq_true h)
  · have h1 : wsum r ≤ 8 := Nat.le_of_ble_eq_true h
    have h2 : wsum (r.map (cv G)) = wsum r := wsum_cv G r
    have h3 : wsum (r.map (cv G)) = ((r.map (cv G)).map fun v => v.category).sum := rfl
    omega
/-- a call of a method of which the contract is known -/
theorem w_call {op a b d N0 S0 mm : Nat} {v : Value} {Y : MD} {vs rest : List Value} {r : AR} (F : FRm G sc adV X p s m args meth c) (hH : HR G sc s M H locs) (hL : LH G ls (md_L X) ll) (hc : ochk (md_o X) op a b v pc len (decode (md_b X) pc) = true) (hm : mt a = some Y) (hp : csplit op b st M Y = some (vs, rest)) (hY : MetA l G sc adV d Y vs M r) (hsz : s.heap.size = G.1 + N0) (hN : N0 ≤ cnt M 0) (hS0 : S0 ≤ cnt M 1) (hm0 : cnt M 0 ≤ cnt r.2 0) (hm1 : cnt M 1 ≤ cnt r.2 1) (hRc : cnt r.2 0 - N0 ≤ R.cells) (hRs : cnt r.2 1 - S0 ≤ R.slots) (hRf : d + 1 ≤ R.frames) (hRl : 40 * (d + 1) ≤ R.locals)
    (k : ∀ (H' : Heap) (locs' : List Loc), HR G sc s r.2 H' locs' → W p l e R s m args below meth c H' locs' (cnt r.2 0 - N0) (cnt r.2 1 - S0) Q (F0 m (pc + len) ls ((r.1.toList ++ rest).map (cv G)))) : W p l e R s m args below meth c H locs (cnt M 0 - N0) (cnt M 1 - S0) Q (F0 m pc ls (st.map (cv G))) := by
  have F' := F
  obtain ⟨hx, hb, hml, hown, hts, hin, hK, hO, hG⟩ := F
  have e0 : cnt M 0 - N0 + (cnt r.2 0 - cnt M 0) = cnt r.2 0 - N0 := by omega
  have e1 : cnt M 1 - S0 + (cnt r.2 1 - cnt M 1) = cnt r.2 1 - S0 := by omega
  have hk : ∀ (H' : Heap) (locs' : List Loc), HR G sc s r.2 H' locs' → len = 3 → W p l e R s m args below meth c H' locs' (cnt M 0 - N0 + (cnt r.2 0 - cnt M 0)) (cnt M 1 - S0 + (cnt r.2 1 - cnt M 1)) Q (F0 m (pc + 3) ls ((r.1.map (cv G)).toList ++ rest.map (cv G))) := by
    intro H' locs' hH' hl
    subst hl
    rw [e0, e1]
    have k1 := k H' locs' hH'
    have e2 : (r.1.toList ++ rest).map (cv G) = (r.1.map (cv G)).toList ++ rest.map (cv G) := by
      rw [List.map_append]
      cases r.1 <;> rfl
    rw [e2] at k1
    exact k1
  have hfit : cnt M 0 - N0 + (cnt r.2 0 - cnt M 0) ≤ R.cells ∧ cnt M 1 - S0 + (cnt r.2 1 - cnt M 1) ≤ R.slots := ⟨by omega, by omega⟩
  -- what every call needs of Y
  have base : ∀ {o i n x y z op' : Nat} {ne : Bool}, i < 1000 → lk2 mlT (1000 * o + i) = some (a, op', n, ne, x, y, z) → MWok Y := by
    intro o i n x y z op' ne hi hl
    have h1 := (mlT_ok hi hl hm).2.2.2.2.2.2
    rcases (mt_ok hm).2 with h | h
    · exact h
    · exfalso
      subst h
      obtain ⟨cc, c1, c2⟩ := lk2_mem hm
      have hall : mtl.all (fun c => c.2.all (fun q => !(Nat.beq (md_o q.2) 11) || Nat.beq q.1 263)) = true := by decide +kernel
      have h2 := List.all_eq_true.mp (List.all_eq_true.mp hall cc c1) _ c2
      have h3 : (!(Nat.beq (md_o md_263) 11)) = false := rfl
      simp only [h3, Bool.false_or] at h2
      exact h1 (Nat.eq_of_beq_eq_true h2)
  have words : ∀ w ∈ wsA Y, MWok Y → ∀ (a' : Array Value) (U : State), s.WarmedH U.vm → w.before a' U = true := by
    intro w hw hmw a' U hW
    rcases List.mem_cons.mp hw with h | h
    · subst h
      exact lw_go hW hts _ (t2_in hmw.1 rfl)
    · exact lw_go hW hts w h
  have hroom : MWok Y → 8 + (md_L Y + 11) + (rmA d (cnt r.2 0 - cnt M 0) (cnt r.2 1 - cnt M 1)).locals ≤ R.locals := by
    intro hmw
    have h1 := hmw.2.2.2.2.2.1
    show 8 + (md_L Y + 11) + 40 * d ≤ R.locals
    omega
  have cb : ∀ {i n : Nat}, MWok Y → (Jvm.Cond.methodLink (cnm (md_o X)) i (md_y Y)) ∈ lw_t2 → (parseMethodDescriptor (md_y Y).desc).map (fun d => d.parameters.length) = some n → CallB R s args (cnm (md_o X)) i (md_y Y) (md_b Y) (md_L Y) (rF (md_r Y)) (wsA Y) (rmA d (cnt r.2 0 - cnt M 0) (cnt r.2 1 - cnt M 1)) (cnt r.2 0 - cnt M 0) (cnt r.2 1 - cnt M 1) n := by
    intro i n hmw hl hn
    refine ⟨rfl, rfl, hRf, hroom hmw, fun w hw => words w hw hmw, List.mem_cons_self, hts _ (t2_in hmw.1 rfl), hts _ (t2_in hmw.2.1 rfl), hmw.2.2.1, fun sig h => ?_, hts _ hl⟩
    rw [h] at hn
    exact (Option.some.inj hn).symm
  have cn : ∀ {i n : Nat}, MWok Y → (Jvm.Cond.methodLinkNest (cnm (md_o X)) i (md_y Y) RX9) ∈ lw_t2 → (parseMethodDescriptor (md_y Y).desc).map (fun d => d.parameters.length) = some n → va_CN R s args (cnm (md_o X)) i (md_y Y) RX9 (md_b Y) (md_L Y) (rF (md_r Y)) (wsA Y) (rmA d (cnt r.2 0 - cnt M 0) (cnt r.2 1 - cnt M 1)) (cnt r.2 0 - cnt M 0) (cnt r.2 1 - cnt M 1) n := by
    intro i n hmw hl hn
    refine ⟨⟨rfl, rfl, hRf, hroom hmw, fun w hw => words w hw hmw, List.mem_cons_self⟩, hts _ (t2_in hmw.1 rfl), hts _ (t2_in hmw.2.1 rfl), hmw.2.2.1, fun sig h => ?_, hts _ hl⟩
    rw [h] at hn
    exact (Option.some.inj hn).symm
  have fix : CallFix p m c (md_b X) (md_L X) s args lw_t2 (cnm (md_o X)) := ⟨hx, hb, hml, hown, hts⟩
  rcases csplit_op hp with rfl | rfl | rfl
  · -- static
    obtain ⟨i, ne, x, y, z, hd, hl3, hi, hl⟩ := ochk_s hc
    have hmw := base hi hl
    obtain ⟨w1, w2, -, -, -, hn, -⟩ := mlT_ok hi hl hm
    obtain ⟨q1, q2, q3, rfl, rfl⟩ := csplit_s hp
    intro T hT XX
    have hpre : PreS s H (va_Pc (((st.take b).reverse).map (cv G)) (InA G sc adV M)) (((st.take b).reverse).map (cv G)) := ⟨InA.blind _, w_pre F' hH hsz hN hT XX _⟩
    have hst : st.map (cv G) = (((st.take b).reverse).map (cv G)).reverse ++ (st.drop b).map (cv G) := by
      rw [← List.map_reverse, List.reverse_reverse, ← List.map_append, List.take_append_drop]
    have hlen : (((st.take b).reverse).map (cv G)).length = b := by
      rw [List.length_map, List.length_reverse, List.length_take]
      omega
    cases ne with
    | false => exact w_ran (va_runS fix hY ⟨cb hmw w1 hn, hts _ (w2 rfl)⟩ hpre rfl hlen hL.1 hst (lv_room (rest_roomK q3)) hd hfit) hH.2.1 (fun H' locs' h => hk H' locs' h hl3) T hT XX
    | true => exact w_ran (va_runSN fix hY ⟨cn hmw w1 hn, hts _ (w2 rfl), trivial⟩ hpre rfl hlen hL.1 hst (lv_room (rest_roomK q3)) hd hfit) hH.2.1 (fun H' locs' h => hk H' locs' h hl3) T hT XX
  · -- virtual
    obtain ⟨i, ne, x, y, z, hd, hl3, hi, hl⟩ := ochk_v hc
    have hmw := base hi hl
    obtain ⟨w1, -, w2, w3, -, hn, -⟩ := mlT_ok hi hl hm
    obtain ⟨q, ci, fs, q1, q2, q3, q4, q5, rfl⟩ := csplit_v hp
    intro T hT XX
    have hpre : ∀ U : State, U.heap = H → s.WarmedH U.vm → va_Pc ((Value.ref q :: (st.take b).reverse).map (cv G)) (InA G sc adV M) ((Value.ref q :: (st.take b).reverse).map (cv G)).toArray U := w_pre F' hH hsz hN hT XX _
    have hlt : b < st.length := by
      by_cases hz : b < st.length
      · exact hz
      · rw [List.drop_eq_nil_of_le (by omega)] at q1; cases q1
    have hst : st.map (cv G) = (((st.take b).reverse).map (cv G)).reverse ++ .ref (ad G q) :: rest.map (cv G) := by
      have : st = st.take b ++ .ref q :: rest := by rw [← q1, List.take_append_drop]
      rw [← List.map_reverse, List.reverse_reverse]
      conv => lhs; rw [this]
      rw [List.map_append]
      rfl
    have hlen : (((st.take b).reverse).map (cv G)).length = b := by
      rw [List.length_map, List.length_reverse, List.length_take]
      omega
    obtain ⟨v1, v2⟩ := hH.any q5 q2 (by rw [q3]; intro h9; have := hmw.2.2.2.1; exact absurd h9 (md_o_ne hm))
    have hrecv : ∃ cellB : Cell, H[ad G q]? = some cellB ∧ cellB.vm.isStatics = false ∧ s.vm.findClass (md_y Y).cls = some cellB.cls := by
      have h11 : md_o Y < 11 := md_o_obj hi hl hm
      have h12 := va_recv hK hH.1 (q := (cnm (md_o Y), fTX (md_o Y), fN (md_o Y))) (by rw [q3]; exact vw_at (md_o Y) h11) v2
      rw [hmw.2.2.2.1]
      exact h12
    have hpv : PreV s H (md_y Y).cls (ad G q) (va_Pc ((Value.ref q :: (st.take b).reverse).map (cv G)) (InA G sc adV M)) (((st.take b).reverse).map (cv G)) := ⟨InA.blind _, hrecv, hpre⟩
    cases ne with
    | false => exact w_ran (va_runV (C := (md_y Y).cls) fix hY ⟨cb hmw w1 hn, hts _ (w2 (by decide)), hts _ (w3 rfl)⟩ hpv rfl hlen hL.1 hst (lv_room (rest_roomK q4)) hd hfit) hH.2.1 (fun H' locs' h => hk H' locs' h hl3) T hT XX
    | true => exact w_ran (va_runVN (C := (md_y Y).cls) fix hY ⟨cn hmw w1 hn, hts _ (w2 (by decide)), hts _ (w3 rfl)⟩ hpv rfl hlen hL.1 hst (lv_room (rest_roomK q4)) hd hfit) hH.2.1 (fun H' locs' h => hk H' locs' h hl3) T hT XX
  · -- special
    obtain ⟨i, ne, x, y, z, hd, hl3, hi, hl⟩ := ochk_i hc
    have hmw := base hi hl
    obtain ⟨w1, -, w2, -, w4, hn, -⟩ := mlT_ok hi hl hm
    obtain ⟨q, q1, q4, rfl⟩ := csplit_i hp
    have hini := (w4 rfl).1
    have hr0 := (w4 rfl).2
    have hname : (md_y Y).name = "<init>" := (hmw.2.2.2.2.2.2 hini).1
    have hrF : rF (md_r Y) = none := by rw [hr0]; rfl
    intro T hT XX
    have hpre : PreS s H (va_Pc ((Value.ref q :: (st.take b).reverse).map (cv G)) (InA G sc adV M)) (.ref (ad G q) :: ((st.take b).reverse).map (cv G)) := ⟨InA.blind _, w_pre F' hH hsz hN hT XX _⟩
    have hlt : b < st.length := by
      by_cases hz : b < st.length
      · exact hz
      · rw [List.drop_eq_nil_of_le (by omega)] at q1; cases q1
    have hst : st.map (cv G) = (((st.take b).reverse).map (cv G)).reverse ++ .ref (ad G q) :: rest.map (cv G) := by
      have : st = st.take b ++ .ref q :: rest := by rw [← q1, List.take_append_drop]
      rw [← List.map_reverse, List.reverse_reverse]
      conv => lhs; rw [this]
      rw [List.map_append]
      rfl
    have hlen : (((st.take b).reverse).map (cv G)).length = b := by
      rw [List.length_map, List.length_reverse, List.length_take]
      omega
    cases ne with
    | false =>
      have hcb := cb hmw w1 hn
      rw [hrF] at hcb
      exact w_ran (va_runI fix hY ⟨hcb, hname, hts _ (w2 (by decide))⟩ hpre rfl hlen hL.1 hst (lv_room (rest_roomK q4)) hd hfit) hH.2.1 (fun H' locs' h => hk H' locs' h hl3) T hT XX
    | true =>
      have hcn := cn hmw w1 hn
      rw [hrF] at hcn
      exact w_ran (va_runIN fix hY ⟨hcn, hname, hts _ (w2 (by decide))⟩ hpre rfl hlen hL.1 hst (lv_room (rest_roomK q4)) hd hfit) hH.2.1 (fun H' locs' h => hk H' locs' h hl3) T hT XX
end SOUND
