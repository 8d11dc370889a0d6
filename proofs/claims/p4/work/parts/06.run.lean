/-! RUNS of the abstract machine, and the rules that walk them. -/
abbrev AR : Type := Option Value × AM
def wsum (vs : List Value) : Nat := (vs.map (fun v => v.category)).sum
def abody (rec : Nat → MD → Nat → AL → List Value → AM → Option AR) (d : Nat) (X : MD) (pc : Nat) (l : AL) (st : List Value) (M : AM) : Option AR := match sstep swl X pc l st M with
  | some (pc', l', st', M') => rec d X pc' l' st' M'
  | none => (match cdx X pc with
    | some (.inr (.inl i), _) => rstep (md_r X) i st M
    | some (.inr (.inr (op, a, b, _)), len) => (match bstep op st M with
      | some (st', M') => bif Nat.blt d 8 then none else rec d X (pc + len) l st' M'
      | none => (match mt a, d with
        | some Y, d' + 1 => (match csplit op b st M Y with
          | some (args, rest) => bif Nat.ble (wsum args) (md_L Y) then (match rec d' Y 0 (ent args (md_L Y)) [] M with
            | some (rv, M') => rec d X (pc + len) l (rv.toList ++ rest) M'
            | none => none) else none
          | none => none)
        | _, _ => none))
    | _ => none)
def ago : Nat → Nat → MD → Nat → AL → List Value → AM → Option AR
  | 0, _, _, _, _, _, _ => none
  | n + 1, d, X, pc, l, st, M => abody (ago n) d X pc l st M
section RUN
variable {rec rec' : Nat → MD → Nat → AL → List Value → AM → Option AR} {d : Nat} {X : MD} {pc : Nat} {l : AL} {st : List Value} {M : AM} {r : AR}
theorem abody_cases (h : abody rec d X pc l st M = some r) :
    (∃ pc' l' st' M', sstep swl X pc l st M = some (pc', l', st', M') ∧ rec d X pc' l' st' M' = some r) ∨
    (sstep swl X pc l st M = none ∧ ∃ i len, cdx X pc = some (.inr (.inl i), len) ∧ rstep (md_r X) i st M = some r) ∨
    (sstep swl X pc l st M = none ∧ ∃ op a b v len st' M', cdx X pc = some (.inr (.inr (op, a, b, v)), len) ∧ bstep op st M = some (st', M') ∧ 8 ≤ d ∧ rec d X (pc + len) l st' M' = some r) ∨
    (sstep swl X pc l st M = none ∧ ∃ op a b v len Y d' args rest rv M', cdx X pc = some (.inr (.inr (op, a, b, v)), len) ∧ bstep op st M = none ∧ mt a = some Y ∧ d = d' + 1 ∧ csplit op b st M Y = some (args, rest) ∧ wsum args ≤ md_L Y ∧ rec d' Y 0 (ent args (md_L Y)) [] M = some (rv, M') ∧ rec d X (pc + len) l (rv.toList ++ rest) M' = some r) := by
  unfold abody at h
  cases hs : sstep swl X pc l st M with
  | some q =>
    obtain ⟨pc', l', st', M'⟩ := q
    rw [hs] at h
    exact Or.inl ⟨pc', l', st', M', rfl, h⟩
  | none =>
    rw [hs] at h
    dsimp only at h
    refine Or.inr ?_
    cases hc : cdx X pc with
    | none => rw [hc] at h; cases h
    | some q =>
      obtain ⟨ai, len⟩ := q
      rw [hc] at h
      match ai, h with
      | .inl v, h => cases h
      | .inr (.inl i), h => exact Or.inl ⟨rfl, i, len, rfl, h⟩
      | .inr (.inr (op, a, b, v)), h =>
        refine Or.inr ?_
        dsimp only at h
        cases hb : bstep op st M with
        | some q =>
          obtain ⟨st', M'⟩ := q
          rw [hb] at h
          dsimp only at h
          cases hd : Nat.blt d 8 with
          | true => rw [hd] at h; cases h
          | false =>
            rw [hd] at h
            refine Or.inl ⟨rfl, op, a, b, v, len, st', M', rfl, hb, ?_, h⟩
            have h1 : ¬ d < 8 := fun h2 => by
              have h3 : Nat.blt d 8 = true := Nat.ble_eq_true_of_le h2
              rw [h3] at hd
              cases hd
            omega
        | none =>
          rw [hb] at h
          dsimp only at h
          cases hm : mt a with
          | none => rw [hm] at h; cases h
          | some Y =>
            rw [hm] at h
            cases d with
            | zero => cases h
            | succ d' =>
              dsimp only at h
              cases hp : csplit op b st M Y with
              | none => rw [hp] at h; cases h
              | some q =>
                obtain ⟨args, rest⟩ := q
                rw [hp] at h
                dsimp only at h
                cases hw : Nat.ble (wsum args) (md_L Y) with
                | false => rw [hw] at h; cases h
                | true =>
                  rw [hw, cond_true] at h
                  cases hr : rec d' Y 0 (ent args (md_L Y)) [] M with
                  | none => rw [hr] at h; cases h
                  | some q =>
                    obtain ⟨rv, M'⟩ := q
                    rw [hr] at h
                    exact Or.inr ⟨rfl, op, a, b, v, len, Y, d', args, rest, rv, M', rfl, hb, hm, rfl, hp, Nat.le_of_ble_eq_true hw, hr, h⟩
theorem abody_s {pc' : Nat} {l' : AL} {st' : List Value} {M' : AM} (hs : sstep swl X pc l st M = some (pc', l', st', M')) : abody rec d X pc l st M = rec d X pc' l' st' M' := by
  unfold abody
  rw [hs]
theorem abody_r {i : Instr} {len : Nat} (hs : sstep swl X pc l st M = none) (hc : cdx X pc = some (.inr (.inl i), len)) : abody rec d X pc l st M = rstep (md_r X) i st M := by
  unfold abody
  rw [hs, hc]
theorem abody_b {op a b len : Nat} {v : Value} {st' : List Value} {M' : AM} (hs : sstep swl X pc l st M = none) (hc : cdx X pc = some (.inr (.inr (op, a, b, v)), len)) (hb : bstep op st M = some (st', M')) (hd : 8 ≤ d) : abody rec d X pc l st M = rec d X (pc + len) l st' M' := by
  unfold abody
  rw [hs, hc]
  dsimp only
  rw [hb]
  have h1 : Nat.blt d 8 = false := by
    cases hq : Nat.blt d 8 with
    | false => rfl
    | true => exact absurd (Nat.le_of_ble_eq_true hq : d < 8) (by omega)
  dsimp only
  rw [h1]
  rfl
theorem abody_c {op a b len d' : Nat} {v : Value} {Y : MD} {args rest : List Value} {rv : Option Value} {M' : AM} (hs : sstep swl X pc l st M = none) (hc : cdx X pc = some (.inr (.inr (op, a, b, v)), len)) (hb : bstep op st M = none) (hm : mt a = some Y) (hp : csplit op b st M Y = some (args, rest)) (hw : wsum args ≤ md_L Y) (hr : rec d' Y 0 (ent args (md_L Y)) [] M = some (rv, M')) : abody rec (d' + 1) X pc l st M = rec (d' + 1) X (pc + len) l (rv.toList ++ rest) M' := by
  unfold abody
  rw [hs, hc]
  dsimp only
  rw [hb]
  dsimp only
  rw [hm]
  dsimp only
  rw [hp]
  dsimp only
  rw [Nat.ble_eq_true_of_le hw, cond_true, hr]
theorem abody_mono (hrec : ∀ d X pc l st M r, rec d X pc l st M = some r → rec' d X pc l st M = some r) (h : abody rec d X pc l st M = some r) : abody rec' d X pc l st M = some r := by
  rcases abody_cases h with ⟨pc', l', st', M', h1, h2⟩ | ⟨h0, i, len, h1, h2⟩ | ⟨h0, op, a, b, v, len, st', M', h1, h2, h3, h4⟩ | ⟨h0, op, a, b, v, len, Y, d', args, rest, rv, M', h1, h2, h3, rfl, h5, hw, h6, h7⟩
  · rw [abody_s h1]; exact hrec _ _ _ _ _ _ _ h2
  · rw [abody_r h0 h1]; exact h2
  · rw [abody_b h0 h1 h2 h3]; exact hrec _ _ _ _ _ _ _ h4
  · rw [abody_c h0 h1 h2 h3 h5 hw (hrec _ _ _ _ _ _ _ h6)]; exact hrec _ _ _ _ _ _ _ h7
end RUN
theorem ago_up : ∀ (n d : Nat) (X : MD) (pc : Nat) (l : AL) (st : List Value) (M : AM) (r : AR), ago n d X pc l st M = some r → ago (n + 1) d X pc l st M = some r
  | 0, d, X, pc, l, st, M, r, h => by cases h
  | n + 1, d, X, pc, l, st, M, r, h => by
    show abody (ago (n + 1)) d X pc l st M = some r
    exact abody_mono (ago_up n) h
theorem ago_le {n m d : Nat} {X : MD} {pc : Nat} {l : AL} {st : List Value} {M : AM} {r : AR} (hnm : n ≤ m) (h : ago n d X pc l st M = some r) : ago m d X pc l st M = some r := by
  obtain ⟨k, rfl⟩ := Nat.exists_eq_add_of_le hnm
  clear hnm
  induction k with
  | zero => exact h
  | succ k ih => exact ago_up _ _ _ _ _ _ _ _ ih
/-- the run from here ends so -/
def Ev (d : Nat) (X : MD) (pc : Nat) (l : AL) (st : List Value) (M : AM) (r : AR) : Prop := ∃ n, ago n d X pc l st M = some r
def sn : Nat → MD → Nat → AL → List Value → AM → Option (Nat × AL × List Value × AM)
  | 0, _, pc, l, st, M => some (pc, l, st, M)
  | n + 1, X, pc, l, st, M => match sstep swl X pc l st M with
    | some (pc', l', st', M') => sn n X pc' l' st' M'
    | none => none
section EV
variable {d : Nat} {X : MD} {pc len : Nat} {l : AL} {st : List Value} {M : AM} {r : AR} {a b : Nat} {v : Value}
theorem Ev.s {pc' : Nat} {l' : AL} {st' : List Value} {M' : AM} (hs : sstep swl X pc l st M = some (pc', l', st', M')) (k : Ev d X pc' l' st' M' r) : Ev d X pc l st M r := by
  obtain ⟨n, h⟩ := k
  exact ⟨n + 1, (abody_s hs).trans h⟩
theorem Ev.n : ∀ (k : Nat) {pc : Nat} {l : AL} {st : List Value} {M : AM} {pc' : Nat} {l' : AL} {st' : List Value} {M' : AM}, sn k X pc l st M = some (pc', l', st', M') → Ev d X pc' l' st' M' r → Ev d X pc l st M r
  | 0, pc, l, st, M, pc', l', st', M', h, e => by cases h; exact e
  | k + 1, pc, l, st, M, pc', l', st', M', h, e => by
    unfold sn at h
    cases hs : sstep swl X pc l st M with
    | none => rw [hs] at h; cases h
    | some q =>
      obtain ⟨pc1, l1, st1, M1⟩ := q
      rw [hs] at h
      exact Ev.s hs (Ev.n k h e)
theorem rstep_only {rt : Nat} {i : Instr} (h : rstep rt i st M = some r) : pstep i st = none ∧ mstep i st M = none := by
  unfold rstep at h
  split at h <;> first | exact ⟨rfl, rfl⟩ | cases h
theorem Ev.ret {i : Instr} (hc : cdx X pc = some (.inr (.inl i), len)) (hr : rstep (md_r X) i st M = some r) : Ev d X pc l st M r := by
  refine ⟨1, (abody_r (i := i) (len := len) ?_ hc).trans hr⟩
  obtain ⟨h1, h2⟩ := rstep_only hr
  unfold sstep
  rw [hc]
  dsimp only
  rw [h1]
  dsimp only
  rw [h2]
theorem ostep_call (op : Nat) (h : op = 4 ∨ op = 5 ∨ op = 6 ∨ op = 7 ∨ op = 8 ∨ op = 9 ∨ op = 10 ∨ op = 11 ∨ op = 12) {o : Nat} {ini : Bool} : ostep swl o ini op a b v pc len l st M = none := by
  rcases h with rfl | rfl | rfl | rfl | rfl | rfl | rfl | rfl | rfl <;> rfl
theorem bstep_call (op : Nat) (h : op = 4 ∨ op = 5 ∨ op = 6) : bstep op st M = none := by
  rcases h with rfl | rfl | rfl <;> rfl
theorem sstep_call {op : Nat} (hc : cdx X pc = some (.inr (.inr (op, a, b, v)), len)) (h : op = 4 ∨ op = 5 ∨ op = 6 ∨ op = 7 ∨ op = 8 ∨ op = 9 ∨ op = 10 ∨ op = 11 ∨ op = 12) : sstep swl X pc l st M = none := by
  unfold sstep
  rw [hc]
  exact ostep_call op h
/-- a call, whatever its kind: the callee's run, then the rest -/
theorem Ev.call {op : Nat} {Y : MD} {args rest : List Value} {rv : Option Value} {M' : AM} (hc : cdx X pc = some (.inr (.inr (op, a, b, v)), len)) (hm : mt a = some Y) (ho : op = 4 ∨ op = 5 ∨ op = 6) (hp : csplit op b st M Y = some (args, rest)) (hw : Nat.ble (wsum args) (md_L Y) = true) (hr : Ev d Y 0 (ent args (md_L Y)) [] M (rv, M')) (k : Ev (d + 1) X (pc + len) l (rv.toList ++ rest) M' r) : Ev (d + 1) X pc l st M r := by
  obtain ⟨n1, h1⟩ := hr
  obtain ⟨n2, h2⟩ := k
  refine ⟨n1 + n2 + 1, (abody_c (rec := ago (n1 + n2)) (sstep_call hc (by omega)) hc (bstep_call op ho) hm hp (Nat.le_of_ble_eq_true hw) (ago_le (by omega) h1)).trans (ago_le (by omega) h2)⟩
theorem Ev.callS {Y : MD} {rv : Option Value} {M' : AM} (hc : cdx X pc = some (.inr (.inr (4, a, b, v)), len)) (hm : mt a = some Y) (hb : (Nat.ble b st.length && rok (st.drop b)) = true) (hw : Nat.ble (wsum ((st.take b).reverse)) (md_L Y) = true) (hr : Ev d Y 0 (ent ((st.take b).reverse) (md_L Y)) [] M (rv, M')) (k : Ev (d + 1) X (pc + len) l (rv.toList ++ st.drop b) M' r) : Ev (d + 1) X pc l st M r := by
  refine Ev.call hc hm (Or.inl rfl) (args := (st.take b).reverse) (rest := st.drop b) ?_ hw hr k
  unfold csplit
  rw [hb]
  rfl
theorem Ev.callV {Y : MD} {rv : Option Value} {M' : AM} {k ci : Nat} {fs rest : List Value} (hc : cdx X pc = some (.inr (.inr (5, a, b, v)), len)) (hm : mt a = some Y) (hd : st.drop b = .ref k :: rest) (hM : M k = .inr (ci, fs)) (hb : (Nat.beq ci (md_o Y) && rok rest) = true) (h32 : 32 ≤ k) (hw : Nat.ble (wsum (.ref k :: (st.take b).reverse)) (md_L Y) = true) (hr : Ev d Y 0 (ent (.ref k :: (st.take b).reverse) (md_L Y)) [] M (rv, M')) (k : Ev (d + 1) X (pc + len) l (rv.toList ++ rest) M' r) : Ev (d + 1) X pc l st M r := by
  refine Ev.call hc hm (Or.inr (Or.inl rfl)) ?_ hw hr k
  unfold csplit
  rw [hd]
  dsimp only
  rw [hM]
  dsimp only
  rw [hb, Nat.ble_eq_true_of_le h32]
  rfl
theorem Ev.callI {Y : MD} {rv : Option Value} {M' : AM} {k : Nat} {rest : List Value} (hc : cdx X pc = some (.inr (.inr (6, a, b, v)), len)) (hm : mt a = some Y) (hd : st.drop b = .ref k :: rest) (hb : rok rest = true) (hw : Nat.ble (wsum (.ref k :: (st.take b).reverse)) (md_L Y) = true) (hr : Ev d Y 0 (ent (.ref k :: (st.take b).reverse) (md_L Y)) [] M (rv, M')) (k : Ev (d + 1) X (pc + len) l (rv.toList ++ rest) M' r) : Ev (d + 1) X pc l st M r := by
  refine Ev.call hc hm (Or.inr (Or.inr rfl)) ?_ hw hr k
  unfold csplit
  rw [hd]
  dsimp only
  rw [hb]
  rfl
theorem Ev.bi {op : Nat} {st' : List Value} {M' : AM} (hc : cdx X pc = some (.inr (.inr (op, a, b, v)), len)) (ho : op = 7 ∨ op = 8 ∨ op = 9 ∨ op = 10 ∨ op = 11 ∨ op = 12) (hb : bstep op st M = some (st', M')) (hd : 8 ≤ d) (k : Ev d X (pc + len) l st' M' r) : Ev d X pc l st M r := by
  obtain ⟨n, h⟩ := k
  exact ⟨n + 1, (abody_b (rec := ago n) (sstep_call hc (by omega)) hc hb hd).trans h⟩
theorem ain_of {i : Int32} {n : Nat} (h : vp_in i n) : ain i n = true := by
  have h1 : ¬ i < 0 := fun q => h (Or.inl q)
  have h2 : i.toNatClampNeg < n := Nat.not_le.mp fun q => h (Or.inr q)
  unfold ain
  rw [decide_eq_false h1]
  exact Nat.ble_eq_true_of_le h2
theorem ain_to {i : Int32} {n : Nat} (h : ain i n = true) : vp_in i n := by
  unfold ain at h
  rw [Bool.and_eq_true] at h
  intro q
  rcases q with q | q
  · rw [decide_eq_true q] at h; cases h.1
  · have h3 : i.toNatClampNeg < n := Nat.le_of_ble_eq_true h.2
    omega
-- memory
theorem Ev.get {k : Nat} {fs : List Value} {w : Value} (hc : cdx X pc = some (.inr (.inr (0, a, b, v)), len)) (hM : M k = .inr (a, fs)) (hv : gv fs b = some w) (h : Ev d X (pc + len) l (w :: st) M r) : Ev d X pc l (.ref k :: st) M r := by
  refine Ev.s ?_ h
  unfold sstep
  rw [hc]
  show (match M k with | .inr (ci, fs) => _ | .inl _ => _) = _
  rw [hM]
  show (bif Nat.beq a a then _ else _) = _
  rw [Nat.beq_refl]
  show (match gv fs b with | some w => _ | none => _) = _
  rw [hv]
theorem Ev.put {k : Nat} {fs : List Value} {w : Value} (hc : cdx X pc = some (.inr (.inr (1, a, b, v)), len)) (hM : M k = .inr (a, fs)) (hok : (Nat.blt b fs.length && pfit (fcode a b) w && (bif (fTX a b).2.2.2 then md_i X && Nat.beq (md_o X) a else true)) = true) (h : Ev d X (pc + len) l st (va_up M k (.inr (a, fs.set b w))) r) : Ev d X pc l (w :: .ref k :: st) M r := by
  refine Ev.s ?_ h
  unfold sstep
  rw [hc]
  show (match M k with | .inr (ci, fs) => _ | .inl _ => _) = _
  rw [hM]
  show (bif Nat.beq a a && _ && _ && _ then _ else _) = _
  rw [Nat.beq_refl, Bool.true_and, hok]
  rfl
theorem Ev.iald {k n t : Nat} {f : Nat → Int32} {j : Int32} (hc : cdx X pc = some (.inr (.inl .iaload), len)) (hM : M k = .inl (t, n, .inl f)) (ht : (Nat.beq t 0 || Nat.beq t 7) = true) (hj : vp_in j n) (h : Ev d X (pc + len) l (.int (f j.toNatClampNeg) :: st) M r) : Ev d X pc l (.int j :: .ref k :: st) M r := by
  refine Ev.s ?_ h
  unfold sstep
  rw [hc]
  simp only [pstep, mstep, hM, ht, ain_of hj, Bool.and_self, cond_true]
theorem Ev.bald {k n t : Nat} {f : Nat → Int32} {j : Int32} (hc : cdx X pc = some (.inr (.inl .baload), len)) (hM : M k = .inl (t, n, .inl f)) (ht : (Nat.beq t 2 || Nat.beq t 3) = true) (hj : vp_in j n) (h : Ev d X (pc + len) l (.int (f j.toNatClampNeg) :: st) M r) : Ev d X pc l (.int j :: .ref k :: st) M r := by
  refine Ev.s ?_ h
  unfold sstep
  rw [hc]
  simp only [pstep, mstep, hM, ht, ain_of hj, Bool.and_self, cond_true]
theorem Ev.lald {k n : Nat} {f : Nat → Int64} {j : Int32} (hc : cdx X pc = some (.inr (.inl .laload), len)) (hM : M k = .inl (1, n, .inr (.inl f))) (hj : vp_in j n) (h : Ev d X (pc + len) l (.long (f j.toNatClampNeg) :: st) M r) : Ev d X pc l (.int j :: .ref k :: st) M r := by
  refine Ev.s ?_ h
  unfold sstep
  rw [hc]
  simp only [pstep, mstep, hM, ain_of hj, Nat.beq_refl, Bool.and_self, cond_true]
theorem Ev.aald {k n t : Nat} {f : Nat → Option Nat} {j : Int32} (hc : cdx X pc = some (.inr (.inl .aaload), len)) (hM : M k = .inl (t, n, .inr (.inr (.inr (.inr f))))) (ht : (Nat.ble 4 t && Nat.ble t 6) = true) (hj : vp_in j n) (h : Ev d X (pc + len) l (va_rf (f j.toNatClampNeg) :: st) M r) : Ev d X pc l (.int j :: .ref k :: st) M r := by
  refine Ev.s ?_ h
  unfold sstep
  rw [hc]
  simp only [pstep, mstep, hM, ht, ain_of hj, Bool.and_self, cond_true]
theorem Ev.iast {k n : Nat} {f : Nat → Int32} {j x : Int32} (hc : cdx X pc = some (.inr (.inl .iastore), len)) (hM : M k = .inl (0, n, .inl f)) (hj : vp_in j n) (h : Ev d X (pc + len) l st (va_up M k (.inl (0, n, .inl (upd f j.toNatClampNeg x)))) r) : Ev d X pc l (.int x :: .int j :: .ref k :: st) M r := by
  refine Ev.s ?_ h
  unfold sstep
  rw [hc]
  simp only [pstep, mstep, hM, ain_of hj, Nat.beq_refl, Bool.and_self, cond_true]
theorem Ev.bast {k n t : Nat} {f : Nat → Int32} {j x : Int32} (hc : cdx X pc = some (.inr (.inl .bastore), len)) (hM : M k = .inl (t, n, .inl f)) (ht : (Nat.beq t 2 || Nat.beq t 3) = true) (hj : vp_in j n) (h : Ev d X (pc + len) l st (va_up M k (.inl (t, n, .inl (upd f j.toNatClampNeg (anar t x))))) r) : Ev d X pc l (.int x :: .int j :: .ref k :: st) M r := by
  refine Ev.s ?_ h
  unfold sstep
  rw [hc]
  simp only [pstep, mstep, hM, ht, ain_of hj, Bool.and_self, cond_true]
theorem Ev.last {k n : Nat} {f : Nat → Int64} {j : Int32} {x : Int64} (hc : cdx X pc = some (.inr (.inl .lastore), len)) (hM : M k = .inl (1, n, .inr (.inl f))) (hj : vp_in j n) (h : Ev d X (pc + len) l st (va_up M k (.inl (1, n, .inr (.inl (vp_updL f j.toNatClampNeg x))))) r) : Ev d X pc l (.long x :: .int j :: .ref k :: st) M r := by
  refine Ev.s ?_ h
  unfold sstep
  rw [hc]
  simp only [pstep, mstep, hM, ain_of hj, Nat.beq_refl, Bool.and_self, cond_true]
theorem Ev.aast {k n t ci j' : Nat} {f : Nat → Option Nat} {j : Int32} {fs : List Value} (hc : cdx X pc = some (.inr (.inl .aastore), len)) (hM : M k = .inl (t, n, .inr (.inr (.inr (.inr f))))) (hv : M j' = .inr (ci, fs)) (ht : (Nat.ble 4 t && Nat.ble t 6 && Nat.beq ci (tag_cls t)) = true) (h32 : 32 ≤ j') (hj : vp_in j n) (h : Ev d X (pc + len) l st (va_up M k (.inl (t, n, .inr (.inr (.inr (.inr (va_up f j.toNatClampNeg (some j')))))))) r) : Ev d X pc l (.ref j' :: .int j :: .ref k :: st) M r := by
  refine Ev.s ?_ h
  unfold sstep
  rw [hc]
  simp only [pstep, mstep, hM, hv, ht, Nat.ble_eq_true_of_le h32, ain_of hj, Bool.and_self, cond_true]
-- branches
theorem Ev.br1 (c : Nat) {x : Int32} {tgt : Nat} (hc : cdx X pc = some (.inr (.inr (c + 20, tgt, b, v)), len)) (h5 : Nat.ble c 5 = true) (h : Ev d X (bif jb c x 0 then tgt else pc + len) l st M r) : Ev d X pc l (.int x :: st) M r := by
  have h6 : c ≤ 5 := Nat.le_of_ble_eq_true h5
  refine Ev.s ?_ h
  unfold sstep
  rw [hc]
  match c, h6 with
  | 0, _ => rfl | 1, _ => rfl | 2, _ => rfl | 3, _ => rfl | 4, _ => rfl | 5, _ => rfl
theorem Ev.br2 (c : Nat) {x y : Int32} {tgt : Nat} (hc : cdx X pc = some (.inr (.inr (c + 26, tgt, b, v)), len)) (h5 : Nat.ble c 5 = true) (h : Ev d X (bif jb c x y then tgt else pc + len) l st M r) : Ev d X pc l (.int y :: .int x :: st) M r := by
  have h6 : c ≤ 5 := Nat.le_of_ble_eq_true h5
  refine Ev.s ?_ h
  unfold sstep
  rw [hc]
  match c, h6 with
  | 0, _ => rfl | 1, _ => rfl | 2, _ => rfl | 3, _ => rfl | 4, _ => rfl | 5, _ => rfl
theorem Ev.cond {c : Bool} {p : Prop} {t f : Nat} (hp : c = true ↔ p) (kt : p → Ev d X t l st M r) (kf : ¬ p → Ev d X f l st M r) : Ev d X (bif c then t else f) l st M r := by
  cases hq : c with
  | true => exact kt (hp.mp hq)
  | false => exact kf (fun q => by rw [hp.mpr q] at hq; cases hq)
theorem Ev.if0 {x : Int32} {tgt : Nat} (hc : cdx X pc = some (.inr (.inr (20, tgt, b, v)), len)) (kt : x = 0 → Ev d X tgt l st M r) (kf : ¬ x = 0 → Ev d X (pc + len) l st M r) : Ev d X pc l (.int x :: st) M r := Ev.br1 0 hc rfl (Ev.cond (p := x = 0) (by simp [jb]) kt kf)
theorem Ev.if1 {x : Int32} {tgt : Nat} (hc : cdx X pc = some (.inr (.inr (21, tgt, b, v)), len)) (kt : ¬ x = 0 → Ev d X tgt l st M r) (kf : x = 0 → Ev d X (pc + len) l st M r) : Ev d X pc l (.int x :: st) M r := Ev.br1 1 hc rfl (Ev.cond (p := ¬ x = 0) (by simp [jb]) kt (fun h => kf (Decidable.not_not.mp h)))
theorem Ev.if2 {x : Int32} {tgt : Nat} (hc : cdx X pc = some (.inr (.inr (22, tgt, b, v)), len)) (kt : x < 0 → Ev d X tgt l st M r) (kf : ¬ x < 0 → Ev d X (pc + len) l st M r) : Ev d X pc l (.int x :: st) M r := Ev.br1 2 hc rfl (Ev.cond (p := x < 0) (by simp [jb]) kt kf)
theorem Ev.if3 {x : Int32} {tgt : Nat} (hc : cdx X pc = some (.inr (.inr (23, tgt, b, v)), len)) (kt : 0 ≤ x → Ev d X tgt l st M r) (kf : ¬ 0 ≤ x → Ev d X (pc + len) l st M r) : Ev d X pc l (.int x :: st) M r := Ev.br1 3 hc rfl (Ev.cond (p := 0 ≤ x) (by simp [jb]) kt kf)
theorem Ev.if4 {x : Int32} {tgt : Nat} (hc : cdx X pc = some (.inr (.inr (24, tgt, b, v)), len)) (kt : 0 < x → Ev d X tgt l st M r) (kf : ¬ 0 < x → Ev d X (pc + len) l st M r) : Ev d X pc l (.int x :: st) M r := Ev.br1 4 hc rfl (Ev.cond (p := 0 < x) (by simp [jb]) kt kf)
theorem Ev.if5 {x : Int32} {tgt : Nat} (hc : cdx X pc = some (.inr (.inr (25, tgt, b, v)), len)) (kt : x ≤ 0 → Ev d X tgt l st M r) (kf : ¬ x ≤ 0 → Ev d X (pc + len) l st M r) : Ev d X pc l (.int x :: st) M r := Ev.br1 5 hc rfl (Ev.cond (p := x ≤ 0) (by simp [jb]) kt kf)
theorem Ev.ic0 {x y : Int32} {tgt : Nat} (hc : cdx X pc = some (.inr (.inr (26, tgt, b, v)), len)) (kt : x = y → Ev d X tgt l st M r) (kf : ¬ x = y → Ev d X (pc + len) l st M r) : Ev d X pc l (.int y :: .int x :: st) M r := Ev.br2 0 hc rfl (Ev.cond (p := x = y) (by simp [jb]) kt kf)
theorem Ev.ic1 {x y : Int32} {tgt : Nat} (hc : cdx X pc = some (.inr (.inr (27, tgt, b, v)), len)) (kt : ¬ x = y → Ev d X tgt l st M r) (kf : x = y → Ev d X (pc + len) l st M r) : Ev d X pc l (.int y :: .int x :: st) M r := Ev.br2 1 hc rfl (Ev.cond (p := ¬ x = y) (by simp [jb]) kt (fun h => kf (Decidable.not_not.mp h)))
theorem Ev.ic2 {x y : Int32} {tgt : Nat} (hc : cdx X pc = some (.inr (.inr (28, tgt, b, v)), len)) (kt : x < y → Ev d X tgt l st M r) (kf : ¬ x < y → Ev d X (pc + len) l st M r) : Ev d X pc l (.int y :: .int x :: st) M r := Ev.br2 2 hc rfl (Ev.cond (p := x < y) (by simp [jb]) kt kf)
theorem Ev.ic3 {x y : Int32} {tgt : Nat} (hc : cdx X pc = some (.inr (.inr (29, tgt, b, v)), len)) (kt : y ≤ x → Ev d X tgt l st M r) (kf : ¬ y ≤ x → Ev d X (pc + len) l st M r) : Ev d X pc l (.int y :: .int x :: st) M r := Ev.br2 3 hc rfl (Ev.cond (p := y ≤ x) (by simp [jb]) kt kf)
theorem Ev.ic4 {x y : Int32} {tgt : Nat} (hc : cdx X pc = some (.inr (.inr (30, tgt, b, v)), len)) (kt : y < x → Ev d X tgt l st M r) (kf : ¬ y < x → Ev d X (pc + len) l st M r) : Ev d X pc l (.int y :: .int x :: st) M r := Ev.br2 4 hc rfl (Ev.cond (p := y < x) (by simp [jb]) kt kf)
theorem Ev.ic5 {x y : Int32} {tgt : Nat} (hc : cdx X pc = some (.inr (.inr (31, tgt, b, v)), len)) (kt : x ≤ y → Ev d X tgt l st M r) (kf : ¬ x ≤ y → Ev d X (pc + len) l st M r) : Ev d X pc l (.int y :: .int x :: st) M r := Ev.br2 5 hc rfl (Ev.cond (p := x ≤ y) (by simp [jb]) kt kf)
end EV
