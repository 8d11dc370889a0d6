/-! SOUNDNESS. -/
section SND
variable {l : Launch} {G : SG} {sc : Nat × (Nat → Int32)} {adV : Nat → Nat}
theorem rret {p : Program} {e : Env} {R : Room} {s : State} {m : MethodId} {args : Array Value} {below : List Frame} {meth : Method} {c : Code} {H : Heap} {locs : List Loc} {cells slots : Nat} {X : MD} {ls : Array Slot} {pc len mm : Nat} {i : Instr} {st : List Value} {r : AR} (F : FRm G sc adV X p s m args meth c) (hm : mt mm = some X) (hret : meth.sig.returnType = rF (md_r X)) (hlocks : meth.locks = false) (hc : cdx X pc = some (.inr (.inl i), len)) (hr : rstep (md_r X) i st r.2 = some r) (hq : ∀ t : State, t.heap = H → s.WarmedH t.vm → QA G sc adV r args s (.returned (r.1.map (cv G))) t) (hf : ∀ q ∈ locs, G.1 ≤ q.base) :
    W p l e R s m args below meth c H locs cells slots (MQ below (QA G sc adV r) args s cells slots (fun q => G.1 ≤ q)) (F0 m pc ls (st.map (cv G))) := by
  obtain ⟨hx, hb, -⟩ := F
  have h1 := (cdx_ok hm hc).1
  replace h1 : (decide (decode (md_b X) pc = .ok (i, len)) && (match (generalizing := false) i with | .newarray _ => Nat.beq len 2 | _ => Nat.beq len 1)) = true := h1
  rw [Bool.and_eq_true] at h1
  have hd := of_decide_eq_true h1.1
  have h2 := h1.2
  obtain ⟨rv, M⟩ := r
  unfold rstep at hr
  split at hr
  · rename_i v
    have hl := Nat.eq_of_beq_eq_true h2
    subst hl
    cases hb1 : (Nat.beq (md_r X) 1 || (Nat.beq (md_r X) 2 && (v == 0 || v == 1))) with
    | false => rw [hb1] at hr; cases hr
    | true =>
      rw [hb1] at hr
      cases hr
      rw [Bool.or_eq_true, Bool.and_eq_true, Bool.or_eq_true] at hb1
      rcases hb1 with h3 | ⟨h3, h4⟩
      · have h3 := Nat.eq_of_beq_eq_true h3
        rw [h3] at hret
        exact W.iret hx hb hret hq hf hd hlocks
      · have h3 := Nat.eq_of_beq_eq_true h3
        rw [h3] at hret
        have hn : narrow .boolean (.int v) = .int v := by
          rcases h4 with h4 | h4
          · have e1 : v = 0 := by simpa using h4
            subst e1; rfl
          · have e1 : v = 1 := by simpa using h4
            subst e1; rfl
        exact W.zret hx hb hret hn hq hf hd hlocks
  · have hl := Nat.eq_of_beq_eq_true h2
    subst hl
    cases hb1 : Nat.beq (md_r X) 3 with
    | false => rw [hb1] at hr; cases hr
    | true =>
      rw [hb1] at hr
      cases hr
      have h3 := Nat.eq_of_beq_eq_true hb1
      rw [h3] at hret
      exact W.lret hx hb hret hq hf hd hlocks
  · have hl := Nat.eq_of_beq_eq_true h2
    subst hl
    cases hb1 : Nat.beq (md_r X) 4 with
    | false => rw [hb1] at hr; cases hr
    | true =>
      rw [hb1] at hr
      cases hr
      have h3 := Nat.eq_of_beq_eq_true hb1
      rw [h3] at hret
      exact W.aret hx hb hret (Or.inl ⟨_, rfl⟩) (Or.inr ⟨_, rfl⟩) hq hf hd hlocks
  · have hl := Nat.eq_of_beq_eq_true h2
    subst hl
    cases hb1 : Nat.beq (md_r X) 4 with
    | false => rw [hb1] at hr; cases hr
    | true =>
      rw [hb1] at hr
      cases hr
      have h3 := Nat.eq_of_beq_eq_true hb1
      rw [h3] at hret
      exact W.aret hx hb hret (Or.inl ⟨_, rfl⟩) (Or.inl rfl) hq hf hd hlocks
  · have hl := Nat.eq_of_beq_eq_true h2
    subst hl
    cases hb1 : Nat.beq (md_r X) 0 with
    | false => rw [hb1] at hr; cases hr
    | true =>
      rw [hb1] at hr
      cases hr
      have h3 := Nat.eq_of_beq_eq_true hb1
      rw [h3] at hret
      exact W.vret hx hb hret hq hf hd hlocks
  · cases hr
def SndAt (l : Launch) (G : SG) (sc : Nat × (Nat → Int32)) (adV : Nat → Nat) (n : Nat) : Prop := ∀ (d : Nat) (X : MD) (mm pc : Nat) (ll : AL) (st : List Value) (M : AM) (r : AR), mt mm = some X → ago n d X pc ll st M = some r → ∀ (p : Program) (e : Env) (R : Room) (s : State) (m : MethodId) (args : Array Value) (below : List Frame) (meth : Method) (c : Code) (H : Heap) (locs : List Loc) (Q : State → Prop) (ls : Array Slot) (N0 S0 : Nat), FRm G sc adV X p s m args meth c → HR G sc s M H locs → LH G ls (md_L X) ll → s.heap.size = G.1 + N0 → N0 ≤ cnt M 0 → S0 ≤ cnt M 1 → cnt r.2 0 - N0 ≤ R.cells → cnt r.2 1 - S0 ≤ R.slots → d ≤ R.frames → 40 * d ≤ R.locals → (∀ (pc : Nat) (i : Instr) (len : Nat) (st : List Value) (H : Heap) (locs : List Loc) (ls : Array Slot), cdx X pc = some (.inr (.inl i), len) → rstep (md_r X) i st r.2 = some r → HR G sc s r.2 H locs → W p l e R s m args below meth c H locs (cnt r.2 0 - N0) (cnt r.2 1 - S0) Q (F0 m pc ls (st.map (cv G)))) → W p l e R s m args below meth c H locs (cnt M 0 - N0) (cnt M 1 - S0) Q (F0 m pc ls (st.map (cv G)))
/-- a method's contract out of its run -/
theorem met_of {n d : Nat} (IH : SndAt l G sc adV n) {Y : MD} {mm : Nat} {vs : List Value} {M : AM} {r : AR} (hm : mt mm = some Y) (hmw : MWok Y) (hw : wsum vs ≤ md_L Y) (hwf : Wf sc M) (h : ago n d Y 0 (ent vs (md_L Y)) [] M = some r) : MetA l G sc adV d Y vs M r := by
  have hg := ago_grows n d Y mm 0 _ [] M r hm hwf h
  refine Met.ofW (cc := md_b Y) (maxL := md_L Y) (ret := rF (md_r Y)) hmw.2.2.2.2.1 rfl ?_
  intro p e s m args below meth c s₁ B hml hv
  obtain ⟨rfl, i1, i2, i3, i4, i5⟩ := hv
  have hts0 := atoms_spec (ws := wsA Y) B.pre
  have hts : ∀ w ∈ lw_t2, w.before (vs.map (cv G)).toArray s = true := fun w hw => hts0 w (List.mem_cons_of_mem _ hw)
  have hown : s.vm.findClass (cnm (md_o Y)) = some m.cls := by
    rw [← hmw.2.2.2.1]
    exact findClass_of_methodNamed B.named
  have hname : md_i Y = true → meth.name = "<init>" := fun hi => by
    rw [(name_of_methodNamed B.named B.method).1]
    exact (hmw.2.2.2.2.2.2 hi).1
  have F : FRm G sc adV Y p s m (vs.map (cv G)).toArray meth c := ⟨B.exec, B.bytes, hml, hown, hts, hname, i3, i4, by rw [i1]; exact Nat.le_add_right _ _⟩
  have hH : HR G sc s M s.heap [] := ⟨i2, va_S.rf, i5⟩
  rw [lg_entry_eq]
  have hL := LH.entry G vs hw
  have hret := B.returns
  have hlocks := B.notSynchronized
  have key := IH d Y mm 0 (ent vs (md_L Y)) [] M r hm h p e (headSpec (wsA Y) (rmA d (cnt r.2 0 - cnt M 0) (cnt r.2 1 - cnt M 1))).room s m (vs.map (cv G)).toArray below meth c s.heap [] (MQ below (QA G sc adV r) (vs.map (cv G)).toArray s (cnt r.2 0 - cnt M 0) (cnt r.2 1 - cnt M 1) (fun q => G.1 ≤ q)) _ (cnt M 0) (cnt M 1) F hH hL i1 (Nat.le_refl _) (Nat.le_refl _) (Nat.le_refl _) (Nat.le_refl _) (Nat.le_refl _) (Nat.le_refl _) ?_
  · rw [Nat.sub_self, Nat.sub_self] at key
    exact key
  · intro pc i len st H locs ls hc hr hH'
    intro T hT XX
    have hsz : H.size = G.1 + cnt r.2 0 := by
      have h1 := XX.heapSize
      rw [hT] at h1
      have h2 : G.1 + cnt r.2 0 ≤ H.size := by
        by_cases hz : cnt r.2 0 = 0
        · have h9 : s.heap.size ≤ H.size := hH'.2.1.1
          omega
        · have h9 := (hH'.1 (cnt r.2 0 - 1) _ (lay_get (by omega))).lt
          have h9 : G.1 + (cnt r.2 0 - 1) < H.size := h9
          omega
      have h3 := hg.2.1
      omega
    refine rret F hm hret hlocks hc hr (fun t ht hW => ⟨rfl, ⟨by rw [ht]; exact hsz, by rw [ht]; exact hH'.1, va_K.moved hW.alike i3, ?_, hH'.2.2⟩, hH'.2.1.F ht⟩) hH'.2.1.2.2 T hT XX
    exact i4.go (by rw [i1]; exact Nat.le_add_right _ _) hH'.2.1 ht hW
theorem snd_all : ∀ n : Nat, SndAt l G sc adV n
  | 0 => by
    intro d X mm pc ll st M r hm h
    cases h
  | n + 1 => by
    have IH := snd_all n
    intro d X mm pc ll st M r hm h p e R s m args below meth c H locs Q ls N0 S0 F hH hL hsz hN hS0 hRc hRs hRf hRl kret
    replace h : abody (ago n) d X pc ll st M = some r := h
    rcases abody_cases h with ⟨pc', l', st', M', h1, h2⟩ | ⟨h0, i, len, h1, h2⟩ | ⟨h0, op, a, b, v, len, st', M', h1, h2, h3, h4⟩ | ⟨h0, op, a, b, v, len, Y, d', vs, rest, rv, M', h1, h2, h3, rfl, h5, hw, h6, h7⟩
    · have g := sstep_grows hm hH.2.2 h1
      have g2 := ago_grows n d X mm pc' l' st' M' r hm g.1 h2
      have a1 := g2.2.1
      have a2 := g2.2.2
      exact w_sstep F hm hH hL h1 hsz hN hS0 (by omega) (by omega) (fun H' locs' ls' hH' hL' c0 c1 => IH d X mm pc' l' st' M' r hm h2 p e R s m args below meth c H' locs' Q ls' N0 S0 F hH' hL' hsz (by omega) (by omega) hRc hRs hRf hRl kret)
    · have e1 := rstep_same h2
      subst e1
      exact kret pc i len st H locs ls h1 h2 hH
    · have g := bstep_grows hH.2.2 h2
      have g2 := ago_grows n d X mm _ ll st' M' r hm g.1 h4
      have a1 := g2.2.1
      have a2 := g2.2.2
      have a3 := g.2.1
      have a4 := g.2.2
      refine w_bstep F hH hL (cdx_ok hm h1).1 h2 (by omega) (by omega) (by omega) (by omega) (fun H' locs' hH' c0 c1 => ?_)
      have k1 := IH d X mm (pc + len) ll st' M' r hm h4 p e R s m args below meth c H' locs' Q ls N0 S0 F hH' hL hsz (by omega) (by omega) hRc hRs hRf hRl kret
      rw [c0, c1] at k1
      exact k1
    · have hmw : MWok Y := by
        have hochk := (cdx_ok hm h1).1
        replace hochk : ochk (md_o X) op a b v pc len (decode (md_b X) pc) = true := hochk
        rcases (mt_ok h3).2 with hq | hq
        · exact hq
        · exfalso
          subst hq
          have hid : a = 263 := by
            obtain ⟨cc, c1, c2⟩ := lk2_mem h3
            have hall : mtl.all (fun c => c.2.all (fun q => !(Nat.beq (md_o q.2) 11) || Nat.beq q.1 263)) = true := by decide +kernel
            have h8 := List.all_eq_true.mp (List.all_eq_true.mp hall cc c1) _ c2
            have h9 : (!(Nat.beq (md_o md_263) 11)) = false := rfl
            simp only [h9, Bool.false_or] at h8
            exact Nat.eq_of_beq_eq_true h8
          rcases csplit_op h5 with rfl | rfl | rfl
          · obtain ⟨i, ne, x, y, z, -, -, hi, hl⟩ := ochk_s hochk
            exact (mlT_ok hi hl h3).2.2.2.2.2.2 hid
          · obtain ⟨i, ne, x, y, z, -, -, hi, hl⟩ := ochk_v hochk
            exact (mlT_ok hi hl h3).2.2.2.2.2.2 hid
          · obtain ⟨i, ne, x, y, z, -, -, hi, hl⟩ := ochk_i hochk
            exact (mlT_ok hi hl h3).2.2.2.2.2.2 hid
      have hY := met_of (d := d') IH h3 hmw hw hH.2.2 h6
      have g := ago_grows n d' Y a 0 _ [] M (rv, M') h3 hH.2.2 h6
      have g2 := ago_grows n (d' + 1) X mm _ ll _ M' r hm g.1 h7
      have a1 := g2.2.1
      have a2 := g2.2.2
      have a3 := g.2.1
      have a4 := g.2.2
      dsimp only at a3 a4
      exact w_call (mm := mm) F hH hL (cdx_ok hm h1).1 h3 h5 hY hsz hN hS0 a3 a4 (by dsimp only; omega) (by dsimp only; omega) hRf hRl (fun H' locs' hH' => IH (d' + 1) X mm (pc + len) ll (rv.toList ++ rest) M' r hm h7 p e R s m args below meth c H' locs' Q ls N0 S0 F hH' hL hsz (by omega) (by omega) hRc hRs hRf hRl kret)
end SND
