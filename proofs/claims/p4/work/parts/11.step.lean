/-! ONE STEP of the abstract machine that is no call. -/
def lchk (L : Nat) (q : Nat × AI × Nat) : Bool := match q.2.1 with
  | .inr (.inr (op, a, _, _)) => (bif Nat.beq op 43 || Nat.beq op 45 || Nat.beq op 46 then Nat.blt a L else true) && (bif Nat.beq op 44 then Nat.blt (a + 1) L else true)
  | _ => true
set_option maxRecDepth 100000 in
theorem lchk_all : mtl.all (fun c => c.2.all (fun q => (md_c q.2).all (fun d => d.2.all (lchk (md_L q.2))))) = true := by decide +kernel
/-- what holds of each instruction of a method -/
theorem cdx_ok {X : MD} {m pc : Nat} {q : AI × Nat} (hm : mt m = some X) (h : cdx X pc = some q) : achk (md_o X) (md_b X) pc q = true ∧ lchk (md_L X) (pc, q) = true := by
  obtain ⟨c, h1, h2⟩ := lk2_mem h
  refine ⟨?_, ?_⟩
  · have := (mt_ok hm).1
    exact List.all_eq_true.mp (List.all_eq_true.mp this c h1) _ h2
  · obtain ⟨d, h3, h4⟩ := lk2_mem hm
    have := List.all_eq_true.mp (List.all_eq_true.mp lchk_all d h3) _ h4
    exact List.all_eq_true.mp (List.all_eq_true.mp this c h1) _ h2
def cnd_no (c : ClassFile.Cond) : Nat := match c with | .eq => 0 | .ne => 1 | .lt => 2 | .ge => 3 | .gt => 4 | .le => 5
section STEPQ
variable {p : Program} {l : Launch} {e : Env} {R : Room} {s : State} {m : MethodId} {args : Array Value} {below : List Frame} {meth : Method} {c : Code} {H : Heap} {locs : List Loc} {cells slots : Nat} {Q : State → Prop}
variable {G : SG} {sc : Nat × (Nat → Int32)} {adV : Nat → Nat} {X : MD} {pc len : Nat} {ls : Array Slot} {ll ll' : AL} {st st' : List Value} {M M' : AM}
theorem w_iinc {a : Nat} {n : Int} {x : Int32} (F : FRm G sc adV X p s m args meth c) (hL : LH G ls (md_L X) ll) (ha : a < md_L X) (hd : decode (md_b X) pc = .ok (.iinc a n, 3)) (hg : gl ll a = some (.int x))
    (k : ∀ ls', LH G ls' (md_L X) (st1 ll a (.int (x + Int32.ofInt n))) → W p l e R s m args below meth c H locs cells slots Q (F0 m (pc + 3) ls' (st.map (cv G)))) : W p l e R s m args below meth c H locs cells slots Q (F0 m pc ls (st.map (cv G))) := by
  obtain ⟨hx, hb, -⟩ := F
  obtain ⟨j, hj⟩ := List.getElem?_of_mem (prs_mem (G := G) hg)
  exact lv_iinc hx hb hd hL.has hj rfl ha rfl (fun ls' h' => k ls' (hL.st1 (v := .int (x + Int32.ofInt n)) h'))
theorem w_if1 {cnd : ClassFile.Cond} {off : Int} {tgt : Nat} {x : Int32} (F : FRm G sc adV X p s m args meth c) (hd : decode (md_b X) pc = .ok (.ifCond cnd off, 3)) (ht : (pc : Int) + off = (tgt : Int))
    (k : W p l e R s m args below meth c H locs cells slots Q (F0 m (bif jb (cnd_no cnd) x 0 then tgt else pc + 3) ls (st.map (cv G)))) : W p l e R s m args below meth c H locs cells slots Q (F0 m pc ls (.int x :: st.map (cv G))) := by
  obtain ⟨hx, hb, -⟩ := F
  cases cnd with
  | eq => exact lv_if_eq hx hb hd ht (fun h => by simpa [jb, cnd_no, h] using k) (fun h => by simpa [jb, cnd_no, h] using k)
  | ne => exact lv_if_ne hx hb hd ht (fun h => by simpa [jb, cnd_no, h] using k) (fun h => by simpa [jb, cnd_no, h] using k)
  | lt => exact lv_if_lt hx hb hd ht (fun h => by simpa [jb, cnd_no, h] using k) (fun h => by simpa [jb, cnd_no, h] using k)
  | ge => exact lv_if_ge hx hb hd ht (fun h => by simpa [jb, cnd_no, h] using k) (fun h => by simpa [jb, cnd_no, h] using k)
  | gt => exact lv_if_gt hx hb hd ht (fun h => by simpa [jb, cnd_no, h] using k) (fun h => by simpa [jb, cnd_no, h] using k)
  | le => exact lv_if_le hx hb hd ht (fun h => by simpa [jb, cnd_no, h] using k) (fun h => by simpa [jb, cnd_no, h] using k)
theorem w_if2 {cnd : ClassFile.Cond} {off : Int} {tgt : Nat} {x y : Int32} (F : FRm G sc adV X p s m args meth c) (hd : decode (md_b X) pc = .ok (.if_icmp cnd off, 3)) (ht : (pc : Int) + off = (tgt : Int))
    (k : W p l e R s m args below meth c H locs cells slots Q (F0 m (bif jb (cnd_no cnd) x y then tgt else pc + 3) ls (st.map (cv G)))) : W p l e R s m args below meth c H locs cells slots Q (F0 m pc ls (.int y :: .int x :: st.map (cv G))) := by
  obtain ⟨hx, hb, -⟩ := F
  cases cnd with
  | eq => exact lv_icmp_eq hx hb hd ht (fun h => by simpa [jb, cnd_no, h] using k) (fun h => by simpa [jb, cnd_no, h] using k)
  | ne => exact lv_icmp_ne hx hb hd ht (fun h => by simpa [jb, cnd_no, h] using k) (fun h => by simpa [jb, cnd_no, h] using k)
  | lt => exact lv_icmp_lt hx hb hd ht (fun h => by simpa [jb, cnd_no, h] using k) (fun h => by simpa [jb, cnd_no, h] using k)
  | ge => exact lv_icmp_ge hx hb hd ht (fun h => by simpa [jb, cnd_no, h] using k) (fun h => by simpa [jb, cnd_no, h] using k)
  | gt => exact lv_icmp_gt hx hb hd ht (fun h => by simpa [jb, cnd_no, h] using k) (fun h => by simpa [jb, cnd_no, h] using k)
  | le => exact lv_icmp_le hx hb hd ht (fun h => by simpa [jb, cnd_no, h] using k) (fun h => by simpa [jb, cnd_no, h] using k)
theorem w_switch {a t : Nat} {x : Int32} {dd : Except DecodeError (Instr × Nat)} (F : FRm G sc adV X p s m args meth c) (hd : decode (md_b X) pc = dd) (hs : swok dd pc a len = true) (ht : swx swl a x = some t)
    (k : W p l e R s m args below meth c H locs cells slots Q (F0 m t ls (st.map (cv G)))) : W p l e R s m args below meth c H locs cells slots Q (F0 m pc ls (.int x :: st.map (cv G))) := by
  obtain ⟨hx, hb, -⟩ := F
  unfold swok at hs
  split at hs
  · rename_i df lo hi offs ln lo' tg d hl
    simp only [Bool.and_eq_true, decide_eq_true_eq] at hs
    obtain ⟨⟨⟨⟨⟨h1, h2⟩, h3⟩, h4⟩, h5⟩, h6⟩ := hs
    have h5 := Nat.eq_of_beq_eq_true h5
    subst h2
    unfold swx at ht
    rw [hl] at ht
    have ht := Option.some.inj ht
    subst ht
    by_cases c1 : x.toInt < lo
    · rw [if_pos c1] at k
      exact lv_tableOut hx hb hd (Or.inl c1) h3 k
    · rw [if_neg c1] at k
      by_cases c2 : (x.toInt - lo).toNat < tg.length
      · have h7 := List.all_eq_true.mp h6 _ (List.mem_range.mpr c2)
        have h7 := of_decide_eq_true h7
        have e1 : offs[(x.toInt - lo).toNat]? = some (offs.getD (x.toInt - lo).toNat 0) := by
          rw [Array.getD_eq_getD_getElem?, Array.getElem?_eq_getElem (by omega)]
          rfl
        have e2 : tg.getD (x.toInt - lo).toNat d = tg.getD (x.toInt - lo).toNat 0 := by
          rw [List.getD_eq_getElem?_getD, List.getD_eq_getElem?_getD, List.getElem?_eq_getElem c2]
          rfl
        rw [e2] at k
        exact lv_tableIn hx hb hd c1 (by omega) e1 h7 k
      · have e2 : tg.getD (x.toInt - lo).toNat d = d := by
          rw [List.getD_eq_getElem?_getD, List.getElem?_eq_none (by omega)]
          rfl
        rw [e2] at k
        exact lv_tableOut hx hb hd (Or.inr (by omega)) h3 k
  · rename_i df ps ln lo' tg d hl
    simp only [Bool.and_eq_true, decide_eq_true_eq] at hs
    obtain ⟨⟨h1, h3⟩, h6⟩ := hs
    unfold swx at ht
    rw [hl] at ht
    have ht := Option.some.inj ht
    subst ht
    split at h6
    · rename_i k0 o0 k1 o1 t0 t1 hps
      simp only [Bool.and_eq_true, decide_eq_true_eq] at h6
      obtain ⟨⟨⟨a1, a2⟩, a3⟩, a4⟩ := h6
      subst a1; subst a2
      have hord : (ps.toList.zip (ps.toList.drop 1)).all (fun (a, next) => a.1 < next.1) = true := by
        rw [hps]
        simp
        omega
      by_cases c0 : x.toInt = k0
      · have eo : Op.lookupswitch.offset ps.toList df x.toInt = o0 := by rw [hps, Op.lookupswitch.offset_cons, if_pos c0.symm]
        refine lv_lookup hx hb hd hord eo a3 ?_
        rw [if_neg (by omega), c0] at k
        simpa using k
      · by_cases c1 : x.toInt = k0 + 1
        · have eo : Op.lookupswitch.offset ps.toList df x.toInt = o1 := by rw [hps, Op.lookupswitch.offset_cons, if_neg (fun q => c0 q.symm), Op.lookupswitch.offset_cons, if_pos c1.symm]
          refine lv_lookup hx hb hd hord eo a4 ?_
          rw [if_neg (by omega), c1, show k0 + 1 - k0 = 1 by omega] at k
          simpa using k
        · have eo : Op.lookupswitch.offset ps.toList df x.toInt = df := by rw [hps, Op.lookupswitch.offset_cons, if_neg (fun q => c0 q.symm), Op.lookupswitch.offset_cons, if_neg (fun q => c1 q.symm)]; rfl
          refine lv_lookup hx hb hd hord eo h3 ?_
          by_cases c2 : x.toInt < k0
          · rw [if_pos c2] at k; exact k
          · rw [if_neg c2, List.getD_eq_getElem?_getD, List.getElem?_eq_none (by simp; omega)] at k
            exact k
    · cases h6
  · cases hs
theorem w_new {a i x y z N0 S0 : Nat} (F : FRm G sc adV X p s m args meth c) (hH : HR G sc s M H locs) (hi : i < 1000) (hd : decode (md_b X) pc = .ok (.new i, 3)) (hf : lk2 clT (1000 * md_o X + i) = some (a, x, y, z)) (hsz : s.heap.size = G.1 + N0) (hN : N0 ≤ cnt M 0) (hS0 : S0 ≤ cnt M 1) (hRc : cnt M 0 - N0 + 1 ≤ R.cells) (hRs : cnt M 1 - S0 + fN a ≤ R.slots)
    (k : ∀ H', HR G sc s (mnew M (.inr (a, nfs a)) (fN a)) H' locs → W p l e R s m args below meth c H' locs (cnt M 0 - N0 + 1) (cnt M 1 - S0 + fN a) Q (F0 m (pc + 3) ls (.ref (G.1 + cnt M 0) :: st.map (cv G)))) : W p l e R s m args below meth c H locs (cnt M 0 - N0) (cnt M 1 - S0) Q (F0 m pc ls (st.map (cv G))) := by
  obtain ⟨hx, hb, hml, hown, hts, hin, hK, hO, hG⟩ := F
  have h3 := lk2_all clT_all hf
  simp only [Bool.and_eq_true, decide_eq_true_eq] at h3
  obtain ⟨⟨⟨a1, a2⟩, a3⟩, a4⟩ := h3
  rw [key1 hi, key2 hi] at a2
  have a1 : a < 11 := Nat.le_of_ble_eq_true a1
  have hfs : ∀ j, j < fN a → defaultValue (fcode a j) = vp_V ((nfs a).map (cv G)) j := by
    intro j hj
    have e1 : (nfs a)[j]? = some (dfv (fcode a j)) := by
      unfold nfs
      rw [List.getElem?_map, List.getElem?_range hj]
      rfl
    have e2 : vp_V ((nfs a).map (cv G)) j = cv G (dfv (fcode a j)) := by
      unfold vp_V
      rw [List.getD_eq_getElem?_getD, List.getElem?_map, e1]
      rfl
    rw [e2]
    have key : ∀ ty : FieldType, (ty = .int ∨ ty = .long ∨ ty = .boolean ∨ (∃ n, ty = .object n) ∨ (∃ t, ty = .array t)) → defaultValue ty = cv G (dfv ty) := by
      intro ty h
      rcases h with rfl | rfl | rfl | ⟨n, rfl⟩ | ⟨t, rfl⟩ <;> rfl
    refine key _ ?_
    have hall : ∀ a, a < 11 → ∀ j, j < fN a → (fcode a j = .int ∨ fcode a j = .long ∨ fcode a j = .boolean ∨ (∃ n, fcode a j = .object n) ∨ (∃ t, fcode a j = .array t)) := by
      have hb2 : (List.range 11).all (fun a => (List.range (fN a)).all (fun j => match fcode a j with | .int => true | .long => true | .boolean => true | .object _ => true | .array _ => true | _ => false)) = true := by decide +kernel
      intro a ha j hj
      have h5 := List.all_eq_true.mp (List.all_eq_true.mp hb2 a (List.mem_range.mpr ha)) j (List.mem_range.mpr hj)
      cases hty : fcode a j <;> rw [hty] at h5 <;> first | (cases h5; done) | exact Or.inl rfl | exact Or.inr (Or.inl rfl) | exact Or.inr (Or.inr (Or.inl rfl)) | exact Or.inr (Or.inr (Or.inr (Or.inl ⟨_, rfl⟩))) | exact Or.inr (Or.inr (Or.inr (Or.inr ⟨_, rfl⟩)))
    exact hall a a1 j hj
  refine va_new (ci := a) (fs := (nfs a).map (cv G)) (C := cnm a) (T := fTX a) (N := fN a) hx hb hts (f_ws a a1) (fcode a) (fT_ok a a1) hown (hts _ (t2_in (List.mem_of_getElem? a2) rfl)) (hts _ (t2_in (List.mem_of_getElem? a3) rfl)) (hts _ (t2_in (List.mem_of_getElem? a4) rfl)) hK hH.1 (lay_D G M) hH.2.1 (fun q hq => by show G.1 ≤ q; omega) (vw_at a a1) hfs hRc hRs hd (fun q H1 hP1 hD1 hS1 => ?_)
  intro T hT XX
  have hq : q = G.1 + cnt M 0 := new_at hsz hN hD1 (by rw [hT]; exact hP1) XX.heapSize
  have k1 := k H1 (hH.new (e := .inr (a, nfs a)) (fun t n x h => by cases h) hq hP1 hS1)
  subst hq
  exact k1 T hT XX
theorem w_anew {a i x y N0 S0 : Nat} {n : Int32} (F : FRm G sc adV X p s m args meth c) (hH : HR G sc s M H locs) (hi : i < 1000) (hd : decode (md_b X) pc = .ok (.anewarray i, 3)) (hf : lk2 alT (1000 * md_o X + i) = some (a, x, y)) (hn0 : ¬ n < 0) (hnb : n.toNatClampNeg ≤ 100000) (hsz : s.heap.size = G.1 + N0) (hN : N0 ≤ cnt M 0) (hS0 : S0 ≤ cnt M 1) (hRc : cnt M 0 - N0 + 1 ≤ R.cells) (hRs : cnt M 1 - S0 + n.toNatClampNeg ≤ R.slots)
    (k : ∀ H', HR G sc s (mnew M (.inl (a, n.toNatClampNeg, .inr (.inr (.inr (.inr (fun _ => none)))))) n.toNatClampNeg) H' locs → W p l e R s m args below meth c H' locs (cnt M 0 - N0 + 1) (cnt M 1 - S0 + n.toNatClampNeg) Q (F0 m (pc + 3) ls (.ref (G.1 + cnt M 0) :: st.map (cv G)))) : W p l e R s m args below meth c H locs (cnt M 0 - N0) (cnt M 1 - S0) Q (F0 m pc ls (.int n :: st.map (cv G))) := by
  obtain ⟨hx, hb, hml, hown, hts, hin, hK, hO, hG⟩ := F
  have h3 := lk2_all alT_all hf
  simp only [Bool.and_eq_true, decide_eq_true_eq] at h3
  obtain ⟨⟨⟨a0, a1⟩, a2⟩, a3⟩ := h3
  rw [key1 hi, key2 hi] at a2
  have a0 : 4 ≤ a := Nat.le_of_ble_eq_true a0
  have a1 : a ≤ 6 := Nat.le_of_ble_eq_true a1
  refine va_newq (C := cnm (tag_cls a)) hx hb hown (hts _ (t2_in (List.mem_of_getElem? a2) rfl)) (va_AO.of (hts _ (t2_in (List.mem_of_getElem? a3) rfl))) hK hH.1 (lay_D G M) hH.2.1 (fun q hq => by show G.1 ≤ q; omega) hn0 rfl (by omega) hRc hRs hd (fun q cA H1 hK1 hP1 hD1 hS1 => ?_)
  have hcA := newa_cls hK (tag_ty a0 a1) hK1
  subst hcA
  intro T hT XX
  have hq : q = G.1 + cnt M 0 := new_at hsz hN hD1 (by rw [hT]; exact hP1) XX.heapSize
  have k1 := k H1 (hH.new (e := .inl (a, n.toNatClampNeg, .inr (.inr (.inr (.inr (fun _ => none)))))) (fun t n x h => by cases h; omega) hq hP1 hS1)
  subst hq
  exact k1 T hT XX
end STEPQ
