/-! FROM THE ABSTRACT RUN OF THE LAW TO THE CLAIM'S WALK. -/
/-- the memory at the law's entry -/
def M0 (L : Nat) (xs : Nat → Int32) : AM := fun k => if k < 2 then .inr (0, []) else if k = 2 then .inl (7, L, .inl xs) else if k < 24 then .inl (8, slen.getD (k - 3) 0, .inl (fun j => (sbyt.getD (k - 3) []).getD j 0)) else .inr (99, [])
theorem M0_wf (L : Nat) (xs : Nat → Int32) : Wf (L, xs) (M0 L xs) := by
  refine ⟨⟨0, rfl⟩, ⟨0, rfl⟩, rfl, fun i hi => ?_, fun k h1 h2 => ?_, fun k h1 => ?_, fun k t n x h1 h2 => ?_⟩
  · unfold M0
    rw [if_neg (by omega), if_neg (by omega), if_pos (by omega), show 3 + i - 3 = i by omega]
  · unfold M0
    rw [if_neg (by omega), if_neg (by omega), if_neg (by omega)]
  · unfold M0
    rw [if_neg (by omega), if_neg (by omega), if_neg (by omega)]
  · unfold M0 at h2
    rw [if_neg (by omega), if_neg (by omega), if_neg (by omega)] at h2
    cases h2
theorem M0_cnt (L : Nat) (xs : Nat → Int32) : cnt (M0 L xs) 0 = 0 ∧ cnt (M0 L xs) 1 = 0 := ⟨rfl, rfl⟩
/-- what is owed of the abstract machine: the law's run ends with 1, within the claim's room -/
def LawRuns : Prop := ∀ (L : Nat) (xs : Nat → Int32), L ≤ 3072 → ∃ M' : AM, Ev 60 md_263 0 (ent [.ref 2] 4) [] (M0 L xs) (some (.int 1), M') ∧ cnt M' 0 ≤ 600000 ∧ cnt M' 1 ≤ 7302250
set_option maxRecDepth 100000 in
theorem inst_all : (List.range 11).all (fun a => decide (Jvm.Cond.instantiable (cnm a) (fN a) ∈ lw_tbl)) = true := by decide +kernel
set_option maxHeartbeats 4000000 in
set_option maxRecDepth 100000 in
theorem start_of_run (hrun : LawRuns) {p : Program} {e : Env} {s : State} {m : MethodId} {below : List Frame} {meth : Method} {c : Code} (l : Launch) {b L : Nat} {xs : Nat → Int32} (hL : L ≤ 3072) (C0 : lw_At p s m meth c b L xs) : W p l e room_1 s m #[Value.ref b] below meth c s.heap [] 0 0 (lw_Z below #[Value.ref b] s) (entryFrame m ([Value.ref b] : List Value).toArray 4) := by
  obtain ⟨hx, hb, hr, hml, hown, hts, hX, hbl, hlocks, hgv⟩ := id C0
  obtain ⟨M', ⟨n, hn⟩, hM0, hM1⟩ := hrun L xs hL
  have hfl := flat_of_before _ hgv
  -- the classes of objects
  have hcls : ∀ a : Nat, ∃ q : ClassId × (Nat → Nat), a < 11 → u_Kn s (cnm a) (fTX a) (fN a) q.1 q.2 := by
    intro a
    by_cases ha : a < 11
    · obtain ⟨cC, iS, hK⟩ := u_known (C := cnm a) (T := fTX a) (N := fN a) (n := fN a) (ws := lw_t2) (fun w hw => hts w (List.mem_filter.mp hw).1) (f_ws a ha) (hts _ (of_decide_eq_true (List.all_eq_true.mp inst_all a (List.mem_range.mpr ha))))
      exact ⟨(cC, iS), fun _ => hK⟩
    · exact ⟨(0, fun _ => 0), fun h => absurd h ha⟩
  obtain ⟨fC, hfC⟩ := Classical.axiomOfChoice hcls
  -- the classes of arrays
  have prim : ∀ ty : FieldType, (∀ C, ty ≠ .object C) → Jvm.Cond.arrayClass ty ∈ lw_tbl → ∃ cA : ClassId, ArrOfT s cA ty ∧ va_RA s cA ty := by
    intro ty hne hw
    obtain ⟨cA, kA, comp, h1, h2, h3⟩ := Cond.arrayClass_spec (hts _ hw)
    refine ⟨cA, fun N z => ⟨(fun k h => by cases h), kA, h2, comp, h3⟩, ?_⟩
    cases ty with
    | object C => exact absurd rfl (hne C)
    | _ => exact h1
  have refs : ∀ C : String, Jvm.Cond.arrayOver (.object C) ∈ lw_tbl → ∃ cA : ClassId, ArrOfT s cA (.object C) ∧ va_RA s cA (.object C) := by
    intro C hw
    obtain ⟨comp, cA, kA, h1, -, h3, h4, h5⟩ := Cond.arrayOver_spec (hts _ hw)
    exact ⟨cA, fun N z => ⟨(fun k h => by cases h), kA, h3, comp, h4⟩, kA, comp, h3, h4, h1, h5⟩
  obtain ⟨a0, ha0⟩ := prim .int (fun _ h => by cases h) (by decide +kernel)
  obtain ⟨a1, ha1⟩ := prim .long (fun _ h => by cases h) (by decide +kernel)
  obtain ⟨a2, ha2⟩ := prim .byte (fun _ h => by cases h) (by decide +kernel)
  obtain ⟨a3, ha3⟩ := prim .boolean (fun _ h => by cases h) (by decide +kernel)
  obtain ⟨a4, ha4⟩ := refs RX1 (by decide +kernel)
  obtain ⟨a5, ha5⟩ := refs RX7 (by decide +kernel)
  obtain ⟨a6, ha6⟩ := refs RX3 (by decide +kernel)
  -- the Strings
  obtain ⟨adK, adV, hstr, hadr⟩ := vk_Sof (args := #[Value.ref b]) (s := s) (N := 21) (tm := tmS) (len := slen) (byt := sbyt) (A := fun q => s.heap.size ≤ q) (fun i hi => (sb_ok hi).1) (fun i hi => hfl _ (strk hi _ (List.mem_append_left _ (List.mem_of_getElem? (i := 0) rfl)))) (fun i hi => hfl _ (strk hi _ (List.mem_append_left _ (List.mem_of_getElem? (i := 1) rfl)))) (fun i hi => hfl _ (strk hi _ (List.mem_append_left _ (List.mem_of_getElem? (i := 2) rfl)))) (fun i hi => hfl _ (strk hi _ (List.mem_append_left _ (List.mem_of_getElem? (i := 3) rfl)))) (fun i hi j hj => hfl _ (strk hi _ (List.mem_append_right _ (List.mem_map.mpr ⟨j, List.mem_range.mpr hj, rfl⟩)))) (fun i j hi hj hij => by
      by_cases h : i < j
      · exact Or.inl (hfl _ (strn hj _ (List.mem_map.mpr ⟨i, List.mem_range.mpr h, rfl⟩)))
      · exact Or.inr (hfl _ (strn hi _ (List.mem_map.mpr ⟨j, List.mem_range.mpr (by omega), rfl⟩)))) (fun a ha => Nat.not_le.mpr ha)
  obtain ⟨G, hG⟩ : ∃ G : SG, G = (s.heap.size, (fun k => if k = 2 then b else adK (k - 3)), (fun t => if t = 0 then a0 else if t = 1 then a1 else if t = 2 then a2 else if t = 3 then a3 else if t = 4 then a4 else if t = 5 then a5 else a6), ((fun k => (fC k).1), (fun k => (fC k).2))) := ⟨_, rfl⟩
  have hG1 : G.1 = s.heap.size := by rw [hG]
  have hK : va_K G.2.2.2 vwCl (tysA G) s := by
    rw [hG]
    refine ⟨fun k q hq => ?_, fun k q hq => ?_⟩
    · have hk : k < 11 := (List.getElem?_eq_some_iff.mp hq).1
      rw [vw_at k hk] at hq
      cases hq
      exact hfC k hk
    · match k, hq with
      | 0, hq => cases hq; exact ha0
      | 1, hq => cases hq; exact ha1
      | 2, hq => cases hq; exact ha2
      | 3, hq => cases hq; exact ha3
      | 4, hq => cases hq; exact ha4
      | 5, hq => cases hq; exact ha5
      | 6, hq => cases hq; exact ha6
      | k + 7, hq => simp [tysA] at hq
  have hsr : ∀ i, i < 21 → Jvm.Cond.stringRef RX2 (sidx.getD i 0) (stx.getD i "") ∈ lw_tbl := by
    have h1 : (List.range 21).all (fun i => decide (Jvm.Cond.stringRef RX2 (sidx.getD i 0) (stx.getD i "") ∈ lw_tbl)) = true := by decide +kernel
    exact fun i hi => of_decide_eq_true (List.all_eq_true.mp h1 i (List.mem_range.mpr hi))
  have hO : Old G (L, xs) adV s s.heap := by
    rw [hG]
    refine ⟨hX, hbl, ?_, fun i hi => ?_, ?_, ?_⟩
    · have e1 : (fun i => (fun k => if k = 2 then b else adK (k - 3)) (3 + i)) = adK := by
        funext i
        show (if 3 + i = 2 then b else adK (3 + i - 3)) = adK i
        rw [if_neg (by omega), show 3 + i - 3 = i by omega]
      show vk_S 21 slen sbyt (fun i => (fun k => if k = 2 then b else adK (k - 3)) (3 + i)) adV _ s s.heap
      rw [e1]
      exact hstr
    · have e1 : (fun k => if k = 2 then b else adK (k - 3)) (3 + i) = adK i := by
        show (if 3 + i = 2 then b else adK (3 + i - 3)) = adK i
        rw [if_neg (by omega), show 3 + i - 3 = i by omega]
      show vk_R RX2 (sidx.getD i 0) (stx.getD i "") ((fun k => if k = 2 then b else adK (k - 3)) (3 + i)) s
      rw [e1]
      refine vk_R.of (A := #[]) ?_ ?_
      · have h1 := hts _ (hsr i hi)
        simp only [Cond.before, Cond.holds, Cond.value] at h1 ⊢
        exact h1
      · have h1 := hadr i hi
        exact (Term.string_eval_of_vm (args := #[]) rfl).trans ((Term.string_eval_of_vm (args := #[Value.ref b]) rfl).symm.trans h1)
    · exact va_Zof (hts _ (by decide +kernel)) (hts _ (by decide +kernel)) (va_eqi (hfl _ (by decide +kernel))) (fun a ha => Nat.not_le.mpr ha)
    · exact va_Zqof (hts _ (by decide +kernel)) (hts _ (by decide +kernel)) (hfl _ (by decide +kernel)) (fun a ha => Nat.not_le.mpr ha)
  have hm : mt 263 = some md_263 := rfl
  have hts2 : ∀ w ∈ lw_t2, w.before #[Value.ref b] s = true := fun w hw => hts w (List.mem_filter.mp hw).1
  have F : FRm G (L, xs) adV md_263 p s m #[Value.ref b] meth c := ⟨hx, hb, hml, hown, hts2, (fun h => by cases h), hK, hO, by rw [hG1]; exact Nat.le_refl _⟩
  have hw0 := M0_wf L xs
  have hH : HR G (L, xs) s (M0 L xs) s.heap [] := ⟨fun k q hq => by simp [lay, cnt, M0] at hq, va_S.rf, hw0⟩
  have hLh := LH.entry G [.ref 2] (n := 4) (by decide)
  have hcv : cv G (.ref 2) = .ref b := by
    rw [hG]
    rfl
  have hmap : ([Value.ref 2] : List Value).map (cv G) = [Value.ref b] := by
    rw [List.map_cons, hcv]
    rfl
  rw [hmap] at hLh
  rw [lg_entry_eq]
  refine snd_all (l := l) n 60 md_263 263 0 (ent [.ref 2] 4) [] (M0 L xs) (some (.int 1), M') hm hn p e room_1 s m #[Value.ref b] below meth c s.heap [] (lw_Z below #[Value.ref b] s) _ 0 0 F hH hLh (by rw [hG1]; rfl) (Nat.zero_le _) (Nat.zero_le _) (by show cnt M' 0 - 0 ≤ 600000; omega) (by show cnt M' 1 - 0 ≤ 7302250; omega) (by decide) (by decide) ?_
  intro pc i len st H locs ls hc hrs hH'
  have h1 := (cdx_ok hm hc).1
  replace h1 : (decide (decode code pc = .ok (i, len)) && (match (generalizing := false) i with | .newarray _ => Nat.beq len 2 | _ => Nat.beq len 1)) = true := h1
  rw [Bool.and_eq_true] at h1
  have hd := of_decide_eq_true h1.1
  have h2 := h1.2
  replace hrs : rstep 2 i st M' = some (some (.int 1), M') := hrs
  have hst : i = .ireturn ∧ st = [.int 1] := by
    unfold rstep at hrs
    split at hrs
    · rename_i v
      cases hb1 : (Nat.beq 2 1 || (Nat.beq 2 2 && (v == 0 || v == 1))) with
      | false => rw [hb1] at hrs; cases hrs
      | true => rw [hb1] at hrs; cases hrs; exact ⟨rfl, rfl⟩
    · cases hrs
    · cases hrs
    · cases hrs
    · cases hrs
    · cases hrs
  obtain ⟨rfl, rfl⟩ := hst
  have hl := Nat.eq_of_beq_eq_true h2
  subst hl
  refine va_forget (fun q hq => by have := hH'.2.1.2.2 q hq; rw [← hG1]; exact this) ?_
  refine W.widen (k := 600000) (n := 7302250) (by show cnt M' 0 - 0 ≤ 600000; omega) (by show cnt M' 1 - 0 ≤ 7302250; omega) ?_
  exact lw_ret hx hb hr hlocks hd
