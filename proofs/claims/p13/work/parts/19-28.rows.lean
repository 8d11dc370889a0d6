section
/-! FROM THE ABSTRACT RUN OF THE LAW TO THE CLAIM'S WALK. -/
/-- the memory at the law's entry -/
def M0 (L : Nat) (xs : Nat → Int32) : AM := fun k => if k < 2 then .inr (0, []) else if k = 2 then .inl (7, L, .inl xs) else if k < 24 then .inl (8, slen.getD (k - 3) 0, .inl (fun j => (sbyt.getD (k - 3) []).getD j 0)) else .inr (99, [])
theorem M0_wf (L : Nat) (xs : Nat → Int32) : Wf (L, xs) (M0 L xs) := by
  refine ⟨⟨0, rfl⟩, ⟨0, rfl⟩, rfl, fun i hi => ?_, fun k h1 h2 => ?_, fun k h1 => ?_, fun k t n x h1 h2 => ?_⟩
  · unfold M0
    rw [if_neg (by omega), if_neg (by omega), if_pos (by omega), show 3 + i - 3 = i by omega]
  · unfold M0
    rw [if_neg (by omega), if_neg (by omega), if_neg (by omega)]
  · unfold M0
    rw [if_neg (by omega), if_neg (by omega), if_neg (by omega)]
  · unfold M0 at h2
    rw [if_neg (by omega), if_neg (by omega), if_neg (by omega)] at h2
    cases h2
theorem M0_cnt (L : Nat) (xs : Nat → Int32) : cnt (M0 L xs) 0 = 0 ∧ cnt (M0 L xs) 1 = 0 := ⟨rfl, rfl⟩
/-- what is owed of the abstract machine: the law's run ends with 1, within the claim's room -/
def LawRuns : Prop := ∀ (L : Nat) (xs : Nat → Int32), L ≤ 3072 → ∃ M' : AM, Ev 60 md_263 0 (ent [.ref 2] 4) [] (M0 L xs) (some (.int 1), M') ∧ cnt M' 0 ≤ 600000 ∧ cnt M' 1 ≤ 7302250
set_option maxRecDepth 100000 in
theorem inst_all : (List.range 11).all (fun a => decide (Jvm.Cond.instantiable (cnm a) (fN a) ∈ lw_tbl)) = true := by decide +kernel
set_option maxHeartbeats 4000000 in
set_option maxRecDepth 100000 in
theorem start_of_run (hrun : LawRuns) {p : Program} {e : Env} {s : State} {m : MethodId} {below : List Frame} {meth : Method} {c : Code} (l : Launch) {b L : Nat} {xs : Nat → Int32} (hL : L ≤ 3072) (C0 : lw_At p s m meth c b L xs) : W p l e room_1 s m #[Value.ref b] below meth c s.heap [] 0 0 (lw_Z below #[Value.ref b] s) (entryFrame m ([Value.ref b] : List Value).toArray 4) := by
  obtain ⟨hx, hb, hr, hml, hown, hts, hX, hbl, hlocks, hgv⟩ := id C0
  obtain ⟨M', ⟨n, hn⟩, hM0, hM1⟩ := hrun L xs hL
  have hfl := flat_of_before _ hgv
  -- the classes of objects
  have hcls : ∀ a : Nat, ∃ q : ClassId × (Nat → Nat), a < 11 → u_Kn s (cnm a) (fTX a) (fN a) q.1 q.2 := by
    intro a
    by_cases ha : a < 11
    · obtain ⟨cC, iS, hK⟩ := u_known (C := cnm a) (T := fTX a) (N := fN a) (n := fN a) (ws := lw_t2) (fun w hw => hts w (List.mem_filter.mp hw).1) (f_ws a ha) (hts _ (of_decide_eq_true (List.all_eq_true.mp inst_all a (List.mem_range.mpr ha))))
      exact ⟨(cC, iS), fun _ => hK⟩
    · exact ⟨(0, fun _ => 0), fun h => absurd h ha⟩
  obtain ⟨fC, hfC⟩ := Classical.axiomOfChoice hcls
  -- the classes of arrays
  have prim : ∀ ty : FieldType, (∀ C, ty ≠ .object C) → Jvm.Cond.arrayClass ty ∈ lw_tbl → ∃ cA : ClassId, ArrOfT s cA ty ∧ va_RA s cA ty := by
    intro ty hne hw
    obtain ⟨cA, kA, comp, h1, h2, h3⟩ := Cond.arrayClass_spec (hts _ hw)
    refine ⟨cA, fun N z => ⟨(fun k h => by cases h), kA, h2, comp, h3⟩, ?_⟩
    cases ty with
    | object C => exact absurd rfl (hne C)
    | _ => exact h1
  have refs : ∀ C : String, Jvm.Cond.arrayOver (.object C) ∈ lw_tbl → ∃ cA : ClassId, ArrOfT s cA (.object C) ∧ va_RA s cA (.object C) := by
    intro C hw
    obtain ⟨comp, cA, kA, h1, -, h3, h4, h5⟩ := Cond.arrayOver_spec (hts _ hw)
    exact ⟨cA, fun N z => ⟨(fun k h => by cases h), kA, h3, comp, h4⟩, kA, comp, h3, h4, h1, h5⟩
  obtain ⟨a0, ha0⟩ := prim .int (fun _ h => by cases h) (by decide +kernel)
  obtain ⟨a1, ha1⟩ := prim .long (fun _ h => by cases h) (by decide +kernel)
  obtain ⟨a2, ha2⟩ := prim .byte (fun _ h => by cases h) (by decide +kernel)
  obtain ⟨a3, ha3⟩ := prim .boolean (fun _ h => by cases h) (by decide +kernel)
  obtain ⟨a4, ha4⟩ := refs RX1 (by decide +kernel)
  obtain ⟨a5, ha5⟩ := refs RX7 (by decide +kernel)
  obtain ⟨a6, ha6⟩ := refs RX3 (by decide +kernel)
  -- the Strings
  obtain ⟨adK, adV, hstr, hadr⟩ := vk_Sof (args := #[Value.ref b]) (s := s) (N := 21) (tm := tmS) (len := slen) (byt := sbyt) (A := fun q => s.heap.size ≤ q) (fun i hi => (sb_ok hi).1) (fun i hi => hfl _ (strk hi _ (List.mem_append_left _ (List.mem_of_getElem? (i := 0) rfl)))) (fun i hi => hfl _ (strk hi _ (List.mem_append_left _ (List.mem_of_getElem? (i := 1) rfl)))) (fun i hi => hfl _ (strk hi _ (List.mem_append_left _ (List.mem_of_getElem? (i := 2) rfl)))) (fun i hi => hfl _ (strk hi _ (List.mem_append_left _ (List.mem_of_getElem? (i := 3) rfl)))) (fun i hi j hj => hfl _ (strk hi _ (List.mem_append_right _ (List.mem_map.mpr ⟨j, List.mem_range.mpr hj, rfl⟩)))) (fun i j hi hj hij => by
      by_cases h : i < j
      · exact Or.inl (hfl _ (strn hj _ (List.mem_map.mpr ⟨i, List.mem_range.mpr h, rfl⟩)))
      · exact Or.inr (hfl _ (strn hi _ (List.mem_map.mpr ⟨j, List.mem_range.mpr (by omega), rfl⟩)))) (fun a ha => Nat.not_le.mpr ha)
  obtain ⟨G, hG⟩ : ∃ G : SG, G = (s.heap.size, (fun k => if k = 2 then b else adK (k - 3)), (fun t => if t = 0 then a0 else if t = 1 then a1 else if t = 2 then a2 else if t = 3 then a3 else if t = 4 then a4 else if t = 5 then a5 else a6), ((fun k => (fC k).1), (fun k => (fC k).2))) := ⟨_, rfl⟩
  have hG1 : G.1 = s.heap.size := by rw [hG]
  have hK : va_K G.2.2.2 vwCl (tysA G) s := by
    rw [hG]
    refine ⟨fun k q hq => ?_, fun k q hq => ?_⟩
    · have hk : k < 11 := (List.getElem?_eq_some_iff.mp hq).1
      rw [vw_at k hk] at hq
      cases hq
      exact hfC k hk
    · match k, hq with
      | 0, hq => cases hq; exact ha0
      | 1, hq => cases hq; exact ha1
      | 2, hq => cases hq; exact ha2
      | 3, hq => cases hq; exact ha3
      | 4, hq => cases hq; exact ha4
      | 5, hq => cases hq; exact ha5
      | 6, hq => cases hq; exact ha6
      | k + 7, hq => simp [tysA] at hq
  have hsr : ∀ i, i < 21 → Jvm.Cond.stringRef RX2 (sidx.getD i 0) (stx.getD i "") ∈ lw_tbl := by
    have h1 : (List.range 21).all (fun i => decide (Jvm.Cond.stringRef RX2 (sidx.getD i 0) (stx.getD i "") ∈ lw_tbl)) = true := by decide +kernel
    exact fun i hi => of_decide_eq_true (List.all_eq_true.mp h1 i (List.mem_range.mpr hi))
  have hO : Old G (L, xs) adV s s.heap := by
    rw [hG]
    refine ⟨hX, hbl, ?_, fun i hi => ?_, ?_, ?_⟩
    · have e1 : (fun i => (fun k => if k = 2 then b else adK (k - 3)) (3 + i)) = adK := by
        funext i
        show (if 3 + i = 2 then b else adK (3 + i - 3)) = adK i
        rw [if_neg (by omega), show 3 + i - 3 = i by omega]
      show vk_S 21 slen sbyt (fun i => (fun k => if k = 2 then b else adK (k - 3)) (3 + i)) adV _ s s.heap
      rw [e1]
      exact hstr
    · have e1 : (fun k => if k = 2 then b else adK (k - 3)) (3 + i) = adK i := by
        show (if 3 + i = 2 then b else adK (3 + i - 3)) = adK i
        rw [if_neg (by omega), show 3 + i - 3 = i by omega]
      show vk_R RX2 (sidx.getD i 0) (stx.getD i "") ((fun k => if k = 2 then b else adK (k - 3)) (3 + i)) s
      rw [e1]
      refine vk_R.of (A := #[]) ?_ ?_
      · have h1 := hts _ (hsr i hi)
        simp only [Cond.before, Cond.holds, Cond.value] at h1 ⊢
        exact h1
      · have h1 := hadr i hi
        exact (Term.string_eval_of_vm (args := #[]) rfl).trans ((Term.string_eval_of_vm (args := #[Value.ref b]) rfl).symm.trans h1)
    · exact va_Zof (hts _ (by decide +kernel)) (hts _ (by decide +kernel)) (va_eqi (hfl _ (by decide +kernel))) (fun a ha => Nat.not_le.mpr ha)
    · exact va_Zqof (hts _ (by decide +kernel)) (hts _ (by decide +kernel)) (hfl _ (by decide +kernel)) (fun a ha => Nat.not_le.mpr ha)
  have hm : mt 263 = some md_263 := rfl
  have hts2 : ∀ w ∈ lw_t2, w.before #[Value.ref b] s = true := fun w hw => hts w (List.mem_filter.mp hw).1
  have F : FRm G (L, xs) adV md_263 p s m #[Value.ref b] meth c := ⟨hx, hb, hml, hown, hts2, (fun h => by cases h), hK, hO, by rw [hG1]; exact Nat.le_refl _⟩
  have hw0 := M0_wf L xs
  have hH : HR G (L, xs) s (M0 L xs) s.heap [] := ⟨fun k q hq => by simp [lay, cnt, M0] at hq, va_S.rf, hw0⟩
  have hLh := LH.entry G [.ref 2] (n := 4) (by decide)
  have hcv : cv G (.ref 2) = .ref b := by
    rw [hG]
    rfl
  have hmap : ([Value.ref 2] : List Value).map (cv G) = [Value.ref b] := by
    rw [List.map_cons, hcv]
    rfl
  rw [hmap] at hLh
  rw [lg_entry_eq]
  refine snd_all (l := l) n 60 md_263 263 0 (ent [.ref 2] 4) [] (M0 L xs) (some (.int 1), M') hm hn p e room_1 s m #[Value.ref b] below meth c s.heap [] (lw_Z below #[Value.ref b] s) _ 0 0 F hH hLh (by rw [hG1]; rfl) (Nat.zero_le _) (Nat.zero_le _) (by show cnt M' 0 - 0 ≤ 600000; omega) (by show cnt M' 1 - 0 ≤ 7302250; omega) (by decide) (by decide) ?_
  intro pc i len st H locs ls hc hrs hH'
  have h1 := (cdx_ok hm hc).1
  replace h1 : (decide (decode code pc = .ok (i, len)) && (match (generalizing := false) i with | .newarray _ => Nat.beq len 2 | _ => Nat.beq len 1)) = true := h1
  rw [Bool.and_eq_true] at h1
  have hd := of_decide_eq_true h1.1
  have h2 := h1.2
  replace hrs : rstep 2 i st M' = some (some (.int 1), M') := hrs
  have hst : i = .ireturn ∧ st = [.int 1] := by
    unfold rstep at hrs
    split at hrs
    · rename_i v
      cases hb1 : (Nat.beq 2 1 || (Nat.beq 2 2 && (v == 0 || v == 1))) with
      | false => rw [hb1] at hrs; cases hrs
      | true => rw [hb1] at hrs; cases hrs; exact ⟨rfl, rfl⟩
    · cases hrs
    · cases hrs
    · cases hrs
    · cases hrs
    · cases hrs
  obtain ⟨rfl, rfl⟩ := hst
  have hl := Nat.eq_of_beq_eq_true h2
  subst hl
  refine va_forget (fun q hq => by have := hH'.2.1.2.2 q hq; rw [← hG1]; exact this) ?_
  refine W.widen (k := 600000) (n := 7302250) (by show cnt M' 0 - 0 ≤ 600000; omega) (by show cnt M' 1 - 0 ≤ 7302250; omega) ?_
  exact lw_ret hx hb hr hlocks hd
end
section
/-! THE REFERENCE as a state: its fields (ints by their slots, one long), its rows of ints and of longs. It lies at 287 .. 305. -/
abbrev MS : Type := (Nat → Int32) × Int64 × (Nat → Nat → Int32) × (Nat → Nat → Int64)
def mfs (σ : MS) : List Value := [.int (σ.1 0), .ref 288, .ref 289, .ref 290, .ref 291, .ref 292, .int (σ.1 6), .int (σ.1 7), .int (σ.1 8), .int (σ.1 9), .int (σ.1 10), .long σ.2.1, .int (σ.1 12), .int (σ.1 13), .int (σ.1 14), .int (σ.1 15), .ref 293, .ref 294, .ref 295, .ref 296, .ref 297, .ref 298, .ref 299, .ref 300, .ref 301, .int (σ.1 25), .ref 302, .int (σ.1 27), .int (σ.1 28), .int (σ.1 29), .int (σ.1 30), .ref 303, .int (σ.1 32), .int (σ.1 33), .int (σ.1 34), .int (σ.1 35), .int (σ.1 36), .int (σ.1 37), .int (σ.1 38), .int (σ.1 39), .int (σ.1 40), .int (σ.1 41), .int (σ.1 42), .ref 304, .ref 305]
def mtl_ (k : Nat) : Nat × Nat := match k with
  | 0 => (0, 4)
  | 1 => (0, 4)
  | 2 => (1, 240)
  | 3 => (1, 60)
  | 4 => (2, 2000)
  | 5 => (0, 5)
  | 6 => (0, 25)
  | 7 => (0, 25)
  | 8 => (1, 5)
  | 9 => (0, 180)
  | 10 => (0, 315)
  | 11 => (0, 550)
  | 12 => (3, 3)
  | 13 => (0, 7)
  | 14 => (0, 7)
  | 15 => (0, 6)
  | 16 => (0, 7)
  | 17 => (0, 10)
  | _ => (0, 0)
def marr (σ : MS) (k : Nat) : AE := match k with
  | 0 => .inl (0, 4, .inl (σ.2.2.1 0))
  | 1 => .inl (0, 4, .inl (σ.2.2.1 1))
  | 2 => .inl (1, 240, .inr (.inl (σ.2.2.2 2)))
  | 3 => .inl (1, 60, .inr (.inl (σ.2.2.2 3)))
  | 4 => .inl (2, 2000, .inl (σ.2.2.1 4))
  | 5 => .inl (0, 5, .inl (σ.2.2.1 5))
  | 6 => .inl (0, 25, .inl (σ.2.2.1 6))
  | 7 => .inl (0, 25, .inl (σ.2.2.1 7))
  | 8 => .inl (1, 5, .inr (.inl (σ.2.2.2 8)))
  | 9 => .inl (0, 180, .inl (σ.2.2.1 9))
  | 10 => .inl (0, 315, .inl (σ.2.2.1 10))
  | 11 => .inl (0, 550, .inl (σ.2.2.1 11))
  | 12 => .inl (3, 3, .inl (σ.2.2.1 12))
  | 13 => .inl (0, 7, .inl (σ.2.2.1 13))
  | 14 => .inl (0, 7, .inl (σ.2.2.1 14))
  | 15 => .inl (0, 6, .inl (σ.2.2.1 15))
  | 16 => .inl (0, 7, .inl (σ.2.2.1 16))
  | 17 => .inl (0, 10, .inl (σ.2.2.1 17))
  | _ => .inr (99, [])
def mset (M : AM) (σ : MS) : AM := fun k => if k < 287 then M k else if k = 287 then .inr (10, mfs σ) else if k < 306 then marr σ (k - 288) else M k
def fset (σ : MS) (j : Nat) (x : Int32) : MS := (upd σ.1 j x, σ.2)
def jset (σ : MS) (x : Int64) : MS := (σ.1, x, σ.2.2)
def aset (σ : MS) (k : Nat) (f : Nat → Int32) : MS := (σ.1, σ.2.1, va_up σ.2.2.1 k f, σ.2.2.2)
def lset (σ : MS) (k : Nat) (f : Nat → Int64) : MS := (σ.1, σ.2.1, σ.2.2.1, va_up σ.2.2.2 k f)
def mint (j : Nat) : Bool := List.elem j [0, 6, 7, 8, 9, 10, 12, 13, 14, 15, 27, 28, 29, 32, 33, 34, 35, 36, 37, 38, 39, 40, 41, 42]
def mboo (j : Nat) : Bool := List.elem j [25, 30]
theorem mset_up {M : AM} {σ σ' : MS} (ha : σ'.2.2 = σ.2.2) : va_up (mset M σ) 287 (.inr (10, mfs σ')) = mset M σ' := by
  funext k
  by_cases hk : k = 287
  · subst hk
    rw [va_up_self]
    rfl
  · rw [va_up_ne _ _ hk]
    unfold mset
    rw [if_neg hk, if_neg hk]
    have : ∀ j, marr σ j = marr σ' j := fun j => by unfold marr; rw [ha]
    rw [this]
theorem mset_arr {M : AM} {σ σ' : MS} {k : Nat} {e : AE} (hk : k < 18) (hf : mfs σ' = mfs σ) (he : marr σ' k = e) (ho : ∀ j, j ≠ k → marr σ' j = marr σ j) : va_up (mset M σ) (k + 288) e = mset M σ' := by
  funext q
  by_cases hq : q = k + 288
  · subst hq
    rw [va_up_self]
    unfold mset
    rw [if_neg (by omega), if_neg (by omega), if_pos (by omega), show k + 288 - 288 = k by omega, he]
  · rw [va_up_ne _ _ hq]
    unfold mset
    by_cases h1 : q < 287
    · rw [if_pos h1, if_pos h1]
    · rw [if_neg h1, if_neg h1]
      by_cases h2 : q = 287
      · rw [if_pos h2, if_pos h2, hf]
      · rw [if_neg h2, if_neg h2]
        by_cases h3 : q < 306
        · rw [if_pos h3, if_pos h3, ho (q - 288) (by omega)]
        · rw [if_neg h3, if_neg h3]
theorem marr_ne {σ : MS} {k j : Nat} {f : Nat → Int32} (h : j ≠ k) : marr (aset σ k f) j = marr σ j := by
  have e : ∀ i, i ≠ k → va_up σ.2.2.1 k f i = σ.2.2.1 i := fun i hi => va_up_ne _ _ hi
  unfold marr aset
  dsimp only
  split <;> first | rfl | (rw [e _ (by omega)])
theorem marr_neL {σ : MS} {k j : Nat} {f : Nat → Int64} (h : j ≠ k) : marr (lset σ k f) j = marr σ j := by
  have e : ∀ i, i ≠ k → va_up σ.2.2.2 k f i = σ.2.2.2 i := fun i hi => va_up_ne _ _ hi
  unfold marr lset
  dsimp only
  split <;> first | rfl | (rw [e _ (by omega)])
section MRULE
variable {d : Nat} {X : MD} {pc len : Nat} {l : AL} {st : List Value} {M : AM} {σ : MS} {r : AR} {j : Nat} {v : Value}
theorem mint_set {σ : MS} {x : Int32} (h : mint j = true) : (mfs σ).set j (.int x) = mfs (fset σ j x) := by
  have h1 := List.elem_iff.mp h
  simp only [List.mem_cons, List.not_mem_nil, or_false] at h1
  rcases h1 with rfl | rfl | rfl | rfl | rfl | rfl | rfl | rfl | rfl | rfl | rfl | rfl | rfl | rfl | rfl | rfl | rfl | rfl | rfl | rfl | rfl | rfl | rfl | rfl <;> rfl
theorem mboo_set {σ : MS} {x : Int32} (h : mboo j = true) : (mfs σ).set j (.int x) = mfs (fset σ j x) := by
  have h1 := List.elem_iff.mp h
  simp only [List.mem_cons, List.not_mem_nil, or_false] at h1
  rcases h1 with rfl | rfl <;> rfl
theorem Ev.mput {x : Int32} (hc : cdx X pc = some (.inr (.inr (1, 10, j, v)), len)) (hj : mint j = true) (h : Ev d X (pc + len) l st (mset M (fset σ j x)) r) : Ev d X pc l (.int x :: .ref 287 :: st) (mset M σ) r := by
  refine Ev.put (fs := mfs σ) hc rfl ?_ ?_
  · have h1 := List.elem_iff.mp hj
    simp only [List.mem_cons, List.not_mem_nil, or_false] at h1
    rcases h1 with rfl | rfl | rfl | rfl | rfl | rfl | rfl | rfl | rfl | rfl | rfl | rfl | rfl | rfl | rfl | rfl | rfl | rfl | rfl | rfl | rfl | rfl | rfl | rfl <;> rfl
  · rw [mint_set hj, mset_up (σ := σ) (σ' := fset σ j x) rfl]
    exact h
theorem Ev.mputZ {x : Int32} (hc : cdx X pc = some (.inr (.inr (1, 10, j, v)), len)) (hj : mboo j = true) (hx : (x == 0 || x == 1) = true) (h : Ev d X (pc + len) l st (mset M (fset σ j x)) r) : Ev d X pc l (.int x :: .ref 287 :: st) (mset M σ) r := by
  refine Ev.put (fs := mfs σ) hc rfl ?_ ?_
  · have h1 := List.elem_iff.mp hj
    simp only [List.mem_cons, List.not_mem_nil, or_false] at h1
    rcases h1 with rfl | rfl
    · show (true && (x == 0 || x == 1) && true) = true
      rw [hx]; rfl
    · show (true && (x == 0 || x == 1) && true) = true
      rw [hx]; rfl
  · rw [mboo_set hj, mset_up (σ := σ) (σ' := fset σ j x) rfl]
    exact h
theorem Ev.mputJ {x : Int64} (hc : cdx X pc = some (.inr (.inr (1, 10, 11, v)), len)) (h : Ev d X (pc + len) l st (mset M (jset σ x)) r) : Ev d X pc l (.long x :: .ref 287 :: st) (mset M σ) r := by
  refine Ev.put (fs := mfs σ) hc rfl rfl ?_
  rw [show (mfs σ).set 11 (.long x) = mfs (jset σ x) from rfl, mset_up (σ := σ) (σ' := jset σ x) rfl]
  exact h
theorem marr_i {k n : Nat} (h : mtl_ k = (0, n)) (hn : n ≠ 0) : k < 18 ∧ ∀ σ : MS, marr σ k = .inl (0, n, .inl (σ.2.2.1 k)) := by
  unfold mtl_ at h
  split at h <;> first | (cases h; done) | (cases h; exact ⟨by decide, fun _ => rfl⟩) | (cases h; exact absurd rfl hn)
theorem mset_at {k : Nat} (h : k < 18) : mset M σ (k + 288) = marr σ k := by
  unfold mset
  rw [if_neg (by omega), if_neg (by omega), if_pos (by omega), show k + 288 - 288 = k by omega]
theorem Ev.miald {k n : Nat} {i : Int32} (hc : cdx X pc = some (.inr (.inl .iaload), len)) (hk : mtl_ k = (0, n)) (hn : n ≠ 0) (hi : vp_in i n) (h : Ev d X (pc + len) l (.int (σ.2.2.1 k i.toNatClampNeg) :: st) (mset M σ) r) : Ev d X pc l (.int i :: .ref (k + 288) :: st) (mset M σ) r :=
  Ev.iald hc ((mset_at (marr_i hk hn).1).trans ((marr_i hk hn).2 σ)) rfl hi h
theorem Ev.miast {k n : Nat} {i x : Int32} (hc : cdx X pc = some (.inr (.inl .iastore), len)) (hk : mtl_ k = (0, n)) (hn : n ≠ 0) (hi : vp_in i n) (h : Ev d X (pc + len) l st (mset M (aset σ k (upd (σ.2.2.1 k) i.toNatClampNeg x))) r) : Ev d X pc l (.int x :: .int i :: .ref (k + 288) :: st) (mset M σ) r := by
  obtain ⟨h1, h2⟩ := marr_i hk hn
  refine Ev.iast hc ((mset_at h1).trans (h2 σ)) hi ?_
  rw [mset_arr (σ := σ) (σ' := aset σ k (upd (σ.2.2.1 k) i.toNatClampNeg x)) h1 rfl ?_ (fun j hj => marr_ne hj)]
  · exact h
  · rw [h2]
    show _ = _
    rw [show (aset σ k (upd (σ.2.2.1 k) i.toNatClampNeg x)).2.2.1 k = upd (σ.2.2.1 k) i.toNatClampNeg x from va_up_self _ _ _]
theorem marr_l {k n : Nat} (h : mtl_ k = (1, n)) : k < 18 ∧ ∀ σ : MS, marr σ k = .inl (1, n, .inr (.inl (σ.2.2.2 k))) := by
  unfold mtl_ at h
  split at h <;> first | (cases h; done) | (cases h; exact ⟨by decide, fun _ => rfl⟩)
theorem Ev.mlald {k n : Nat} {i : Int32} (hc : cdx X pc = some (.inr (.inl .laload), len)) (hk : mtl_ k = (1, n)) (hi : vp_in i n) (h : Ev d X (pc + len) l (.long (σ.2.2.2 k i.toNatClampNeg) :: st) (mset M σ) r) : Ev d X pc l (.int i :: .ref (k + 288) :: st) (mset M σ) r :=
  Ev.lald hc ((mset_at (marr_l hk).1).trans ((marr_l hk).2 σ)) hi h
theorem Ev.mlast {k n : Nat} {i : Int32} {x : Int64} (hc : cdx X pc = some (.inr (.inl .lastore), len)) (hk : mtl_ k = (1, n)) (hi : vp_in i n) (h : Ev d X (pc + len) l st (mset M (lset σ k (vp_updL (σ.2.2.2 k) i.toNatClampNeg x))) r) : Ev d X pc l (.long x :: .int i :: .ref (k + 288) :: st) (mset M σ) r := by
  obtain ⟨h1, h2⟩ := marr_l hk
  refine Ev.last hc ((mset_at h1).trans (h2 σ)) hi ?_
  rw [mset_arr (σ := σ) (σ' := lset σ k (vp_updL (σ.2.2.2 k) i.toNatClampNeg x)) h1 rfl ?_ (fun j hj => marr_neL hj)]
  · exact h
  · rw [h2]
    rw [show (lset σ k (vp_updL (σ.2.2.2 k) i.toNatClampNeg x)).2.2.2 k = vp_updL (σ.2.2.2 k) i.toNatClampNeg x from va_up_self _ _ _]
theorem Ev.eq {r' : AR} (h : r' = r) (k : Ev d X pc l st M r') : Ev d X pc l st M r := h ▸ k
end MRULE
/-- a boolean as an int -/
def bI (b : Bool) : Int32 := cond b 1 0
theorem bI_01 (b : Bool) : (bI b == 0 || bI b == 1) = true := by cases b <;> rfl
end
section
/-! Numbers as integers, and small rules. -/
theorem i_le (x y : Int32) : x ≤ y ↔ x.toInt ≤ y.toInt := Int32.le_iff_toInt_le
theorem i_lt (x y : Int32) : x < y ↔ x.toInt < y.toInt := Int32.lt_iff_toInt_lt
theorem i_eq (x y : Int32) : x = y ↔ x.toInt = y.toInt := Int32.toInt_inj.symm
theorem l_le (x y : Int64) : x ≤ y ↔ x.toInt ≤ y.toInt := Int64.le_iff_toInt_le
theorem l_lt (x y : Int64) : x < y ↔ x.toInt < y.toInt := Int64.lt_iff_toInt_lt
theorem l_eq (x y : Int64) : x = y ↔ x.toInt = y.toInt := Int64.toInt_inj.symm
theorem il_toInt (x : Int32) : x.toInt64.toInt = x.toInt := by simp
theorem cmp_lt (x y : Int64) : lg_cmp x y < 0 ↔ x.toInt < y.toInt := by
  rw [← l_lt]
  unfold lg_cmp
  by_cases h1 : x > y
  · rw [if_pos h1]
    have h2 : y.toInt < x.toInt := (l_lt _ _).mp h1
    rw [l_lt]
    exact ⟨fun h => absurd h (by decide), fun h => by omega⟩
  · rw [if_neg h1]
    have h2 : ¬ y.toInt < x.toInt := fun h => h1 ((l_lt _ _).mpr h)
    by_cases h3 : x = y
    · rw [if_pos h3, l_lt]
      rw [l_eq] at h3
      exact ⟨fun h => absurd h (by decide), fun h => by omega⟩
    · rw [if_neg h3, l_lt]
      rw [l_eq] at h3
      exact ⟨fun _ => by omega, fun _ => by decide⟩
theorem cmp_gt (x y : Int64) : 0 < lg_cmp x y ↔ y.toInt < x.toInt := by
  rw [← l_lt]
  unfold lg_cmp
  by_cases h1 : x > y
  · rw [if_pos h1]
    exact ⟨fun _ => h1, fun _ => by decide⟩
  · rw [if_neg h1]
    by_cases h3 : x = y
    · rw [if_pos h3]
      exact ⟨fun h => absurd h (by decide), fun h => absurd h h1⟩
    · rw [if_neg h3]
      exact ⟨fun h => absurd h (by decide), fun h => absurd h h1⟩
theorem cmp_eq (x y : Int64) : lg_cmp x y = 0 ↔ x = y := by
  unfold lg_cmp
  by_cases h1 : x > y
  · rw [if_pos h1]
    exact ⟨fun h => absurd h (by decide), fun h => by subst h; exact absurd ((l_lt _ _).mp h1) (by omega)⟩
  · rw [if_neg h1]
    by_cases h3 : x = y
    · rw [if_pos h3]; exact ⟨fun _ => h3, fun _ => rfl⟩
    · rw [if_neg h3]
      exact ⟨fun h => absurd h (by decide), fun h => absurd h h3⟩
theorem bI_t {p : Prop} [Decidable p] (h : p) : bI (decide p) = 1 := by rw [decide_eq_true h]; rfl
theorem bI_f {p : Prop} [Decidable p] (h : ¬ p) : bI (decide p) = 0 := by rw [decide_eq_false h]; rfl
theorem vin {x : Int32} {n : Nat} (h0 : 0 ≤ x.toInt) (h1 : x.toInt < n) : vp_in x n := vp_in_iff.mpr ⟨h0, h1⟩
theorem clamp_toInt {x : Int32} (h0 : 0 ≤ x.toInt) : (x.toNatClampNeg : Int) = x.toInt := by
  show ((x.toInt.toNat : Nat) : Int) = x.toInt
  omega
section RULES
variable {d : Nat} {X : MD} {pc len : Nat} {l : AL} {st : List Value} {M : AM} {r : AR} {b : Nat} {v : Value}
/-- ifeq, ifne of a boolean -/
theorem Ev.ifb0 {c : Bool} {tgt : Nat} (hc : cdx X pc = some (.inr (.inr (20, tgt, b, v)), len)) (kt : c = false → Ev d X tgt l st M r) (kf : c = true → Ev d X (pc + len) l st M r) : Ev d X pc l (.int (bI c) :: st) M r := by
  refine Ev.if0 hc (fun h => kt ?_) (fun h => kf ?_)
  · cases c with
    | false => rfl
    | true => exact absurd h (by decide)
  · cases c with
    | true => rfl
    | false => exact absurd rfl h
theorem Ev.ifb1 {c : Bool} {tgt : Nat} (hc : cdx X pc = some (.inr (.inr (21, tgt, b, v)), len)) (kt : c = true → Ev d X tgt l st M r) (kf : c = false → Ev d X (pc + len) l st M r) : Ev d X pc l (.int (bI c) :: st) M r := by
  refine Ev.if1 hc (fun h => kt ?_) (fun h => kf ?_)
  · cases c with
    | true => rfl
    | false => exact absurd rfl h
  · cases c with
    | false => rfl
    | true => exact absurd h (by decide)
/-- a return of an int, a boolean, nothing; the answer is proved to be the one that is asked -/
theorem Ev.retI {x y : Int32} (hc : cdx X pc = some (.inr (.inl .ireturn), len)) (ht : md_r X = 1) (h : y = x) : Ev d X pc l [.int x] M (some (.int y), M) := by
  subst h
  refine Ev.ret hc ?_
  rw [ht]
  rfl
theorem Ev.retZ {x : Int32} {c : Bool} (hc : cdx X pc = some (.inr (.inl .ireturn), len)) (ht : md_r X = 2) (h : bI c = x) : Ev d X pc l [.int x] M (some (.int (bI c)), M) := by
  subst h
  refine Ev.ret hc ?_
  rw [ht]
  cases c <;> rfl
theorem Ev.retL {x y : Int64} (hc : cdx X pc = some (.inr (.inl .lreturn), len)) (ht : md_r X = 3) (h : y = x) : Ev d X pc l [.long x] M (some (.long y), M) := by
  subst h
  refine Ev.ret hc ?_
  rw [ht]
  rfl
theorem Ev.retV {M' : AM} (hc : cdx X pc = some (.inr (.inl .return_), len)) (ht : md_r X = 0) (h : M' = M) : Ev d X pc l [] M (none, M') := by
  subst h
  refine Ev.ret hc ?_
  rw [ht]
  rfl
theorem Ev.retR {x y : Nat} (hc : cdx X pc = some (.inr (.inl .areturn), len)) (ht : md_r X = 4) (h : y = x) : Ev d X pc l [.ref x] M (some (.ref y), M) := by
  subst h
  refine Ev.ret hc ?_
  rw [ht]
  rfl
theorem Ev.retN (hc : cdx X pc = some (.inr (.inl .areturn), len)) (ht : md_r X = 4) : Ev d X pc l [.null] M (some .null, M) := by
  refine Ev.ret hc ?_
  rw [ht]
  rfl
/-- 'thrown' is 0 and stays it -/
theorem Ev.mput0 {σ : MS} (hc : cdx X pc = some (.inr (.inr (1, 10, 0, v)), len)) (h0 : σ.1 0 = 0) (h : Ev d X (pc + len) l st (mset M σ) r) : Ev d X pc l (.int 0 :: .ref 287 :: st) (mset M σ) r := by
  refine Ev.mput (j := 0) hc rfl ?_
  have e : fset σ 0 0 = σ := by
    unfold fset
    have : upd σ.1 0 0 = σ.1 := by
      funext k
      unfold upd
      by_cases hk : k = 0
      · subst hk; simp [h0]
      · simp [hk]
    rw [this]
  rw [e]
  exact h
end RULES
/-- in(v, low, high) -/
theorem m_in {d : Nat} {M : AM} (a b c : Int64) : Ev d md_152 0 [some (.long a), none, some (.long b), none, some (.long c), none] [] M (some (.int (bI (decide (b.toInt ≤ a.toInt ∧ a.toInt ≤ c.toInt)))), M) := by
  refine Ev.n (pc' := 3) 3 rfl ?_
  refine Ev.if2 (tgt := 17) (len := 3) rfl (fun h3 => ?_) (fun h3 => ?_)
  · rw [cmp_lt] at h3
    refine Ev.n (pc' := 18) 1 rfl ?_
    exact Ev.retZ (len := 1) rfl rfl (bI_f (by omega))
  · rw [cmp_lt] at h3
    refine Ev.n (pc' := 10) 3 rfl ?_
    refine Ev.if4 (tgt := 17) (len := 3) rfl (fun h10 => ?_) (fun h10 => ?_)
    · rw [cmp_gt] at h10
      refine Ev.n (pc' := 18) 1 rfl ?_
      exact Ev.retZ (len := 1) rfl rfl (bI_f (by omega))
    · rw [cmp_gt] at h10
      refine Ev.n (pc' := 18) 2 rfl ?_
      exact Ev.retZ (len := 1) rfl rfl (bI_t (by omega))
theorem m_isSlot {d : Nat} {M : AM} (x : Int32) : Ev (d + 1) md_151 0 [some (.int x)] [] M (some (.int (bI (decide (0 ≤ x.toInt ∧ x.toInt ≤ 3)))), M) := by
  refine Ev.n (pc' := 6) 4 rfl ?_
  refine Ev.callS (len := 3) rfl rfl rfl rfl (m_in _ _ _) ?_
  refine Ev.retZ (len := 1) rfl rfl ?_
  rw [il_toInt]
  rfl
end
section
/-! Small methods of the reference. -/
theorem m_cut {d : Nat} {M : AM} (x : Int64) (w : Int32) : Ev (d) md_154 0 [some (.long x), none, some (.int w)] [] (M) (some (.long (if w = 0 then x.toInt32.toInt8.toInt32.toInt64 else if w = 1 then x.toInt32.toInt16.toInt32.toInt64 else if w = 2 then x.toInt32.toInt64 else x)), M) := by
  refine Ev.n (pc' := 1) 1 rfl ?_
  refine Ev.if1 (tgt := 11) (len := 3) rfl (fun h1 => ?_) (fun h1 => ?_)
  · skip
    refine Ev.n (pc' := 13) 2 rfl ?_
    refine Ev.ic1 (tgt := 23) (len := 3) rfl (fun h13 => ?_) (fun h13 => ?_)
    · skip
      refine Ev.n (pc' := 25) 2 rfl ?_
      refine Ev.ic1 (tgt := 34) (len := 3) rfl (fun h25 => ?_) (fun h25 => ?_)
      · skip
        refine Ev.n (pc' := 35) 1 rfl ?_
        refine Ev.retL (len := 1) rfl rfl ?_
        simp_all
      · skip
        refine Ev.n (pc' := 35) 4 rfl ?_
        refine Ev.retL (len := 1) rfl rfl ?_
        simp_all
    · skip
      refine Ev.n (pc' := 35) 5 rfl ?_
      refine Ev.retL (len := 1) rfl rfl ?_
      simp_all
  · skip
    refine Ev.n (pc' := 35) 5 rfl ?_
    refine Ev.retL (len := 1) rfl rfl ?_
    simp_all

theorem m_isLoad {d : Nat} {M : AM} (x : Int32) : Ev (d + 1) md_232 0 [some (.int x)] [] (M) (some (.int (bI (decide (1 ≤ x.toInt ∧ x.toInt ≤ 9)))), M) := by
  refine Ev.n (pc' := 6) 4 rfl ?_
  refine Ev.callS (len := 3) rfl rfl rfl rfl (m_in _ _ _) ?_
  refine Ev.retZ (len := 1) rfl rfl ?_
  rw [il_toInt]
  rfl

theorem m_isMore {d : Nat} {M : AM} (x : Int32) : Ev (d + 1) md_238 0 [some (.int x)] [] (M) (some (.int (bI (decide (1 ≤ x.toInt ∧ x.toInt ≤ 99)))), M) := by
  refine Ev.n (pc' := 6) 4 rfl ?_
  refine Ev.callS (len := 3) rfl rfl rfl rfl (m_in _ _ _) ?_
  refine Ev.retZ (len := 1) rfl rfl ?_
  rw [il_toInt]
  rfl

theorem m_isSeed {d : Nat} {M : AM} (x : Int32) : Ev (d + 1) md_257 0 [some (.int x)] [] (M) (some (.int (bI (decide (0 ≤ x.toInt ∧ x.toInt ≤ 2000000000)))), M) := by
  refine Ev.n (pc' := 6) 4 rfl ?_
  refine Ev.callS (len := 3) rfl rfl rfl rfl (m_in _ _ _) ?_
  refine Ev.retZ (len := 1) rfl rfl ?_
  rw [il_toInt]
  rfl

theorem m_isPlace {d : Nat} {M : AM} (σ : MS) (x : Int32) : Ev (d + 1) md_187 0 [some (.ref 287), some (.int x)] [] (mset M σ) (some (.int (bI (decide (0 ≤ x.toInt ∧ x.toInt ≤ ((σ.2.2.1 6 0) - 1).toInt)))), mset M σ) := by
  refine Ev.n (pc' := 8) 6 rfl ?_
  refine Ev.miald (len := 1) rfl rfl (by decide) (vin (by decide) (by decide)) ?_
  refine Ev.n (pc' := 12) 3 rfl ?_
  refine Ev.callS (len := 3) rfl rfl rfl rfl (m_in _ _ _) ?_
  refine Ev.retZ (len := 1) rfl rfl ?_
  simp only [il_toInt]
  rfl

theorem m_isDay {d : Nat} {M : AM} (σ : MS) (x : Int32) : Ev (d + 1) md_193 0 [some (.ref 287), some (.int x)] [] (mset M σ) (some (.int (bI (decide (0 ≤ x.toInt ∧ x.toInt ≤ ((σ.2.2.1 6 1) - 1).toInt)))), mset M σ) := by
  refine Ev.n (pc' := 8) 6 rfl ?_
  refine Ev.miald (len := 1) rfl rfl (by decide) (vin (by decide) (by decide)) ?_
  refine Ev.n (pc' := 12) 3 rfl ?_
  refine Ev.callS (len := 3) rfl rfl rfl rfl (m_in _ _ _) ?_
  refine Ev.retZ (len := 1) rfl rfl ?_
  simp only [il_toInt]
  rfl

theorem m_isWalk {d : Nat} {M : AM} (σ : MS) (x : Int32) : Ev (d + 1) md_199 0 [some (.ref 287), some (.int x)] [] (mset M σ) (some (.int (bI (decide (0 ≤ x.toInt ∧ x.toInt ≤ ((σ.2.2.1 6 4) - 1).toInt)))), mset M σ) := by
  refine Ev.n (pc' := 8) 6 rfl ?_
  refine Ev.miald (len := 1) rfl rfl (by decide) (vin (by decide) (by decide)) ?_
  refine Ev.n (pc' := 12) 3 rfl ?_
  refine Ev.callS (len := 3) rfl rfl rfl rfl (m_in _ _ _) ?_
  refine Ev.retZ (len := 1) rfl rfl ?_
  simp only [il_toInt]
  rfl

theorem tst1 (x : Int32) (h : x.toInt < (60 : Int32).toInt) (h2 : (-2 : Int32).toInt ≤ x.toInt) : x.toInt < 60 ∧ -2 ≤ x.toInt := by
  simp only [Int32.reduceToInt] at h h2
  omega
theorem tst2 (x : Int32) (h : ¬ x < 60) (h2 : -2 ≤ x) : 60 ≤ x.toInt := by
  simp only [i_lt, i_le, Int32.reduceToInt] at h h2
  omega
theorem tst3 (x : Int64) (h : ¬ x < 60) (h2 : -2 ≤ x) : 60 ≤ x.toInt := by
  simp only [l_lt, l_le, Int64.reduceToInt] at h h2
  omega
theorem tst4 (σ : MS) (h : ¬ σ.2.2.1 5 (Int32.toNatClampNeg 0) ≤ 0) (h9 : σ.2.2.1 5 (Int32.toNatClampNeg 7) ≤ 0) : 0 < (σ.2.2.1 5 0).toInt := by
  simp only [i_lt, i_le, Int32.reduceToInt, Int32.reduceToNatClampNeg] at h h9
  omega
theorem m_of {d : Nat} {M : AM} (σ : MS) (w what : Nat) (h : 11 * w + what < 550) : Ev (d) md_200 0 [some (.ref 287), some (.int (nI w)), some (.int (nI what))] [] (mset M σ) (some (.int (σ.2.2.1 11 (11 * w + what))), mset M σ) := by
  refine Ev.n (pc' := 10) 7 rfl ?_
  refine Ev.miald (len := 1) rfl rfl (by decide) ((by rw [show (11 : Int32) * nI w + nI what = nI (11 * w + what) by rw [← nI_add, ← pk_mul]; rfl]; exact vp_in_nI h (by omega))) ?_
  refine Ev.retI (len := 1) rfl rfl ?_
  rw [show (11 : Int32) * nI w + nI what = nI (11 * w + what) by rw [← nI_add, ← pk_mul]; rfl, nI_clamp (by omega)]
end
section
/-! A REALM of the class as a state: header (by slots), law, links (0..11 roads, 12..20 lanes), walks, their stops, distances. It lies at r .. r + 46. -/
abbrev RC : Type := (Nat → Int32) × (Nat → Int32) × (Nat → Nat → Int32) × (Nat → Nat → Int32) × (Nat → Nat → Int32) × (Nat → Int32)
def rhd (ρ : RC) : Nat → Int32 := ρ.1
def rlw (ρ : RC) : Nat → Int32 := ρ.2.1
def rlk (ρ : RC) : Nat → Nat → Int32 := ρ.2.2.1
def rwk (ρ : RC) : Nat → Nat → Int32 := ρ.2.2.2.1
def rst (ρ : RC) : Nat → Nat → Int32 := ρ.2.2.2.2.1
def rds (ρ : RC) : Nat → Int32 := ρ.2.2.2.2.2
def rfs (r : Nat) (ρ : RC) : List Value := [.int (rhd ρ 0), .int (rhd ρ 1), .int (rhd ρ 2), .int (rhd ρ 3), .ref (r + 1), .ref (r + 2), .int (rhd ρ 6), .ref (r + 15), .int (rhd ρ 8), .ref (r + 25), .int (rhd ρ 10), .ref (r + 46)]
def lfs (f : Nat → Int32) : List Value := [.int (f 0), .int (f 1), .int (f 2), .int (f 3), .int (f 4)]
def kfs (n : Nat) (f : Nat → Int32) : List Value := [.int (nI n), .int (f 1), .int (f 2), .int (f 3), .int (f 4), .int (f 5), .int (f 6)]
def wfs (f : Nat → Int32) (q : Nat) : List Value := [.int (f 0), .int (f 1), .int (f 2), .int (f 3), .ref q]
def rcell (r : Nat) (ρ : RC) (k : Nat) : AE :=
  if k = 0 then .inr (3, rfs r ρ)
  else if k = 1 then .inr (0, lfs (rlw ρ))
  else if k = 2 then .inl (4, 12, .inr (.inr (.inr (.inr (fun i => if i < 12 then some (r + 3 + i) else none)))))
  else if k < 15 then .inr (1, kfs (k - 3) (rlk ρ (k - 3)))
  else if k = 15 then .inl (4, 9, .inr (.inr (.inr (.inr (fun i => if i < 9 then some (r + 16 + i) else none)))))
  else if k < 25 then .inr (1, kfs (k - 16) (rlk ρ (k - 4)))
  else if k = 25 then .inl (5, 10, .inr (.inr (.inr (.inr (fun i => if i < 10 then some (r + 26 + 2 * i) else none)))))
  else if k < 46 then (if (k - 26) % 2 = 0 then .inr (7, wfs (rwk ρ ((k - 26) / 2)) (r + k + 1)) else .inl (0, 7, .inl (rst ρ ((k - 26) / 2))))
  else .inl (0, 49, .inl (rds ρ))
def rset (M : AM) (r : Nat) (ρ : RC) : AM := fun q => if r ≤ q ∧ q < r + 47 then rcell r ρ (q - r) else M q
section RS
variable {M : AM} {r : Nat} {ρ ρ' : RC}
theorem rset_at {k : Nat} (h : k < 47) : rset M r ρ (r + k) = rcell r ρ k := by
  unfold rset
  rw [if_pos ⟨by omega, by omega⟩, show r + k - r = k by omega]
theorem rset_ne {q : Nat} (h : q < r ∨ r + 47 ≤ q) : rset M r ρ q = M q := by
  unfold rset
  rw [if_neg (by omega)]
theorem rs_obj : rset M r ρ r = .inr (3, rfs r ρ) := rset_at (k := 0) (by decide)
theorem rs_law : rset M r ρ (r + 1) = .inr (0, lfs (rlw ρ)) := rset_at (k := 1) (by decide)
theorem rs_roads : rset M r ρ (r + 2) = .inl (4, 12, .inr (.inr (.inr (.inr (fun i => if i < 12 then some (r + 3 + i) else none))))) := rset_at (k := 2) (by decide)
theorem rs_road {i : Nat} (h : i < 12) : rset M r ρ (r + 3 + i) = .inr (1, kfs i (rlk ρ i)) := by
  rw [show r + 3 + i = r + (3 + i) by omega, rset_at (by omega)]
  unfold rcell
  rw [if_neg (by omega), if_neg (by omega), if_neg (by omega), if_pos (by omega), show 3 + i - 3 = i by omega]
theorem rs_lanes : rset M r ρ (r + 15) = .inl (4, 9, .inr (.inr (.inr (.inr (fun i => if i < 9 then some (r + 16 + i) else none))))) := rset_at (k := 15) (by decide)
theorem rs_lane {i : Nat} (h : i < 9) : rset M r ρ (r + 16 + i) = .inr (1, kfs i (rlk ρ (12 + i))) := by
  rw [show r + 16 + i = r + (16 + i) by omega, rset_at (by omega)]
  unfold rcell
  rw [if_neg (by omega), if_neg (by omega), if_neg (by omega), if_neg (by omega), if_neg (by omega), if_pos (by omega), show 16 + i - 16 = i by omega, show 16 + i - 4 = 12 + i by omega]
theorem rs_walks : rset M r ρ (r + 25) = .inl (5, 10, .inr (.inr (.inr (.inr (fun i => if i < 10 then some (r + 26 + 2 * i) else none))))) := rset_at (k := 25) (by decide)
theorem rs_walk {i : Nat} (h : i < 10) : rset M r ρ (r + 26 + 2 * i) = .inr (7, wfs (rwk ρ i) (r + 27 + 2 * i)) := by
  rw [show r + 26 + 2 * i = r + (26 + 2 * i) by omega, rset_at (by omega)]
  unfold rcell
  rw [if_neg (by omega), if_neg (by omega), if_neg (by omega), if_neg (by omega), if_neg (by omega), if_neg (by omega), if_neg (by omega), if_pos (by omega), if_pos (by omega), show (26 + 2 * i - 26) / 2 = i by omega, show r + (26 + 2 * i) + 1 = r + 27 + 2 * i by omega]
theorem rs_stops {i : Nat} (h : i < 10) : rset M r ρ (r + 27 + 2 * i) = .inl (0, 7, .inl (rst ρ i)) := by
  rw [show r + 27 + 2 * i = r + (27 + 2 * i) by omega, rset_at (by omega)]
  unfold rcell
  rw [if_neg (by omega), if_neg (by omega), if_neg (by omega), if_neg (by omega), if_neg (by omega), if_neg (by omega), if_neg (by omega), if_pos (by omega), if_neg (by omega), show (27 + 2 * i - 26) / 2 = i by omega]
theorem rs_dist : rset M r ρ (r + 46) = .inl (0, 49, .inl (rds ρ)) := rset_at (k := 46) (by decide)
theorem rset_up {k : Nat} {e : AE} (hk : k < 47) (he : rcell r ρ' k = e) (ho : ∀ j, j < 47 → j ≠ k → rcell r ρ' j = rcell r ρ j) : va_up (rset M r ρ) (r + k) e = rset M r ρ' := by
  funext q
  by_cases hq : q = r + k
  · subst hq
    rw [va_up_self, rset_at hk, he]
  · rw [va_up_ne _ _ hq]
    by_cases h1 : r ≤ q ∧ q < r + 47
    · obtain ⟨j, rfl⟩ : ∃ j, q = r + j := ⟨q - r, by omega⟩
      rw [rset_at (by omega), rset_at (by omega), ho j (by omega) (by omega)]
    · rw [rset_ne (by omega), rset_ne (by omega)]
def hset (ρ : RC) (j : Nat) (x : Int32) : RC := (upd (rhd ρ) j x, ρ.2)
def wset (ρ : RC) (j : Nat) (x : Int32) : RC := (ρ.1, upd (rlw ρ) j x, ρ.2.2)
def kset (ρ : RC) (i j : Nat) (x : Int32) : RC := (ρ.1, ρ.2.1, va_up (rlk ρ) i (upd (rlk ρ i) j x), ρ.2.2.2)
def gset (ρ : RC) (i j : Nat) (x : Int32) : RC := (ρ.1, ρ.2.1, ρ.2.2.1, va_up (rwk ρ) i (upd (rwk ρ i) j x), ρ.2.2.2.2)
def tset (ρ : RC) (i : Nat) (f : Nat → Int32) : RC := (ρ.1, ρ.2.1, ρ.2.2.1, ρ.2.2.2.1, va_up (rst ρ) i f, ρ.2.2.2.2.2)
def dset (ρ : RC) (f : Nat → Int32) : RC := (ρ.1, ρ.2.1, ρ.2.2.1, ρ.2.2.2.1, ρ.2.2.2.2.1, f)
theorem rc_hset {j k : Nat} {x : Int32} (hk : k ≠ 0) : rcell r (hset ρ j x) k = rcell r ρ k := by
  unfold rcell
  rw [if_neg hk, if_neg hk]
  rfl
theorem rc_wset {j k : Nat} {x : Int32} (hk : k ≠ 1) : rcell r (wset ρ j x) k = rcell r ρ k := by
  unfold rcell
  rw [if_neg hk, if_neg hk]
  rfl
theorem rc_dset {f : Nat → Int32} {k : Nat} (h : k < 46) : rcell r (dset ρ f) k = rcell r ρ k := by
  unfold rcell
  by_cases h0 : k = 0
  · rw [if_pos h0, if_pos h0]; rfl
  by_cases h1 : k = 1
  · rw [if_neg h0, if_neg h0, if_pos h1, if_pos h1]; rfl
  rw [if_neg h0, if_neg h0, if_neg h1, if_neg h1, if_pos h, if_pos h]
  rfl
theorem rc_kset {i j k : Nat} {x : Int32} (h1 : k < 15 → k ≠ 3 + i) (h2 : 15 < k → k ≠ 4 + i) : rcell r (kset ρ i j x) k = rcell r ρ k := by
  have e : ∀ q, q ≠ i → rlk (kset ρ i j x) q = rlk ρ q := fun q hq => va_up_ne _ _ hq
  unfold rcell
  by_cases a0 : k = 0
  · rw [if_pos a0, if_pos a0]; rfl
  rw [if_neg a0, if_neg a0]
  by_cases a1 : k = 1
  · rw [if_pos a1, if_pos a1]; rfl
  rw [if_neg a1, if_neg a1]
  by_cases a2 : k = 2
  · rw [if_pos a2, if_pos a2]
  rw [if_neg a2, if_neg a2]
  by_cases a3 : k < 15
  · have := h1 a3
    rw [if_pos a3, if_pos a3, e _ (by omega)]
  rw [if_neg a3, if_neg a3]
  by_cases a4 : k = 15
  · rw [if_pos a4, if_pos a4]
  rw [if_neg a4, if_neg a4]
  by_cases a5 : k < 25
  · have := h2 (by omega)
    rw [if_pos a5, if_pos a5, e _ (by omega)]
  rw [if_neg a5, if_neg a5]
  rfl
theorem rc_gset {i j k : Nat} {x : Int32} (h1 : k ≠ 26 + 2 * i) : rcell r (gset ρ i j x) k = rcell r ρ k := by
  have e : ∀ q, q ≠ i → rwk (gset ρ i j x) q = rwk ρ q := fun q hq => va_up_ne _ _ hq
  unfold rcell
  by_cases a0 : k = 0
  · rw [if_pos a0, if_pos a0]; rfl
  rw [if_neg a0, if_neg a0]
  by_cases a1 : k = 1
  · rw [if_pos a1, if_pos a1]; rfl
  rw [if_neg a1, if_neg a1]
  by_cases a2 : k = 2
  · rw [if_pos a2, if_pos a2]
  rw [if_neg a2, if_neg a2]
  by_cases a3 : k < 15
  · rw [if_pos a3, if_pos a3]; rfl
  rw [if_neg a3, if_neg a3]
  by_cases a4 : k = 15
  · rw [if_pos a4, if_pos a4]
  rw [if_neg a4, if_neg a4]
  by_cases a5 : k < 25
  · rw [if_pos a5, if_pos a5]; rfl
  rw [if_neg a5, if_neg a5]
  by_cases a6 : k = 25
  · rw [if_pos a6, if_pos a6]
  rw [if_neg a6, if_neg a6]
  by_cases a7 : k < 46
  · rw [if_pos a7, if_pos a7]
    by_cases a8 : (k - 26) % 2 = 0
    · rw [if_pos a8, if_pos a8, e _ (by omega)]
    · rw [if_neg a8, if_neg a8]; rfl
  · rw [if_neg a7, if_neg a7]; rfl
theorem rc_tset {i k : Nat} {f : Nat → Int32} (h1 : k ≠ 27 + 2 * i) : rcell r (tset ρ i f) k = rcell r ρ k := by
  have e : ∀ q, q ≠ i → rst (tset ρ i f) q = rst ρ q := fun q hq => va_up_ne _ _ hq
  unfold rcell
  by_cases a0 : k = 0
  · rw [if_pos a0, if_pos a0]; rfl
  rw [if_neg a0, if_neg a0]
  by_cases a1 : k = 1
  · rw [if_pos a1, if_pos a1]; rfl
  rw [if_neg a1, if_neg a1]
  by_cases a2 : k = 2
  · rw [if_pos a2, if_pos a2]
  rw [if_neg a2, if_neg a2]
  by_cases a3 : k < 15
  · rw [if_pos a3, if_pos a3]; rfl
  rw [if_neg a3, if_neg a3]
  by_cases a4 : k = 15
  · rw [if_pos a4, if_pos a4]
  rw [if_neg a4, if_neg a4]
  by_cases a5 : k < 25
  · rw [if_pos a5, if_pos a5]; rfl
  rw [if_neg a5, if_neg a5]
  by_cases a6 : k = 25
  · rw [if_pos a6, if_pos a6]
  rw [if_neg a6, if_neg a6]
  by_cases a7 : k < 46
  · rw [if_pos a7, if_pos a7]
    by_cases a8 : (k - 26) % 2 = 0
    · rw [if_pos a8, if_pos a8]; rfl
    · rw [if_neg a8, if_neg a8, e _ (by omega)]
  · rw [if_neg a7, if_neg a7]; rfl
/-- a field of the realm itself is written -/
theorem ru_hd {j : Nat} {x : Int32} (hj : j = 0 ∨ j = 1 ∨ j = 2 ∨ j = 3 ∨ j = 6 ∨ j = 8 ∨ j = 10) : va_up (rset M r ρ) r (.inr (3, (rfs r ρ).set j (.int x))) = rset M r (hset ρ j x) := by
  refine rset_up (k := 0) (by decide) ?_ (fun q _ hq => rc_hset hq)
  rcases hj with rfl | rfl | rfl | rfl | rfl | rfl | rfl <;> rfl
theorem ru_lw {j : Nat} {x : Int32} (hj : j < 5) : va_up (rset M r ρ) (r + 1) (.inr (0, (lfs (rlw ρ)).set j (.int x))) = rset M r (wset ρ j x) := by
  refine rset_up (k := 1) (by decide) ?_ (fun q _ hq => rc_wset hq)
  match j, hj with
  | 0, _ => rfl | 1, _ => rfl | 2, _ => rfl | 3, _ => rfl | 4, _ => rfl
theorem kfs_set {n j : Nat} {f : Nat → Int32} {x : Int32} (h1 : 1 ≤ j) (h2 : j ≤ 6) : (kfs n f).set j (.int x) = kfs n (upd f j x) := by
  match j, h1, h2 with
  | 1, _, _ => rfl | 2, _, _ => rfl | 3, _, _ => rfl | 4, _, _ => rfl | 5, _, _ => rfl | 6, _, _ => rfl
theorem ru_road {i j : Nat} {x : Int32} (hi : i < 12) (h1 : 1 ≤ j) (h2 : j ≤ 6) : va_up (rset M r ρ) (r + 3 + i) (.inr (1, (kfs i (rlk ρ i)).set j (.int x))) = rset M r (kset ρ i j x) := by
  rw [show r + 3 + i = r + (3 + i) by omega, kfs_set h1 h2]
  refine rset_up (k := 3 + i) (by omega) ?_ (fun q hq hne => rc_kset (by omega) (by omega))
  unfold rcell
  rw [if_neg (by omega), if_neg (by omega), if_neg (by omega), if_pos (by omega), show 3 + i - 3 = i by omega]
  show _ = _
  rw [show rlk (kset ρ i j x) i = upd (rlk ρ i) j x from va_up_self _ _ _]
theorem ru_lane {i j : Nat} {x : Int32} (hi : i < 9) (h1 : 1 ≤ j) (h2 : j ≤ 6) : va_up (rset M r ρ) (r + 16 + i) (.inr (1, (kfs i (rlk ρ (12 + i))).set j (.int x))) = rset M r (kset ρ (12 + i) j x) := by
  rw [show r + 16 + i = r + (16 + i) by omega, kfs_set h1 h2]
  refine rset_up (k := 16 + i) (by omega) ?_ (fun q hq hne => rc_kset (by omega) (by omega))
  unfold rcell
  rw [if_neg (by omega), if_neg (by omega), if_neg (by omega), if_neg (by omega), if_neg (by omega), if_pos (by omega), show 16 + i - 16 = i by omega, show 16 + i - 4 = 12 + i by omega]
  rw [show rlk (kset ρ (12 + i) j x) (12 + i) = upd (rlk ρ (12 + i)) j x from va_up_self _ _ _]
theorem ru_walk {i j : Nat} {x : Int32} (hi : i < 10) (h2 : j ≤ 3) : va_up (rset M r ρ) (r + 26 + 2 * i) (.inr (7, (wfs (rwk ρ i) (r + 27 + 2 * i)).set j (.int x))) = rset M r (gset ρ i j x) := by
  have e : (wfs (rwk ρ i) (r + 27 + 2 * i)).set j (.int x) = wfs (upd (rwk ρ i) j x) (r + 27 + 2 * i) := by
    match j, h2 with
    | 0, _ => rfl | 1, _ => rfl | 2, _ => rfl | 3, _ => rfl
  rw [show r + 26 + 2 * i = r + (26 + 2 * i) by omega, e]
  refine rset_up (k := 26 + 2 * i) (by omega) ?_ (fun q hq hne => rc_gset hne)
  unfold rcell
  rw [if_neg (by omega), if_neg (by omega), if_neg (by omega), if_neg (by omega), if_neg (by omega), if_neg (by omega), if_neg (by omega), if_pos (by omega), if_pos (by omega), show (26 + 2 * i - 26) / 2 = i by omega, show r + (26 + 2 * i) + 1 = r + 27 + 2 * i by omega]
  rw [show rwk (gset ρ i j x) i = upd (rwk ρ i) j x from va_up_self _ _ _]
theorem ru_stops {i : Nat} {f : Nat → Int32} (hi : i < 10) : va_up (rset M r ρ) (r + 27 + 2 * i) (.inl (0, 7, .inl f)) = rset M r (tset ρ i f) := by
  rw [show r + 27 + 2 * i = r + (27 + 2 * i) by omega]
  refine rset_up (k := 27 + 2 * i) (by omega) ?_ (fun q hq hne => rc_tset hne)
  unfold rcell
  rw [if_neg (by omega), if_neg (by omega), if_neg (by omega), if_neg (by omega), if_neg (by omega), if_neg (by omega), if_neg (by omega), if_pos (by omega), if_neg (by omega), show (27 + 2 * i - 26) / 2 = i by omega]
  rw [show rst (tset ρ i f) i = f from va_up_self _ _ _]
theorem ru_dist {f : Nat → Int32} : va_up (rset M r ρ) (r + 46) (.inl (0, 49, .inl f)) = rset M r (dset ρ f) := by
  refine rset_up (k := 46) (by decide) rfl (fun q hq hne => rc_dset (by omega))
end RS
end
section
/-! Small methods of the class. -/
theorem c_hasPlace {d : Nat} {M : AM} {r : Nat} {ρ : RC} (x : Int32) : Ev (d) md_33 0 [some (.ref r), some (.int x)] [] (rset M r ρ) (some (.int (bI (decide (0 ≤ x.toInt ∧ x.toInt < (rhd ρ 0).toInt)))), rset M r ρ) := by
  refine Ev.n (pc' := 1) 1 rfl ?_
  refine Ev.if2 (tgt := 16) (len := 3) rfl (fun h1 => ?_) (fun h1 => ?_)
  · try simp only [i_lt, i_le, Int32.reduceToInt, Int32.reduceToNatClampNeg] at h1
    refine Ev.n (pc' := 17) 1 rfl ?_
    refine Ev.retZ (len := 1) rfl rfl ?_
    first | exact bI_t (by omega) | exact bI_f (by omega)
  · try simp only [i_lt, i_le, Int32.reduceToInt, Int32.reduceToNatClampNeg] at h1
    refine Ev.n (pc' := 6) 2 rfl ?_
    refine Ev.get (len := 3) rfl rs_obj rfl ?_
    refine Ev.ic3 (tgt := 16) (len := 3) rfl (fun h9 => ?_) (fun h9 => ?_)
    · try simp only [i_lt, i_le, Int32.reduceToInt, Int32.reduceToNatClampNeg] at h9
      refine Ev.n (pc' := 17) 1 rfl ?_
      refine Ev.retZ (len := 1) rfl rfl ?_
      first | exact bI_t (by omega) | exact bI_f (by omega)
    · try simp only [i_lt, i_le, Int32.reduceToInt, Int32.reduceToNatClampNeg] at h9
      refine Ev.n (pc' := 17) 2 rfl ?_
      refine Ev.retZ (len := 1) rfl rfl ?_
      first | exact bI_t (by omega) | exact bI_f (by omega)

theorem c_hasDay {d : Nat} {M : AM} {r : Nat} {ρ : RC} (x : Int32) : Ev (d) md_38 0 [some (.ref r), some (.int x)] [] (rset M r ρ) (some (.int (bI (decide (0 ≤ x.toInt ∧ x.toInt < (rhd ρ 1).toInt)))), rset M r ρ) := by
  refine Ev.n (pc' := 1) 1 rfl ?_
  refine Ev.if2 (tgt := 16) (len := 3) rfl (fun h1 => ?_) (fun h1 => ?_)
  · try simp only [i_lt, i_le, Int32.reduceToInt, Int32.reduceToNatClampNeg] at h1
    refine Ev.n (pc' := 17) 1 rfl ?_
    refine Ev.retZ (len := 1) rfl rfl ?_
    first | exact bI_t (by omega) | exact bI_f (by omega)
  · try simp only [i_lt, i_le, Int32.reduceToInt, Int32.reduceToNatClampNeg] at h1
    refine Ev.n (pc' := 6) 2 rfl ?_
    refine Ev.get (len := 3) rfl rs_obj rfl ?_
    refine Ev.ic3 (tgt := 16) (len := 3) rfl (fun h9 => ?_) (fun h9 => ?_)
    · try simp only [i_lt, i_le, Int32.reduceToInt, Int32.reduceToNatClampNeg] at h9
      refine Ev.n (pc' := 17) 1 rfl ?_
      refine Ev.retZ (len := 1) rfl rfl ?_
      first | exact bI_t (by omega) | exact bI_f (by omega)
    · try simp only [i_lt, i_le, Int32.reduceToInt, Int32.reduceToNatClampNeg] at h9
      refine Ev.n (pc' := 17) 2 rfl ?_
      refine Ev.retZ (len := 1) rfl rfl ?_
      first | exact bI_t (by omega) | exact bI_f (by omega)

theorem c_hasRoad {d : Nat} {M : AM} {r : Nat} {ρ : RC} (x : Int32) : Ev (d) md_48 0 [some (.ref r), some (.int x)] [] (rset M r ρ) (some (.int (bI (decide (0 ≤ x.toInt ∧ x.toInt < (rhd ρ 6).toInt)))), rset M r ρ) := by
  refine Ev.n (pc' := 1) 1 rfl ?_
  refine Ev.if2 (tgt := 16) (len := 3) rfl (fun h1 => ?_) (fun h1 => ?_)
  · try simp only [i_lt, i_le, Int32.reduceToInt, Int32.reduceToNatClampNeg] at h1
    refine Ev.n (pc' := 17) 1 rfl ?_
    refine Ev.retZ (len := 1) rfl rfl ?_
    first | exact bI_t (by omega) | exact bI_f (by omega)
  · try simp only [i_lt, i_le, Int32.reduceToInt, Int32.reduceToNatClampNeg] at h1
    refine Ev.n (pc' := 6) 2 rfl ?_
    refine Ev.get (len := 3) rfl rs_obj rfl ?_
    refine Ev.ic3 (tgt := 16) (len := 3) rfl (fun h9 => ?_) (fun h9 => ?_)
    · try simp only [i_lt, i_le, Int32.reduceToInt, Int32.reduceToNatClampNeg] at h9
      refine Ev.n (pc' := 17) 1 rfl ?_
      refine Ev.retZ (len := 1) rfl rfl ?_
      first | exact bI_t (by omega) | exact bI_f (by omega)
    · try simp only [i_lt, i_le, Int32.reduceToInt, Int32.reduceToNatClampNeg] at h9
      refine Ev.n (pc' := 17) 2 rfl ?_
      refine Ev.retZ (len := 1) rfl rfl ?_
      first | exact bI_t (by omega) | exact bI_f (by omega)

theorem c_hasLane {d : Nat} {M : AM} {r : Nat} {ρ : RC} (x : Int32) : Ev (d) md_37 0 [some (.ref r), some (.int x)] [] (rset M r ρ) (some (.int (bI (decide (0 ≤ x.toInt ∧ x.toInt < (rhd ρ 8).toInt)))), rset M r ρ) := by
  refine Ev.n (pc' := 1) 1 rfl ?_
  refine Ev.if2 (tgt := 16) (len := 3) rfl (fun h1 => ?_) (fun h1 => ?_)
  · try simp only [i_lt, i_le, Int32.reduceToInt, Int32.reduceToNatClampNeg] at h1
    refine Ev.n (pc' := 17) 1 rfl ?_
    refine Ev.retZ (len := 1) rfl rfl ?_
    first | exact bI_t (by omega) | exact bI_f (by omega)
  · try simp only [i_lt, i_le, Int32.reduceToInt, Int32.reduceToNatClampNeg] at h1
    refine Ev.n (pc' := 6) 2 rfl ?_
    refine Ev.get (len := 3) rfl rs_obj rfl ?_
    refine Ev.ic3 (tgt := 16) (len := 3) rfl (fun h9 => ?_) (fun h9 => ?_)
    · try simp only [i_lt, i_le, Int32.reduceToInt, Int32.reduceToNatClampNeg] at h9
      refine Ev.n (pc' := 17) 1 rfl ?_
      refine Ev.retZ (len := 1) rfl rfl ?_
      first | exact bI_t (by omega) | exact bI_f (by omega)
    · try simp only [i_lt, i_le, Int32.reduceToInt, Int32.reduceToNatClampNeg] at h9
      refine Ev.n (pc' := 17) 2 rfl ?_
      refine Ev.retZ (len := 1) rfl rfl ?_
      first | exact bI_t (by omega) | exact bI_f (by omega)

theorem c_hasWalk {d : Nat} {M : AM} {r : Nat} {ρ : RC} (x : Int32) : Ev (d) md_41 0 [some (.ref r), some (.int x)] [] (rset M r ρ) (some (.int (bI (decide (0 ≤ x.toInt ∧ x.toInt < (rhd ρ 10).toInt)))), rset M r ρ) := by
  refine Ev.n (pc' := 1) 1 rfl ?_
  refine Ev.if2 (tgt := 16) (len := 3) rfl (fun h1 => ?_) (fun h1 => ?_)
  · try simp only [i_lt, i_le, Int32.reduceToInt, Int32.reduceToNatClampNeg] at h1
    refine Ev.n (pc' := 17) 1 rfl ?_
    refine Ev.retZ (len := 1) rfl rfl ?_
    first | exact bI_t (by omega) | exact bI_f (by omega)
  · try simp only [i_lt, i_le, Int32.reduceToInt, Int32.reduceToNatClampNeg] at h1
    refine Ev.n (pc' := 6) 2 rfl ?_
    refine Ev.get (len := 3) rfl rs_obj rfl ?_
    refine Ev.ic3 (tgt := 16) (len := 3) rfl (fun h9 => ?_) (fun h9 => ?_)
    · try simp only [i_lt, i_le, Int32.reduceToInt, Int32.reduceToNatClampNeg] at h9
      refine Ev.n (pc' := 17) 1 rfl ?_
      refine Ev.retZ (len := 1) rfl rfl ?_
      first | exact bI_t (by omega) | exact bI_f (by omega)
    · try simp only [i_lt, i_le, Int32.reduceToInt, Int32.reduceToNatClampNeg] at h9
      refine Ev.n (pc' := 17) 2 rfl ?_
      refine Ev.retZ (len := 1) rfl rfl ?_
      first | exact bI_t (by omega) | exact bI_f (by omega)

theorem c_exists {d : Nat} {M : AM} {r : Nat} {ρ : RC} : Ev (d) md_42 0 [some (.ref r)] [] (rset M r ρ) (some (.int (bI (decide (0 < (rhd ρ 0).toInt)))), rset M r ρ) := by
  refine Ev.n (pc' := 1) 1 rfl ?_
  refine Ev.get (len := 3) rfl rs_obj rfl ?_
  refine Ev.if5 (tgt := 11) (len := 3) rfl (fun h4 => ?_) (fun h4 => ?_)
  · try simp only [i_lt, i_le, Int32.reduceToInt, Int32.reduceToNatClampNeg] at h4
    refine Ev.n (pc' := 12) 1 rfl ?_
    refine Ev.retZ (len := 1) rfl rfl ?_
    first | exact bI_t (by omega) | exact bI_f (by omega)
  · try simp only [i_lt, i_le, Int32.reduceToInt, Int32.reduceToNatClampNeg] at h4
    refine Ev.n (pc' := 12) 2 rfl ?_
    refine Ev.retZ (len := 1) rfl rfl ?_
    first | exact bI_t (by omega) | exact bI_f (by omega)

theorem c_isWithin {d : Nat} {M : AM} (n a b : Int32) : Ev (d) md_117 0 [some (.int n), some (.int a), some (.int b)] [] (M) (some (.int (bI (decide (a.toInt ≤ n.toInt ∧ n.toInt ≤ b.toInt)))), M) := by
  refine Ev.n (pc' := 2) 2 rfl ?_
  refine Ev.ic2 (tgt := 14) (len := 3) rfl (fun h2 => ?_) (fun h2 => ?_)
  · try simp only [i_lt, i_le, Int32.reduceToInt, Int32.reduceToNatClampNeg] at h2
    refine Ev.n (pc' := 15) 1 rfl ?_
    refine Ev.retZ (len := 1) rfl rfl ?_
    first | exact bI_t (by omega) | exact bI_f (by omega)
  · try simp only [i_lt, i_le, Int32.reduceToInt, Int32.reduceToNatClampNeg] at h2
    refine Ev.n (pc' := 7) 2 rfl ?_
    refine Ev.ic4 (tgt := 14) (len := 3) rfl (fun h7 => ?_) (fun h7 => ?_)
    · try simp only [i_lt, i_le, Int32.reduceToInt, Int32.reduceToNatClampNeg] at h7
      refine Ev.n (pc' := 15) 1 rfl ?_
      refine Ev.retZ (len := 1) rfl rfl ?_
      first | exact bI_t (by omega) | exact bI_f (by omega)
    · try simp only [i_lt, i_le, Int32.reduceToInt, Int32.reduceToNatClampNeg] at h7
      refine Ev.n (pc' := 15) 2 rfl ?_
      refine Ev.retZ (len := 1) rfl rfl ?_
      first | exact bI_t (by omega) | exact bI_f (by omega)

theorem c_isThought {d : Nat} {M : AM} (n : Int32) : Ev (d + 1) md_126 0 [some (.int n)] [] (M) (some (.int (bI (decide (1 ≤ n.toInt ∧ n.toInt ≤ 99)))), M) := by
  refine Ev.n (pc' := 4) 3 rfl ?_
  refine Ev.callS (len := 3) rfl rfl rfl rfl (c_isWithin _ _ _) ?_
  refine Ev.retZ (len := 1) rfl rfl ?_
  simp only [Int32.reduceToInt]

theorem c_isLoad {d : Nat} {M : AM} (n : Int32) : Ev (d + 1) md_116 0 [some (.int n)] [] (M) (some (.int (bI (decide (1 ≤ n.toInt ∧ n.toInt ≤ 9)))), M) := by
  refine Ev.n (pc' := 4) 3 rfl ?_
  refine Ev.callS (len := 3) rfl rfl rfl rfl (c_isWithin _ _ _) ?_
  refine Ev.retZ (len := 1) rfl rfl ?_
  simp only [Int32.reduceToInt]

theorem c_isSum {d : Nat} {M : AM} (n : Int32) : Ev (d + 1) md_121 0 [some (.int n)] [] (M) (some (.int (bI (decide (0 ≤ n.toInt ∧ n.toInt ≤ 3)))), M) := by
  refine Ev.n (pc' := 3) 3 rfl ?_
  refine Ev.callS (len := 3) rfl rfl rfl rfl (c_isWithin _ _ _) ?_
  refine Ev.retZ (len := 1) rfl rfl ?_
  simp only [Int32.reduceToInt]

theorem c_pairOf {d : Nat} {M : AM} (a b : Nat) : Ev (d) md_91 0 [some (.int (nI a)), some (.int (nI b))] [] (M) (some (.int (nI (7 * a + b))), M) := by
  refine Ev.n (pc' := 6) 5 rfl ?_
  refine Ev.retI (len := 1) rfl rfl ?_
  rw [← nI_add, ← pk_mul, Int32.mul_comm]
  rfl

theorem c_dutyOn {d : Nat} {M : AM} {r : Nat} {ρ : RC} (s l y : Int32) : Ev (d) md_3 0 [some (.ref (r + 1)), some (.int s), some (.int l), some (.int y), none] [] (rset M r ρ) (some (.int (if s.toInt ≤ (rlw ρ 1).toInt ∨ (y - y / 7 * 7 = 6 ∧ rlw ρ 3 = 0) then 0 else (s - rlw ρ 1) * rlw ρ 0 * (if rlw ρ 4 = 1 then l else 1))), rset M r ρ) := by
  refine Ev.n (pc' := 3) 2 rfl ?_
  refine Ev.s (pc' := 4) rfl ?_
  refine Ev.n (pc' := 6) 1 rfl ?_
  refine Ev.ic1 (tgt := 13) (len := 3) rfl (fun h6 => ?_) (fun h6 => ?_)
  · skip
    refine Ev.n (pc' := 18) 4 rfl ?_
    refine Ev.get (len := 3) rfl rs_law rfl ?_
    refine Ev.ic5 (tgt := 36) (len := 3) rfl (fun h21 => ?_) (fun h21 => ?_)
    · try simp only [i_lt, i_le, Int32.reduceToInt, Int32.reduceToNatClampNeg] at h21
      refine Ev.n (pc' := 37) 1 rfl ?_
      refine Ev.retI (len := 1) rfl rfl ?_
      first
        | (rw [if_neg (by rintro (h | ⟨h, h'⟩) <;> first | omega | contradiction)]; simp_all; done)
        | (rw [if_pos (by first | exact Or.inl (by omega) | exact Or.inr ⟨by assumption, by assumption⟩)])
    · try simp only [i_lt, i_le, Int32.reduceToInt, Int32.reduceToNatClampNeg] at h21
      refine Ev.n (pc' := 26) 1 rfl ?_
      refine Ev.if0 (tgt := 38) (len := 3) rfl (fun h26 => ?_) (fun h26 => ?_)
      · skip
        refine Ev.n (pc' := 40) 2 rfl ?_
        refine Ev.get (len := 3) rfl rs_law rfl ?_
        refine Ev.n (pc' := 45) 2 rfl ?_
        refine Ev.get (len := 3) rfl rs_law rfl ?_
        refine Ev.n (pc' := 50) 2 rfl ?_
        refine Ev.get (len := 3) rfl rs_law rfl ?_
        refine Ev.n (pc' := 54) 1 rfl ?_
        refine Ev.ic1 (tgt := 61) (len := 3) rfl (fun h54 => ?_) (fun h54 => ?_)
        · skip
          refine Ev.n (pc' := 63) 2 rfl ?_
          refine Ev.retI (len := 1) rfl rfl ?_
          first
            | (rw [if_neg (by rintro (h | ⟨h, h'⟩) <;> first | omega | contradiction)]; simp_all; done)
            | (rw [if_pos (by first | exact Or.inl (by omega) | exact Or.inr ⟨by assumption, by assumption⟩)])
        · skip
          refine Ev.n (pc' := 63) 3 rfl ?_
          refine Ev.retI (len := 1) rfl rfl ?_
          first
            | (rw [if_neg (by rintro (h | ⟨h, h'⟩) <;> first | omega | contradiction)]; simp_all; done)
            | (rw [if_pos (by first | exact Or.inl (by omega) | exact Or.inr ⟨by assumption, by assumption⟩)])
      · skip
        refine Ev.n (pc' := 30) 1 rfl ?_
        refine Ev.get (len := 3) rfl rs_law rfl ?_
        refine Ev.if1 (tgt := 38) (len := 3) rfl (fun h33 => ?_) (fun h33 => ?_)
        · skip
          refine Ev.n (pc' := 40) 2 rfl ?_
          refine Ev.get (len := 3) rfl rs_law rfl ?_
          refine Ev.n (pc' := 45) 2 rfl ?_
          refine Ev.get (len := 3) rfl rs_law rfl ?_
          refine Ev.n (pc' := 50) 2 rfl ?_
          refine Ev.get (len := 3) rfl rs_law rfl ?_
          refine Ev.n (pc' := 54) 1 rfl ?_
          refine Ev.ic1 (tgt := 61) (len := 3) rfl (fun h54 => ?_) (fun h54 => ?_)
          · skip
            refine Ev.n (pc' := 63) 2 rfl ?_
            refine Ev.retI (len := 1) rfl rfl ?_
            first
              | (rw [if_neg (by rintro (h | ⟨h, h'⟩) <;> first | omega | contradiction)]; simp_all; done)
              | (rw [if_pos (by first | exact Or.inl (by omega) | exact Or.inr ⟨by assumption, by assumption⟩)])
          · skip
            refine Ev.n (pc' := 63) 3 rfl ?_
            refine Ev.retI (len := 1) rfl rfl ?_
            first
              | (rw [if_neg (by rintro (h | ⟨h, h'⟩) <;> first | omega | contradiction)]; simp_all; done)
              | (rw [if_pos (by first | exact Or.inl (by omega) | exact Or.inr ⟨by assumption, by assumption⟩)])
        · skip
          refine Ev.n (pc' := 37) 1 rfl ?_
          refine Ev.retI (len := 1) rfl rfl ?_
          first
            | (rw [if_neg (by rintro (h | ⟨h, h'⟩) <;> first | omega | contradiction)]; simp_all; done)
            | (rw [if_pos (by first | exact Or.inl (by omega) | exact Or.inr ⟨by assumption, by assumption⟩)])
  · skip
    refine Ev.n (pc' := 18) 5 rfl ?_
    refine Ev.get (len := 3) rfl rs_law rfl ?_
    refine Ev.ic5 (tgt := 36) (len := 3) rfl (fun h21 => ?_) (fun h21 => ?_)
    · try simp only [i_lt, i_le, Int32.reduceToInt, Int32.reduceToNatClampNeg] at h21
      refine Ev.n (pc' := 37) 1 rfl ?_
      refine Ev.retI (len := 1) rfl rfl ?_
      first
        | (rw [if_neg (by rintro (h | ⟨h, h'⟩) <;> first | omega | contradiction)]; simp_all; done)
        | (rw [if_pos (by first | exact Or.inl (by omega) | exact Or.inr ⟨by assumption, by assumption⟩)])
    · try simp only [i_lt, i_le, Int32.reduceToInt, Int32.reduceToNatClampNeg] at h21
      refine Ev.n (pc' := 26) 1 rfl ?_
      refine Ev.if0 (tgt := 38) (len := 3) rfl (fun h26 => ?_) (fun h26 => ?_)
      · skip
        refine Ev.n (pc' := 40) 2 rfl ?_
        refine Ev.get (len := 3) rfl rs_law rfl ?_
        refine Ev.n (pc' := 45) 2 rfl ?_
        refine Ev.get (len := 3) rfl rs_law rfl ?_
        refine Ev.n (pc' := 50) 2 rfl ?_
        refine Ev.get (len := 3) rfl rs_law rfl ?_
        refine Ev.n (pc' := 54) 1 rfl ?_
        refine Ev.ic1 (tgt := 61) (len := 3) rfl (fun h54 => ?_) (fun h54 => ?_)
        · skip
          refine Ev.n (pc' := 63) 2 rfl ?_
          refine Ev.retI (len := 1) rfl rfl ?_
          first
            | (rw [if_neg (by rintro (h | ⟨h, h'⟩) <;> first | omega | contradiction)]; simp_all; done)
            | (rw [if_pos (by first | exact Or.inl (by omega) | exact Or.inr ⟨by assumption, by assumption⟩)])
        · skip
          refine Ev.n (pc' := 63) 3 rfl ?_
          refine Ev.retI (len := 1) rfl rfl ?_
          first
            | (rw [if_neg (by rintro (h | ⟨h, h'⟩) <;> first | omega | contradiction)]; simp_all; done)
            | (rw [if_pos (by first | exact Or.inl (by omega) | exact Or.inr ⟨by assumption, by assumption⟩)])
      · skip
        refine Ev.n (pc' := 30) 1 rfl ?_
        refine Ev.get (len := 3) rfl rs_law rfl ?_
        refine Ev.if1 (tgt := 38) (len := 3) rfl (fun h33 => ?_) (fun h33 => ?_)
        · skip
          refine Ev.n (pc' := 40) 2 rfl ?_
          refine Ev.get (len := 3) rfl rs_law rfl ?_
          refine Ev.n (pc' := 45) 2 rfl ?_
          refine Ev.get (len := 3) rfl rs_law rfl ?_
          refine Ev.n (pc' := 50) 2 rfl ?_
          refine Ev.get (len := 3) rfl rs_law rfl ?_
          refine Ev.n (pc' := 54) 1 rfl ?_
          refine Ev.ic1 (tgt := 61) (len := 3) rfl (fun h54 => ?_) (fun h54 => ?_)
          · skip
            refine Ev.n (pc' := 63) 2 rfl ?_
            refine Ev.retI (len := 1) rfl rfl ?_
            first
              | (rw [if_neg (by rintro (h | ⟨h, h'⟩) <;> first | omega | contradiction)]; simp_all; done)
              | (rw [if_pos (by first | exact Or.inl (by omega) | exact Or.inr ⟨by assumption, by assumption⟩)])
          · skip
            refine Ev.n (pc' := 63) 3 rfl ?_
            refine Ev.retI (len := 1) rfl rfl ?_
            first
              | (rw [if_neg (by rintro (h | ⟨h, h'⟩) <;> first | omega | contradiction)]; simp_all; done)
              | (rw [if_pos (by first | exact Or.inl (by omega) | exact Or.inr ⟨by assumption, by assumption⟩)])
        · skip
          refine Ev.n (pc' := 37) 1 rfl ?_
          refine Ev.retI (len := 1) rfl rfl ?_
          first
            | (rw [if_neg (by rintro (h | ⟨h, h'⟩) <;> first | omega | contradiction)]; simp_all; done)
            | (rw [if_pos (by first | exact Or.inl (by omega) | exact Or.inr ⟨by assumption, by assumption⟩)])

theorem c_sparedOf {d : Nat} {M : AM} (a b : Int32) : Ev (d + 8) md_43 0 [some (.int a), some (.int b)] [] (M) (some (.int (if a = -1 then 0 else if (0 : Int32) < a - b then a - b else 0)), M) := by
  refine Ev.n (pc' := 2) 2 rfl ?_
  refine Ev.ic1 (tgt := 9) (len := 3) rfl (fun h2 => ?_) (fun h2 => ?_)
  · skip
    refine Ev.n (pc' := 13) 4 rfl ?_
    refine Ev.bi (len := 3) rfl (by decide) rfl (by omega) ?_
    refine Ev.retI (len := 1) rfl rfl ?_
    simp_all
  · skip
    refine Ev.n (pc' := 16) 2 rfl ?_
    refine Ev.retI (len := 1) rfl rfl ?_
    simp_all

theorem c_laneBit_road {d : Nat} {M : AM} {r : Nat} {ρ : RC} {i : Nat} (hi : i < 12) : Ev (d) md_8 0 [some (.ref (r + 3 + i))] [] (rset M r ρ) (some (.int (if rlk ρ i 1 = 0 then 0 else (1 : Int32) <<< (nI i &&& 31))), rset M r ρ) := by
  refine Ev.n (pc' := 1) 1 rfl ?_
  refine Ev.get (len := 3) rfl (rs_road hi) rfl ?_
  refine Ev.if1 (tgt := 11) (len := 3) rfl (fun h4 => ?_) (fun h4 => ?_)
  · skip
    refine Ev.n (pc' := 13) 2 rfl ?_
    refine Ev.get (len := 3) rfl (rs_road hi) rfl ?_
    refine Ev.n (pc' := 17) 1 rfl ?_
    refine Ev.retI (len := 1) rfl rfl ?_
    simp_all
  · skip
    refine Ev.n (pc' := 17) 2 rfl ?_
    refine Ev.retI (len := 1) rfl rfl ?_
    simp_all

theorem c_laneBit_lane {d : Nat} {M : AM} {r : Nat} {ρ : RC} {i : Nat} (hi : i < 9) : Ev (d) md_8 0 [some (.ref (r + 16 + i))] [] (rset M r ρ) (some (.int (if rlk ρ (12 + i) 1 = 0 then 0 else (1 : Int32) <<< (nI i &&& 31))), rset M r ρ) := by
  refine Ev.n (pc' := 1) 1 rfl ?_
  refine Ev.get (len := 3) rfl (rs_lane hi) rfl ?_
  refine Ev.if1 (tgt := 11) (len := 3) rfl (fun h4 => ?_) (fun h4 => ?_)
  · skip
    refine Ev.n (pc' := 13) 2 rfl ?_
    refine Ev.get (len := 3) rfl (rs_lane hi) rfl ?_
    refine Ev.n (pc' := 17) 1 rfl ?_
    refine Ev.retI (len := 1) rfl rfl ?_
    simp_all
  · skip
    refine Ev.n (pc' := 17) 2 rfl ?_
    refine Ev.retI (len := 1) rfl rfl ?_
    simp_all

theorem c_stopAt {d : Nat} {M : AM} {r : Nat} {ρ : RC} {i : Nat} (hi : i < 10) (x : Int32) : Ev (d) md_69 0 [some (.ref (r + 26 + 2 * i)), some (.int x)] [] (rset M r ρ) (some (.int (if 0 ≤ x.toInt ∧ x.toInt ≤ 6 then rst ρ i x.toNatClampNeg else 0)), rset M r ρ) := by
  refine Ev.n (pc' := 1) 1 rfl ?_
  refine Ev.if2 (tgt := 19) (len := 3) rfl (fun h1 => ?_) (fun h1 => ?_)
  · try simp only [i_lt, i_le, Int32.reduceToInt, Int32.reduceToNatClampNeg] at h1
    refine Ev.n (pc' := 20) 1 rfl ?_
    refine Ev.retI (len := 1) rfl rfl ?_
    first | rw [if_pos (by omega)] | rw [if_neg (by omega)]
  · try simp only [i_lt, i_le, Int32.reduceToInt, Int32.reduceToNatClampNeg] at h1
    refine Ev.n (pc' := 7) 2 rfl ?_
    refine Ev.ic4 (tgt := 19) (len := 3) rfl (fun h7 => ?_) (fun h7 => ?_)
    · try simp only [i_lt, i_le, Int32.reduceToInt, Int32.reduceToNatClampNeg] at h7
      refine Ev.n (pc' := 20) 1 rfl ?_
      refine Ev.retI (len := 1) rfl rfl ?_
      first | rw [if_pos (by omega)] | rw [if_neg (by omega)]
    · try simp only [i_lt, i_le, Int32.reduceToInt, Int32.reduceToNatClampNeg] at h7
      refine Ev.n (pc' := 11) 1 rfl ?_
      refine Ev.get (len := 3) rfl (by first | exact rs_walk hi | exact rs_stops hi) rfl ?_
      refine Ev.n (pc' := 15) 1 rfl ?_
      refine Ev.iald (len := 1) rfl (by first | exact rs_walk hi | exact rs_stops hi) rfl (vin (by omega) (by omega)) ?_
      refine Ev.n (pc' := 20) 1 rfl ?_
      refine Ev.retI (len := 1) rfl rfl ?_
      first | rw [if_pos (by omega)] | rw [if_neg (by omega)]

theorem c_first {d : Nat} {M : AM} {r : Nat} {ρ : RC} (h32 : 32 ≤ r) {i : Nat} (hi : i < 10) : Ev (d + 1) md_71 0 [some (.ref (r + 26 + 2 * i))] [] (rset M r ρ) (some (.int (rst ρ i 0)), rset M r ρ) := by
  refine Ev.n (pc' := 2) 2 rfl ?_
  refine Ev.callV (len := 3) rfl rfl rfl (rs_walk hi) rfl (by omega) rfl (c_stopAt hi _) ?_
  refine Ev.retI (len := 1) rfl rfl ?_
  rfl

theorem c_last {d : Nat} {M : AM} {r : Nat} {ρ : RC} (h32 : 32 ≤ r) {i : Nat} (hi : i < 10) : Ev (d + 1) md_72 0 [some (.ref (r + 26 + 2 * i))] [] (rset M r ρ) (some (.int (if 0 ≤ (rwk ρ i 3).toInt ∧ (rwk ρ i 3).toInt ≤ 6 then rst ρ i (rwk ρ i 3).toNatClampNeg else 0)), rset M r ρ) := by
  refine Ev.n (pc' := 2) 2 rfl ?_
  refine Ev.get (len := 3) rfl (rs_walk hi) rfl ?_
  refine Ev.callV (len := 3) rfl rfl rfl (rs_walk hi) rfl (by omega) rfl (c_stopAt hi _) ?_
  refine Ev.retI (len := 1) rfl rfl ?_
  rfl

theorem c_byRoad {d : Nat} {M : AM} {r : Nat} {ρ : RC} (a b : Nat) (ha : a < 7) (hb : b < 7) : Ev (d + 1) md_34 0 [some (.ref r), some (.int (nI a)), some (.int (nI b)), none] [] (rset M r ρ) (some (.int (if (rds ρ (7 * a + b)).toInt < 1000000 then rds ρ (7 * a + b) else -1)), rset M r ρ) := by
  refine Ev.n (pc' := 1) 1 rfl ?_
  refine Ev.get (len := 3) rfl (by first | exact rs_obj | exact rs_dist) rfl ?_
  refine Ev.n (pc' := 6) 2 rfl ?_
  refine Ev.callS (len := 3) rfl rfl rfl rfl (c_pairOf a b) ?_
  refine Ev.iald (len := 1) rfl (by first | exact rs_obj | exact rs_dist) rfl (vp_in_nI (by omega) (by omega)) ?_
  refine Ev.n (pc' := 14) 3 rfl ?_
  refine Ev.ic3 (tgt := 21) (len := 3) rfl (fun h14 => ?_) (fun h14 => ?_)
  · try simp only [i_lt, i_le, Int32.reduceToInt, Int32.reduceToNatClampNeg] at h14
    refine Ev.n (pc' := 22) 1 rfl ?_
    refine Ev.retI (len := 1) rfl rfl ?_
    rw [nI_clamp (by omega)] at *
    first | rw [if_pos (by omega)] | rw [if_neg (by omega)]
  · try simp only [i_lt, i_le, Int32.reduceToInt, Int32.reduceToNatClampNeg] at h14
    refine Ev.n (pc' := 22) 2 rfl ?_
    refine Ev.retI (len := 1) rfl rfl ?_
    rw [nI_clamp (by omega)] at *
    first | rw [if_pos (by omega)] | rw [if_neg (by omega)]

theorem c_placeIn {d : Nat} {M : AM} (w i : Int32) : Ev (d) md_77 0 [some (.int w), some (.int i)] [] (M) (some (.int ((w >>> (((3 : Int32) * i) &&& 31)) &&& 7)), M) := by
  refine Ev.n (pc' := 8) 7 rfl ?_
  refine Ev.retI (len := 1) rfl rfl ?_
  rfl
end
section
/-! THE KINGDOM as a mathematical value, and how a realm of the class and a slot of the reference hold it.
kh: 0 places, 1 days, 2 roads, 3 lanes, 4 walks, 5 lines, 6 rate, 7 free, 8 time, 9 sunday, 10 load, 11 one more lane is thought of, 12 floods as bits.
kr i: 0 a, 1 b, 2 length. kl i: 0 a, 1 b, 2 length, 3 first, 4 last, 5 sort, 6 watched (lane 8 is the one thought of). kw i: 0 walker, 1 load, 2 day, 3 how many places, 4 + j the places. -/
abbrev KD : Type := (Nat → Nat) × (Nat → Nat → Nat) × (Nat → Nat → Nat) × (Nat → Nat → Nat)
def kh (K : KD) : Nat → Nat := K.1
def kr (K : KD) : Nat → Nat → Nat := K.2.1
def kl (K : KD) : Nat → Nat → Nat := K.2.2.1
def kw (K : KD) : Nat → Nat → Nat := K.2.2.2
/-- the first i from i0 on, of n, with p -/
def fnd (p : Nat → Bool) : Nat → Nat → Option Nat
  | 0, _ => none
  | n + 1, i => if p i = true then some i else fnd p n (i + 1)
def fld {α : Type} (f : α → Nat → α) : Nat → Nat → α → α
  | 0, _, x => x
  | n + 1, i, x => fld f n (i + 1) (f x i)
theorem fnd_lt {p : Nat → Bool} : ∀ {n i j : Nat}, fnd p n i = some j → i ≤ j ∧ j < i + n ∧ p j = true
  | 0, _, _, h => by cases h
  | n + 1, i, j, h => by
    unfold fnd at h
    by_cases hp : p i = true
    · rw [if_pos hp] at h
      cases h
      exact ⟨Nat.le_refl _, by omega, hp⟩
    · rw [if_neg hp] at h
      obtain ⟨h1, h2, h3⟩ := fnd_lt h
      exact ⟨by omega, by omega, h3⟩
/-- a and b are the two places x and y -/
def btw (x y a b : Nat) : Bool := (decide (x = a) && decide (y = b)) || (decide (x = b) && decide (y = a))
def roadK (K : KD) (a b : Nat) : Option Nat := fnd (fun i => btw (kr K i 0) (kr K i 1) a b) (kh K 2) 0
def openK (K : KD) (l d : Nat) : Bool := if kl K l 5 = 2 then true else if kl K l 5 = 1 then !(Nat.testBit (kh K 12) d) else decide (kl K l 3 ≤ d ∧ d ≤ kl K l 4)
/-- what joins: a road's number, or 20 and a lane's -/
def spanJ (K : KD) (j : Nat) : Nat := if j < 20 then kr K j 2 else kl K (j - 20) 2
def shr (K : KD) (cur : Option Nat) (l : Nat) : Bool := match cur with | none => true | some j => decide (kl K l 2 < spanJ K j)
def joinStep (K : KD) (a b d : Nat) (cur : Option Nat) (l : Nat) : Option Nat := if shr K cur l = true ∧ btw (kl K l 0) (kl K l 1) a b = true ∧ openK K l d = true then some (20 + l) else cur
def joinK (K : KD) (a b d : Nat) : Option Nat := (fun c => if kh K 11 = 1 then joinStep K a b d c 8 else c) (fld (joinStep K a b d) (kh K 3) 0 (roadK K a b))
/-- bounds and sense of a kingdom -/
def KOK (K : KD) : Prop := kh K 0 ≤ 7 ∧ kh K 1 ≤ 30 ∧ kh K 2 ≤ 12 ∧ kh K 3 ≤ 8 ∧ kh K 4 ≤ 10 ∧ kh K 5 ≤ 2000 ∧ kh K 6 ≤ 99 ∧ kh K 7 ≤ 99 ∧ kh K 8 ≤ 99 ∧ kh K 9 ≤ 1 ∧ kh K 10 ≤ 1 ∧ kh K 11 ≤ 1 ∧ kh K 12 < 2 ^ 30 ∧ (0 < kh K 5 ↔ 0 < kh K 0)
  ∧ (∀ i, i < kh K 2 → kr K i 0 < kh K 0 ∧ kr K i 1 < kh K 0 ∧ kr K i 0 ≠ kr K i 1 ∧ 1 ≤ kr K i 2 ∧ kr K i 2 ≤ 129)
  ∧ (∀ i, i < kh K 3 ∨ (i = 8 ∧ kh K 11 = 1) → kl K i 0 < kh K 0 ∧ kl K i 1 < kh K 0 ∧ kl K i 0 ≠ kl K i 1 ∧ 1 ≤ kl K i 2 ∧ kl K i 2 ≤ 99 ∧ kl K i 3 ≤ 30 ∧ kl K i 4 ≤ 30 ∧ kl K i 5 ≤ 2 ∧ kl K i 6 ≤ 100)
  ∧ (∀ i, i < kh K 4 → kw K i 0 ≤ 4 ∧ 1 ≤ kw K i 1 ∧ kw K i 1 ≤ 9 ∧ kw K i 2 < kh K 1 ∧ 2 ≤ kw K i 3 ∧ kw K i 3 ≤ 7 ∧ (∀ j, j < kw K i 3 → kw K i (4 + j) < kh K 0) ∧ (∀ j, j + 1 < kw K i 3 → kw K i (4 + j) ≠ kw K i (4 + j + 1)))
  ∧ (∀ i j, i < kh K 2 → j < kh K 2 → btw (kr K i 0) (kr K i 1) (kr K j 0) (kr K j 1) = true → i = j)
def bitsE (a b : Nat) : Int32 := ((1 : Int32) <<< (nI a &&& 31)) ||| ((1 : Int32) <<< (nI b &&& 31))
/-- where the class keeps a lane -/
def phL (K : KD) (l : Nat) : Nat := if l = 8 then kh K 3 else l
def RepC (ρ : RC) (K : KD) : Prop := rhd ρ 0 = nI (kh K 0) ∧ rhd ρ 1 = nI (kh K 1) ∧ rhd ρ 2 = nI (kh K 5) ∧ rhd ρ 3 = nI (kh K 12) ∧ rhd ρ 6 = nI (kh K 2) ∧ rhd ρ 8 = nI (kh K 3 + kh K 11) ∧ rhd ρ 10 = nI (kh K 4)
  ∧ (0 < kh K 0 → ∀ j, j < 5 → rlw ρ j = nI (kh K (6 + j)))
  ∧ (∀ i, i < kh K 2 → rlk ρ i 1 = 0 ∧ rlk ρ i 2 = bitsE (kr K i 0) (kr K i 1) ∧ rlk ρ i 3 = nI (kr K i 2) ∧ rlk ρ i 6 = 0)
  ∧ (∀ l, l < kh K 3 ∨ (l = 8 ∧ kh K 11 = 1) → rlk ρ (12 + phL K l) 1 = nI (kl K l 5 + 1) ∧ rlk ρ (12 + phL K l) 2 = bitsE (kl K l 0) (kl K l 1) ∧ rlk ρ (12 + phL K l) 3 = nI (kl K l 2) ∧ rlk ρ (12 + phL K l) 4 = nI (kl K l 3) ∧ rlk ρ (12 + phL K l) 5 = nI (kl K l 4) ∧ rlk ρ (12 + phL K l) 6 = nI (kl K l 6))
  ∧ (∀ i, i < kh K 4 → rwk ρ i 0 = nI (kw K i 0) ∧ rwk ρ i 1 = nI (kw K i 1) ∧ rwk ρ i 2 = nI (kw K i 2) ∧ rwk ρ i 3 = nI (kw K i 3 - 1) ∧ ∀ j, j < kw K i 3 → rst ρ i j = nI (kw K i (4 + j)))
/-- slot s of the reference holds K (lane 8 only in slot 0, where it may be thought of) -/
def RepM (σ : MS) (s : Nat) (K : KD) : Prop := (∀ j, j < 5 → σ.2.2.1 6 (5 * s + j) = nI (kh K j)) ∧ (0 < kh K 0 → ∀ j, j < 5 → σ.2.2.1 7 (5 * s + j) = nI (kh K (6 + j))) ∧ σ.2.2.1 5 s = nI (kh K 5) ∧ σ.2.2.2 8 s = lN (kh K 12)
  ∧ (∀ i, i < kh K 2 → ∀ j, j < 3 → σ.2.2.1 9 (36 * s + 3 * i + j) = nI (kr K i j))
  ∧ (∀ i, i < kh K 3 ∨ (i = 8 ∧ kh K 11 = 1) → ∀ j, j < 7 → σ.2.2.1 10 (63 * s + 7 * i + j) = nI (kl K i j))
  ∧ (∀ i, i < kh K 4 → (∀ j, j < 4 → σ.2.2.1 11 (110 * s + 11 * i + j) = nI (kw K i j)) ∧ ∀ j, j < kw K i 3 → σ.2.2.1 11 (110 * s + 11 * i + 4 + j) = nI (kw K i (4 + j)))
theorem bitsE_tab : (List.range 7).all (fun a => (List.range 7).all fun b => (List.range 7).all fun c => (List.range 7).all fun d => (a == b) || (decide (bitsE a b = bitsE c d) == btw a b c d)) = true := by decide +kernel
theorem bitsE_eq {a b c d : Nat} (ha : a < 7) (hb : b < 7) (hc : c < 7) (hd : d < 7) (hab : a ≠ b) : bitsE a b = bitsE c d ↔ btw a b c d = true := by
  have h := List.all_eq_true.mp (List.all_eq_true.mp (List.all_eq_true.mp (List.all_eq_true.mp bitsE_tab a (List.mem_range.mpr ha)) b (List.mem_range.mpr hb)) c (List.mem_range.mpr hc)) d (List.mem_range.mpr hd)
  rw [Bool.or_eq_true] at h
  rcases h with h | h
  · exact absurd (by simpa using h) hab
  · have h2 : decide (bitsE a b = bitsE c d) = btw a b c d := by simpa using h
    rw [← h2]
    exact (decide_eq_true_iff).symm
end
section
/-! RUNS WITH A POSTCONDITION. -/
def Wp (d : Nat) (X : MD) (pc : Nat) (l : AL) (st : List Value) (M : AM) (Q : Option Value → AM → Prop) : Prop := ∃ v M', Ev d X pc l st M (v, M') ∧ Q v M'
/-- the memory M holds the realm ρ at r -/
def RA (M : AM) (r : Nat) (ρ : RC) : Prop := rset M r ρ = M
section WP
variable {d : Nat} {X : MD} {pc len : Nat} {l : AL} {st : List Value} {M : AM} {Q : Option Value → AM → Prop} {a b : Nat} {v : Value}
theorem Wp.of {d' : Nat} {X' : MD} {pc' : Nat} {l' : AL} {st' : List Value} {M' : AM} (f : ∀ r, Ev d' X' pc' l' st' M' r → Ev d X pc l st M r) (h : Wp d' X' pc' l' st' M' Q) : Wp d X pc l st M Q := by
  obtain ⟨v, M', h1, h2⟩ := h
  exact ⟨v, M', f _ h1, h2⟩
theorem Wp.ev {w : Option Value} {M' : AM} (h : Ev d X pc l st M (w, M')) (q : Q w M') : Wp d X pc l st M Q := ⟨w, M', h, q⟩
theorem Wp.mono {Q' : Option Value → AM → Prop} (h : Wp d X pc l st M Q') (q : ∀ w M', Q' w M' → Q w M') : Wp d X pc l st M Q := by
  obtain ⟨v, M', h1, h2⟩ := h
  exact ⟨v, M', h1, q _ _ h2⟩
theorem Wp.s {pc' : Nat} {l' : AL} {st' : List Value} {M' : AM} (hs : sstep swl X pc l st M = some (pc', l', st', M')) (k : Wp d X pc' l' st' M' Q) : Wp d X pc l st M Q := Wp.of (fun _ => Ev.s hs) k
theorem Wp.n (k : Nat) {pc' : Nat} {l' : AL} {st' : List Value} {M' : AM} (h : sn k X pc l st M = some (pc', l', st', M')) (e : Wp d X pc' l' st' M' Q) : Wp d X pc l st M Q := Wp.of (fun _ => Ev.n k h) e
theorem Wp.retI {x : Int32} (hc : cdx X pc = some (.inr (.inl .ireturn), len)) (ht : md_r X = 1) (h : Q (some (.int x)) M) : Wp d X pc l [.int x] M Q := ⟨_, _, Ev.retI hc ht rfl, h⟩
theorem Wp.retZ {x : Int32} {c : Bool} (hc : cdx X pc = some (.inr (.inl .ireturn), len)) (ht : md_r X = 2) (e : bI c = x) (h : Q (some (.int (bI c))) M) : Wp d X pc l [.int x] M Q := ⟨_, _, Ev.retZ hc ht e, h⟩
theorem Wp.retL {x : Int64} (hc : cdx X pc = some (.inr (.inl .lreturn), len)) (ht : md_r X = 3) (h : Q (some (.long x)) M) : Wp d X pc l [.long x] M Q := ⟨_, _, Ev.retL hc ht rfl, h⟩
theorem Wp.retV (hc : cdx X pc = some (.inr (.inl .return_), len)) (ht : md_r X = 0) (h : Q none M) : Wp d X pc l [] M Q := ⟨_, _, Ev.retV hc ht rfl, h⟩
theorem Wp.retR {x : Nat} (hc : cdx X pc = some (.inr (.inl .areturn), len)) (ht : md_r X = 4) (h : Q (some (.ref x)) M) : Wp d X pc l [.ref x] M Q := ⟨_, _, Ev.retR hc ht rfl, h⟩
theorem Wp.retN (hc : cdx X pc = some (.inr (.inl .areturn), len)) (ht : md_r X = 4) (h : Q (some .null) M) : Wp d X pc l [.null] M Q := ⟨_, _, Ev.retN hc ht, h⟩
-- calls
theorem Wp.callS {Y : MD} {Q' : Option Value → AM → Prop} (hc : cdx X pc = some (.inr (.inr (4, a, b, v)), len)) (hm : mt a = some Y) (hb : (Nat.ble b st.length && rok (st.drop b)) = true) (hw : Nat.ble (wsum ((st.take b).reverse)) (md_L Y) = true) (hr : Wp d Y 0 (ent ((st.take b).reverse) (md_L Y)) [] M Q') (k : ∀ rv M', Q' rv M' → Wp (d + 1) X (pc + len) l (rv.toList ++ st.drop b) M' Q) : Wp (d + 1) X pc l st M Q := by
  obtain ⟨w, M', h1, h2⟩ := hr
  exact Wp.of (fun _ => Ev.callS hc hm hb hw h1) (k w M' h2)
theorem Wp.callV {Y : MD} {Q' : Option Value → AM → Prop} {k ci : Nat} {fs rest : List Value} (hc : cdx X pc = some (.inr (.inr (5, a, b, v)), len)) (hm : mt a = some Y) (hd : st.drop b = .ref k :: rest) (hM : M k = .inr (ci, fs)) (hb : (Nat.beq ci (md_o Y) && rok rest) = true) (h32 : 32 ≤ k) (hw : Nat.ble (wsum (.ref k :: (st.take b).reverse)) (md_L Y) = true) (hr : Wp d Y 0 (ent (.ref k :: (st.take b).reverse) (md_L Y)) [] M Q') (k : ∀ rv M', Q' rv M' → Wp (d + 1) X (pc + len) l (rv.toList ++ rest) M' Q) : Wp (d + 1) X pc l st M Q := by
  obtain ⟨w, M', h1, h2⟩ := hr
  exact Wp.of (fun _ => Ev.callV hc hm hd hM hb h32 hw h1) (k w M' h2)
theorem Wp.callI {Y : MD} {Q' : Option Value → AM → Prop} {k : Nat} {rest : List Value} (hc : cdx X pc = some (.inr (.inr (6, a, b, v)), len)) (hm : mt a = some Y) (hd : st.drop b = .ref k :: rest) (hb : rok rest = true) (hw : Nat.ble (wsum (.ref k :: (st.take b).reverse)) (md_L Y) = true) (hr : Wp d Y 0 (ent (.ref k :: (st.take b).reverse) (md_L Y)) [] M Q') (k : ∀ rv M', Q' rv M' → Wp (d + 1) X (pc + len) l (rv.toList ++ rest) M' Q) : Wp (d + 1) X pc l st M Q := by
  obtain ⟨w, M', h1, h2⟩ := hr
  exact Wp.of (fun _ => Ev.callI hc hm hd hb hw h1) (k w M' h2)
theorem Wp.ecallS {Y : MD} {rv : Option Value} {M' : AM} (hc : cdx X pc = some (.inr (.inr (4, a, b, v)), len)) (hm : mt a = some Y) (hb : (Nat.ble b st.length && rok (st.drop b)) = true) (hw : Nat.ble (wsum ((st.take b).reverse)) (md_L Y) = true) (hr : Ev d Y 0 (ent ((st.take b).reverse) (md_L Y)) [] M (rv, M')) (k : Wp (d + 1) X (pc + len) l (rv.toList ++ st.drop b) M' Q) : Wp (d + 1) X pc l st M Q := Wp.of (fun _ => Ev.callS hc hm hb hw hr) k
theorem Wp.ecallV {Y : MD} {rv : Option Value} {M' : AM} {k ci : Nat} {fs rest : List Value} (hc : cdx X pc = some (.inr (.inr (5, a, b, v)), len)) (hm : mt a = some Y) (hd : st.drop b = .ref k :: rest) (hM : M k = .inr (ci, fs)) (hb : (Nat.beq ci (md_o Y) && rok rest) = true) (h32 : 32 ≤ k) (hw : Nat.ble (wsum (.ref k :: (st.take b).reverse)) (md_L Y) = true) (hr : Ev d Y 0 (ent (.ref k :: (st.take b).reverse) (md_L Y)) [] M (rv, M')) (k : Wp (d + 1) X (pc + len) l (rv.toList ++ rest) M' Q) : Wp (d + 1) X pc l st M Q := Wp.of (fun _ => Ev.callV hc hm hd hM hb h32 hw hr) k
theorem Wp.ecallI {Y : MD} {rv : Option Value} {M' : AM} {k : Nat} {rest : List Value} (hc : cdx X pc = some (.inr (.inr (6, a, b, v)), len)) (hm : mt a = some Y) (hd : st.drop b = .ref k :: rest) (hb : rok rest = true) (hw : Nat.ble (wsum (.ref k :: (st.take b).reverse)) (md_L Y) = true) (hr : Ev d Y 0 (ent (.ref k :: (st.take b).reverse) (md_L Y)) [] M (rv, M')) (k : Wp (d + 1) X (pc + len) l (rv.toList ++ rest) M' Q) : Wp (d + 1) X pc l st M Q := Wp.of (fun _ => Ev.callI hc hm hd hb hw hr) k
theorem Wp.bi {op : Nat} {st' : List Value} {M' : AM} (hc : cdx X pc = some (.inr (.inr (op, a, b, v)), len)) (ho : op = 7 ∨ op = 8 ∨ op = 9 ∨ op = 10 ∨ op = 11 ∨ op = 12) (hb : bstep op st M = some (st', M')) (hd : 8 ≤ d) (k : Wp d X (pc + len) l st' M' Q) : Wp d X pc l st M Q := Wp.of (fun _ => Ev.bi hc ho hb hd) k
-- memory
theorem Wp.get {k : Nat} {fs : List Value} {w : Value} (hc : cdx X pc = some (.inr (.inr (0, a, b, v)), len)) (hM : M k = .inr (a, fs)) (hv : gv fs b = some w) (h : Wp d X (pc + len) l (w :: st) M Q) : Wp d X pc l (.ref k :: st) M Q := Wp.of (fun _ => Ev.get hc hM hv) h
theorem Wp.put {k : Nat} {fs : List Value} {w : Value} (hc : cdx X pc = some (.inr (.inr (1, a, b, v)), len)) (hM : M k = .inr (a, fs)) (hok : (Nat.blt b fs.length && pfit (fcode a b) w && (bif (fTX a b).2.2.2 then md_i X && Nat.beq (md_o X) a else true)) = true) (h : Wp d X (pc + len) l st (va_up M k (.inr (a, fs.set b w))) Q) : Wp d X pc l (w :: .ref k :: st) M Q := Wp.of (fun _ => Ev.put hc hM hok) h
theorem Wp.iald {k n t : Nat} {f : Nat → Int32} {j : Int32} (hc : cdx X pc = some (.inr (.inl .iaload), len)) (hM : M k = .inl (t, n, .inl f)) (ht : (Nat.beq t 0 || Nat.beq t 7) = true) (hj : vp_in j n) (h : Wp d X (pc + len) l (.int (f j.toNatClampNeg) :: st) M Q) : Wp d X pc l (.int j :: .ref k :: st) M Q := Wp.of (fun _ => Ev.iald hc hM ht hj) h
theorem Wp.bald {k n t : Nat} {f : Nat → Int32} {j : Int32} (hc : cdx X pc = some (.inr (.inl .baload), len)) (hM : M k = .inl (t, n, .inl f)) (ht : (Nat.beq t 2 || Nat.beq t 3) = true) (hj : vp_in j n) (h : Wp d X (pc + len) l (.int (f j.toNatClampNeg) :: st) M Q) : Wp d X pc l (.int j :: .ref k :: st) M Q := Wp.of (fun _ => Ev.bald hc hM ht hj) h
theorem Wp.lald {k n : Nat} {f : Nat → Int64} {j : Int32} (hc : cdx X pc = some (.inr (.inl .laload), len)) (hM : M k = .inl (1, n, .inr (.inl f))) (hj : vp_in j n) (h : Wp d X (pc + len) l (.long (f j.toNatClampNeg) :: st) M Q) : Wp d X pc l (.int j :: .ref k :: st) M Q := Wp.of (fun _ => Ev.lald hc hM hj) h
theorem Wp.aald {k n t : Nat} {f : Nat → Option Nat} {j : Int32} (hc : cdx X pc = some (.inr (.inl .aaload), len)) (hM : M k = .inl (t, n, .inr (.inr (.inr (.inr f))))) (ht : (Nat.ble 4 t && Nat.ble t 6) = true) (hj : vp_in j n) (h : Wp d X (pc + len) l (va_rf (f j.toNatClampNeg) :: st) M Q) : Wp d X pc l (.int j :: .ref k :: st) M Q := Wp.of (fun _ => Ev.aald hc hM ht hj) h
theorem Wp.iast {k n : Nat} {f : Nat → Int32} {j x : Int32} (hc : cdx X pc = some (.inr (.inl .iastore), len)) (hM : M k = .inl (0, n, .inl f)) (hj : vp_in j n) (h : Wp d X (pc + len) l st (va_up M k (.inl (0, n, .inl (upd f j.toNatClampNeg x)))) Q) : Wp d X pc l (.int x :: .int j :: .ref k :: st) M Q := Wp.of (fun _ => Ev.iast hc hM hj) h
theorem Wp.bast {k n t : Nat} {f : Nat → Int32} {j x : Int32} (hc : cdx X pc = some (.inr (.inl .bastore), len)) (hM : M k = .inl (t, n, .inl f)) (ht : (Nat.beq t 2 || Nat.beq t 3) = true) (hj : vp_in j n) (h : Wp d X (pc + len) l st (va_up M k (.inl (t, n, .inl (upd f j.toNatClampNeg (anar t x))))) Q) : Wp d X pc l (.int x :: .int j :: .ref k :: st) M Q := Wp.of (fun _ => Ev.bast hc hM ht hj) h
theorem Wp.last {k n : Nat} {f : Nat → Int64} {j : Int32} {x : Int64} (hc : cdx X pc = some (.inr (.inl .lastore), len)) (hM : M k = .inl (1, n, .inr (.inl f))) (hj : vp_in j n) (h : Wp d X (pc + len) l st (va_up M k (.inl (1, n, .inr (.inl (vp_updL f j.toNatClampNeg x))))) Q) : Wp d X pc l (.long x :: .int j :: .ref k :: st) M Q := Wp.of (fun _ => Ev.last hc hM hj) h
-- branches
theorem Wp.br1 (c : Nat) {x : Int32} {tgt : Nat} (hc : cdx X pc = some (.inr (.inr (c + 20, tgt, b, v)), len)) (h5 : Nat.ble c 5 = true) (h : Wp d X (bif jb c x 0 then tgt else pc + len) l st M Q) : Wp d X pc l (.int x :: st) M Q := Wp.of (fun _ => Ev.br1 c hc h5) h
theorem Wp.br2 (c : Nat) {x y : Int32} {tgt : Nat} (hc : cdx X pc = some (.inr (.inr (c + 26, tgt, b, v)), len)) (h5 : Nat.ble c 5 = true) (h : Wp d X (bif jb c x y then tgt else pc + len) l st M Q) : Wp d X pc l (.int y :: .int x :: st) M Q := Wp.of (fun _ => Ev.br2 c hc h5) h
theorem Wp.cond {c : Bool} {p : Prop} {t f : Nat} (hp : c = true ↔ p) (kt : p → Wp d X t l st M Q) (kf : ¬ p → Wp d X f l st M Q) : Wp d X (bif c then t else f) l st M Q := by
  cases hq : c with
  | true => exact kt (hp.mp hq)
  | false => exact kf (fun q => by rw [hp.mpr q] at hq; cases hq)
theorem Wp.if0 {x : Int32} {tgt : Nat} (hc : cdx X pc = some (.inr (.inr (20, tgt, b, v)), len)) (kt : x = 0 → Wp d X tgt l st M Q) (kf : ¬ x = 0 → Wp d X (pc + len) l st M Q) : Wp d X pc l (.int x :: st) M Q := Wp.br1 0 hc rfl (Wp.cond (p := x = 0) (by simp [jb]) kt kf)
theorem Wp.if1 {x : Int32} {tgt : Nat} (hc : cdx X pc = some (.inr (.inr (21, tgt, b, v)), len)) (kt : ¬ x = 0 → Wp d X tgt l st M Q) (kf : x = 0 → Wp d X (pc + len) l st M Q) : Wp d X pc l (.int x :: st) M Q := Wp.br1 1 hc rfl (Wp.cond (p := ¬ x = 0) (by simp [jb]) kt (fun h => kf (Decidable.not_not.mp h)))
theorem Wp.if2 {x : Int32} {tgt : Nat} (hc : cdx X pc = some (.inr (.inr (22, tgt, b, v)), len)) (kt : x < 0 → Wp d X tgt l st M Q) (kf : ¬ x < 0 → Wp d X (pc + len) l st M Q) : Wp d X pc l (.int x :: st) M Q := Wp.br1 2 hc rfl (Wp.cond (p := x < 0) (by simp [jb]) kt kf)
theorem Wp.if3 {x : Int32} {tgt : Nat} (hc : cdx X pc = some (.inr (.inr (23, tgt, b, v)), len)) (kt : 0 ≤ x → Wp d X tgt l st M Q) (kf : ¬ 0 ≤ x → Wp d X (pc + len) l st M Q) : Wp d X pc l (.int x :: st) M Q := Wp.br1 3 hc rfl (Wp.cond (p := 0 ≤ x) (by simp [jb]) kt kf)
theorem Wp.if4 {x : Int32} {tgt : Nat} (hc : cdx X pc = some (.inr (.inr (24, tgt, b, v)), len)) (kt : 0 < x → Wp d X tgt l st M Q) (kf : ¬ 0 < x → Wp d X (pc + len) l st M Q) : Wp d X pc l (.int x :: st) M Q := Wp.br1 4 hc rfl (Wp.cond (p := 0 < x) (by simp [jb]) kt kf)
theorem Wp.if5 {x : Int32} {tgt : Nat} (hc : cdx X pc = some (.inr (.inr (25, tgt, b, v)), len)) (kt : x ≤ 0 → Wp d X tgt l st M Q) (kf : ¬ x ≤ 0 → Wp d X (pc + len) l st M Q) : Wp d X pc l (.int x :: st) M Q := Wp.br1 5 hc rfl (Wp.cond (p := x ≤ 0) (by simp [jb]) kt kf)
theorem Wp.ic0 {x y : Int32} {tgt : Nat} (hc : cdx X pc = some (.inr (.inr (26, tgt, b, v)), len)) (kt : x = y → Wp d X tgt l st M Q) (kf : ¬ x = y → Wp d X (pc + len) l st M Q) : Wp d X pc l (.int y :: .int x :: st) M Q := Wp.br2 0 hc rfl (Wp.cond (p := x = y) (by simp [jb]) kt kf)
theorem Wp.ic1 {x y : Int32} {tgt : Nat} (hc : cdx X pc = some (.inr (.inr (27, tgt, b, v)), len)) (kt : ¬ x = y → Wp d X tgt l st M Q) (kf : x = y → Wp d X (pc + len) l st M Q) : Wp d X pc l (.int y :: .int x :: st) M Q := Wp.br2 1 hc rfl (Wp.cond (p := ¬ x = y) (by simp [jb]) kt (fun h => kf (Decidable.not_not.mp h)))
theorem Wp.ic2 {x y : Int32} {tgt : Nat} (hc : cdx X pc = some (.inr (.inr (28, tgt, b, v)), len)) (kt : x < y → Wp d X tgt l st M Q) (kf : ¬ x < y → Wp d X (pc + len) l st M Q) : Wp d X pc l (.int y :: .int x :: st) M Q := Wp.br2 2 hc rfl (Wp.cond (p := x < y) (by simp [jb]) kt kf)
theorem Wp.ic3 {x y : Int32} {tgt : Nat} (hc : cdx X pc = some (.inr (.inr (29, tgt, b, v)), len)) (kt : y ≤ x → Wp d X tgt l st M Q) (kf : ¬ y ≤ x → Wp d X (pc + len) l st M Q) : Wp d X pc l (.int y :: .int x :: st) M Q := Wp.br2 3 hc rfl (Wp.cond (p := y ≤ x) (by simp [jb]) kt kf)
theorem Wp.ic4 {x y : Int32} {tgt : Nat} (hc : cdx X pc = some (.inr (.inr (30, tgt, b, v)), len)) (kt : y < x → Wp d X tgt l st M Q) (kf : ¬ y < x → Wp d X (pc + len) l st M Q) : Wp d X pc l (.int y :: .int x :: st) M Q := Wp.br2 4 hc rfl (Wp.cond (p := y < x) (by simp [jb]) kt kf)
theorem Wp.ic5 {x y : Int32} {tgt : Nat} (hc : cdx X pc = some (.inr (.inr (31, tgt, b, v)), len)) (kt : x ≤ y → Wp d X tgt l st M Q) (kf : ¬ x ≤ y → Wp d X (pc + len) l st M Q) : Wp d X pc l (.int y :: .int x :: st) M Q := Wp.br2 5 hc rfl (Wp.cond (p := x ≤ y) (by simp [jb]) kt kf)
theorem Wp.ifb0 {c : Bool} {tgt : Nat} (hc : cdx X pc = some (.inr (.inr (20, tgt, b, v)), len)) (kt : c = false → Wp d X tgt l st M Q) (kf : c = true → Wp d X (pc + len) l st M Q) : Wp d X pc l (.int (bI c) :: st) M Q := by
  refine Wp.if0 hc (fun h => kt ?_) (fun h => kf ?_)
  · cases c with
    | false => rfl
    | true => exact absurd h (by decide)
  · cases c with
    | true => rfl
    | false => exact absurd rfl h
theorem Wp.ifb1 {c : Bool} {tgt : Nat} (hc : cdx X pc = some (.inr (.inr (21, tgt, b, v)), len)) (kt : c = true → Wp d X tgt l st M Q) (kf : c = false → Wp d X (pc + len) l st M Q) : Wp d X pc l (.int (bI c) :: st) M Q := by
  refine Wp.if1 hc (fun h => kt ?_) (fun h => kf ?_)
  · cases c with
    | true => rfl
    | false => exact absurd rfl h
  · cases c with
    | false => rfl
    | true => exact absurd h (by decide)
-- the reference
variable {σ : MS}
theorem Wp.mput {j : Nat} {x : Int32} (hc : cdx X pc = some (.inr (.inr (1, 10, j, v)), len)) (hj : mint j = true) (h : Wp d X (pc + len) l st (mset M (fset σ j x)) Q) : Wp d X pc l (.int x :: .ref 287 :: st) (mset M σ) Q := Wp.of (fun _ => Ev.mput hc hj) h
theorem Wp.mputZ {j : Nat} {x : Int32} (hc : cdx X pc = some (.inr (.inr (1, 10, j, v)), len)) (hj : mboo j = true) (hx : (x == 0 || x == 1) = true) (h : Wp d X (pc + len) l st (mset M (fset σ j x)) Q) : Wp d X pc l (.int x :: .ref 287 :: st) (mset M σ) Q := Wp.of (fun _ => Ev.mputZ hc hj hx) h
theorem Wp.mputJ {x : Int64} (hc : cdx X pc = some (.inr (.inr (1, 10, 11, v)), len)) (h : Wp d X (pc + len) l st (mset M (jset σ x)) Q) : Wp d X pc l (.long x :: .ref 287 :: st) (mset M σ) Q := Wp.of (fun _ => Ev.mputJ hc) h
theorem Wp.mput0 (hc : cdx X pc = some (.inr (.inr (1, 10, 0, v)), len)) (h0 : σ.1 0 = 0) (h : Wp d X (pc + len) l st (mset M σ) Q) : Wp d X pc l (.int 0 :: .ref 287 :: st) (mset M σ) Q := Wp.of (fun _ => Ev.mput0 hc h0) h
theorem Wp.miald {k n : Nat} {i : Int32} (hc : cdx X pc = some (.inr (.inl .iaload), len)) (hk : mtl_ k = (0, n)) (hn : n ≠ 0) (hi : vp_in i n) (h : Wp d X (pc + len) l (.int (σ.2.2.1 k i.toNatClampNeg) :: st) (mset M σ) Q) : Wp d X pc l (.int i :: .ref (k + 288) :: st) (mset M σ) Q := Wp.of (fun _ => Ev.miald hc hk hn hi) h
theorem Wp.miast {k n : Nat} {i x : Int32} (hc : cdx X pc = some (.inr (.inl .iastore), len)) (hk : mtl_ k = (0, n)) (hn : n ≠ 0) (hi : vp_in i n) (h : Wp d X (pc + len) l st (mset M (aset σ k (upd (σ.2.2.1 k) i.toNatClampNeg x))) Q) : Wp d X pc l (.int x :: .int i :: .ref (k + 288) :: st) (mset M σ) Q := Wp.of (fun _ => Ev.miast hc hk hn hi) h
theorem Wp.mlald {k n : Nat} {i : Int32} (hc : cdx X pc = some (.inr (.inl .laload), len)) (hk : mtl_ k = (1, n)) (hi : vp_in i n) (h : Wp d X (pc + len) l (.long (σ.2.2.2 k i.toNatClampNeg) :: st) (mset M σ) Q) : Wp d X pc l (.int i :: .ref (k + 288) :: st) (mset M σ) Q := Wp.of (fun _ => Ev.mlald hc hk hi) h
theorem Wp.mlast {k n : Nat} {i : Int32} {x : Int64} (hc : cdx X pc = some (.inr (.inl .lastore), len)) (hk : mtl_ k = (1, n)) (hi : vp_in i n) (h : Wp d X (pc + len) l st (mset M (lset σ k (vp_updL (σ.2.2.2 k) i.toNatClampNeg x))) Q) : Wp d X pc l (.long x :: .int i :: .ref (k + 288) :: st) (mset M σ) Q := Wp.of (fun _ => Ev.mlast hc hk hi) h
end WP
end
section
/-! RULES IN NATURALS: what lies on the stack is nI of a natural. -/
theorem n_sub {a b : Nat} (h : b ≤ a) : nI a - nI b = nI (a - b) := pk_sub h
section NR
variable {d : Nat} {X : MD} {pc len : Nat} {l : AL} {st : List Value} {M : AM} {Q : Option Value → AM → Prop} {a b : Nat} {v : Value}
theorem Wp.top {x y : Int32} (h : x = y) (k : Wp d X pc l (.int y :: st) M Q) : Wp d X pc l (.int x :: st) M Q := h ▸ k
theorem Wp.topL {x y : Int64} (h : x = y) (k : Wp d X pc l (.long y :: st) M Q) : Wp d X pc l (.long x :: st) M Q := h ▸ k
theorem Wp.iaddN {x y : Nat} (hc : cdx X pc = some (.inr (.inl .iadd), len)) (k : Wp d X (pc + len) l (.int (nI (x + y)) :: st) M Q) : Wp d X pc l (.int (nI y) :: .int (nI x) :: st) M Q := by
  refine Wp.s (pc' := pc + len) (l' := l) (st' := .int (nI x + nI y) :: st) (M' := M) ?_ (Wp.top (nI_add x y) k)
  unfold sstep
  rw [hc]
  rfl
theorem Wp.imulN {x y : Nat} (hc : cdx X pc = some (.inr (.inl .imul), len)) (k : Wp d X (pc + len) l (.int (nI (x * y)) :: st) M Q) : Wp d X pc l (.int (nI y) :: .int (nI x) :: st) M Q := by
  refine Wp.s (pc' := pc + len) (l' := l) (st' := .int (nI x * nI y) :: st) (M' := M) ?_ (Wp.top (pk_mul x y) k)
  unfold sstep
  rw [hc]
  rfl
theorem Wp.isubN {x y : Nat} (hc : cdx X pc = some (.inr (.inl .isub), len)) (h : y ≤ x) (k : Wp d X (pc + len) l (.int (nI (x - y)) :: st) M Q) : Wp d X pc l (.int (nI y) :: .int (nI x) :: st) M Q := by
  refine Wp.s (pc' := pc + len) (l' := l) (st' := .int (nI x - nI y) :: st) (M' := M) ?_ (Wp.top (pk_sub h) k)
  unfold sstep
  rw [hc]
  rfl
theorem Wp.incN {x : Nat} (hc : cdx X pc = some (.inr (.inr (46, a, b, .int 1)), len)) (hg : gl l a = some (.int (nI x))) (k : Wp d X (pc + len) (st1 l a (.int (nI (x + 1)))) st M Q) : Wp d X pc l st M Q := by
  refine Wp.s (pc' := pc + len) (l' := st1 l a (.int (nI x + 1))) (st' := st) (M' := M) ?_ (by rw [nI_1]; exact k)
  unfold sstep
  rw [hc]
  show (match gl l a, (Value.int 1) with | some (.int x), .int y => _ | _, _ => _) = _
  rw [hg]
-- compared
theorem Wp.nc0 {x y tgt : Nat} (hc : cdx X pc = some (.inr (.inr (26, tgt, b, v)), len)) (hx : x < 2 ^ 31) (hy : y < 2 ^ 31) (kt : x = y → Wp d X tgt l st M Q) (kf : x ≠ y → Wp d X (pc + len) l st M Q) : Wp d X pc l (.int (nI y) :: .int (nI x) :: st) M Q := Wp.ic0 hc (fun h => kt ((nI_eq hx hy).mp h)) (fun h => kf (fun q => h (q ▸ rfl)))
theorem Wp.nc1 {x y tgt : Nat} (hc : cdx X pc = some (.inr (.inr (27, tgt, b, v)), len)) (hx : x < 2 ^ 31) (hy : y < 2 ^ 31) (kt : x ≠ y → Wp d X tgt l st M Q) (kf : x = y → Wp d X (pc + len) l st M Q) : Wp d X pc l (.int (nI y) :: .int (nI x) :: st) M Q := Wp.ic1 hc (fun h => kt (fun q => h (q ▸ rfl))) (fun h => kf ((nI_eq hx hy).mp h))
theorem Wp.nc2 {x y tgt : Nat} (hc : cdx X pc = some (.inr (.inr (28, tgt, b, v)), len)) (hx : x < 2 ^ 31) (hy : y < 2 ^ 31) (kt : x < y → Wp d X tgt l st M Q) (kf : y ≤ x → Wp d X (pc + len) l st M Q) : Wp d X pc l (.int (nI y) :: .int (nI x) :: st) M Q := Wp.ic2 hc (fun h => kt ((nI_ltI hx hy).mp h)) (fun h => kf (Nat.not_lt.mp (fun q => h ((nI_ltI hx hy).mpr q))))
theorem Wp.nc3 {x y tgt : Nat} (hc : cdx X pc = some (.inr (.inr (29, tgt, b, v)), len)) (hx : x < 2 ^ 31) (hy : y < 2 ^ 31) (kt : y ≤ x → Wp d X tgt l st M Q) (kf : x < y → Wp d X (pc + len) l st M Q) : Wp d X pc l (.int (nI y) :: .int (nI x) :: st) M Q := Wp.ic3 hc (fun h => kt ((nI_leI hy hx).mp h)) (fun h => kf (Nat.not_le.mp (fun q => h ((nI_leI hy hx).mpr q))))
theorem Wp.nc4 {x y tgt : Nat} (hc : cdx X pc = some (.inr (.inr (30, tgt, b, v)), len)) (hx : x < 2 ^ 31) (hy : y < 2 ^ 31) (kt : y < x → Wp d X tgt l st M Q) (kf : x ≤ y → Wp d X (pc + len) l st M Q) : Wp d X pc l (.int (nI y) :: .int (nI x) :: st) M Q := Wp.ic4 hc (fun h => kt ((nI_ltI hy hx).mp h)) (fun h => kf (Nat.not_lt.mp (fun q => h ((nI_ltI hy hx).mpr q))))
theorem Wp.nc5 {x y tgt : Nat} (hc : cdx X pc = some (.inr (.inr (31, tgt, b, v)), len)) (hx : x < 2 ^ 31) (hy : y < 2 ^ 31) (kt : x ≤ y → Wp d X tgt l st M Q) (kf : y < x → Wp d X (pc + len) l st M Q) : Wp d X pc l (.int (nI y) :: .int (nI x) :: st) M Q := Wp.ic5 hc (fun h => kt ((nI_leI hx hy).mp h)) (fun h => kf (Nat.not_le.mp (fun q => h ((nI_leI hx hy).mpr q))))
theorem Wp.nz0 {x tgt : Nat} (hc : cdx X pc = some (.inr (.inr (20, tgt, b, v)), len)) (hx : x < 2 ^ 31) (kt : x = 0 → Wp d X tgt l st M Q) (kf : x ≠ 0 → Wp d X (pc + len) l st M Q) : Wp d X pc l (.int (nI x) :: st) M Q := Wp.if0 hc (fun h => kt ((nI_eq (b := 0) hx (by decide)).mp h)) (fun h => kf (fun q => h (by rw [q]; rfl)))
theorem Wp.nz1 {x tgt : Nat} (hc : cdx X pc = some (.inr (.inr (21, tgt, b, v)), len)) (hx : x < 2 ^ 31) (kt : x ≠ 0 → Wp d X tgt l st M Q) (kf : x = 0 → Wp d X (pc + len) l st M Q) : Wp d X pc l (.int (nI x) :: st) M Q := Wp.if1 hc (fun h => kt (fun q => h (by rw [q]; rfl))) (fun h => kf ((nI_eq (b := 0) hx (by decide)).mp h))
theorem Wp.nz2 {x tgt : Nat} (hc : cdx X pc = some (.inr (.inr (22, tgt, b, v)), len)) (hx : x < 2 ^ 31) (kf : Wp d X (pc + len) l st M Q) : Wp d X pc l (.int (nI x) :: st) M Q := Wp.if2 hc (fun h => absurd h (nI_pos hx)) (fun _ => kf)
theorem Wp.nz3 {x tgt : Nat} (hc : cdx X pc = some (.inr (.inr (23, tgt, b, v)), len)) (hx : x < 2 ^ 31) (kf : Wp d X tgt l st M Q) : Wp d X pc l (.int (nI x) :: st) M Q := Wp.if3 hc (fun _ => kf) (fun h => absurd (nI_pos' hx) h)
theorem Wp.nz4 {x tgt : Nat} (hc : cdx X pc = some (.inr (.inr (24, tgt, b, v)), len)) (hx : x < 2 ^ 31) (kt : 0 < x → Wp d X tgt l st M Q) (kf : x = 0 → Wp d X (pc + len) l st M Q) : Wp d X pc l (.int (nI x) :: st) M Q := Wp.if4 hc (fun h => kt ((nI_ltI (a := 0) (by decide) hx).mp h)) (fun h => kf (Nat.eq_zero_of_not_pos (fun q => h ((nI_ltI (a := 0) (by decide) hx).mpr q))))
theorem Wp.nz5 {x tgt : Nat} (hc : cdx X pc = some (.inr (.inr (25, tgt, b, v)), len)) (hx : x < 2 ^ 31) (kt : x = 0 → Wp d X tgt l st M Q) (kf : 0 < x → Wp d X (pc + len) l st M Q) : Wp d X pc l (.int (nI x) :: st) M Q := Wp.if5 hc (fun h => kt (Nat.eq_zero_of_not_pos (fun q => absurd h (nI_nle q hx)))) (fun h => kf (Nat.pos_of_ne_zero (fun q => h (by rw [q]; exact Int32.le_refl _))))
-- rows
theorem Wp.ialdN {k n t j : Nat} {f : Nat → Int32} (hc : cdx X pc = some (.inr (.inl .iaload), len)) (hM : M k = .inl (t, n, .inl f)) (ht : (Nat.beq t 0 || Nat.beq t 7) = true) (hj : j < n) (hn : n < 2 ^ 31) (h : Wp d X (pc + len) l (.int (f j) :: st) M Q) : Wp d X pc l (.int (nI j) :: .ref k :: st) M Q := Wp.iald hc hM ht (vp_in_nI hj hn) (by rw [nI_clamp (Nat.lt_trans hj hn)]; exact h)
theorem Wp.baldN {k n t j : Nat} {f : Nat → Int32} (hc : cdx X pc = some (.inr (.inl .baload), len)) (hM : M k = .inl (t, n, .inl f)) (ht : (Nat.beq t 2 || Nat.beq t 3) = true) (hj : j < n) (hn : n < 2 ^ 31) (h : Wp d X (pc + len) l (.int (f j) :: st) M Q) : Wp d X pc l (.int (nI j) :: .ref k :: st) M Q := Wp.bald hc hM ht (vp_in_nI hj hn) (by rw [nI_clamp (Nat.lt_trans hj hn)]; exact h)
theorem Wp.laldN {k n j : Nat} {f : Nat → Int64} (hc : cdx X pc = some (.inr (.inl .laload), len)) (hM : M k = .inl (1, n, .inr (.inl f))) (hj : j < n) (hn : n < 2 ^ 31) (h : Wp d X (pc + len) l (.long (f j) :: st) M Q) : Wp d X pc l (.int (nI j) :: .ref k :: st) M Q := Wp.lald hc hM (vp_in_nI hj hn) (by rw [nI_clamp (Nat.lt_trans hj hn)]; exact h)
theorem Wp.aaldN {k n t j q : Nat} {f : Nat → Option Nat} (hc : cdx X pc = some (.inr (.inl .aaload), len)) (hM : M k = .inl (t, n, .inr (.inr (.inr (.inr f))))) (ht : (Nat.ble 4 t && Nat.ble t 6) = true) (hj : j < n) (hn : n < 2 ^ 31) (hq : f j = some q) (h : Wp d X (pc + len) l (.ref q :: st) M Q) : Wp d X pc l (.int (nI j) :: .ref k :: st) M Q := Wp.aald hc hM ht (vp_in_nI hj hn) (by rw [nI_clamp (Nat.lt_trans hj hn), hq]; exact h)
theorem Wp.iastN {k n j : Nat} {f : Nat → Int32} {x : Int32} (hc : cdx X pc = some (.inr (.inl .iastore), len)) (hM : M k = .inl (0, n, .inl f)) (hj : j < n) (hn : n < 2 ^ 31) (h : Wp d X (pc + len) l st (va_up M k (.inl (0, n, .inl (upd f j x)))) Q) : Wp d X pc l (.int x :: .int (nI j) :: .ref k :: st) M Q := Wp.iast hc hM (vp_in_nI hj hn) (by rw [nI_clamp (Nat.lt_trans hj hn)]; exact h)
theorem Wp.bastN {k n t j : Nat} {f : Nat → Int32} {x : Int32} (hc : cdx X pc = some (.inr (.inl .bastore), len)) (hM : M k = .inl (t, n, .inl f)) (ht : (Nat.beq t 2 || Nat.beq t 3) = true) (hj : j < n) (hn : n < 2 ^ 31) (h : Wp d X (pc + len) l st (va_up M k (.inl (t, n, .inl (upd f j (anar t x))))) Q) : Wp d X pc l (.int x :: .int (nI j) :: .ref k :: st) M Q := Wp.bast hc hM ht (vp_in_nI hj hn) (by rw [nI_clamp (Nat.lt_trans hj hn)]; exact h)
theorem Wp.lastN {k n j : Nat} {f : Nat → Int64} {x : Int64} (hc : cdx X pc = some (.inr (.inl .lastore), len)) (hM : M k = .inl (1, n, .inr (.inl f))) (hj : j < n) (hn : n < 2 ^ 31) (h : Wp d X (pc + len) l st (va_up M k (.inl (1, n, .inr (.inl (vp_updL f j x))))) Q) : Wp d X pc l (.long x :: .int (nI j) :: .ref k :: st) M Q := Wp.last hc hM (vp_in_nI hj hn) (by rw [nI_clamp (Nat.lt_trans hj hn)]; exact h)
-- a switch, a null
theorem Wp.sw {x : Int32} {t : Nat} (hc : cdx X pc = some (.inr (.inr (35, a, b, v)), len)) (ht : swx swl a x = some t) (k : Wp d X t l st M Q) : Wp d X pc l (.int x :: st) M Q := by
  refine Wp.s (pc' := t) (l' := l) (st' := st) (M' := M) ?_ k
  unfold sstep
  rw [hc]
  show (match swx swl a x with | some t => _ | none => _) = _
  rw [ht]
-- the reference
variable {σ : MS}
theorem Wp.mialdN {k n j : Nat} (hc : cdx X pc = some (.inr (.inl .iaload), len)) (hk : mtl_ k = (0, n)) (hn : (Nat.blt 0 n && Nat.blt n 100000) = true) (hj : j < n) (h : Wp d X (pc + len) l (.int (σ.2.2.1 k j) :: st) (mset M σ) Q) : Wp d X pc l (.int (nI j) :: .ref (k + 288) :: st) (mset M σ) Q := by
  rw [Bool.and_eq_true] at hn
  have h1 : 0 < n := Nat.le_of_ble_eq_true hn.1
  have h2 : n < 100000 := Nat.le_of_ble_eq_true hn.2
  exact Wp.miald hc hk (by omega) (vp_in_nI hj (by omega)) (by rw [nI_clamp (by omega)]; exact h)
theorem Wp.miastN {k n j : Nat} {x : Int32} (hc : cdx X pc = some (.inr (.inl .iastore), len)) (hk : mtl_ k = (0, n)) (hn : (Nat.blt 0 n && Nat.blt n 100000) = true) (hj : j < n) (h : Wp d X (pc + len) l st (mset M (aset σ k (upd (σ.2.2.1 k) j x))) Q) : Wp d X pc l (.int x :: .int (nI j) :: .ref (k + 288) :: st) (mset M σ) Q := by
  rw [Bool.and_eq_true] at hn
  have h1 : 0 < n := Nat.le_of_ble_eq_true hn.1
  have h2 : n < 100000 := Nat.le_of_ble_eq_true hn.2
  exact Wp.miast hc hk (by omega) (vp_in_nI hj (by omega)) (by rw [nI_clamp (by omega)]; exact h)
theorem Wp.mlaldN {k n j : Nat} (hc : cdx X pc = some (.inr (.inl .laload), len)) (hk : mtl_ k = (1, n)) (hn : Nat.blt n 100000 = true) (hj : j < n) (h : Wp d X (pc + len) l (.long (σ.2.2.2 k j) :: st) (mset M σ) Q) : Wp d X pc l (.int (nI j) :: .ref (k + 288) :: st) (mset M σ) Q := by
  have h2 : n < 100000 := Nat.le_of_ble_eq_true hn
  exact Wp.mlald hc hk (vp_in_nI hj (by omega)) (by rw [nI_clamp (by omega)]; exact h)
theorem Wp.mlastN {k n j : Nat} {x : Int64} (hc : cdx X pc = some (.inr (.inl .lastore), len)) (hk : mtl_ k = (1, n)) (hn : Nat.blt n 100000 = true) (hj : j < n) (h : Wp d X (pc + len) l st (mset M (lset σ k (vp_updL (σ.2.2.2 k) j x))) Q) : Wp d X pc l (.long x :: .int (nI j) :: .ref (k + 288) :: st) (mset M σ) Q := by
  have h2 : n < 100000 := Nat.le_of_ble_eq_true hn
  exact Wp.mlast hc hk (vp_in_nI hj (by omega)) (by rw [nI_clamp (by omega)]; exact h)
-- a realm in memory
variable {r : Nat} {ρ : RC}
theorem ra_ev {w : Option Value} (h : RA M r ρ) (e : Ev d X pc l st (rset M r ρ) (w, rset M r ρ)) : Ev d X pc l st M (w, M) := by
  rw [show rset M r ρ = M from h] at e
  exact e
theorem ra_obj (h : RA M r ρ) : M r = .inr (3, rfs r ρ) := by rw [← show rset M r ρ = M from h]; exact rs_obj
theorem ra_law (h : RA M r ρ) : M (r + 1) = .inr (0, lfs (rlw ρ)) := by rw [← show rset M r ρ = M from h]; exact rs_law
theorem ra_roads (h : RA M r ρ) : M (r + 2) = .inl (4, 12, .inr (.inr (.inr (.inr (fun i => if i < 12 then some (r + 3 + i) else none))))) := by rw [← show rset M r ρ = M from h]; exact rs_roads
theorem ra_road {i : Nat} (h : RA M r ρ) (hi : i < 12) : M (r + 3 + i) = .inr (1, kfs i (rlk ρ i)) := by rw [← show rset M r ρ = M from h]; exact rs_road hi
theorem ra_lanes (h : RA M r ρ) : M (r + 15) = .inl (4, 9, .inr (.inr (.inr (.inr (fun i => if i < 9 then some (r + 16 + i) else none))))) := by rw [← show rset M r ρ = M from h]; exact rs_lanes
theorem ra_lane {i : Nat} (h : RA M r ρ) (hi : i < 9) : M (r + 16 + i) = .inr (1, kfs i (rlk ρ (12 + i))) := by rw [← show rset M r ρ = M from h]; exact rs_lane hi
theorem ra_walks (h : RA M r ρ) : M (r + 25) = .inl (5, 10, .inr (.inr (.inr (.inr (fun i => if i < 10 then some (r + 26 + 2 * i) else none))))) := by rw [← show rset M r ρ = M from h]; exact rs_walks
theorem ra_walk {i : Nat} (h : RA M r ρ) (hi : i < 10) : M (r + 26 + 2 * i) = .inr (7, wfs (rwk ρ i) (r + 27 + 2 * i)) := by rw [← show rset M r ρ = M from h]; exact rs_walk hi
theorem ra_stops {i : Nat} (h : RA M r ρ) (hi : i < 10) : M (r + 27 + 2 * i) = .inl (0, 7, .inl (rst ρ i)) := by rw [← show rset M r ρ = M from h]; exact rs_stops hi
theorem ra_dist (h : RA M r ρ) : M (r + 46) = .inl (0, 49, .inl (rds ρ)) := by rw [← show rset M r ρ = M from h]; exact rs_dist
theorem rset_ra : RA (rset M r ρ) r ρ := by
  show rset (rset M r ρ) r ρ = rset M r ρ
  funext q
  unfold rset
  by_cases h : r ≤ q ∧ q < r + 47
  · rw [if_pos h, if_pos h]
  · simp only [if_neg h]
end NR
end
section
/-! BITS of naturals as ints and longs. -/
theorem n_and (a b : Nat) : nI a &&& nI b = nI (a &&& b) := by
  apply Int32.toBitVec_inj.1
  show BitVec.ofNat 32 a &&& BitVec.ofNat 32 b = BitVec.ofNat 32 (a &&& b)
  apply BitVec.eq_of_getLsbD_eq
  intro i hi
  simp [hi]
theorem n_or (a b : Nat) : nI a ||| nI b = nI (a ||| b) := by
  apply Int32.toBitVec_inj.1
  show BitVec.ofNat 32 a ||| BitVec.ofNat 32 b = BitVec.ofNat 32 (a ||| b)
  apply BitVec.eq_of_getLsbD_eq
  intro i hi
  simp [hi]
theorem n_sh1 : ∀ y, y < 31 → (1 : Int32) <<< (nI y &&& 31) = nI (2 ^ y) := by decide +kernel
theorem n_pow {y : Nat} (h : y < 31) : 2 ^ y < 2 ^ 31 := Nat.pow_lt_pow_right (by decide) h
theorem n_tb (F y : Nat) : F &&& 2 ^ y = 0 ↔ F.testBit y = false := by
  constructor
  · intro h
    have := congrArg (fun n => n.testBit y) h
    simpa [Nat.testBit_and, Nat.testBit_two_pow_self] using this
  · intro h
    apply Nat.eq_of_testBit_eq
    intro i
    rw [Nat.testBit_and, Nat.testBit_two_pow, Nat.zero_testBit]
    by_cases e : y = i
    · subst e; rw [h]; rfl
    · simp [e]
theorem n_bit {F y : Nat} (hF : F < 2 ^ 31) (hy : y < 31) : nI F &&& ((1 : Int32) <<< (nI y &&& 31)) = 0 ↔ F.testBit y = false := by
  rw [n_sh1 y hy, n_and, ← n_tb]
  have h : F &&& 2 ^ y < 2 ^ 31 := Nat.lt_of_le_of_lt Nat.and_le_left hF
  exact nI_eq (b := 0) h (by decide)
theorem l_cnt : ∀ k, k < 64 → ((nI k).toInt64 &&& 63) = lN k := by decide +kernel
theorem l_smod : ∀ k, k < 64 → ((lN k).toBitVec.smod 64).toNat = k := by decide +kernel
theorem l_toInt {n : Nat} (h : n < 2 ^ 63) : (lN n).toInt = (n : Int) := by
  have e : (lN n).toBitVec.toNat = n := by
    show (BitVec.ofNat 64 n).toNat = n
    rw [BitVec.toNat_ofNat]
    exact Nat.mod_eq_of_lt (by omega)
  have c := BitVec.toInt_eq_toNat_cond (lN n).toBitVec
  rw [e] at c
  show (lN n).toBitVec.toInt = _
  rw [c, if_pos (by omega)]
theorem l_inj {a b : Nat} (ha : a < 2 ^ 63) (hb : b < 2 ^ 63) : lN a = lN b ↔ a = b := by
  rw [l_eq, l_toInt ha, l_toInt hb]
  omega
theorem l_shr {a y : Nat} (h : a < 2 ^ 62) (hy : y < 64) : lN a >>> ((nI y).toInt64 &&& 63) = lN (a / 2 ^ y) := by
  rw [l_cnt y hy]
  apply Int64.toInt_inj.mp
  have hd : a / 2 ^ y ≤ a := Nat.div_le_self _ _
  have e : (lN a >>> lN y).toInt = (lN a).toInt >>> y := by
    have h1 := l_smod y hy
    conv => rhs; rw [← h1]
    exact BitVec.toInt_sshiftRight ..
  rw [e, Int.shiftRight_eq_div_pow, l_toInt (by omega), l_toInt (by omega)]
  norm_cast
theorem l_and (a b : Nat) : lN a &&& lN b = lN (a &&& b) := by
  apply Int64.toBitVec_inj.1
  show BitVec.ofNat 64 a &&& BitVec.ofNat 64 b = BitVec.ofNat 64 (a &&& b)
  apply BitVec.eq_of_getLsbD_eq
  intro i hi
  simp [hi]
theorem l_or (a b : Nat) : lN a ||| lN b = lN (a ||| b) := by
  apply Int64.toBitVec_inj.1
  show BitVec.ofNat 64 a ||| BitVec.ofNat 64 b = BitVec.ofNat 64 (a ||| b)
  apply BitVec.eq_of_getLsbD_eq
  intro i hi
  simp [hi]
theorem l_sh1 : ∀ y, y < 31 → (1 : Int64) <<< ((nI y).toInt64 &&& 63) = lN (2 ^ y) := by decide +kernel
theorem l_bit {F y : Nat} (hF : F < 2 ^ 31) (hy : y < 31) : (lN F >>> ((nI y).toInt64 &&& 63)) &&& 1 = lN (F.testBit y).toNat := by
  rw [l_shr (by omega) (by omega), show (1 : Int64) = lN 1 from rfl, l_and, Nat.and_one_is_mod]
  congr 1
  rw [Nat.testBit_eq_decide_div_mod_eq]
  have : F / 2 ^ y % 2 < 2 := Nat.mod_lt _ (by decide)
  by_cases h : F / 2 ^ y % 2 = 1
  · simp [h]
  · simp [h]; omega
theorem n_bitI {F y : Nat} (hF : F < 2 ^ 31) (hy : y < 31) : (nI F >>> (nI y &&& 31)) &&& 1 = nI (F.testBit y).toNat := by
  have hs : ∀ y, y < 31 → ((nI y &&& 31).toBitVec.smod 32).toNat = y := by decide +kernel
  rw [pk_shrN hF _ y (hs y hy), show (1 : Int32) = nI 1 from rfl, n_and, Nat.and_one_is_mod]
  congr 1
  rw [Nat.testBit_eq_decide_div_mod_eq]
  have : F / 2 ^ y % 2 < 2 := Nat.mod_lt _ (by decide)
  by_cases h : F / 2 ^ y % 2 = 1
  · simp [h]
  · simp [h]; omega
end
section
/-! ROADS, LANES, AND WHAT JOINS: class and reference. -/
def IsR (w : Option Value) (M1 : AM) : Option Value → AM → Prop := fun v M' => v = w ∧ M' = M1
theorem Wp.toEv {d : Nat} {X : MD} {pc : Nat} {l : AL} {st : List Value} {M M1 : AM} {w : Option Value} (h : Wp d X pc l st M (IsR w M1)) : Ev d X pc l st M (w, M1) := by
  obtain ⟨v, M', h1, rfl, rfl⟩ := h
  exact h1
section REP
variable {ρ : RC} {K : KD} {σ : MS} {s : Nat}
theorem rc_pl (h : RepC ρ K) : rhd ρ 0 = nI (kh K 0) := h.1
theorem rc_dy (h : RepC ρ K) : rhd ρ 1 = nI (kh K 1) := h.2.1
theorem rc_ln (h : RepC ρ K) : rhd ρ 2 = nI (kh K 5) := h.2.2.1
theorem rc_fl (h : RepC ρ K) : rhd ρ 3 = nI (kh K 12) := h.2.2.2.1
theorem rc_rd (h : RepC ρ K) : rhd ρ 6 = nI (kh K 2) := h.2.2.2.2.1
theorem rc_la (h : RepC ρ K) : rhd ρ 8 = nI (kh K 3 + kh K 11) := h.2.2.2.2.2.1
theorem rc_wk (h : RepC ρ K) : rhd ρ 10 = nI (kh K 4) := h.2.2.2.2.2.2.1
theorem rc_law (h : RepC ρ K) (h0 : 0 < kh K 0) {j : Nat} (hj : j < 5) : rlw ρ j = nI (kh K (6 + j)) := h.2.2.2.2.2.2.2.1 h0 j hj
theorem rc_road (h : RepC ρ K) {i : Nat} (hi : i < kh K 2) : rlk ρ i 1 = 0 ∧ rlk ρ i 2 = bitsE (kr K i 0) (kr K i 1) ∧ rlk ρ i 3 = nI (kr K i 2) ∧ rlk ρ i 6 = 0 := h.2.2.2.2.2.2.2.2.1 i hi
theorem rc_lane (h : RepC ρ K) {l : Nat} (hl : l < kh K 3 ∨ (l = 8 ∧ kh K 11 = 1)) : rlk ρ (12 + phL K l) 1 = nI (kl K l 5 + 1) ∧ rlk ρ (12 + phL K l) 2 = bitsE (kl K l 0) (kl K l 1) ∧ rlk ρ (12 + phL K l) 3 = nI (kl K l 2) ∧ rlk ρ (12 + phL K l) 4 = nI (kl K l 3) ∧ rlk ρ (12 + phL K l) 5 = nI (kl K l 4) ∧ rlk ρ (12 + phL K l) 6 = nI (kl K l 6) := h.2.2.2.2.2.2.2.2.2.1 l hl
theorem rc_walk (h : RepC ρ K) {i : Nat} (hi : i < kh K 4) : rwk ρ i 0 = nI (kw K i 0) ∧ rwk ρ i 1 = nI (kw K i 1) ∧ rwk ρ i 2 = nI (kw K i 2) ∧ rwk ρ i 3 = nI (kw K i 3 - 1) ∧ ∀ j, j < kw K i 3 → rst ρ i j = nI (kw K i (4 + j)) := h.2.2.2.2.2.2.2.2.2.2 i hi
theorem rm_has (h : RepM σ s K) {j : Nat} (hj : j < 5) : σ.2.2.1 6 (5 * s + j) = nI (kh K j) := h.1 j hj
theorem rm_law (h : RepM σ s K) (h0 : 0 < kh K 0) {j : Nat} (hj : j < 5) : σ.2.2.1 7 (5 * s + j) = nI (kh K (6 + j)) := h.2.1 h0 j hj
theorem rm_ln (h : RepM σ s K) : σ.2.2.1 5 s = nI (kh K 5) := h.2.2.1
theorem rm_fl (h : RepM σ s K) : σ.2.2.2 8 s = lN (kh K 12) := h.2.2.2.1
theorem rm_road (h : RepM σ s K) {i j : Nat} (hi : i < kh K 2) (hj : j < 3) : σ.2.2.1 9 (36 * s + 3 * i + j) = nI (kr K i j) := h.2.2.2.2.1 i hi j hj
theorem rm_lane (h : RepM σ s K) {i j : Nat} (hi : i < kh K 3 ∨ (i = 8 ∧ kh K 11 = 1)) (hj : j < 7) : σ.2.2.1 10 (63 * s + 7 * i + j) = nI (kl K i j) := h.2.2.2.2.2.1 i hi j hj
theorem rm_walk (h : RepM σ s K) {i : Nat} (hi : i < kh K 4) : (∀ j, j < 4 → σ.2.2.1 11 (110 * s + 11 * i + j) = nI (kw K i j)) ∧ ∀ j, j < kw K i 3 → σ.2.2.1 11 (110 * s + 11 * i + 4 + j) = nI (kw K i (4 + j)) := h.2.2.2.2.2.2 i hi
-- slot 0
theorem r0_has (h : RepM σ 0 K) {j : Nat} (hj : j < 5) : σ.2.2.1 6 j = nI (kh K j) := by have := rm_has h hj; rwa [show 5 * 0 + j = j by omega] at this
theorem r0_law (h : RepM σ 0 K) (h0 : 0 < kh K 0) {j : Nat} (hj : j < 5) : σ.2.2.1 7 j = nI (kh K (6 + j)) := by have := rm_law h h0 hj; rwa [show 5 * 0 + j = j by omega] at this
theorem r0_road (h : RepM σ 0 K) {i j q : Nat} (hi : i < kh K 2) (hj : j < 3) (hq : q = 3 * i + j) : σ.2.2.1 9 q = nI (kr K i j) := by have := rm_road h hi hj; rwa [show 36 * 0 + 3 * i + j = q by omega] at this
theorem r0_lane (h : RepM σ 0 K) {i j q : Nat} (hi : i < kh K 3 ∨ (i = 8 ∧ kh K 11 = 1)) (hj : j < 7) (hq : q = 7 * i + j) : σ.2.2.1 10 q = nI (kl K i j) := by have := rm_lane h hi hj; rwa [show 63 * 0 + 7 * i + j = q by omega] at this
theorem r0_walk (h : RepM σ 0 K) {i j q : Nat} (hi : i < kh K 4) (hj : j < 4) (hq : q = 11 * i + j) : σ.2.2.1 11 q = nI (kw K i j) := by have := (rm_walk h hi).1 j hj; rwa [show 110 * 0 + 11 * i + j = q by omega] at this
theorem r0_stop (h : RepM σ 0 K) {i j q : Nat} (hi : i < kh K 4) (hj : j < kw K i 3) (hq : q = 11 * i + 4 + j) : σ.2.2.1 11 q = nI (kw K i (4 + j)) := by have := (rm_walk h hi).2 j hj; rwa [show 110 * 0 + 11 * i + 4 + j = q by omega] at this
theorem ok_h (h : KOK K) : kh K 0 ≤ 7 ∧ kh K 1 ≤ 30 ∧ kh K 2 ≤ 12 ∧ kh K 3 ≤ 8 ∧ kh K 4 ≤ 10 ∧ kh K 5 ≤ 2000 ∧ kh K 6 ≤ 99 ∧ kh K 7 ≤ 99 ∧ kh K 8 ≤ 99 ∧ kh K 9 ≤ 1 ∧ kh K 10 ≤ 1 ∧ kh K 11 ≤ 1 ∧ kh K 12 < 2 ^ 30 := ⟨h.1, h.2.1, h.2.2.1, h.2.2.2.1, h.2.2.2.2.1, h.2.2.2.2.2.1, h.2.2.2.2.2.2.1, h.2.2.2.2.2.2.2.1, h.2.2.2.2.2.2.2.2.1, h.2.2.2.2.2.2.2.2.2.1, h.2.2.2.2.2.2.2.2.2.2.1, h.2.2.2.2.2.2.2.2.2.2.2.1, h.2.2.2.2.2.2.2.2.2.2.2.2.1⟩
theorem ok_ln (h : KOK K) : 0 < kh K 5 ↔ 0 < kh K 0 := h.2.2.2.2.2.2.2.2.2.2.2.2.2.1
theorem ok_road (h : KOK K) {i : Nat} (hi : i < kh K 2) : kr K i 0 < kh K 0 ∧ kr K i 1 < kh K 0 ∧ kr K i 0 ≠ kr K i 1 ∧ 1 ≤ kr K i 2 ∧ kr K i 2 ≤ 129 := h.2.2.2.2.2.2.2.2.2.2.2.2.2.2.1 i hi
theorem ok_lane (h : KOK K) {i : Nat} (hi : i < kh K 3 ∨ (i = 8 ∧ kh K 11 = 1)) : kl K i 0 < kh K 0 ∧ kl K i 1 < kh K 0 ∧ kl K i 0 ≠ kl K i 1 ∧ 1 ≤ kl K i 2 ∧ kl K i 2 ≤ 99 ∧ kl K i 3 ≤ 30 ∧ kl K i 4 ≤ 30 ∧ kl K i 5 ≤ 2 ∧ kl K i 6 ≤ 100 := h.2.2.2.2.2.2.2.2.2.2.2.2.2.2.2.1 i hi
theorem ok_walk (h : KOK K) {i : Nat} (hi : i < kh K 4) : kw K i 0 ≤ 4 ∧ 1 ≤ kw K i 1 ∧ kw K i 1 ≤ 9 ∧ kw K i 2 < kh K 1 ∧ 2 ≤ kw K i 3 ∧ kw K i 3 ≤ 7 ∧ (∀ j, j < kw K i 3 → kw K i (4 + j) < kh K 0) ∧ (∀ j, j + 1 < kw K i 3 → kw K i (4 + j) ≠ kw K i (4 + j + 1)) := h.2.2.2.2.2.2.2.2.2.2.2.2.2.2.2.2.1 i hi
theorem ok_uni (h : KOK K) {i j : Nat} (hi : i < kh K 2) (hj : j < kh K 2) (hb : btw (kr K i 0) (kr K i 1) (kr K j 0) (kr K j 1) = true) : i = j := h.2.2.2.2.2.2.2.2.2.2.2.2.2.2.2.2.2 i j hi hj hb
end REP

section JOIN
variable {d : Nat} {M : AM} {r : Nat} {ρ : RC} {K : KD} {σ : MS}
theorem k_roadOf_l (hR : RA M r ρ) (hK : RepC ρ K) (ok : KOK K) {a b : Nat} (ha : a < 7) (hb : b < 7) : ∀ (n i : Nat), i + n = kh K 2 → Wp d md_29 11 [some (.ref r), some (.int (nI a)), some (.int (nI b)), some (.int (bitsE a b)), some (.int (nI i))] [] M (IsR (some (va_rf ((fnd (fun i => btw (kr K i 0) (kr K i 1) a b) n i).map (fun i => r + 3 + i)))) M) := by
  intro n
  obtain ⟨b0, b1, b2, b3, b4, b5, b6, b7, b8, b9, b10, b11, b12⟩ := ok_h ok
  induction n with
  | zero =>
    intro i hi
    refine Wp.n (pc' := 14) 2 rfl ?_
    refine Wp.get (len := 3) rfl (ra_obj hR) rfl ?_
    refine Wp.top (rc_rd hK) ?_
    refine Wp.nc3 (x := i) (y := kh K 2) (tgt := 48) (len := 3) rfl (by omega) (by omega) (fun h17 => ?_) (fun h17 => ?_)
    · skip
      refine Wp.n (pc' := 49) 1 rfl ?_
      refine Wp.retN (len := 1) rfl rfl ?_
      exact ⟨rfl, rfl⟩
    · omega
  | succ n ih =>
    intro i hi
    have hl := rc_road hK (i := i) (by omega)
    have hk := ok_road ok (i := i) (by omega)
    have e := bitsE_eq (a := kr K i 0) (b := kr K i 1) (c := a) (d := b) (by omega) (by omega) ha hb hk.2.2.1
    refine Wp.n (pc' := 14) 2 rfl ?_
    refine Wp.get (len := 3) rfl (ra_obj hR) rfl ?_
    refine Wp.top (rc_rd hK) ?_
    refine Wp.nc3 (x := i) (y := kh K 2) (tgt := 48) (len := 3) rfl (by omega) (by omega) (fun h17 => ?_) (fun h17 => ?_)
    · omega
    · skip
      refine Wp.n (pc' := 21) 1 rfl ?_
      refine Wp.get (len := 3) rfl (ra_obj hR) rfl ?_
      refine Wp.n (pc' := 26) 1 rfl ?_
      refine Wp.aaldN (j := i) (len := 1) rfl (ra_roads hR) rfl (by omega) (by decide) (if_pos (by omega)) ?_
      refine Wp.get (len := 3) rfl (ra_road hR (by omega)) rfl ?_
      refine Wp.top hl.2.1 ?_
      refine Wp.n (pc' := 31) 1 rfl ?_
      refine Wp.ic1 (tgt := 42) (len := 3) rfl (fun h31 => ?_) (fun h31 => ?_)
      · skip
        refine Wp.incN (x := i) (len := 3) rfl rfl ?_
        refine Wp.n (pc' := 11) 1 rfl ?_
        have := ih (i + 1) (by omega)
        unfold fnd
        rw [if_neg (fun q => h31 (e.mpr q))]
        exact this
      · skip
        refine Wp.n (pc' := 35) 1 rfl ?_
        refine Wp.get (len := 3) rfl (ra_obj hR) rfl ?_
        refine Wp.n (pc' := 40) 1 rfl ?_
        refine Wp.aaldN (j := i) (len := 1) rfl (ra_roads hR) rfl (by omega) (by decide) (if_pos (by omega)) ?_
        refine Wp.retR (len := 1) rfl rfl ?_
        refine ⟨?_, rfl⟩
        unfold fnd
        rw [if_pos (e.mp h31)]
        rfl

theorem k_roadOf (hR : RA M r ρ) (hK : RepC ρ K) (ok : KOK K) {a b : Nat} (ha : a < 7) (hb : b < 7) : Ev d md_29 0 [some (.ref r), some (.int (nI a)), some (.int (nI b)), none, none] [] M (some (va_rf ((roadK K a b).map (fun i => r + 3 + i))), M) := by
  refine Wp.toEv ?_
  refine Wp.n (pc' := 11) 10 rfl ?_
  exact k_roadOf_l hR hK ok ha hb (kh K 2) 0 (by omega)
end JOIN
end
