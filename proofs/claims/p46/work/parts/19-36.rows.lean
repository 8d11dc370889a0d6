section
/-! FROM THE ABSTRACT RUN OF THE LAW TO THE CLAIM'S WALK. -/
/-- the memory at the law's entry -/
def M0 (L : Nat) (xs : Nat → Int32) : AM := fun k => if k < 2 then .inr (0, []) else if k = 2 then .inl (7, L, .inl xs) else if k < 24 then .inl (8, slen.getD (k - 3) 0, .inl (fun j => (sbyt.getD (k - 3) []).getD j 0)) else .inr (99, [])
theorem M0_wf (L : Nat) (xs : Nat → Int32) : Wf (L, xs) (M0 L xs) := by
  refine ⟨⟨0, rfl⟩, ⟨0, rfl⟩, rfl, fun i hi => ?_, fun k h1 h2 => ?_, fun k h1 => ?_, fun k t n x h1 h2 => ?_⟩
  · unfold M0
    rw [if_neg (by omega), if_neg (by omega), if_pos (by omega), show 3 + i - 3 = i by omega]
  · unfold M0
    rw [if_neg (by omega), if_neg (by omega), if_neg (by omega)]
  · unfold M0
    rw [if_neg (by omega), if_neg (by omega), if_neg (by omega)]
  · unfold M0 at h2
    rw [if_neg (by omega), if_neg (by omega), if_neg (by omega)] at h2
    cases h2
theorem M0_cnt (L : Nat) (xs : Nat → Int32) : cnt (M0 L xs) 0 = 0 ∧ cnt (M0 L xs) 1 = 0 := ⟨rfl, rfl⟩
/-- what is owed of the abstract machine: the law's run ends with 1, within the claim's room -/
def LawRuns : Prop := ∀ (L : Nat) (xs : Nat → Int32), L ≤ 3072 → ∃ M' : AM, Ev 60 md_263 0 (ent [.ref 2] 4) [] (M0 L xs) (some (.int 1), M') ∧ cnt M' 0 ≤ 600000 ∧ cnt M' 1 ≤ 7302250
set_option maxRecDepth 100000 in
theorem inst_all : (List.range 11).all (fun a => decide (Jvm.Cond.instantiable (cnm a) (fN a) ∈ lw_tbl)) = true := by decide +kernel
set_option maxHeartbeats 4000000 in
set_option maxRecDepth 100000 in
theorem start_of_run (hrun : LawRuns) {p : Program} {e : Env} {s : State} {m : MethodId} {below : List Frame} {meth : Method} {c : Code} (l : Launch) {b L : Nat} {xs : Nat → Int32} (hL : L ≤ 3072) (C0 : lw_At p s m meth c b L xs) : W p l e room_1 s m #[Value.ref b] below meth c s.heap [] 0 0 (lw_Z below #[Value.ref b] s) (entryFrame m ([Value.ref b] : List Value).toArray 4) := by
  obtain ⟨hx, hb, hr, hml, hown, hts, hX, hbl, hlocks, hgv⟩ := id C0
  obtain ⟨M', ⟨n, hn⟩, hM0, hM1⟩ := hrun L xs hL
  have hfl := flat_of_before _ hgv
  -- the classes of objects
  have hcls : ∀ a : Nat, ∃ q : ClassId × (Nat → Nat), a < 11 → u_Kn s (cnm a) (fTX a) (fN a) q.1 q.2 := by
    intro a
    by_cases ha : a < 11
    · obtain ⟨cC, iS, hK⟩ := u_known (C := cnm a) (T := fTX a) (N := fN a) (n := fN a) (ws := lw_t2) (fun w hw => hts w (List.mem_filter.mp hw).1) (f_ws a ha) (hts _ (of_decide_eq_true (List.all_eq_true.mp inst_all a (List.mem_range.mpr ha))))
      exact ⟨(cC, iS), fun _ => hK⟩
    · exact ⟨(0, fun _ => 0), fun h => absurd h ha⟩
  obtain ⟨fC, hfC⟩ := Classical.axiomOfChoice hcls
  -- the classes of arrays
  have prim : ∀ ty : FieldType, (∀ C, ty ≠ .object C) → Jvm.Cond.arrayClass ty ∈ lw_tbl → ∃ cA : ClassId, ArrOfT s cA ty ∧ va_RA s cA ty := by
    intro ty hne hw
    obtain ⟨cA, kA, comp, h1, h2, h3⟩ := Cond.arrayClass_spec (hts _ hw)
    refine ⟨cA, fun N z => ⟨(fun k h => by cases h), kA, h2, comp, h3⟩, ?_⟩
    cases ty with
    | object C => exact absurd rfl (hne C)
    | _ => exact h1
  have refs : ∀ C : String, Jvm.Cond.arrayOver (.object C) ∈ lw_tbl → ∃ cA : ClassId, ArrOfT s cA (.object C) ∧ va_RA s cA (.object C) := by
    intro C hw
    obtain ⟨comp, cA, kA, h1, -, h3, h4, h5⟩ := Cond.arrayOver_spec (hts _ hw)
    exact ⟨cA, fun N z => ⟨(fun k h => by cases h), kA, h3, comp, h4⟩, kA, comp, h3, h4, h1, h5⟩
  obtain ⟨a0, ha0⟩ := prim .int (fun _ h => by cases h) (by decide +kernel)
  obtain ⟨a1, ha1⟩ := prim .long (fun _ h => by cases h) (by decide +kernel)
  obtain ⟨a2, ha2⟩ := prim .byte (fun _ h => by cases h) (by decide +kernel)
  obtain ⟨a3, ha3⟩ := prim .boolean (fun _ h => by cases h) (by decide +kernel)
  obtain ⟨a4, ha4⟩ := refs RX1 (by decide +kernel)
  obtain ⟨a5, ha5⟩ := refs RX7 (by decide +kernel)
  obtain ⟨a6, ha6⟩ := refs RX3 (by decide +kernel)
  -- the Strings
  obtain ⟨adK, adV, hstr, hadr⟩ := vk_Sof (args := #[Value.ref b]) (s := s) (N := 21) (tm := tmS) (len := slen) (byt := sbyt) (A := fun q => s.heap.size ≤ q) (fun i hi => (sb_ok hi).1) (fun i hi => hfl _ (strk hi _ (List.mem_append_left _ (List.mem_of_getElem? (i := 0) rfl)))) (fun i hi => hfl _ (strk hi _ (List.mem_append_left _ (List.mem_of_getElem? (i := 1) rfl)))) (fun i hi => hfl _ (strk hi _ (List.mem_append_left _ (List.mem_of_getElem? (i := 2) rfl)))) (fun i hi => hfl _ (strk hi _ (List.mem_append_left _ (List.mem_of_getElem? (i := 3) rfl)))) (fun i hi j hj => hfl _ (strk hi _ (List.mem_append_right _ (List.mem_map.mpr ⟨j, List.mem_range.mpr hj, rfl⟩)))) (fun i j hi hj hij => by
      by_cases h : i < j
      · exact Or.inl (hfl _ (strn hj _ (List.mem_map.mpr ⟨i, List.mem_range.mpr h, rfl⟩)))
      · exact Or.inr (hfl _ (strn hi _ (List.mem_map.mpr ⟨j, List.mem_range.mpr (by omega), rfl⟩)))) (fun a ha => Nat.not_le.mpr ha)
  obtain ⟨G, hG⟩ : ∃ G : SG, G = (s.heap.size, (fun k => if k = 2 then b else adK (k - 3)), (fun t => if t = 0 then a0 else if t = 1 then a1 else if t = 2 then a2 else if t = 3 then a3 else if t = 4 then a4 else if t = 5 then a5 else a6), ((fun k => (fC k).1), (fun k => (fC k).2))) := ⟨_, rfl⟩
  have hG1 : G.1 = s.heap.size := by rw [hG]
  have hK : va_K G.2.2.2 vwCl (tysA G) s := by
    rw [hG]
    refine ⟨fun k q hq => ?_, fun k q hq => ?_⟩
    · have hk : k < 11 := (List.getElem?_eq_some_iff.mp hq).1
      rw [vw_at k hk] at hq
      cases hq
      exact hfC k hk
    · match k, hq with
      | 0, hq => cases hq; exact ha0
      | 1, hq => cases hq; exact ha1
      | 2, hq => cases hq; exact ha2
      | 3, hq => cases hq; exact ha3
      | 4, hq => cases hq; exact ha4
      | 5, hq => cases hq; exact ha5
      | 6, hq => cases hq; exact ha6
      | k + 7, hq => simp [tysA] at hq
  have hsr : ∀ i, i < 21 → Jvm.Cond.stringRef RX2 (sidx.getD i 0) (stx.getD i "") ∈ lw_tbl := by
    have h1 : (List.range 21).all (fun i => decide (Jvm.Cond.stringRef RX2 (sidx.getD i 0) (stx.getD i "") ∈ lw_tbl)) = true := by decide +kernel
    exact fun i hi => of_decide_eq_true (List.all_eq_true.mp h1 i (List.mem_range.mpr hi))
  have hO : Old G (L, xs) adV s s.heap := by
    rw [hG]
    refine ⟨hX, hbl, ?_, fun i hi => ?_, ?_, ?_⟩
    · have e1 : (fun i => (fun k => if k = 2 then b else adK (k - 3)) (3 + i)) = adK := by
        funext i
        show (if 3 + i = 2 then b else adK (3 + i - 3)) = adK i
        rw [if_neg (by omega), show 3 + i - 3 = i by omega]
      show vk_S 21 slen sbyt (fun i => (fun k => if k = 2 then b else adK (k - 3)) (3 + i)) adV _ s s.heap
      rw [e1]
      exact hstr
    · have e1 : (fun k => if k = 2 then b else adK (k - 3)) (3 + i) = adK i := by
        show (if 3 + i = 2 then b else adK (3 + i - 3)) = adK i
        rw [if_neg (by omega), show 3 + i - 3 = i by omega]
      show vk_R RX2 (sidx.getD i 0) (stx.getD i "") ((fun k => if k = 2 then b else adK (k - 3)) (3 + i)) s
      rw [e1]
      refine vk_R.of (A := #[]) ?_ ?_
      · have h1 := hts _ (hsr i hi)
        simp only [Cond.before, Cond.holds, Cond.value] at h1 ⊢
        exact h1
      · have h1 := hadr i hi
        exact (Term.string_eval_of_vm (args := #[]) rfl).trans ((Term.string_eval_of_vm (args := #[Value.ref b]) rfl).symm.trans h1)
    · exact va_Zof (hts _ (by decide +kernel)) (hts _ (by decide +kernel)) (va_eqi (hfl _ (by decide +kernel))) (fun a ha => Nat.not_le.mpr ha)
    · exact va_Zqof (hts _ (by decide +kernel)) (hts _ (by decide +kernel)) (hfl _ (by decide +kernel)) (fun a ha => Nat.not_le.mpr ha)
  have hm : mt 263 = some md_263 := rfl
  have hts2 : ∀ w ∈ lw_t2, w.before #[Value.ref b] s = true := fun w hw => hts w (List.mem_filter.mp hw).1
  have F : FRm G (L, xs) adV md_263 p s m #[Value.ref b] meth c := ⟨hx, hb, hml, hown, hts2, (fun h => by cases h), hK, hO, by rw [hG1]; exact Nat.le_refl _⟩
  have hw0 := M0_wf L xs
  have hH : HR G (L, xs) s (M0 L xs) s.heap [] := ⟨fun k q hq => by simp [lay, cnt, M0] at hq, va_S.rf, hw0⟩
  have hLh := LH.entry G [.ref 2] (n := 4) (by decide)
  have hcv : cv G (.ref 2) = .ref b := by
    rw [hG]
    rfl
  have hmap : ([Value.ref 2] : List Value).map (cv G) = [Value.ref b] := by
    rw [List.map_cons, hcv]
    rfl
  rw [hmap] at hLh
  rw [lg_entry_eq]
  refine snd_all (l := l) n 60 md_263 263 0 (ent [.ref 2] 4) [] (M0 L xs) (some (.int 1), M') hm hn p e room_1 s m #[Value.ref b] below meth c s.heap [] (lw_Z below #[Value.ref b] s) _ 0 0 F hH hLh (by rw [hG1]; rfl) (Nat.zero_le _) (Nat.zero_le _) (by show cnt M' 0 - 0 ≤ 600000; omega) (by show cnt M' 1 - 0 ≤ 7302250; omega) (by decide) (by decide) ?_
  intro pc i len st H locs ls hc hrs hH'
  have h1 := (cdx_ok hm hc).1
  replace h1 : (decide (decode code pc = .ok (i, len)) && (match (generalizing := false) i with | .newarray _ => Nat.beq len 2 | _ => Nat.beq len 1)) = true := h1
  rw [Bool.and_eq_true] at h1
  have hd := of_decide_eq_true h1.1
  have h2 := h1.2
  replace hrs : rstep 2 i st M' = some (some (.int 1), M') := hrs
  have hst : i = .ireturn ∧ st = [.int 1] := by
    unfold rstep at hrs
    split at hrs
    · rename_i v
      cases hb1 : (Nat.beq 2 1 || (Nat.beq 2 2 && (v == 0 || v == 1))) with
      | false => rw [hb1] at hrs; cases hrs
      | true => rw [hb1] at hrs; cases hrs; exact ⟨rfl, rfl⟩
    · cases hrs
    · cases hrs
    · cases hrs
    · cases hrs
    · cases hrs
  obtain ⟨rfl, rfl⟩ := hst
  have hl := Nat.eq_of_beq_eq_true h2
  subst hl
  refine va_forget (fun q hq => by have := hH'.2.1.2.2 q hq; rw [← hG1]; exact this) ?_
  refine W.widen (k := 600000) (n := 7302250) (by show cnt M' 0 - 0 ≤ 600000; omega) (by show cnt M' 1 - 0 ≤ 7302250; omega) ?_
  exact lw_ret hx hb hr hlocks hd
end
section
/-! THE REFERENCE as a state: its fields (ints by their slots, one long), its rows of ints and of longs. It lies at 287 .. 305. -/
abbrev MS : Type := (Nat → Int32) × Int64 × (Nat → Nat → Int32) × (Nat → Nat → Int64)
def mfs (σ : MS) : List Value := [.int (σ.1 0), .ref 288, .ref 289, .ref 290, .ref 291, .ref 292, .int (σ.1 6), .int (σ.1 7), .int (σ.1 8), .int (σ.1 9), .int (σ.1 10), .long σ.2.1, .int (σ.1 12), .int (σ.1 13), .int (σ.1 14), .int (σ.1 15), .ref 293, .ref 294, .ref 295, .ref 296, .ref 297, .ref 298, .ref 299, .ref 300, .ref 301, .int (σ.1 25), .ref 302, .int (σ.1 27), .int (σ.1 28), .int (σ.1 29), .int (σ.1 30), .ref 303, .int (σ.1 32), .int (σ.1 33), .int (σ.1 34), .int (σ.1 35), .int (σ.1 36), .int (σ.1 37), .int (σ.1 38), .int (σ.1 39), .int (σ.1 40), .int (σ.1 41), .int (σ.1 42), .ref 304, .ref 305]
def mtl_ (k : Nat) : Nat × Nat := match k with
  | 0 => (0, 4)
  | 1 => (0, 4)
  | 2 => (1, 240)
  | 3 => (1, 60)
  | 4 => (2, 2000)
  | 5 => (0, 5)
  | 6 => (0, 25)
  | 7 => (0, 25)
  | 8 => (1, 5)
  | 9 => (0, 180)
  | 10 => (0, 315)
  | 11 => (0, 550)
  | 12 => (3, 3)
  | 13 => (0, 7)
  | 14 => (0, 7)
  | 15 => (0, 6)
  | 16 => (0, 7)
  | 17 => (0, 10)
  | _ => (0, 0)
def marr (σ : MS) (k : Nat) : AE := match k with
  | 0 => .inl (0, 4, .inl (σ.2.2.1 0))
  | 1 => .inl (0, 4, .inl (σ.2.2.1 1))
  | 2 => .inl (1, 240, .inr (.inl (σ.2.2.2 2)))
  | 3 => .inl (1, 60, .inr (.inl (σ.2.2.2 3)))
  | 4 => .inl (2, 2000, .inl (σ.2.2.1 4))
  | 5 => .inl (0, 5, .inl (σ.2.2.1 5))
  | 6 => .inl (0, 25, .inl (σ.2.2.1 6))
  | 7 => .inl (0, 25, .inl (σ.2.2.1 7))
  | 8 => .inl (1, 5, .inr (.inl (σ.2.2.2 8)))
  | 9 => .inl (0, 180, .inl (σ.2.2.1 9))
  | 10 => .inl (0, 315, .inl (σ.2.2.1 10))
  | 11 => .inl (0, 550, .inl (σ.2.2.1 11))
  | 12 => .inl (3, 3, .inl (σ.2.2.1 12))
  | 13 => .inl (0, 7, .inl (σ.2.2.1 13))
  | 14 => .inl (0, 7, .inl (σ.2.2.1 14))
  | 15 => .inl (0, 6, .inl (σ.2.2.1 15))
  | 16 => .inl (0, 7, .inl (σ.2.2.1 16))
  | 17 => .inl (0, 10, .inl (σ.2.2.1 17))
  | _ => .inr (99, [])
def mset (M : AM) (σ : MS) : AM := fun k => if k < 287 then M k else if k = 287 then .inr (10, mfs σ) else if k < 306 then marr σ (k - 288) else M k
def fset (σ : MS) (j : Nat) (x : Int32) : MS := (upd σ.1 j x, σ.2)
def jset (σ : MS) (x : Int64) : MS := (σ.1, x, σ.2.2)
def aset (σ : MS) (k : Nat) (f : Nat → Int32) : MS := (σ.1, σ.2.1, va_up σ.2.2.1 k f, σ.2.2.2)
def lset (σ : MS) (k : Nat) (f : Nat → Int64) : MS := (σ.1, σ.2.1, σ.2.2.1, va_up σ.2.2.2 k f)
def mint (j : Nat) : Bool := List.elem j [0, 6, 7, 8, 9, 10, 12, 13, 14, 15, 27, 28, 29, 32, 33, 34, 35, 36, 37, 38, 39, 40, 41, 42]
def mboo (j : Nat) : Bool := List.elem j [25, 30]
theorem mset_up {M : AM} {σ σ' : MS} (ha : σ'.2.2 = σ.2.2) : va_up (mset M σ) 287 (.inr (10, mfs σ')) = mset M σ' := by
  funext k
  by_cases hk : k = 287
  · subst hk
    rw [va_up_self]
    rfl
  · rw [va_up_ne _ _ hk]
    unfold mset
    rw [if_neg hk, if_neg hk]
    have : ∀ j, marr σ j = marr σ' j := fun j => by unfold marr; rw [ha]
    rw [this]
theorem mset_arr {M : AM} {σ σ' : MS} {k : Nat} {e : AE} (hk : k < 18) (hf : mfs σ' = mfs σ) (he : marr σ' k = e) (ho : ∀ j, j ≠ k → marr σ' j = marr σ j) : va_up (mset M σ) (k + 288) e = mset M σ' := by
  funext q
  by_cases hq : q = k + 288
  · subst hq
    rw [va_up_self]
    unfold mset
    rw [if_neg (by omega), if_neg (by omega), if_pos (by omega), show k + 288 - 288 = k by omega, he]
  · rw [va_up_ne _ _ hq]
    unfold mset
    by_cases h1 : q < 287
    · rw [if_pos h1, if_pos h1]
    · rw [if_neg h1, if_neg h1]
      by_cases h2 : q = 287
      · rw [if_pos h2, if_pos h2, hf]
      · rw [if_neg h2, if_neg h2]
        by_cases h3 : q < 306
        · rw [if_pos h3, if_pos h3, ho (q - 288) (by omega)]
        · rw [if_neg h3, if_neg h3]
theorem marr_ne {σ : MS} {k j : Nat} {f : Nat → Int32} (h : j ≠ k) : marr (aset σ k f) j = marr σ j := by
  have e : ∀ i, i ≠ k → va_up σ.2.2.1 k f i = σ.2.2.1 i := fun i hi => va_up_ne _ _ hi
  unfold marr aset
  dsimp only
  split <;> first | rfl | (rw [e _ (by omega)])
theorem marr_neL {σ : MS} {k j : Nat} {f : Nat → Int64} (h : j ≠ k) : marr (lset σ k f) j = marr σ j := by
  have e : ∀ i, i ≠ k → va_up σ.2.2.2 k f i = σ.2.2.2 i := fun i hi => va_up_ne _ _ hi
  unfold marr lset
  dsimp only
  split <;> first | rfl | (rw [e _ (by omega)])
section MRULE
variable {d : Nat} {X : MD} {pc len : Nat} {l : AL} {st : List Value} {M : AM} {σ : MS} {r : AR} {j : Nat} {v : Value}
theorem mint_set {σ : MS} {x : Int32} (h : mint j = true) : (mfs σ).set j (.int x) = mfs (fset σ j x) := by
  have h1 := List.elem_iff.mp h
  simp only [List.mem_cons, List.not_mem_nil, or_false] at h1
  rcases h1 with rfl | rfl | rfl | rfl | rfl | rfl | rfl | rfl | rfl | rfl | rfl | rfl | rfl | rfl | rfl | rfl | rfl | rfl | rfl | rfl | rfl | rfl | rfl | rfl <;> rfl
theorem mboo_set {σ : MS} {x : Int32} (h : mboo j = true) : (mfs σ).set j (.int x) = mfs (fset σ j x) := by
  have h1 := List.elem_iff.mp h
  simp only [List.mem_cons, List.not_mem_nil, or_false] at h1
  rcases h1 with rfl | rfl <;> rfl
theorem Ev.mput {x : Int32} (hc : cdx X pc = some (.inr (.inr (1, 10, j, v)), len)) (hj : mint j = true) (h : Ev d X (pc + len) l st (mset M (fset σ j x)) r) : Ev d X pc l (.int x :: .ref 287 :: st) (mset M σ) r := by
  refine Ev.put (fs := mfs σ) hc rfl ?_ ?_
  · have h1 := List.elem_iff.mp hj
    simp only [List.mem_cons, List.not_mem_nil, or_false] at h1
    rcases h1 with rfl | rfl | rfl | rfl | rfl | rfl | rfl | rfl | rfl | rfl | rfl | rfl | rfl | rfl | rfl | rfl | rfl | rfl | rfl | rfl | rfl | rfl | rfl | rfl <;> rfl
  · rw [mint_set hj, mset_up (σ := σ) (σ' := fset σ j x) rfl]
    exact h
theorem Ev.mputZ {x : Int32} (hc : cdx X pc = some (.inr (.inr (1, 10, j, v)), len)) (hj : mboo j = true) (hx : (x == 0 || x == 1) = true) (h : Ev d X (pc + len) l st (mset M (fset σ j x)) r) : Ev d X pc l (.int x :: .ref 287 :: st) (mset M σ) r := by
  refine Ev.put (fs := mfs σ) hc rfl ?_ ?_
  · have h1 := List.elem_iff.mp hj
    simp only [List.mem_cons, List.not_mem_nil, or_false] at h1
    rcases h1 with rfl | rfl
    · show (true && (x == 0 || x == 1) && true) = true
      rw [hx]; rfl
    · show (true && (x == 0 || x == 1) && true) = true
      rw [hx]; rfl
  · rw [mboo_set hj, mset_up (σ := σ) (σ' := fset σ j x) rfl]
    exact h
theorem Ev.mputJ {x : Int64} (hc : cdx X pc = some (.inr (.inr (1, 10, 11, v)), len)) (h : Ev d X (pc + len) l st (mset M (jset σ x)) r) : Ev d X pc l (.long x :: .ref 287 :: st) (mset M σ) r := by
  refine Ev.put (fs := mfs σ) hc rfl rfl ?_
  rw [show (mfs σ).set 11 (.long x) = mfs (jset σ x) from rfl, mset_up (σ := σ) (σ' := jset σ x) rfl]
  exact h
theorem marr_i {k n : Nat} (h : mtl_ k = (0, n)) (hn : n ≠ 0) : k < 18 ∧ ∀ σ : MS, marr σ k = .inl (0, n, .inl (σ.2.2.1 k)) := by
  unfold mtl_ at h
  split at h <;> first | (cases h; done) | (cases h; exact ⟨by decide, fun _ => rfl⟩) | (cases h; exact absurd rfl hn)
theorem mset_at {k : Nat} (h : k < 18) : mset M σ (k + 288) = marr σ k := by
  unfold mset
  rw [if_neg (by omega), if_neg (by omega), if_pos (by omega), show k + 288 - 288 = k by omega]
theorem Ev.miald {k n : Nat} {i : Int32} (hc : cdx X pc = some (.inr (.inl .iaload), len)) (hk : mtl_ k = (0, n)) (hn : n ≠ 0) (hi : vp_in i n) (h : Ev d X (pc + len) l (.int (σ.2.2.1 k i.toNatClampNeg) :: st) (mset M σ) r) : Ev d X pc l (.int i :: .ref (k + 288) :: st) (mset M σ) r :=
  Ev.iald hc ((mset_at (marr_i hk hn).1).trans ((marr_i hk hn).2 σ)) rfl hi h
theorem Ev.miast {k n : Nat} {i x : Int32} (hc : cdx X pc = some (.inr (.inl .iastore), len)) (hk : mtl_ k = (0, n)) (hn : n ≠ 0) (hi : vp_in i n) (h : Ev d X (pc + len) l st (mset M (aset σ k (upd (σ.2.2.1 k) i.toNatClampNeg x))) r) : Ev d X pc l (.int x :: .int i :: .ref (k + 288) :: st) (mset M σ) r := by
  obtain ⟨h1, h2⟩ := marr_i hk hn
  refine Ev.iast hc ((mset_at h1).trans (h2 σ)) hi ?_
  rw [mset_arr (σ := σ) (σ' := aset σ k (upd (σ.2.2.1 k) i.toNatClampNeg x)) h1 rfl ?_ (fun j hj => marr_ne hj)]
  · exact h
  · rw [h2]
    show _ = _
    rw [show (aset σ k (upd (σ.2.2.1 k) i.toNatClampNeg x)).2.2.1 k = upd (σ.2.2.1 k) i.toNatClampNeg x from va_up_self _ _ _]
theorem marr_l {k n : Nat} (h : mtl_ k = (1, n)) : k < 18 ∧ ∀ σ : MS, marr σ k = .inl (1, n, .inr (.inl (σ.2.2.2 k))) := by
  unfold mtl_ at h
  split at h <;> first | (cases h; done) | (cases h; exact ⟨by decide, fun _ => rfl⟩)
theorem Ev.mlald {k n : Nat} {i : Int32} (hc : cdx X pc = some (.inr (.inl .laload), len)) (hk : mtl_ k = (1, n)) (hi : vp_in i n) (h : Ev d X (pc + len) l (.long (σ.2.2.2 k i.toNatClampNeg) :: st) (mset M σ) r) : Ev d X pc l (.int i :: .ref (k + 288) :: st) (mset M σ) r :=
  Ev.lald hc ((mset_at (marr_l hk).1).trans ((marr_l hk).2 σ)) hi h
theorem Ev.mlast {k n : Nat} {i : Int32} {x : Int64} (hc : cdx X pc = some (.inr (.inl .lastore), len)) (hk : mtl_ k = (1, n)) (hi : vp_in i n) (h : Ev d X (pc + len) l st (mset M (lset σ k (vp_updL (σ.2.2.2 k) i.toNatClampNeg x))) r) : Ev d X pc l (.long x :: .int i :: .ref (k + 288) :: st) (mset M σ) r := by
  obtain ⟨h1, h2⟩ := marr_l hk
  refine Ev.last hc ((mset_at h1).trans (h2 σ)) hi ?_
  rw [mset_arr (σ := σ) (σ' := lset σ k (vp_updL (σ.2.2.2 k) i.toNatClampNeg x)) h1 rfl ?_ (fun j hj => marr_neL hj)]
  · exact h
  · rw [h2]
    rw [show (lset σ k (vp_updL (σ.2.2.2 k) i.toNatClampNeg x)).2.2.2 k = vp_updL (σ.2.2.2 k) i.toNatClampNeg x from va_up_self _ _ _]
theorem Ev.eq {r' : AR} (h : r' = r) (k : Ev d X pc l st M r') : Ev d X pc l st M r := h ▸ k
end MRULE
/-- a boolean as an int -/
def bI (b : Bool) : Int32 := cond b 1 0
theorem bI_01 (b : Bool) : (bI b == 0 || bI b == 1) = true := by cases b <;> rfl
end
section
/-! Numbers as integers, and small rules. -/
theorem i_le (x y : Int32) : x ≤ y ↔ x.toInt ≤ y.toInt := Int32.le_iff_toInt_le
theorem i_lt (x y : Int32) : x < y ↔ x.toInt < y.toInt := Int32.lt_iff_toInt_lt
theorem i_eq (x y : Int32) : x = y ↔ x.toInt = y.toInt := Int32.toInt_inj.symm
theorem l_le (x y : Int64) : x ≤ y ↔ x.toInt ≤ y.toInt := Int64.le_iff_toInt_le
theorem l_lt (x y : Int64) : x < y ↔ x.toInt < y.toInt := Int64.lt_iff_toInt_lt
theorem l_eq (x y : Int64) : x = y ↔ x.toInt = y.toInt := Int64.toInt_inj.symm
theorem il_toInt (x : Int32) : x.toInt64.toInt = x.toInt := by simp
theorem cmp_lt (x y : Int64) : lg_cmp x y < 0 ↔ x.toInt < y.toInt := by
  rw [← l_lt]
  unfold lg_cmp
  by_cases h1 : x > y
  · rw [if_pos h1]
    have h2 : y.toInt < x.toInt := (l_lt _ _).mp h1
    rw [l_lt]
    exact ⟨fun h => absurd h (by decide), fun h => by omega⟩
  · rw [if_neg h1]
    have h2 : ¬ y.toInt < x.toInt := fun h => h1 ((l_lt _ _).mpr h)
    by_cases h3 : x = y
    · rw [if_pos h3, l_lt]
      rw [l_eq] at h3
      exact ⟨fun h => absurd h (by decide), fun h => by omega⟩
    · rw [if_neg h3, l_lt]
      rw [l_eq] at h3
      exact ⟨fun _ => by omega, fun _ => by decide⟩
theorem cmp_gt (x y : Int64) : 0 < lg_cmp x y ↔ y.toInt < x.toInt := by
  rw [← l_lt]
  unfold lg_cmp
  by_cases h1 : x > y
  · rw [if_pos h1]
    exact ⟨fun _ => h1, fun _ => by decide⟩
  · rw [if_neg h1]
    by_cases h3 : x = y
    · rw [if_pos h3]
      exact ⟨fun h => absurd h (by decide), fun h => absurd h h1⟩
    · rw [if_neg h3]
      exact ⟨fun h => absurd h (by decide), fun h => absurd h h1⟩
theorem cmp_eq (x y : Int64) : lg_cmp x y = 0 ↔ x = y := by
  unfold lg_cmp
  by_cases h1 : x > y
  · rw [if_pos h1]
    exact ⟨fun h => absurd h (by decide), fun h => by subst h; exact absurd ((l_lt _ _).mp h1) (by omega)⟩
  · rw [if_neg h1]
    by_cases h3 : x = y
    · rw [if_pos h3]; exact ⟨fun _ => h3, fun _ => rfl⟩
    · rw [if_neg h3]
      exact ⟨fun h => absurd h (by decide), fun h => absurd h h3⟩
theorem bI_t {p : Prop} [Decidable p] (h : p) : bI (decide p) = 1 := by rw [decide_eq_true h]; rfl
theorem bI_f {p : Prop} [Decidable p] (h : ¬ p) : bI (decide p) = 0 := by rw [decide_eq_false h]; rfl
theorem vin {x : Int32} {n : Nat} (h0 : 0 ≤ x.toInt) (h1 : x.toInt < n) : vp_in x n := vp_in_iff.mpr ⟨h0, h1⟩
theorem clamp_toInt {x : Int32} (h0 : 0 ≤ x.toInt) : (x.toNatClampNeg : Int) = x.toInt := by
  show ((x.toInt.toNat : Nat) : Int) = x.toInt
  omega
section RULES
variable {d : Nat} {X : MD} {pc len : Nat} {l : AL} {st : List Value} {M : AM} {r : AR} {b : Nat} {v : Value}
/-- ifeq, ifne of a boolean -/
theorem Ev.ifb0 {c : Bool} {tgt : Nat} (hc : cdx X pc = some (.inr (.inr (20, tgt, b, v)), len)) (kt : c = false → Ev d X tgt l st M r) (kf : c = true → Ev d X (pc + len) l st M r) : Ev d X pc l (.int (bI c) :: st) M r := by
  refine Ev.if0 hc (fun h => kt ?_) (fun h => kf ?_)
  · cases c with
    | false => rfl
    | true => exact absurd h (by decide)
  · cases c with
    | true => rfl
    | false => exact absurd rfl h
theorem Ev.ifb1 {c : Bool} {tgt : Nat} (hc : cdx X pc = some (.inr (.inr (21, tgt, b, v)), len)) (kt : c = true → Ev d X tgt l st M r) (kf : c = false → Ev d X (pc + len) l st M r) : Ev d X pc l (.int (bI c) :: st) M r := by
  refine Ev.if1 hc (fun h => kt ?_) (fun h => kf ?_)
  · cases c with
    | true => rfl
    | false => exact absurd rfl h
  · cases c with
    | false => rfl
    | true => exact absurd h (by decide)
/-- a return of an int, a boolean, nothing; the answer is proved to be the one that is asked -/
theorem Ev.retI {x y : Int32} (hc : cdx X pc = some (.inr (.inl .ireturn), len)) (ht : md_r X = 1) (h : y = x) : Ev d X pc l [.int x] M (some (.int y), M) := by
  subst h
  refine Ev.ret hc ?_
  rw [ht]
  rfl
theorem Ev.retZ {x : Int32} {c : Bool} (hc : cdx X pc = some (.inr (.inl .ireturn), len)) (ht : md_r X = 2) (h : bI c = x) : Ev d X pc l [.int x] M (some (.int (bI c)), M) := by
  subst h
  refine Ev.ret hc ?_
  rw [ht]
  cases c <;> rfl
theorem Ev.retL {x y : Int64} (hc : cdx X pc = some (.inr (.inl .lreturn), len)) (ht : md_r X = 3) (h : y = x) : Ev d X pc l [.long x] M (some (.long y), M) := by
  subst h
  refine Ev.ret hc ?_
  rw [ht]
  rfl
theorem Ev.retV {M' : AM} (hc : cdx X pc = some (.inr (.inl .return_), len)) (ht : md_r X = 0) (h : M' = M) : Ev d X pc l [] M (none, M') := by
  subst h
  refine Ev.ret hc ?_
  rw [ht]
  rfl
theorem Ev.retR {x y : Nat} (hc : cdx X pc = some (.inr (.inl .areturn), len)) (ht : md_r X = 4) (h : y = x) : Ev d X pc l [.ref x] M (some (.ref y), M) := by
  subst h
  refine Ev.ret hc ?_
  rw [ht]
  rfl
theorem Ev.retN (hc : cdx X pc = some (.inr (.inl .areturn), len)) (ht : md_r X = 4) : Ev d X pc l [.null] M (some .null, M) := by
  refine Ev.ret hc ?_
  rw [ht]
  rfl
/-- 'thrown' is 0 and stays it -/
theorem Ev.mput0 {σ : MS} (hc : cdx X pc = some (.inr (.inr (1, 10, 0, v)), len)) (h0 : σ.1 0 = 0) (h : Ev d X (pc + len) l st (mset M σ) r) : Ev d X pc l (.int 0 :: .ref 287 :: st) (mset M σ) r := by
  refine Ev.mput (j := 0) hc rfl ?_
  have e : fset σ 0 0 = σ := by
    unfold fset
    have : upd σ.1 0 0 = σ.1 := by
      funext k
      unfold upd
      by_cases hk : k = 0
      · subst hk; simp [h0]
      · simp [hk]
    rw [this]
  rw [e]
  exact h
end RULES
/-- in(v, low, high) -/
theorem m_in {d : Nat} {M : AM} (a b c : Int64) : Ev d md_152 0 [some (.long a), none, some (.long b), none, some (.long c), none] [] M (some (.int (bI (decide (b.toInt ≤ a.toInt ∧ a.toInt ≤ c.toInt)))), M) := by
  refine Ev.n (pc' := 3) 3 rfl ?_
  refine Ev.if2 (tgt := 17) (len := 3) rfl (fun h3 => ?_) (fun h3 => ?_)
  · rw [cmp_lt] at h3
    refine Ev.n (pc' := 18) 1 rfl ?_
    exact Ev.retZ (len := 1) rfl rfl (bI_f (by omega))
  · rw [cmp_lt] at h3
    refine Ev.n (pc' := 10) 3 rfl ?_
    refine Ev.if4 (tgt := 17) (len := 3) rfl (fun h10 => ?_) (fun h10 => ?_)
    · rw [cmp_gt] at h10
      refine Ev.n (pc' := 18) 1 rfl ?_
      exact Ev.retZ (len := 1) rfl rfl (bI_f (by omega))
    · rw [cmp_gt] at h10
      refine Ev.n (pc' := 18) 2 rfl ?_
      exact Ev.retZ (len := 1) rfl rfl (bI_t (by omega))
theorem m_isSlot {d : Nat} {M : AM} (x : Int32) : Ev (d + 1) md_151 0 [some (.int x)] [] M (some (.int (bI (decide (0 ≤ x.toInt ∧ x.toInt ≤ 3)))), M) := by
  refine Ev.n (pc' := 6) 4 rfl ?_
  refine Ev.callS (len := 3) rfl rfl rfl rfl (m_in _ _ _) ?_
  refine Ev.retZ (len := 1) rfl rfl ?_
  rw [il_toInt]
  rfl
end
section
/-! Small methods of the reference. -/
theorem m_cut {d : Nat} {M : AM} (x : Int64) (w : Int32) : Ev (d) md_154 0 [some (.long x), none, some (.int w)] [] (M) (some (.long (if w = 0 then x.toInt32.toInt8.toInt32.toInt64 else if w = 1 then x.toInt32.toInt16.toInt32.toInt64 else if w = 2 then x.toInt32.toInt64 else x)), M) := by
  refine Ev.n (pc' := 1) 1 rfl ?_
  refine Ev.if1 (tgt := 11) (len := 3) rfl (fun h1 => ?_) (fun h1 => ?_)
  · skip
    refine Ev.n (pc' := 13) 2 rfl ?_
    refine Ev.ic1 (tgt := 23) (len := 3) rfl (fun h13 => ?_) (fun h13 => ?_)
    · skip
      refine Ev.n (pc' := 25) 2 rfl ?_
      refine Ev.ic1 (tgt := 34) (len := 3) rfl (fun h25 => ?_) (fun h25 => ?_)
      · skip
        refine Ev.n (pc' := 35) 1 rfl ?_
        refine Ev.retL (len := 1) rfl rfl ?_
        simp_all
      · skip
        refine Ev.n (pc' := 35) 4 rfl ?_
        refine Ev.retL (len := 1) rfl rfl ?_
        simp_all
    · skip
      refine Ev.n (pc' := 35) 5 rfl ?_
      refine Ev.retL (len := 1) rfl rfl ?_
      simp_all
  · skip
    refine Ev.n (pc' := 35) 5 rfl ?_
    refine Ev.retL (len := 1) rfl rfl ?_
    simp_all

theorem m_isLoad {d : Nat} {M : AM} (x : Int32) : Ev (d + 1) md_232 0 [some (.int x)] [] (M) (some (.int (bI (decide (1 ≤ x.toInt ∧ x.toInt ≤ 9)))), M) := by
  refine Ev.n (pc' := 6) 4 rfl ?_
  refine Ev.callS (len := 3) rfl rfl rfl rfl (m_in _ _ _) ?_
  refine Ev.retZ (len := 1) rfl rfl ?_
  rw [il_toInt]
  rfl

theorem m_isMore {d : Nat} {M : AM} (x : Int32) : Ev (d + 1) md_238 0 [some (.int x)] [] (M) (some (.int (bI (decide (1 ≤ x.toInt ∧ x.toInt ≤ 99)))), M) := by
  refine Ev.n (pc' := 6) 4 rfl ?_
  refine Ev.callS (len := 3) rfl rfl rfl rfl (m_in _ _ _) ?_
  refine Ev.retZ (len := 1) rfl rfl ?_
  rw [il_toInt]
  rfl

theorem m_isSeed {d : Nat} {M : AM} (x : Int32) : Ev (d + 1) md_257 0 [some (.int x)] [] (M) (some (.int (bI (decide (0 ≤ x.toInt ∧ x.toInt ≤ 2000000000)))), M) := by
  refine Ev.n (pc' := 6) 4 rfl ?_
  refine Ev.callS (len := 3) rfl rfl rfl rfl (m_in _ _ _) ?_
  refine Ev.retZ (len := 1) rfl rfl ?_
  rw [il_toInt]
  rfl

theorem m_isPlace {d : Nat} {M : AM} (σ : MS) (x : Int32) : Ev (d + 1) md_187 0 [some (.ref 287), some (.int x)] [] (mset M σ) (some (.int (bI (decide (0 ≤ x.toInt ∧ x.toInt ≤ ((σ.2.2.1 6 0) - 1).toInt)))), mset M σ) := by
  refine Ev.n (pc' := 8) 6 rfl ?_
  refine Ev.miald (len := 1) rfl rfl (by decide) (vin (by decide) (by decide)) ?_
  refine Ev.n (pc' := 12) 3 rfl ?_
  refine Ev.callS (len := 3) rfl rfl rfl rfl (m_in _ _ _) ?_
  refine Ev.retZ (len := 1) rfl rfl ?_
  simp only [il_toInt]
  rfl

theorem m_isDay {d : Nat} {M : AM} (σ : MS) (x : Int32) : Ev (d + 1) md_193 0 [some (.ref 287), some (.int x)] [] (mset M σ) (some (.int (bI (decide (0 ≤ x.toInt ∧ x.toInt ≤ ((σ.2.2.1 6 1) - 1).toInt)))), mset M σ) := by
  refine Ev.n (pc' := 8) 6 rfl ?_
  refine Ev.miald (len := 1) rfl rfl (by decide) (vin (by decide) (by decide)) ?_
  refine Ev.n (pc' := 12) 3 rfl ?_
  refine Ev.callS (len := 3) rfl rfl rfl rfl (m_in _ _ _) ?_
  refine Ev.retZ (len := 1) rfl rfl ?_
  simp only [il_toInt]
  rfl

theorem m_isWalk {d : Nat} {M : AM} (σ : MS) (x : Int32) : Ev (d + 1) md_199 0 [some (.ref 287), some (.int x)] [] (mset M σ) (some (.int (bI (decide (0 ≤ x.toInt ∧ x.toInt ≤ ((σ.2.2.1 6 4) - 1).toInt)))), mset M σ) := by
  refine Ev.n (pc' := 8) 6 rfl ?_
  refine Ev.miald (len := 1) rfl rfl (by decide) (vin (by decide) (by decide)) ?_
  refine Ev.n (pc' := 12) 3 rfl ?_
  refine Ev.callS (len := 3) rfl rfl rfl rfl (m_in _ _ _) ?_
  refine Ev.retZ (len := 1) rfl rfl ?_
  simp only [il_toInt]
  rfl

theorem tst1 (x : Int32) (h : x.toInt < (60 : Int32).toInt) (h2 : (-2 : Int32).toInt ≤ x.toInt) : x.toInt < 60 ∧ -2 ≤ x.toInt := by
  simp only [Int32.reduceToInt] at h h2
  omega
theorem tst2 (x : Int32) (h : ¬ x < 60) (h2 : -2 ≤ x) : 60 ≤ x.toInt := by
  simp only [i_lt, i_le, Int32.reduceToInt] at h h2
  omega
theorem tst3 (x : Int64) (h : ¬ x < 60) (h2 : -2 ≤ x) : 60 ≤ x.toInt := by
  simp only [l_lt, l_le, Int64.reduceToInt] at h h2
  omega
theorem tst4 (σ : MS) (h : ¬ σ.2.2.1 5 (Int32.toNatClampNeg 0) ≤ 0) (h9 : σ.2.2.1 5 (Int32.toNatClampNeg 7) ≤ 0) : 0 < (σ.2.2.1 5 0).toInt := by
  simp only [i_lt, i_le, Int32.reduceToInt, Int32.reduceToNatClampNeg] at h h9
  omega
theorem m_of {d : Nat} {M : AM} (σ : MS) (w what : Nat) (h : 11 * w + what < 550) : Ev (d) md_200 0 [some (.ref 287), some (.int (nI w)), some (.int (nI what))] [] (mset M σ) (some (.int (σ.2.2.1 11 (11 * w + what))), mset M σ) := by
  refine Ev.n (pc' := 10) 7 rfl ?_
  refine Ev.miald (len := 1) rfl rfl (by decide) ((by rw [show (11 : Int32) * nI w + nI what = nI (11 * w + what) by rw [← nI_add, ← pk_mul]; rfl]; exact vp_in_nI h (by omega))) ?_
  refine Ev.retI (len := 1) rfl rfl ?_
  rw [show (11 : Int32) * nI w + nI what = nI (11 * w + what) by rw [← nI_add, ← pk_mul]; rfl, nI_clamp (by omega)]
end
section
/-! A REALM of the class as a state: header (by slots), law, links (0..11 roads, 12..20 lanes), walks, their stops, distances. It lies at r .. r + 46. -/
abbrev RC : Type := (Nat → Int32) × (Nat → Int32) × (Nat → Nat → Int32) × (Nat → Nat → Int32) × (Nat → Nat → Int32) × (Nat → Int32)
def rhd (ρ : RC) : Nat → Int32 := ρ.1
def rlw (ρ : RC) : Nat → Int32 := ρ.2.1
def rlk (ρ : RC) : Nat → Nat → Int32 := ρ.2.2.1
def rwk (ρ : RC) : Nat → Nat → Int32 := ρ.2.2.2.1
def rst (ρ : RC) : Nat → Nat → Int32 := ρ.2.2.2.2.1
def rds (ρ : RC) : Nat → Int32 := ρ.2.2.2.2.2
def rfs (r : Nat) (ρ : RC) : List Value := [.int (rhd ρ 0), .int (rhd ρ 1), .int (rhd ρ 2), .int (rhd ρ 3), .ref (r + 1), .ref (r + 2), .int (rhd ρ 6), .ref (r + 15), .int (rhd ρ 8), .ref (r + 25), .int (rhd ρ 10), .ref (r + 46)]
def lfs (f : Nat → Int32) : List Value := [.int (f 0), .int (f 1), .int (f 2), .int (f 3), .int (f 4)]
def kfs (n : Nat) (f : Nat → Int32) : List Value := [.int (nI n), .int (f 1), .int (f 2), .int (f 3), .int (f 4), .int (f 5), .int (f 6)]
def wfs (f : Nat → Int32) (q : Nat) : List Value := [.int (f 0), .int (f 1), .int (f 2), .int (f 3), .ref q]
def rcell (r : Nat) (ρ : RC) (k : Nat) : AE :=
  if k = 0 then .inr (3, rfs r ρ)
  else if k = 1 then .inr (0, lfs (rlw ρ))
  else if k = 2 then .inl (4, 12, .inr (.inr (.inr (.inr (fun i => if i < 12 then some (r + 3 + i) else none)))))
  else if k < 15 then .inr (1, kfs (k - 3) (rlk ρ (k - 3)))
  else if k = 15 then .inl (4, 9, .inr (.inr (.inr (.inr (fun i => if i < 9 then some (r + 16 + i) else none)))))
  else if k < 25 then .inr (1, kfs (k - 16) (rlk ρ (k - 4)))
  else if k = 25 then .inl (5, 10, .inr (.inr (.inr (.inr (fun i => if i < 10 then some (r + 26 + 2 * i) else none)))))
  else if k < 46 then (if (k - 26) % 2 = 0 then .inr (7, wfs (rwk ρ ((k - 26) / 2)) (r + k + 1)) else .inl (0, 7, .inl (rst ρ ((k - 26) / 2))))
  else .inl (0, 49, .inl (rds ρ))
def rset (M : AM) (r : Nat) (ρ : RC) : AM := fun q => if r ≤ q ∧ q < r + 47 then rcell r ρ (q - r) else M q
section RS
variable {M : AM} {r : Nat} {ρ ρ' : RC}
theorem rset_at {k : Nat} (h : k < 47) : rset M r ρ (r + k) = rcell r ρ k := by
  unfold rset
  rw [if_pos ⟨by omega, by omega⟩, show r + k - r = k by omega]
theorem rset_ne {q : Nat} (h : q < r ∨ r + 47 ≤ q) : rset M r ρ q = M q := by
  unfold rset
  rw [if_neg (by omega)]
theorem rs_obj : rset M r ρ r = .inr (3, rfs r ρ) := rset_at (k := 0) (by decide)
theorem rs_law : rset M r ρ (r + 1) = .inr (0, lfs (rlw ρ)) := rset_at (k := 1) (by decide)
theorem rs_roads : rset M r ρ (r + 2) = .inl (4, 12, .inr (.inr (.inr (.inr (fun i => if i < 12 then some (r + 3 + i) else none))))) := rset_at (k := 2) (by decide)
theorem rs_road {i : Nat} (h : i < 12) : rset M r ρ (r + 3 + i) = .inr (1, kfs i (rlk ρ i)) := by
  rw [show r + 3 + i = r + (3 + i) by omega, rset_at (by omega)]
  unfold rcell
  rw [if_neg (by omega), if_neg (by omega), if_neg (by omega), if_pos (by omega), show 3 + i - 3 = i by omega]
theorem rs_lanes : rset M r ρ (r + 15) = .inl (4, 9, .inr (.inr (.inr (.inr (fun i => if i < 9 then some (r + 16 + i) else none))))) := rset_at (k := 15) (by decide)
theorem rs_lane {i : Nat} (h : i < 9) : rset M r ρ (r + 16 + i) = .inr (1, kfs i (rlk ρ (12 + i))) := by
  rw [show r + 16 + i = r + (16 + i) by omega, rset_at (by omega)]
  unfold rcell
  rw [if_neg (by omega), if_neg (by omega), if_neg (by omega), if_neg (by omega), if_neg (by omega), if_pos (by omega), show 16 + i - 16 = i by omega, show 16 + i - 4 = 12 + i by omega]
theorem rs_walks : rset M r ρ (r + 25) = .inl (5, 10, .inr (.inr (.inr (.inr (fun i => if i < 10 then some (r + 26 + 2 * i) else none))))) := rset_at (k := 25) (by decide)
theorem rs_walk {i : Nat} (h : i < 10) : rset M r ρ (r + 26 + 2 * i) = .inr (7, wfs (rwk ρ i) (r + 27 + 2 * i)) := by
  rw [show r + 26 + 2 * i = r + (26 + 2 * i) by omega, rset_at (by omega)]
  unfold rcell
  rw [if_neg (by omega), if_neg (by omega), if_neg (by omega), if_neg (by omega), if_neg (by omega), if_neg (by omega), if_neg (by omega), if_pos (by omega), if_pos (by omega), show (26 + 2 * i - 26) / 2 = i by omega, show r + (26 + 2 * i) + 1 = r + 27 + 2 * i by omega]
theorem rs_stops {i : Nat} (h : i < 10) : rset M r ρ (r + 27 + 2 * i) = .inl (0, 7, .inl (rst ρ i)) := by
  rw [show r + 27 + 2 * i = r + (27 + 2 * i) by omega, rset_at (by omega)]
  unfold rcell
  rw [if_neg (by omega), if_neg (by omega), if_neg (by omega), if_neg (by omega), if_neg (by omega), if_neg (by omega), if_neg (by omega), if_pos (by omega), if_neg (by omega), show (27 + 2 * i - 26) / 2 = i by omega]
theorem rs_dist : rset M r ρ (r + 46) = .inl (0, 49, .inl (rds ρ)) := rset_at (k := 46) (by decide)
theorem rset_up {k : Nat} {e : AE} (hk : k < 47) (he : rcell r ρ' k = e) (ho : ∀ j, j < 47 → j ≠ k → rcell r ρ' j = rcell r ρ j) : va_up (rset M r ρ) (r + k) e = rset M r ρ' := by
  funext q
  by_cases hq : q = r + k
  · subst hq
    rw [va_up_self, rset_at hk, he]
  · rw [va_up_ne _ _ hq]
    by_cases h1 : r ≤ q ∧ q < r + 47
    · obtain ⟨j, rfl⟩ : ∃ j, q = r + j := ⟨q - r, by omega⟩
      rw [rset_at (by omega), rset_at (by omega), ho j (by omega) (by omega)]
    · rw [rset_ne (by omega), rset_ne (by omega)]
def hset (ρ : RC) (j : Nat) (x : Int32) : RC := (upd (rhd ρ) j x, ρ.2)
def wset (ρ : RC) (j : Nat) (x : Int32) : RC := (ρ.1, upd (rlw ρ) j x, ρ.2.2)
def kset (ρ : RC) (i j : Nat) (x : Int32) : RC := (ρ.1, ρ.2.1, va_up (rlk ρ) i (upd (rlk ρ i) j x), ρ.2.2.2)
def gset (ρ : RC) (i j : Nat) (x : Int32) : RC := (ρ.1, ρ.2.1, ρ.2.2.1, va_up (rwk ρ) i (upd (rwk ρ i) j x), ρ.2.2.2.2)
def tset (ρ : RC) (i : Nat) (f : Nat → Int32) : RC := (ρ.1, ρ.2.1, ρ.2.2.1, ρ.2.2.2.1, va_up (rst ρ) i f, ρ.2.2.2.2.2)
def dset (ρ : RC) (f : Nat → Int32) : RC := (ρ.1, ρ.2.1, ρ.2.2.1, ρ.2.2.2.1, ρ.2.2.2.2.1, f)
theorem rc_hset {j k : Nat} {x : Int32} (hk : k ≠ 0) : rcell r (hset ρ j x) k = rcell r ρ k := by
  unfold rcell
  rw [if_neg hk, if_neg hk]
  rfl
theorem rc_wset {j k : Nat} {x : Int32} (hk : k ≠ 1) : rcell r (wset ρ j x) k = rcell r ρ k := by
  unfold rcell
  rw [if_neg hk, if_neg hk]
  rfl
theorem rc_dset {f : Nat → Int32} {k : Nat} (h : k < 46) : rcell r (dset ρ f) k = rcell r ρ k := by
  unfold rcell
  by_cases h0 : k = 0
  · rw [if_pos h0, if_pos h0]; rfl
  by_cases h1 : k = 1
  · rw [if_neg h0, if_neg h0, if_pos h1, if_pos h1]; rfl
  rw [if_neg h0, if_neg h0, if_neg h1, if_neg h1, if_pos h, if_pos h]
  rfl
theorem rc_kset {i j k : Nat} {x : Int32} (h1 : k < 15 → k ≠ 3 + i) (h2 : 15 < k → k ≠ 4 + i) : rcell r (kset ρ i j x) k = rcell r ρ k := by
  have e : ∀ q, q ≠ i → rlk (kset ρ i j x) q = rlk ρ q := fun q hq => va_up_ne _ _ hq
  unfold rcell
  by_cases a0 : k = 0
  · rw [if_pos a0, if_pos a0]; rfl
  rw [if_neg a0, if_neg a0]
  by_cases a1 : k = 1
  · rw [if_pos a1, if_pos a1]; rfl
  rw [if_neg a1, if_neg a1]
  by_cases a2 : k = 2
  · rw [if_pos a2, if_pos a2]
  rw [if_neg a2, if_neg a2]
  by_cases a3 : k < 15
  · have := h1 a3
    rw [if_pos a3, if_pos a3, e _ (by omega)]
  rw [if_neg a3, if_neg a3]
  by_cases a4 : k = 15
  · rw [if_pos a4, if_pos a4]
  rw [if_neg a4, if_neg a4]
  by_cases a5 : k < 25
  · have := h2 (by omega)
    rw [if_pos a5, if_pos a5, e _ (by omega)]
  rw [if_neg a5, if_neg a5]
  rfl
theorem rc_gset {i j k : Nat} {x : Int32} (h1 : k ≠ 26 + 2 * i) : rcell r (gset ρ i j x) k = rcell r ρ k := by
  have e : ∀ q, q ≠ i → rwk (gset ρ i j x) q = rwk ρ q := fun q hq => va_up_ne _ _ hq
  unfold rcell
  by_cases a0 : k = 0
  · rw [if_pos a0, if_pos a0]; rfl
  rw [if_neg a0, if_neg a0]
  by_cases a1 : k = 1
  · rw [if_pos a1, if_pos a1]; rfl
  rw [if_neg a1, if_neg a1]
  by_cases a2 : k = 2
  · rw [if_pos a2, if_pos a2]
  rw [if_neg a2, if_neg a2]
  by_cases a3 : k < 15
  · rw [if_pos a3, if_pos a3]; rfl
  rw [if_neg a3, if_neg a3]
  by_cases a4 : k = 15
  · rw [if_pos a4, if_pos a4]
  rw [if_neg a4, if_neg a4]
  by_cases a5 : k < 25
  · rw [if_pos a5, if_pos a5]; rfl
  rw [if_neg a5, if_neg a5]
  by_cases a6 : k = 25
  · rw [if_pos a6, if_pos a6]
  rw [if_neg a6, if_neg a6]
  by_cases a7 : k < 46
  · rw [if_pos a7, if_pos a7]
    by_cases a8 : (k - 26) % 2 = 0
    · rw [if_pos a8, if_pos a8, e _ (by omega)]
    · rw [if_neg a8, if_neg a8]; rfl
  · rw [if_neg a7, if_neg a7]; rfl
theorem rc_tset {i k : Nat} {f : Nat → Int32} (h1 : k ≠ 27 + 2 * i) : rcell r (tset ρ i f) k = rcell r ρ k := by
  have e : ∀ q, q ≠ i → rst (tset ρ i f) q = rst ρ q := fun q hq => va_up_ne _ _ hq
  unfold rcell
  by_cases a0 : k = 0
  · rw [if_pos a0, if_pos a0]; rfl
  rw [if_neg a0, if_neg a0]
  by_cases a1 : k = 1
  · rw [if_pos a1, if_pos a1]; rfl
  rw [if_neg a1, if_neg a1]
  by_cases a2 : k = 2
  · rw [if_pos a2, if_pos a2]
  rw [if_neg a2, if_neg a2]
  by_cases a3 : k < 15
  · rw [if_pos a3, if_pos a3]; rfl
  rw [if_neg a3, if_neg a3]
  by_cases a4 : k = 15
  · rw [if_pos a4, if_pos a4]
  rw [if_neg a4, if_neg a4]
  by_cases a5 : k < 25
  · rw [if_pos a5, if_pos a5]; rfl
  rw [if_neg a5, if_neg a5]
  by_cases a6 : k = 25
  · rw [if_pos a6, if_pos a6]
  rw [if_neg a6, if_neg a6]
  by_cases a7 : k < 46
  · rw [if_pos a7, if_pos a7]
    by_cases a8 : (k - 26) % 2 = 0
    · rw [if_pos a8, if_pos a8]; rfl
    · rw [if_neg a8, if_neg a8, e _ (by omega)]
  · rw [if_neg a7, if_neg a7]; rfl
/-- a field of the realm itself is written -/
theorem ru_hd {j : Nat} {x : Int32} (hj : j = 0 ∨ j = 1 ∨ j = 2 ∨ j = 3 ∨ j = 6 ∨ j = 8 ∨ j = 10) : va_up (rset M r ρ) r (.inr (3, (rfs r ρ).set j (.int x))) = rset M r (hset ρ j x) := by
  refine rset_up (k := 0) (by decide) ?_ (fun q _ hq => rc_hset hq)
  rcases hj with rfl | rfl | rfl | rfl | rfl | rfl | rfl <;> rfl
theorem ru_lw {j : Nat} {x : Int32} (hj : j < 5) : va_up (rset M r ρ) (r + 1) (.inr (0, (lfs (rlw ρ)).set j (.int x))) = rset M r (wset ρ j x) := by
  refine rset_up (k := 1) (by decide) ?_ (fun q _ hq => rc_wset hq)
  match j, hj with
  | 0, _ => rfl | 1, _ => rfl | 2, _ => rfl | 3, _ => rfl | 4, _ => rfl
theorem kfs_set {n j : Nat} {f : Nat → Int32} {x : Int32} (h1 : 1 ≤ j) (h2 : j ≤ 6) : (kfs n f).set j (.int x) = kfs n (upd f j x) := by
  match j, h1, h2 with
  | 1, _, _ => rfl | 2, _, _ => rfl | 3, _, _ => rfl | 4, _, _ => rfl | 5, _, _ => rfl | 6, _, _ => rfl
theorem ru_road {i j : Nat} {x : Int32} (hi : i < 12) (h1 : 1 ≤ j) (h2 : j ≤ 6) : va_up (rset M r ρ) (r + 3 + i) (.inr (1, (kfs i (rlk ρ i)).set j (.int x))) = rset M r (kset ρ i j x) := by
  rw [show r + 3 + i = r + (3 + i) by omega, kfs_set h1 h2]
  refine rset_up (k := 3 + i) (by omega) ?_ (fun q hq hne => rc_kset (by omega) (by omega))
  unfold rcell
  rw [if_neg (by omega), if_neg (by omega), if_neg (by omega), if_pos (by omega), show 3 + i - 3 = i by omega]
  show _ = _
  rw [show rlk (kset ρ i j x) i = upd (rlk ρ i) j x from va_up_self _ _ _]
theorem ru_lane {i j : Nat} {x : Int32} (hi : i < 9) (h1 : 1 ≤ j) (h2 : j ≤ 6) : va_up (rset M r ρ) (r + 16 + i) (.inr (1, (kfs i (rlk ρ (12 + i))).set j (.int x))) = rset M r (kset ρ (12 + i) j x) := by
  rw [show r + 16 + i = r + (16 + i) by omega, kfs_set h1 h2]
  refine rset_up (k := 16 + i) (by omega) ?_ (fun q hq hne => rc_kset (by omega) (by omega))
  unfold rcell
  rw [if_neg (by omega), if_neg (by omega), if_neg (by omega), if_neg (by omega), if_neg (by omega), if_pos (by omega), show 16 + i - 16 = i by omega, show 16 + i - 4 = 12 + i by omega]
  rw [show rlk (kset ρ (12 + i) j x) (12 + i) = upd (rlk ρ (12 + i)) j x from va_up_self _ _ _]
theorem ru_walk {i j : Nat} {x : Int32} (hi : i < 10) (h2 : j ≤ 3) : va_up (rset M r ρ) (r + 26 + 2 * i) (.inr (7, (wfs (rwk ρ i) (r + 27 + 2 * i)).set j (.int x))) = rset M r (gset ρ i j x) := by
  have e : (wfs (rwk ρ i) (r + 27 + 2 * i)).set j (.int x) = wfs (upd (rwk ρ i) j x) (r + 27 + 2 * i) := by
    match j, h2 with
    | 0, _ => rfl | 1, _ => rfl | 2, _ => rfl | 3, _ => rfl
  rw [show r + 26 + 2 * i = r + (26 + 2 * i) by omega, e]
  refine rset_up (k := 26 + 2 * i) (by omega) ?_ (fun q hq hne => rc_gset hne)
  unfold rcell
  rw [if_neg (by omega), if_neg (by omega), if_neg (by omega), if_neg (by omega), if_neg (by omega), if_neg (by omega), if_neg (by omega), if_pos (by omega), if_pos (by omega), show (26 + 2 * i - 26) / 2 = i by omega, show r + (26 + 2 * i) + 1 = r + 27 + 2 * i by omega]
  rw [show rwk (gset ρ i j x) i = upd (rwk ρ i) j x from va_up_self _ _ _]
theorem ru_stops {i : Nat} {f : Nat → Int32} (hi : i < 10) : va_up (rset M r ρ) (r + 27 + 2 * i) (.inl (0, 7, .inl f)) = rset M r (tset ρ i f) := by
  rw [show r + 27 + 2 * i = r + (27 + 2 * i) by omega]
  refine rset_up (k := 27 + 2 * i) (by omega) ?_ (fun q hq hne => rc_tset hne)
  unfold rcell
  rw [if_neg (by omega), if_neg (by omega), if_neg (by omega), if_neg (by omega), if_neg (by omega), if_neg (by omega), if_neg (by omega), if_pos (by omega), if_neg (by omega), show (27 + 2 * i - 26) / 2 = i by omega]
  rw [show rst (tset ρ i f) i = f from va_up_self _ _ _]
theorem ru_dist {f : Nat → Int32} : va_up (rset M r ρ) (r + 46) (.inl (0, 49, .inl f)) = rset M r (dset ρ f) := by
  refine rset_up (k := 46) (by decide) rfl (fun q hq hne => rc_dset (by omega))
end RS
end
section
/-! Small methods of the class. -/
theorem c_hasPlace {d : Nat} {M : AM} {r : Nat} {ρ : RC} (x : Int32) : Ev (d) md_33 0 [some (.ref r), some (.int x)] [] (rset M r ρ) (some (.int (bI (decide (0 ≤ x.toInt ∧ x.toInt < (rhd ρ 0).toInt)))), rset M r ρ) := by
  refine Ev.n (pc' := 1) 1 rfl ?_
  refine Ev.if2 (tgt := 16) (len := 3) rfl (fun h1 => ?_) (fun h1 => ?_)
  · try simp only [i_lt, i_le, Int32.reduceToInt, Int32.reduceToNatClampNeg] at h1
    refine Ev.n (pc' := 17) 1 rfl ?_
    refine Ev.retZ (len := 1) rfl rfl ?_
    first | exact bI_t (by omega) | exact bI_f (by omega)
  · try simp only [i_lt, i_le, Int32.reduceToInt, Int32.reduceToNatClampNeg] at h1
    refine Ev.n (pc' := 6) 2 rfl ?_
    refine Ev.get (len := 3) rfl rs_obj rfl ?_
    refine Ev.ic3 (tgt := 16) (len := 3) rfl (fun h9 => ?_) (fun h9 => ?_)
    · try simp only [i_lt, i_le, Int32.reduceToInt, Int32.reduceToNatClampNeg] at h9
      refine Ev.n (pc' := 17) 1 rfl ?_
      refine Ev.retZ (len := 1) rfl rfl ?_
      first | exact bI_t (by omega) | exact bI_f (by omega)
    · try simp only [i_lt, i_le, Int32.reduceToInt, Int32.reduceToNatClampNeg] at h9
      refine Ev.n (pc' := 17) 2 rfl ?_
      refine Ev.retZ (len := 1) rfl rfl ?_
      first | exact bI_t (by omega) | exact bI_f (by omega)

theorem c_hasDay {d : Nat} {M : AM} {r : Nat} {ρ : RC} (x : Int32) : Ev (d) md_38 0 [some (.ref r), some (.int x)] [] (rset M r ρ) (some (.int (bI (decide (0 ≤ x.toInt ∧ x.toInt < (rhd ρ 1).toInt)))), rset M r ρ) := by
  refine Ev.n (pc' := 1) 1 rfl ?_
  refine Ev.if2 (tgt := 16) (len := 3) rfl (fun h1 => ?_) (fun h1 => ?_)
  · try simp only [i_lt, i_le, Int32.reduceToInt, Int32.reduceToNatClampNeg] at h1
    refine Ev.n (pc' := 17) 1 rfl ?_
    refine Ev.retZ (len := 1) rfl rfl ?_
    first | exact bI_t (by omega) | exact bI_f (by omega)
  · try simp only [i_lt, i_le, Int32.reduceToInt, Int32.reduceToNatClampNeg] at h1
    refine Ev.n (pc' := 6) 2 rfl ?_
    refine Ev.get (len := 3) rfl rs_obj rfl ?_
    refine Ev.ic3 (tgt := 16) (len := 3) rfl (fun h9 => ?_) (fun h9 => ?_)
    · try simp only [i_lt, i_le, Int32.reduceToInt, Int32.reduceToNatClampNeg] at h9
      refine Ev.n (pc' := 17) 1 rfl ?_
      refine Ev.retZ (len := 1) rfl rfl ?_
      first | exact bI_t (by omega) | exact bI_f (by omega)
    · try simp only [i_lt, i_le, Int32.reduceToInt, Int32.reduceToNatClampNeg] at h9
      refine Ev.n (pc' := 17) 2 rfl ?_
      refine Ev.retZ (len := 1) rfl rfl ?_
      first | exact bI_t (by omega) | exact bI_f (by omega)

theorem c_hasRoad {d : Nat} {M : AM} {r : Nat} {ρ : RC} (x : Int32) : Ev (d) md_48 0 [some (.ref r), some (.int x)] [] (rset M r ρ) (some (.int (bI (decide (0 ≤ x.toInt ∧ x.toInt < (rhd ρ 6).toInt)))), rset M r ρ) := by
  refine Ev.n (pc' := 1) 1 rfl ?_
  refine Ev.if2 (tgt := 16) (len := 3) rfl (fun h1 => ?_) (fun h1 => ?_)
  · try simp only [i_lt, i_le, Int32.reduceToInt, Int32.reduceToNatClampNeg] at h1
    refine Ev.n (pc' := 17) 1 rfl ?_
    refine Ev.retZ (len := 1) rfl rfl ?_
    first | exact bI_t (by omega) | exact bI_f (by omega)
  · try simp only [i_lt, i_le, Int32.reduceToInt, Int32.reduceToNatClampNeg] at h1
    refine Ev.n (pc' := 6) 2 rfl ?_
    refine Ev.get (len := 3) rfl rs_obj rfl ?_
    refine Ev.ic3 (tgt := 16) (len := 3) rfl (fun h9 => ?_) (fun h9 => ?_)
    · try simp only [i_lt, i_le, Int32.reduceToInt, Int32.reduceToNatClampNeg] at h9
      refine Ev.n (pc' := 17) 1 rfl ?_
      refine Ev.retZ (len := 1) rfl rfl ?_
      first | exact bI_t (by omega) | exact bI_f (by omega)
    · try simp only [i_lt, i_le, Int32.reduceToInt, Int32.reduceToNatClampNeg] at h9
      refine Ev.n (pc' := 17) 2 rfl ?_
      refine Ev.retZ (len := 1) rfl rfl ?_
      first | exact bI_t (by omega) | exact bI_f (by omega)

theorem c_hasLane {d : Nat} {M : AM} {r : Nat} {ρ : RC} (x : Int32) : Ev (d) md_37 0 [some (.ref r), some (.int x)] [] (rset M r ρ) (some (.int (bI (decide (0 ≤ x.toInt ∧ x.toInt < (rhd ρ 8).toInt)))), rset M r ρ) := by
  refine Ev.n (pc' := 1) 1 rfl ?_
  refine Ev.if2 (tgt := 16) (len := 3) rfl (fun h1 => ?_) (fun h1 => ?_)
  · try simp only [i_lt, i_le, Int32.reduceToInt, Int32.reduceToNatClampNeg] at h1
    refine Ev.n (pc' := 17) 1 rfl ?_
    refine Ev.retZ (len := 1) rfl rfl ?_
    first | exact bI_t (by omega) | exact bI_f (by omega)
  · try simp only [i_lt, i_le, Int32.reduceToInt, Int32.reduceToNatClampNeg] at h1
    refine Ev.n (pc' := 6) 2 rfl ?_
    refine Ev.get (len := 3) rfl rs_obj rfl ?_
    refine Ev.ic3 (tgt := 16) (len := 3) rfl (fun h9 => ?_) (fun h9 => ?_)
    · try simp only [i_lt, i_le, Int32.reduceToInt, Int32.reduceToNatClampNeg] at h9
      refine Ev.n (pc' := 17) 1 rfl ?_
      refine Ev.retZ (len := 1) rfl rfl ?_
      first | exact bI_t (by omega) | exact bI_f (by omega)
    · try simp only [i_lt, i_le, Int32.reduceToInt, Int32.reduceToNatClampNeg] at h9
      refine Ev.n (pc' := 17) 2 rfl ?_
      refine Ev.retZ (len := 1) rfl rfl ?_
      first | exact bI_t (by omega) | exact bI_f (by omega)

theorem c_hasWalk {d : Nat} {M : AM} {r : Nat} {ρ : RC} (x : Int32) : Ev (d) md_41 0 [some (.ref r), some (.int x)] [] (rset M r ρ) (some (.int (bI (decide (0 ≤ x.toInt ∧ x.toInt < (rhd ρ 10).toInt)))), rset M r ρ) := by
  refine Ev.n (pc' := 1) 1 rfl ?_
  refine Ev.if2 (tgt := 16) (len := 3) rfl (fun h1 => ?_) (fun h1 => ?_)
  · try simp only [i_lt, i_le, Int32.reduceToInt, Int32.reduceToNatClampNeg] at h1
    refine Ev.n (pc' := 17) 1 rfl ?_
    refine Ev.retZ (len := 1) rfl rfl ?_
    first | exact bI_t (by omega) | exact bI_f (by omega)
  · try simp only [i_lt, i_le, Int32.reduceToInt, Int32.reduceToNatClampNeg] at h1
    refine Ev.n (pc' := 6) 2 rfl ?_
    refine Ev.get (len := 3) rfl rs_obj rfl ?_
    refine Ev.ic3 (tgt := 16) (len := 3) rfl (fun h9 => ?_) (fun h9 => ?_)
    · try simp only [i_lt, i_le, Int32.reduceToInt, Int32.reduceToNatClampNeg] at h9
      refine Ev.n (pc' := 17) 1 rfl ?_
      refine Ev.retZ (len := 1) rfl rfl ?_
      first | exact bI_t (by omega) | exact bI_f (by omega)
    · try simp only [i_lt, i_le, Int32.reduceToInt, Int32.reduceToNatClampNeg] at h9
      refine Ev.n (pc' := 17) 2 rfl ?_
      refine Ev.retZ (len := 1) rfl rfl ?_
      first | exact bI_t (by omega) | exact bI_f (by omega)

theorem c_exists {d : Nat} {M : AM} {r : Nat} {ρ : RC} : Ev (d) md_42 0 [some (.ref r)] [] (rset M r ρ) (some (.int (bI (decide (0 < (rhd ρ 0).toInt)))), rset M r ρ) := by
  refine Ev.n (pc' := 1) 1 rfl ?_
  refine Ev.get (len := 3) rfl rs_obj rfl ?_
  refine Ev.if5 (tgt := 11) (len := 3) rfl (fun h4 => ?_) (fun h4 => ?_)
  · try simp only [i_lt, i_le, Int32.reduceToInt, Int32.reduceToNatClampNeg] at h4
    refine Ev.n (pc' := 12) 1 rfl ?_
    refine Ev.retZ (len := 1) rfl rfl ?_
    first | exact bI_t (by omega) | exact bI_f (by omega)
  · try simp only [i_lt, i_le, Int32.reduceToInt, Int32.reduceToNatClampNeg] at h4
    refine Ev.n (pc' := 12) 2 rfl ?_
    refine Ev.retZ (len := 1) rfl rfl ?_
    first | exact bI_t (by omega) | exact bI_f (by omega)

theorem c_isWithin {d : Nat} {M : AM} (n a b : Int32) : Ev (d) md_117 0 [some (.int n), some (.int a), some (.int b)] [] (M) (some (.int (bI (decide (a.toInt ≤ n.toInt ∧ n.toInt ≤ b.toInt)))), M) := by
  refine Ev.n (pc' := 2) 2 rfl ?_
  refine Ev.ic2 (tgt := 14) (len := 3) rfl (fun h2 => ?_) (fun h2 => ?_)
  · try simp only [i_lt, i_le, Int32.reduceToInt, Int32.reduceToNatClampNeg] at h2
    refine Ev.n (pc' := 15) 1 rfl ?_
    refine Ev.retZ (len := 1) rfl rfl ?_
    first | exact bI_t (by omega) | exact bI_f (by omega)
  · try simp only [i_lt, i_le, Int32.reduceToInt, Int32.reduceToNatClampNeg] at h2
    refine Ev.n (pc' := 7) 2 rfl ?_
    refine Ev.ic4 (tgt := 14) (len := 3) rfl (fun h7 => ?_) (fun h7 => ?_)
    · try simp only [i_lt, i_le, Int32.reduceToInt, Int32.reduceToNatClampNeg] at h7
      refine Ev.n (pc' := 15) 1 rfl ?_
      refine Ev.retZ (len := 1) rfl rfl ?_
      first | exact bI_t (by omega) | exact bI_f (by omega)
    · try simp only [i_lt, i_le, Int32.reduceToInt, Int32.reduceToNatClampNeg] at h7
      refine Ev.n (pc' := 15) 2 rfl ?_
      refine Ev.retZ (len := 1) rfl rfl ?_
      first | exact bI_t (by omega) | exact bI_f (by omega)

theorem c_isThought {d : Nat} {M : AM} (n : Int32) : Ev (d + 1) md_126 0 [some (.int n)] [] (M) (some (.int (bI (decide (1 ≤ n.toInt ∧ n.toInt ≤ 99)))), M) := by
  refine Ev.n (pc' := 4) 3 rfl ?_
  refine Ev.callS (len := 3) rfl rfl rfl rfl (c_isWithin _ _ _) ?_
  refine Ev.retZ (len := 1) rfl rfl ?_
  simp only [Int32.reduceToInt]

theorem c_isLoad {d : Nat} {M : AM} (n : Int32) : Ev (d + 1) md_116 0 [some (.int n)] [] (M) (some (.int (bI (decide (1 ≤ n.toInt ∧ n.toInt ≤ 9)))), M) := by
  refine Ev.n (pc' := 4) 3 rfl ?_
  refine Ev.callS (len := 3) rfl rfl rfl rfl (c_isWithin _ _ _) ?_
  refine Ev.retZ (len := 1) rfl rfl ?_
  simp only [Int32.reduceToInt]

theorem c_isSum {d : Nat} {M : AM} (n : Int32) : Ev (d + 1) md_121 0 [some (.int n)] [] (M) (some (.int (bI (decide (0 ≤ n.toInt ∧ n.toInt ≤ 3)))), M) := by
  refine Ev.n (pc' := 3) 3 rfl ?_
  refine Ev.callS (len := 3) rfl rfl rfl rfl (c_isWithin _ _ _) ?_
  refine Ev.retZ (len := 1) rfl rfl ?_
  simp only [Int32.reduceToInt]

theorem c_pairOf {d : Nat} {M : AM} (a b : Nat) : Ev (d) md_91 0 [some (.int (nI a)), some (.int (nI b))] [] (M) (some (.int (nI (7 * a + b))), M) := by
  refine Ev.n (pc' := 6) 5 rfl ?_
  refine Ev.retI (len := 1) rfl rfl ?_
  rw [← nI_add, ← pk_mul, Int32.mul_comm]
  rfl

theorem c_dutyOn {d : Nat} {M : AM} {r : Nat} {ρ : RC} (s l y : Int32) : Ev (d) md_3 0 [some (.ref (r + 1)), some (.int s), some (.int l), some (.int y), none] [] (rset M r ρ) (some (.int (if s.toInt ≤ (rlw ρ 1).toInt ∨ (y - y / 7 * 7 = 6 ∧ rlw ρ 3 = 0) then 0 else (s - rlw ρ 1) * rlw ρ 0 * (if rlw ρ 4 = 1 then l else 1))), rset M r ρ) := by
  refine Ev.n (pc' := 3) 2 rfl ?_
  refine Ev.s (pc' := 4) rfl ?_
  refine Ev.n (pc' := 6) 1 rfl ?_
  refine Ev.ic1 (tgt := 13) (len := 3) rfl (fun h6 => ?_) (fun h6 => ?_)
  · skip
    refine Ev.n (pc' := 18) 4 rfl ?_
    refine Ev.get (len := 3) rfl rs_law rfl ?_
    refine Ev.ic5 (tgt := 36) (len := 3) rfl (fun h21 => ?_) (fun h21 => ?_)
    · try simp only [i_lt, i_le, Int32.reduceToInt, Int32.reduceToNatClampNeg] at h21
      refine Ev.n (pc' := 37) 1 rfl ?_
      refine Ev.retI (len := 1) rfl rfl ?_
      first
        | (rw [if_neg (by rintro (h | ⟨h, h'⟩) <;> first | omega | contradiction)]; simp_all; done)
        | (rw [if_pos (by first | exact Or.inl (by omega) | exact Or.inr ⟨by assumption, by assumption⟩)])
    · try simp only [i_lt, i_le, Int32.reduceToInt, Int32.reduceToNatClampNeg] at h21
      refine Ev.n (pc' := 26) 1 rfl ?_
      refine Ev.if0 (tgt := 38) (len := 3) rfl (fun h26 => ?_) (fun h26 => ?_)
      · skip
        refine Ev.n (pc' := 40) 2 rfl ?_
        refine Ev.get (len := 3) rfl rs_law rfl ?_
        refine Ev.n (pc' := 45) 2 rfl ?_
        refine Ev.get (len := 3) rfl rs_law rfl ?_
        refine Ev.n (pc' := 50) 2 rfl ?_
        refine Ev.get (len := 3) rfl rs_law rfl ?_
        refine Ev.n (pc' := 54) 1 rfl ?_
        refine Ev.ic1 (tgt := 61) (len := 3) rfl (fun h54 => ?_) (fun h54 => ?_)
        · skip
          refine Ev.n (pc' := 63) 2 rfl ?_
          refine Ev.retI (len := 1) rfl rfl ?_
          first
            | (rw [if_neg (by rintro (h | ⟨h, h'⟩) <;> first | omega | contradiction)]; simp_all; done)
            | (rw [if_pos (by first | exact Or.inl (by omega) | exact Or.inr ⟨by assumption, by assumption⟩)])
        · skip
          refine Ev.n (pc' := 63) 3 rfl ?_
          refine Ev.retI (len := 1) rfl rfl ?_
          first
            | (rw [if_neg (by rintro (h | ⟨h, h'⟩) <;> first | omega | contradiction)]; simp_all; done)
            | (rw [if_pos (by first | exact Or.inl (by omega) | exact Or.inr ⟨by assumption, by assumption⟩)])
      · skip
        refine Ev.n (pc' := 30) 1 rfl ?_
        refine Ev.get (len := 3) rfl rs_law rfl ?_
        refine Ev.if1 (tgt := 38) (len := 3) rfl (fun h33 => ?_) (fun h33 => ?_)
        · skip
          refine Ev.n (pc' := 40) 2 rfl ?_
          refine Ev.get (len := 3) rfl rs_law rfl ?_
          refine Ev.n (pc' := 45) 2 rfl ?_
          refine Ev.get (len := 3) rfl rs_law rfl ?_
          refine Ev.n (pc' := 50) 2 rfl ?_
          refine Ev.get (len := 3) rfl rs_law rfl ?_
          refine Ev.n (pc' := 54) 1 rfl ?_
          refine Ev.ic1 (tgt := 61) (len := 3) rfl (fun h54 => ?_) (fun h54 => ?_)
          · skip
            refine Ev.n (pc' := 63) 2 rfl ?_
            refine Ev.retI (len := 1) rfl rfl ?_
            first
              | (rw [if_neg (by rintro (h | ⟨h, h'⟩) <;> first | omega | contradiction)]; simp_all; done)
              | (rw [if_pos (by first | exact Or.inl (by omega) | exact Or.inr ⟨by assumption, by assumption⟩)])
          · skip
            refine Ev.n (pc' := 63) 3 rfl ?_
            refine Ev.retI (len := 1) rfl rfl ?_
            first
              | (rw [if_neg (by rintro (h | ⟨h, h'⟩) <;> first | omega | contradiction)]; simp_all; done)
              | (rw [if_pos (by first | exact Or.inl (by omega) | exact Or.inr ⟨by assumption, by assumption⟩)])
        · skip
          refine Ev.n (pc' := 37) 1 rfl ?_
          refine Ev.retI (len := 1) rfl rfl ?_
          first
            | (rw [if_neg (by rintro (h | ⟨h, h'⟩) <;> first | omega | contradiction)]; simp_all; done)
            | (rw [if_pos (by first | exact Or.inl (by omega) | exact Or.inr ⟨by assumption, by assumption⟩)])
  · skip
    refine Ev.n (pc' := 18) 5 rfl ?_
    refine Ev.get (len := 3) rfl rs_law rfl ?_
    refine Ev.ic5 (tgt := 36) (len := 3) rfl (fun h21 => ?_) (fun h21 => ?_)
    · try simp only [i_lt, i_le, Int32.reduceToInt, Int32.reduceToNatClampNeg] at h21
      refine Ev.n (pc' := 37) 1 rfl ?_
      refine Ev.retI (len := 1) rfl rfl ?_
      first
        | (rw [if_neg (by rintro (h | ⟨h, h'⟩) <;> first | omega | contradiction)]; simp_all; done)
        | (rw [if_pos (by first | exact Or.inl (by omega) | exact Or.inr ⟨by assumption, by assumption⟩)])
    · try simp only [i_lt, i_le, Int32.reduceToInt, Int32.reduceToNatClampNeg] at h21
      refine Ev.n (pc' := 26) 1 rfl ?_
      refine Ev.if0 (tgt := 38) (len := 3) rfl (fun h26 => ?_) (fun h26 => ?_)
      · skip
        refine Ev.n (pc' := 40) 2 rfl ?_
        refine Ev.get (len := 3) rfl rs_law rfl ?_
        refine Ev.n (pc' := 45) 2 rfl ?_
        refine Ev.get (len := 3) rfl rs_law rfl ?_
        refine Ev.n (pc' := 50) 2 rfl ?_
        refine Ev.get (len := 3) rfl rs_law rfl ?_
        refine Ev.n (pc' := 54) 1 rfl ?_
        refine Ev.ic1 (tgt := 61) (len := 3) rfl (fun h54 => ?_) (fun h54 => ?_)
        · skip
          refine Ev.n (pc' := 63) 2 rfl ?_
          refine Ev.retI (len := 1) rfl rfl ?_
          first
            | (rw [if_neg (by rintro (h | ⟨h, h'⟩) <;> first | omega | contradiction)]; simp_all; done)
            | (rw [if_pos (by first | exact Or.inl (by omega) | exact Or.inr ⟨by assumption, by assumption⟩)])
        · skip
          refine Ev.n (pc' := 63) 3 rfl ?_
          refine Ev.retI (len := 1) rfl rfl ?_
          first
            | (rw [if_neg (by rintro (h | ⟨h, h'⟩) <;> first | omega | contradiction)]; simp_all; done)
            | (rw [if_pos (by first | exact Or.inl (by omega) | exact Or.inr ⟨by assumption, by assumption⟩)])
      · skip
        refine Ev.n (pc' := 30) 1 rfl ?_
        refine Ev.get (len := 3) rfl rs_law rfl ?_
        refine Ev.if1 (tgt := 38) (len := 3) rfl (fun h33 => ?_) (fun h33 => ?_)
        · skip
          refine Ev.n (pc' := 40) 2 rfl ?_
          refine Ev.get (len := 3) rfl rs_law rfl ?_
          refine Ev.n (pc' := 45) 2 rfl ?_
          refine Ev.get (len := 3) rfl rs_law rfl ?_
          refine Ev.n (pc' := 50) 2 rfl ?_
          refine Ev.get (len := 3) rfl rs_law rfl ?_
          refine Ev.n (pc' := 54) 1 rfl ?_
          refine Ev.ic1 (tgt := 61) (len := 3) rfl (fun h54 => ?_) (fun h54 => ?_)
          · skip
            refine Ev.n (pc' := 63) 2 rfl ?_
            refine Ev.retI (len := 1) rfl rfl ?_
            first
              | (rw [if_neg (by rintro (h | ⟨h, h'⟩) <;> first | omega | contradiction)]; simp_all; done)
              | (rw [if_pos (by first | exact Or.inl (by omega) | exact Or.inr ⟨by assumption, by assumption⟩)])
          · skip
            refine Ev.n (pc' := 63) 3 rfl ?_
            refine Ev.retI (len := 1) rfl rfl ?_
            first
              | (rw [if_neg (by rintro (h | ⟨h, h'⟩) <;> first | omega | contradiction)]; simp_all; done)
              | (rw [if_pos (by first | exact Or.inl (by omega) | exact Or.inr ⟨by assumption, by assumption⟩)])
        · skip
          refine Ev.n (pc' := 37) 1 rfl ?_
          refine Ev.retI (len := 1) rfl rfl ?_
          first
            | (rw [if_neg (by rintro (h | ⟨h, h'⟩) <;> first | omega | contradiction)]; simp_all; done)
            | (rw [if_pos (by first | exact Or.inl (by omega) | exact Or.inr ⟨by assumption, by assumption⟩)])

theorem c_sparedOf {d : Nat} {M : AM} (a b : Int32) : Ev (d + 8) md_43 0 [some (.int a), some (.int b)] [] (M) (some (.int (if a = -1 then 0 else if (0 : Int32) < a - b then a - b else 0)), M) := by
  refine Ev.n (pc' := 2) 2 rfl ?_
  refine Ev.ic1 (tgt := 9) (len := 3) rfl (fun h2 => ?_) (fun h2 => ?_)
  · skip
    refine Ev.n (pc' := 13) 4 rfl ?_
    refine Ev.bi (len := 3) rfl (by decide) rfl (by omega) ?_
    refine Ev.retI (len := 1) rfl rfl ?_
    simp_all
  · skip
    refine Ev.n (pc' := 16) 2 rfl ?_
    refine Ev.retI (len := 1) rfl rfl ?_
    simp_all

theorem c_laneBit_road {d : Nat} {M : AM} {r : Nat} {ρ : RC} {i : Nat} (hi : i < 12) : Ev (d) md_8 0 [some (.ref (r + 3 + i))] [] (rset M r ρ) (some (.int (if rlk ρ i 1 = 0 then 0 else (1 : Int32) <<< (nI i &&& 31))), rset M r ρ) := by
  refine Ev.n (pc' := 1) 1 rfl ?_
  refine Ev.get (len := 3) rfl (rs_road hi) rfl ?_
  refine Ev.if1 (tgt := 11) (len := 3) rfl (fun h4 => ?_) (fun h4 => ?_)
  · skip
    refine Ev.n (pc' := 13) 2 rfl ?_
    refine Ev.get (len := 3) rfl (rs_road hi) rfl ?_
    refine Ev.n (pc' := 17) 1 rfl ?_
    refine Ev.retI (len := 1) rfl rfl ?_
    simp_all
  · skip
    refine Ev.n (pc' := 17) 2 rfl ?_
    refine Ev.retI (len := 1) rfl rfl ?_
    simp_all

theorem c_laneBit_lane {d : Nat} {M : AM} {r : Nat} {ρ : RC} {i : Nat} (hi : i < 9) : Ev (d) md_8 0 [some (.ref (r + 16 + i))] [] (rset M r ρ) (some (.int (if rlk ρ (12 + i) 1 = 0 then 0 else (1 : Int32) <<< (nI i &&& 31))), rset M r ρ) := by
  refine Ev.n (pc' := 1) 1 rfl ?_
  refine Ev.get (len := 3) rfl (rs_lane hi) rfl ?_
  refine Ev.if1 (tgt := 11) (len := 3) rfl (fun h4 => ?_) (fun h4 => ?_)
  · skip
    refine Ev.n (pc' := 13) 2 rfl ?_
    refine Ev.get (len := 3) rfl (rs_lane hi) rfl ?_
    refine Ev.n (pc' := 17) 1 rfl ?_
    refine Ev.retI (len := 1) rfl rfl ?_
    simp_all
  · skip
    refine Ev.n (pc' := 17) 2 rfl ?_
    refine Ev.retI (len := 1) rfl rfl ?_
    simp_all

theorem c_stopAt {d : Nat} {M : AM} {r : Nat} {ρ : RC} {i : Nat} (hi : i < 10) (x : Int32) : Ev (d) md_69 0 [some (.ref (r + 26 + 2 * i)), some (.int x)] [] (rset M r ρ) (some (.int (if 0 ≤ x.toInt ∧ x.toInt ≤ 6 then rst ρ i x.toNatClampNeg else 0)), rset M r ρ) := by
  refine Ev.n (pc' := 1) 1 rfl ?_
  refine Ev.if2 (tgt := 19) (len := 3) rfl (fun h1 => ?_) (fun h1 => ?_)
  · try simp only [i_lt, i_le, Int32.reduceToInt, Int32.reduceToNatClampNeg] at h1
    refine Ev.n (pc' := 20) 1 rfl ?_
    refine Ev.retI (len := 1) rfl rfl ?_
    first | rw [if_pos (by omega)] | rw [if_neg (by omega)]
  · try simp only [i_lt, i_le, Int32.reduceToInt, Int32.reduceToNatClampNeg] at h1
    refine Ev.n (pc' := 7) 2 rfl ?_
    refine Ev.ic4 (tgt := 19) (len := 3) rfl (fun h7 => ?_) (fun h7 => ?_)
    · try simp only [i_lt, i_le, Int32.reduceToInt, Int32.reduceToNatClampNeg] at h7
      refine Ev.n (pc' := 20) 1 rfl ?_
      refine Ev.retI (len := 1) rfl rfl ?_
      first | rw [if_pos (by omega)] | rw [if_neg (by omega)]
    · try simp only [i_lt, i_le, Int32.reduceToInt, Int32.reduceToNatClampNeg] at h7
      refine Ev.n (pc' := 11) 1 rfl ?_
      refine Ev.get (len := 3) rfl (by first | exact rs_walk hi | exact rs_stops hi) rfl ?_
      refine Ev.n (pc' := 15) 1 rfl ?_
      refine Ev.iald (len := 1) rfl (by first | exact rs_walk hi | exact rs_stops hi) rfl (vin (by omega) (by omega)) ?_
      refine Ev.n (pc' := 20) 1 rfl ?_
      refine Ev.retI (len := 1) rfl rfl ?_
      first | rw [if_pos (by omega)] | rw [if_neg (by omega)]

theorem c_first {d : Nat} {M : AM} {r : Nat} {ρ : RC} (h32 : 32 ≤ r) {i : Nat} (hi : i < 10) : Ev (d + 1) md_71 0 [some (.ref (r + 26 + 2 * i))] [] (rset M r ρ) (some (.int (rst ρ i 0)), rset M r ρ) := by
  refine Ev.n (pc' := 2) 2 rfl ?_
  refine Ev.callV (len := 3) rfl rfl rfl (rs_walk hi) rfl (by omega) rfl (c_stopAt hi _) ?_
  refine Ev.retI (len := 1) rfl rfl ?_
  rfl

theorem c_last {d : Nat} {M : AM} {r : Nat} {ρ : RC} (h32 : 32 ≤ r) {i : Nat} (hi : i < 10) : Ev (d + 1) md_72 0 [some (.ref (r + 26 + 2 * i))] [] (rset M r ρ) (some (.int (if 0 ≤ (rwk ρ i 3).toInt ∧ (rwk ρ i 3).toInt ≤ 6 then rst ρ i (rwk ρ i 3).toNatClampNeg else 0)), rset M r ρ) := by
  refine Ev.n (pc' := 2) 2 rfl ?_
  refine Ev.get (len := 3) rfl (rs_walk hi) rfl ?_
  refine Ev.callV (len := 3) rfl rfl rfl (rs_walk hi) rfl (by omega) rfl (c_stopAt hi _) ?_
  refine Ev.retI (len := 1) rfl rfl ?_
  rfl

theorem c_byRoad {d : Nat} {M : AM} {r : Nat} {ρ : RC} (a b : Nat) (ha : a < 7) (hb : b < 7) : Ev (d + 1) md_34 0 [some (.ref r), some (.int (nI a)), some (.int (nI b)), none] [] (rset M r ρ) (some (.int (if (rds ρ (7 * a + b)).toInt < 1000000 then rds ρ (7 * a + b) else -1)), rset M r ρ) := by
  refine Ev.n (pc' := 1) 1 rfl ?_
  refine Ev.get (len := 3) rfl (by first | exact rs_obj | exact rs_dist) rfl ?_
  refine Ev.n (pc' := 6) 2 rfl ?_
  refine Ev.callS (len := 3) rfl rfl rfl rfl (c_pairOf a b) ?_
  refine Ev.iald (len := 1) rfl (by first | exact rs_obj | exact rs_dist) rfl (vp_in_nI (by omega) (by omega)) ?_
  refine Ev.n (pc' := 14) 3 rfl ?_
  refine Ev.ic3 (tgt := 21) (len := 3) rfl (fun h14 => ?_) (fun h14 => ?_)
  · try simp only [i_lt, i_le, Int32.reduceToInt, Int32.reduceToNatClampNeg] at h14
    refine Ev.n (pc' := 22) 1 rfl ?_
    refine Ev.retI (len := 1) rfl rfl ?_
    rw [nI_clamp (by omega)] at *
    first | rw [if_pos (by omega)] | rw [if_neg (by omega)]
  · try simp only [i_lt, i_le, Int32.reduceToInt, Int32.reduceToNatClampNeg] at h14
    refine Ev.n (pc' := 22) 2 rfl ?_
    refine Ev.retI (len := 1) rfl rfl ?_
    rw [nI_clamp (by omega)] at *
    first | rw [if_pos (by omega)] | rw [if_neg (by omega)]

theorem c_placeIn {d : Nat} {M : AM} (w i : Int32) : Ev (d) md_77 0 [some (.int w), some (.int i)] [] (M) (some (.int ((w >>> (((3 : Int32) * i) &&& 31)) &&& 7)), M) := by
  refine Ev.n (pc' := 8) 7 rfl ?_
  refine Ev.retI (len := 1) rfl rfl ?_
  rfl
end
section
/-! THE KINGDOM as a mathematical value, and how a realm of the class and a slot of the reference hold it.
kh: 0 places, 1 days, 2 roads, 3 lanes, 4 walks, 5 lines, 6 rate, 7 free, 8 time, 9 sunday, 10 load, 11 one more lane is thought of, 12 floods as bits.
kr i: 0 a, 1 b, 2 length. kl i: 0 a, 1 b, 2 length, 3 first, 4 last, 5 sort, 6 watched (lane 8 is the one thought of). kw i: 0 walker, 1 load, 2 day, 3 how many places, 4 + j the places. -/
abbrev KD : Type := (Nat → Nat) × (Nat → Nat → Nat) × (Nat → Nat → Nat) × (Nat → Nat → Nat)
def kh (K : KD) : Nat → Nat := K.1
def kr (K : KD) : Nat → Nat → Nat := K.2.1
def kl (K : KD) : Nat → Nat → Nat := K.2.2.1
def kw (K : KD) : Nat → Nat → Nat := K.2.2.2
/-- the first i from i0 on, of n, with p -/
def fnd (p : Nat → Bool) : Nat → Nat → Option Nat
  | 0, _ => none
  | n + 1, i => if p i = true then some i else fnd p n (i + 1)
def fld {α : Type} (f : α → Nat → α) : Nat → Nat → α → α
  | 0, _, x => x
  | n + 1, i, x => fld f n (i + 1) (f x i)
theorem fnd_lt {p : Nat → Bool} : ∀ {n i j : Nat}, fnd p n i = some j → i ≤ j ∧ j < i + n ∧ p j = true
  | 0, _, _, h => by cases h
  | n + 1, i, j, h => by
    unfold fnd at h
    by_cases hp : p i = true
    · rw [if_pos hp] at h
      cases h
      exact ⟨Nat.le_refl _, by omega, hp⟩
    · rw [if_neg hp] at h
      obtain ⟨h1, h2, h3⟩ := fnd_lt h
      exact ⟨by omega, by omega, h3⟩
/-- a and b are the two places x and y -/
def btw (x y a b : Nat) : Bool := (decide (x = a) && decide (y = b)) || (decide (x = b) && decide (y = a))
def roadK (K : KD) (a b : Nat) : Option Nat := fnd (fun i => btw (kr K i 0) (kr K i 1) a b) (kh K 2) 0
def openK (K : KD) (l d : Nat) : Bool := if kl K l 5 = 2 then true else if kl K l 5 = 1 then !(Nat.testBit (kh K 12) d) else decide (kl K l 3 ≤ d ∧ d ≤ kl K l 4)
/-- what joins: a road's number, or 20 and a lane's -/
def spanJ (K : KD) (j : Nat) : Nat := if j < 20 then kr K j 2 else kl K (j - 20) 2
def shr (K : KD) (cur : Option Nat) (l : Nat) : Bool := match cur with | none => true | some j => decide (kl K l 2 < spanJ K j)
def joinStep (K : KD) (a b d : Nat) (cur : Option Nat) (l : Nat) : Option Nat := if shr K cur l = true ∧ btw (kl K l 0) (kl K l 1) a b = true ∧ openK K l d = true then some (20 + l) else cur
def joinK (K : KD) (a b d : Nat) : Option Nat := (fun c => if kh K 11 = 1 then joinStep K a b d c 8 else c) (fld (joinStep K a b d) (kh K 3) 0 (roadK K a b))
/-- bounds and sense of a kingdom -/
def KOK (K : KD) : Prop := kh K 0 ≤ 7 ∧ kh K 1 ≤ 30 ∧ kh K 2 ≤ 12 ∧ kh K 3 ≤ 8 ∧ kh K 4 ≤ 10 ∧ kh K 5 ≤ 2000 ∧ kh K 6 ≤ 99 ∧ kh K 7 ≤ 99 ∧ kh K 8 ≤ 99 ∧ kh K 9 ≤ 1 ∧ kh K 10 ≤ 1 ∧ kh K 11 ≤ 1 ∧ kh K 12 < 2 ^ 30 ∧ (0 < kh K 5 ↔ 0 < kh K 0)
  ∧ (∀ i, i < kh K 2 → kr K i 0 < kh K 0 ∧ kr K i 1 < kh K 0 ∧ kr K i 0 ≠ kr K i 1 ∧ 1 ≤ kr K i 2 ∧ kr K i 2 ≤ 129)
  ∧ (∀ i, i < kh K 3 ∨ (i = 8 ∧ kh K 11 = 1) → kl K i 0 < kh K 0 ∧ kl K i 1 < kh K 0 ∧ kl K i 0 ≠ kl K i 1 ∧ 1 ≤ kl K i 2 ∧ kl K i 2 ≤ 99 ∧ kl K i 3 ≤ 30 ∧ kl K i 4 ≤ 30 ∧ kl K i 5 ≤ 2 ∧ kl K i 6 ≤ 100)
  ∧ (∀ i, i < kh K 4 → kw K i 0 ≤ 4 ∧ 1 ≤ kw K i 1 ∧ kw K i 1 ≤ 9 ∧ kw K i 2 < kh K 1 ∧ 2 ≤ kw K i 3 ∧ kw K i 3 ≤ 7 ∧ (∀ j, j < kw K i 3 → kw K i (4 + j) < kh K 0) ∧ (∀ j, j + 1 < kw K i 3 → kw K i (4 + j) ≠ kw K i (4 + j + 1)))
  ∧ (∀ i j, i < kh K 2 → j < kh K 2 → btw (kr K i 0) (kr K i 1) (kr K j 0) (kr K j 1) = true → i = j)
def bitsE (a b : Nat) : Int32 := ((1 : Int32) <<< (nI a &&& 31)) ||| ((1 : Int32) <<< (nI b &&& 31))
/-- where the class keeps a lane -/
def phL (K : KD) (l : Nat) : Nat := if l = 8 then kh K 3 else l
def RepC (ρ : RC) (K : KD) : Prop := rhd ρ 0 = nI (kh K 0) ∧ rhd ρ 1 = nI (kh K 1) ∧ rhd ρ 2 = nI (kh K 5) ∧ rhd ρ 3 = nI (kh K 12) ∧ rhd ρ 6 = nI (kh K 2) ∧ rhd ρ 8 = nI (kh K 3 + kh K 11) ∧ rhd ρ 10 = nI (kh K 4)
  ∧ (0 < kh K 0 → ∀ j, j < 5 → rlw ρ j = nI (kh K (6 + j)))
  ∧ (∀ i, i < kh K 2 → rlk ρ i 1 = 0 ∧ rlk ρ i 2 = bitsE (kr K i 0) (kr K i 1) ∧ rlk ρ i 3 = nI (kr K i 2) ∧ rlk ρ i 6 = 0)
  ∧ (∀ l, l < kh K 3 ∨ (l = 8 ∧ kh K 11 = 1) → rlk ρ (12 + phL K l) 1 = nI (kl K l 5 + 1) ∧ rlk ρ (12 + phL K l) 2 = bitsE (kl K l 0) (kl K l 1) ∧ rlk ρ (12 + phL K l) 3 = nI (kl K l 2) ∧ rlk ρ (12 + phL K l) 4 = nI (kl K l 3) ∧ rlk ρ (12 + phL K l) 5 = nI (kl K l 4) ∧ rlk ρ (12 + phL K l) 6 = nI (kl K l 6))
  ∧ (∀ i, i < kh K 4 → rwk ρ i 0 = nI (kw K i 0) ∧ rwk ρ i 1 = nI (kw K i 1) ∧ rwk ρ i 2 = nI (kw K i 2) ∧ rwk ρ i 3 = nI (kw K i 3 - 1) ∧ ∀ j, j < kw K i 3 → rst ρ i j = nI (kw K i (4 + j)))
/-- slot s of the reference holds K (lane 8 only in slot 0, where it may be thought of) -/
def RepM (σ : MS) (s : Nat) (K : KD) : Prop := (∀ j, j < 5 → σ.2.2.1 6 (5 * s + j) = nI (kh K j)) ∧ (0 < kh K 0 → ∀ j, j < 5 → σ.2.2.1 7 (5 * s + j) = nI (kh K (6 + j))) ∧ σ.2.2.1 5 s = nI (kh K 5) ∧ σ.2.2.2 8 s = lN (kh K 12)
  ∧ (∀ i, i < kh K 2 → ∀ j, j < 3 → σ.2.2.1 9 (36 * s + 3 * i + j) = nI (kr K i j))
  ∧ (∀ i, i < kh K 3 ∨ (i = 8 ∧ kh K 11 = 1) → ∀ j, j < 7 → σ.2.2.1 10 (63 * s + 7 * i + j) = nI (kl K i j))
  ∧ (∀ i, i < kh K 4 → (∀ j, j < 4 → σ.2.2.1 11 (110 * s + 11 * i + j) = nI (kw K i j)) ∧ ∀ j, j < kw K i 3 → σ.2.2.1 11 (110 * s + 11 * i + 4 + j) = nI (kw K i (4 + j)))
theorem bitsE_tab : (List.range 7).all (fun a => (List.range 7).all fun b => (List.range 7).all fun c => (List.range 7).all fun d => (a == b) || (decide (bitsE a b = bitsE c d) == btw a b c d)) = true := by decide +kernel
theorem bitsE_eq {a b c d : Nat} (ha : a < 7) (hb : b < 7) (hc : c < 7) (hd : d < 7) (hab : a ≠ b) : bitsE a b = bitsE c d ↔ btw a b c d = true := by
  have h := List.all_eq_true.mp (List.all_eq_true.mp (List.all_eq_true.mp (List.all_eq_true.mp bitsE_tab a (List.mem_range.mpr ha)) b (List.mem_range.mpr hb)) c (List.mem_range.mpr hc)) d (List.mem_range.mpr hd)
  rw [Bool.or_eq_true] at h
  rcases h with h | h
  · exact absurd (by simpa using h) hab
  · have h2 : decide (bitsE a b = bitsE c d) = btw a b c d := by simpa using h
    rw [← h2]
    exact (decide_eq_true_iff).symm
end
section
/-! RUNS WITH A POSTCONDITION. -/
def Wp (d : Nat) (X : MD) (pc : Nat) (l : AL) (st : List Value) (M : AM) (Q : Option Value → AM → Prop) : Prop := ∃ v M', Ev d X pc l st M (v, M') ∧ Q v M'
/-- the memory M holds the realm ρ at r -/
def RA (M : AM) (r : Nat) (ρ : RC) : Prop := rset M r ρ = M
section WP
variable {d : Nat} {X : MD} {pc len : Nat} {l : AL} {st : List Value} {M : AM} {Q : Option Value → AM → Prop} {a b : Nat} {v : Value}
theorem Wp.of {d' : Nat} {X' : MD} {pc' : Nat} {l' : AL} {st' : List Value} {M' : AM} (f : ∀ r, Ev d' X' pc' l' st' M' r → Ev d X pc l st M r) (h : Wp d' X' pc' l' st' M' Q) : Wp d X pc l st M Q := by
  obtain ⟨v, M', h1, h2⟩ := h
  exact ⟨v, M', f _ h1, h2⟩
theorem Wp.ev {w : Option Value} {M' : AM} (h : Ev d X pc l st M (w, M')) (q : Q w M') : Wp d X pc l st M Q := ⟨w, M', h, q⟩
theorem Wp.mono {Q' : Option Value → AM → Prop} (h : Wp d X pc l st M Q') (q : ∀ w M', Q' w M' → Q w M') : Wp d X pc l st M Q := by
  obtain ⟨v, M', h1, h2⟩ := h
  exact ⟨v, M', h1, q _ _ h2⟩
theorem Wp.s {pc' : Nat} {l' : AL} {st' : List Value} {M' : AM} (hs : sstep swl X pc l st M = some (pc', l', st', M')) (k : Wp d X pc' l' st' M' Q) : Wp d X pc l st M Q := Wp.of (fun _ => Ev.s hs) k
theorem Wp.n (k : Nat) {pc' : Nat} {l' : AL} {st' : List Value} {M' : AM} (h : sn k X pc l st M = some (pc', l', st', M')) (e : Wp d X pc' l' st' M' Q) : Wp d X pc l st M Q := Wp.of (fun _ => Ev.n k h) e
theorem Wp.retI {x : Int32} (hc : cdx X pc = some (.inr (.inl .ireturn), len)) (ht : md_r X = 1) (h : Q (some (.int x)) M) : Wp d X pc l [.int x] M Q := ⟨_, _, Ev.retI hc ht rfl, h⟩
theorem Wp.retZ {x : Int32} {c : Bool} (hc : cdx X pc = some (.inr (.inl .ireturn), len)) (ht : md_r X = 2) (e : bI c = x) (h : Q (some (.int (bI c))) M) : Wp d X pc l [.int x] M Q := ⟨_, _, Ev.retZ hc ht e, h⟩
theorem Wp.retL {x : Int64} (hc : cdx X pc = some (.inr (.inl .lreturn), len)) (ht : md_r X = 3) (h : Q (some (.long x)) M) : Wp d X pc l [.long x] M Q := ⟨_, _, Ev.retL hc ht rfl, h⟩
theorem Wp.retV (hc : cdx X pc = some (.inr (.inl .return_), len)) (ht : md_r X = 0) (h : Q none M) : Wp d X pc l [] M Q := ⟨_, _, Ev.retV hc ht rfl, h⟩
theorem Wp.retR {x : Nat} (hc : cdx X pc = some (.inr (.inl .areturn), len)) (ht : md_r X = 4) (h : Q (some (.ref x)) M) : Wp d X pc l [.ref x] M Q := ⟨_, _, Ev.retR hc ht rfl, h⟩
theorem Wp.retN (hc : cdx X pc = some (.inr (.inl .areturn), len)) (ht : md_r X = 4) (h : Q (some .null) M) : Wp d X pc l [.null] M Q := ⟨_, _, Ev.retN hc ht, h⟩
-- calls
theorem Wp.callS {Y : MD} {Q' : Option Value → AM → Prop} (hc : cdx X pc = some (.inr (.inr (4, a, b, v)), len)) (hm : mt a = some Y) (hb : (Nat.ble b st.length && rok (st.drop b)) = true) (hw : Nat.ble (wsum ((st.take b).reverse)) (md_L Y) = true) (hr : Wp d Y 0 (ent ((st.take b).reverse) (md_L Y)) [] M Q') (k : ∀ rv M', Q' rv M' → Wp (d + 1) X (pc + len) l (rv.toList ++ st.drop b) M' Q) : Wp (d + 1) X pc l st M Q := by
  obtain ⟨w, M', h1, h2⟩ := hr
  exact Wp.of (fun _ => Ev.callS hc hm hb hw h1) (k w M' h2)
theorem Wp.callV {Y : MD} {Q' : Option Value → AM → Prop} {k ci : Nat} {fs rest : List Value} (hc : cdx X pc = some (.inr (.inr (5, a, b, v)), len)) (hm : mt a = some Y) (hd : st.drop b = .ref k :: rest) (hM : M k = .inr (ci, fs)) (hb : (Nat.beq ci (md_o Y) && rok rest) = true) (h32 : 32 ≤ k) (hw : Nat.ble (wsum (.ref k :: (st.take b).reverse)) (md_L Y) = true) (hr : Wp d Y 0 (ent (.ref k :: (st.take b).reverse) (md_L Y)) [] M Q') (k : ∀ rv M', Q' rv M' → Wp (d + 1) X (pc + len) l (rv.toList ++ rest) M' Q) : Wp (d + 1) X pc l st M Q := by
  obtain ⟨w, M', h1, h2⟩ := hr
  exact Wp.of (fun _ => Ev.callV hc hm hd hM hb h32 hw h1) (k w M' h2)
theorem Wp.callI {Y : MD} {Q' : Option Value → AM → Prop} {k : Nat} {rest : List Value} (hc : cdx X pc = some (.inr (.inr (6, a, b, v)), len)) (hm : mt a = some Y) (hd : st.drop b = .ref k :: rest) (hb : rok rest = true) (hw : Nat.ble (wsum (.ref k :: (st.take b).reverse)) (md_L Y) = true) (hr : Wp d Y 0 (ent (.ref k :: (st.take b).reverse) (md_L Y)) [] M Q') (k : ∀ rv M', Q' rv M' → Wp (d + 1) X (pc + len) l (rv.toList ++ rest) M' Q) : Wp (d + 1) X pc l st M Q := by
  obtain ⟨w, M', h1, h2⟩ := hr
  exact Wp.of (fun _ => Ev.callI hc hm hd hb hw h1) (k w M' h2)
theorem Wp.ecallS {Y : MD} {rv : Option Value} {M' : AM} (hc : cdx X pc = some (.inr (.inr (4, a, b, v)), len)) (hm : mt a = some Y) (hb : (Nat.ble b st.length && rok (st.drop b)) = true) (hw : Nat.ble (wsum ((st.take b).reverse)) (md_L Y) = true) (hr : Ev d Y 0 (ent ((st.take b).reverse) (md_L Y)) [] M (rv, M')) (k : Wp (d + 1) X (pc + len) l (rv.toList ++ st.drop b) M' Q) : Wp (d + 1) X pc l st M Q := Wp.of (fun _ => Ev.callS hc hm hb hw hr) k
theorem Wp.ecallV {Y : MD} {rv : Option Value} {M' : AM} {k ci : Nat} {fs rest : List Value} (hc : cdx X pc = some (.inr (.inr (5, a, b, v)), len)) (hm : mt a = some Y) (hd : st.drop b = .ref k :: rest) (hM : M k = .inr (ci, fs)) (hb : (Nat.beq ci (md_o Y) && rok rest) = true) (h32 : 32 ≤ k) (hw : Nat.ble (wsum (.ref k :: (st.take b).reverse)) (md_L Y) = true) (hr : Ev d Y 0 (ent (.ref k :: (st.take b).reverse) (md_L Y)) [] M (rv, M')) (k : Wp (d + 1) X (pc + len) l (rv.toList ++ rest) M' Q) : Wp (d + 1) X pc l st M Q := Wp.of (fun _ => Ev.callV hc hm hd hM hb h32 hw hr) k
theorem Wp.ecallI {Y : MD} {rv : Option Value} {M' : AM} {k : Nat} {rest : List Value} (hc : cdx X pc = some (.inr (.inr (6, a, b, v)), len)) (hm : mt a = some Y) (hd : st.drop b = .ref k :: rest) (hb : rok rest = true) (hw : Nat.ble (wsum (.ref k :: (st.take b).reverse)) (md_L Y) = true) (hr : Ev d Y 0 (ent (.ref k :: (st.take b).reverse) (md_L Y)) [] M (rv, M')) (k : Wp (d + 1) X (pc + len) l (rv.toList ++ rest) M' Q) : Wp (d + 1) X pc l st M Q := Wp.of (fun _ => Ev.callI hc hm hd hb hw hr) k
theorem Wp.bi {op : Nat} {st' : List Value} {M' : AM} (hc : cdx X pc = some (.inr (.inr (op, a, b, v)), len)) (ho : op = 7 ∨ op = 8 ∨ op = 9 ∨ op = 10 ∨ op = 11 ∨ op = 12) (hb : bstep op st M = some (st', M')) (hd : 8 ≤ d) (k : Wp d X (pc + len) l st' M' Q) : Wp d X pc l st M Q := Wp.of (fun _ => Ev.bi hc ho hb hd) k
-- memory
theorem Wp.get {k : Nat} {fs : List Value} {w : Value} (hc : cdx X pc = some (.inr (.inr (0, a, b, v)), len)) (hM : M k = .inr (a, fs)) (hv : gv fs b = some w) (h : Wp d X (pc + len) l (w :: st) M Q) : Wp d X pc l (.ref k :: st) M Q := Wp.of (fun _ => Ev.get hc hM hv) h
theorem Wp.put {k : Nat} {fs : List Value} {w : Value} (hc : cdx X pc = some (.inr (.inr (1, a, b, v)), len)) (hM : M k = .inr (a, fs)) (hok : (Nat.blt b fs.length && pfit (fcode a b) w && (bif (fTX a b).2.2.2 then md_i X && Nat.beq (md_o X) a else true)) = true) (h : Wp d X (pc + len) l st (va_up M k (.inr (a, fs.set b w))) Q) : Wp d X pc l (w :: .ref k :: st) M Q := Wp.of (fun _ => Ev.put hc hM hok) h
theorem Wp.iald {k n t : Nat} {f : Nat → Int32} {j : Int32} (hc : cdx X pc = some (.inr (.inl .iaload), len)) (hM : M k = .inl (t, n, .inl f)) (ht : (Nat.beq t 0 || Nat.beq t 7) = true) (hj : vp_in j n) (h : Wp d X (pc + len) l (.int (f j.toNatClampNeg) :: st) M Q) : Wp d X pc l (.int j :: .ref k :: st) M Q := Wp.of (fun _ => Ev.iald hc hM ht hj) h
theorem Wp.bald {k n t : Nat} {f : Nat → Int32} {j : Int32} (hc : cdx X pc = some (.inr (.inl .baload), len)) (hM : M k = .inl (t, n, .inl f)) (ht : (Nat.beq t 2 || Nat.beq t 3) = true) (hj : vp_in j n) (h : Wp d X (pc + len) l (.int (f j.toNatClampNeg) :: st) M Q) : Wp d X pc l (.int j :: .ref k :: st) M Q := Wp.of (fun _ => Ev.bald hc hM ht hj) h
theorem Wp.lald {k n : Nat} {f : Nat → Int64} {j : Int32} (hc : cdx X pc = some (.inr (.inl .laload), len)) (hM : M k = .inl (1, n, .inr (.inl f))) (hj : vp_in j n) (h : Wp d X (pc + len) l (.long (f j.toNatClampNeg) :: st) M Q) : Wp d X pc l (.int j :: .ref k :: st) M Q := Wp.of (fun _ => Ev.lald hc hM hj) h
theorem Wp.aald {k n t : Nat} {f : Nat → Option Nat} {j : Int32} (hc : cdx X pc = some (.inr (.inl .aaload), len)) (hM : M k = .inl (t, n, .inr (.inr (.inr (.inr f))))) (ht : (Nat.ble 4 t && Nat.ble t 6) = true) (hj : vp_in j n) (h : Wp d X (pc + len) l (va_rf (f j.toNatClampNeg) :: st) M Q) : Wp d X pc l (.int j :: .ref k :: st) M Q := Wp.of (fun _ => Ev.aald hc hM ht hj) h
theorem Wp.iast {k n : Nat} {f : Nat → Int32} {j x : Int32} (hc : cdx X pc = some (.inr (.inl .iastore), len)) (hM : M k = .inl (0, n, .inl f)) (hj : vp_in j n) (h : Wp d X (pc + len) l st (va_up M k (.inl (0, n, .inl (upd f j.toNatClampNeg x)))) Q) : Wp d X pc l (.int x :: .int j :: .ref k :: st) M Q := Wp.of (fun _ => Ev.iast hc hM hj) h
theorem Wp.bast {k n t : Nat} {f : Nat → Int32} {j x : Int32} (hc : cdx X pc = some (.inr (.inl .bastore), len)) (hM : M k = .inl (t, n, .inl f)) (ht : (Nat.beq t 2 || Nat.beq t 3) = true) (hj : vp_in j n) (h : Wp d X (pc + len) l st (va_up M k (.inl (t, n, .inl (upd f j.toNatClampNeg (anar t x))))) Q) : Wp d X pc l (.int x :: .int j :: .ref k :: st) M Q := Wp.of (fun _ => Ev.bast hc hM ht hj) h
theorem Wp.last {k n : Nat} {f : Nat → Int64} {j : Int32} {x : Int64} (hc : cdx X pc = some (.inr (.inl .lastore), len)) (hM : M k = .inl (1, n, .inr (.inl f))) (hj : vp_in j n) (h : Wp d X (pc + len) l st (va_up M k (.inl (1, n, .inr (.inl (vp_updL f j.toNatClampNeg x))))) Q) : Wp d X pc l (.long x :: .int j :: .ref k :: st) M Q := Wp.of (fun _ => Ev.last hc hM hj) h
-- branches
theorem Wp.br1 (c : Nat) {x : Int32} {tgt : Nat} (hc : cdx X pc = some (.inr (.inr (c + 20, tgt, b, v)), len)) (h5 : Nat.ble c 5 = true) (h : Wp d X (bif jb c x 0 then tgt else pc + len) l st M Q) : Wp d X pc l (.int x :: st) M Q := Wp.of (fun _ => Ev.br1 c hc h5) h
theorem Wp.br2 (c : Nat) {x y : Int32} {tgt : Nat} (hc : cdx X pc = some (.inr (.inr (c + 26, tgt, b, v)), len)) (h5 : Nat.ble c 5 = true) (h : Wp d X (bif jb c x y then tgt else pc + len) l st M Q) : Wp d X pc l (.int y :: .int x :: st) M Q := Wp.of (fun _ => Ev.br2 c hc h5) h
theorem Wp.cond {c : Bool} {p : Prop} {t f : Nat} (hp : c = true ↔ p) (kt : p → Wp d X t l st M Q) (kf : ¬ p → Wp d X f l st M Q) : Wp d X (bif c then t else f) l st M Q := by
  cases hq : c with
  | true => exact kt (hp.mp hq)
  | false => exact kf (fun q => by rw [hp.mpr q] at hq; cases hq)
theorem Wp.if0 {x : Int32} {tgt : Nat} (hc : cdx X pc = some (.inr (.inr (20, tgt, b, v)), len)) (kt : x = 0 → Wp d X tgt l st M Q) (kf : ¬ x = 0 → Wp d X (pc + len) l st M Q) : Wp d X pc l (.int x :: st) M Q := Wp.br1 0 hc rfl (Wp.cond (p := x = 0) (by simp [jb]) kt kf)
theorem Wp.if1 {x : Int32} {tgt : Nat} (hc : cdx X pc = some (.inr (.inr (21, tgt, b, v)), len)) (kt : ¬ x = 0 → Wp d X tgt l st M Q) (kf : x = 0 → Wp d X (pc + len) l st M Q) : Wp d X pc l (.int x :: st) M Q := Wp.br1 1 hc rfl (Wp.cond (p := ¬ x = 0) (by simp [jb]) kt (fun h => kf (Decidable.not_not.mp h)))
theorem Wp.if2 {x : Int32} {tgt : Nat} (hc : cdx X pc = some (.inr (.inr (22, tgt, b, v)), len)) (kt : x < 0 → Wp d X tgt l st M Q) (kf : ¬ x < 0 → Wp d X (pc + len) l st M Q) : Wp d X pc l (.int x :: st) M Q := Wp.br1 2 hc rfl (Wp.cond (p := x < 0) (by simp [jb]) kt kf)
theorem Wp.if3 {x : Int32} {tgt : Nat} (hc : cdx X pc = some (.inr (.inr (23, tgt, b, v)), len)) (kt : 0 ≤ x → Wp d X tgt l st M Q) (kf : ¬ 0 ≤ x → Wp d X (pc + len) l st M Q) : Wp d X pc l (.int x :: st) M Q := Wp.br1 3 hc rfl (Wp.cond (p := 0 ≤ x) (by simp [jb]) kt kf)
theorem Wp.if4 {x : Int32} {tgt : Nat} (hc : cdx X pc = some (.inr (.inr (24, tgt, b, v)), len)) (kt : 0 < x → Wp d X tgt l st M Q) (kf : ¬ 0 < x → Wp d X (pc + len) l st M Q) : Wp d X pc l (.int x :: st) M Q := Wp.br1 4 hc rfl (Wp.cond (p := 0 < x) (by simp [jb]) kt kf)
theorem Wp.if5 {x : Int32} {tgt : Nat} (hc : cdx X pc = some (.inr (.inr (25, tgt, b, v)), len)) (kt : x ≤ 0 → Wp d X tgt l st M Q) (kf : ¬ x ≤ 0 → Wp d X (pc + len) l st M Q) : Wp d X pc l (.int x :: st) M Q := Wp.br1 5 hc rfl (Wp.cond (p := x ≤ 0) (by simp [jb]) kt kf)
theorem Wp.ic0 {x y : Int32} {tgt : Nat} (hc : cdx X pc = some (.inr (.inr (26, tgt, b, v)), len)) (kt : x = y → Wp d X tgt l st M Q) (kf : ¬ x = y → Wp d X (pc + len) l st M Q) : Wp d X pc l (.int y :: .int x :: st) M Q := Wp.br2 0 hc rfl (Wp.cond (p := x = y) (by simp [jb]) kt kf)
theorem Wp.ic1 {x y : Int32} {tgt : Nat} (hc : cdx X pc = some (.inr (.inr (27, tgt, b, v)), len)) (kt : ¬ x = y → Wp d X tgt l st M Q) (kf : x = y → Wp d X (pc + len) l st M Q) : Wp d X pc l (.int y :: .int x :: st) M Q := Wp.br2 1 hc rfl (Wp.cond (p := ¬ x = y) (by simp [jb]) kt (fun h => kf (Decidable.not_not.mp h)))
theorem Wp.ic2 {x y : Int32} {tgt : Nat} (hc : cdx X pc = some (.inr (.inr (28, tgt, b, v)), len)) (kt : x < y → Wp d X tgt l st M Q) (kf : ¬ x < y → Wp d X (pc + len) l st M Q) : Wp d X pc l (.int y :: .int x :: st) M Q := Wp.br2 2 hc rfl (Wp.cond (p := x < y) (by simp [jb]) kt kf)
theorem Wp.ic3 {x y : Int32} {tgt : Nat} (hc : cdx X pc = some (.inr (.inr (29, tgt, b, v)), len)) (kt : y ≤ x → Wp d X tgt l st M Q) (kf : ¬ y ≤ x → Wp d X (pc + len) l st M Q) : Wp d X pc l (.int y :: .int x :: st) M Q := Wp.br2 3 hc rfl (Wp.cond (p := y ≤ x) (by simp [jb]) kt kf)
theorem Wp.ic4 {x y : Int32} {tgt : Nat} (hc : cdx X pc = some (.inr (.inr (30, tgt, b, v)), len)) (kt : y < x → Wp d X tgt l st M Q) (kf : ¬ y < x → Wp d X (pc + len) l st M Q) : Wp d X pc l (.int y :: .int x :: st) M Q := Wp.br2 4 hc rfl (Wp.cond (p := y < x) (by simp [jb]) kt kf)
theorem Wp.ic5 {x y : Int32} {tgt : Nat} (hc : cdx X pc = some (.inr (.inr (31, tgt, b, v)), len)) (kt : x ≤ y → Wp d X tgt l st M Q) (kf : ¬ x ≤ y → Wp d X (pc + len) l st M Q) : Wp d X pc l (.int y :: .int x :: st) M Q := Wp.br2 5 hc rfl (Wp.cond (p := x ≤ y) (by simp [jb]) kt kf)
theorem Wp.ifb0 {c : Bool} {tgt : Nat} (hc : cdx X pc = some (.inr (.inr (20, tgt, b, v)), len)) (kt : c = false → Wp d X tgt l st M Q) (kf : c = true → Wp d X (pc + len) l st M Q) : Wp d X pc l (.int (bI c) :: st) M Q := by
  refine Wp.if0 hc (fun h => kt ?_) (fun h => kf ?_)
  · cases c with
    | false => rfl
    | true => exact absurd h (by decide)
  · cases c with
    | true => rfl
    | false => exact absurd rfl h
theorem Wp.ifb1 {c : Bool} {tgt : Nat} (hc : cdx X pc = some (.inr (.inr (21, tgt, b, v)), len)) (kt : c = true → Wp d X tgt l st M Q) (kf : c = false → Wp d X (pc + len) l st M Q) : Wp d X pc l (.int (bI c) :: st) M Q := by
  refine Wp.if1 hc (fun h => kt ?_) (fun h => kf ?_)
  · cases c with
    | true => rfl
    | false => exact absurd rfl h
  · cases c with
    | false => rfl
    | true => exact absurd h (by decide)
-- the reference
variable {σ : MS}
theorem Wp.mput {j : Nat} {x : Int32} (hc : cdx X pc = some (.inr (.inr (1, 10, j, v)), len)) (hj : mint j = true) (h : Wp d X (pc + len) l st (mset M (fset σ j x)) Q) : Wp d X pc l (.int x :: .ref 287 :: st) (mset M σ) Q := Wp.of (fun _ => Ev.mput hc hj) h
theorem Wp.mputZ {j : Nat} {x : Int32} (hc : cdx X pc = some (.inr (.inr (1, 10, j, v)), len)) (hj : mboo j = true) (hx : (x == 0 || x == 1) = true) (h : Wp d X (pc + len) l st (mset M (fset σ j x)) Q) : Wp d X pc l (.int x :: .ref 287 :: st) (mset M σ) Q := Wp.of (fun _ => Ev.mputZ hc hj hx) h
theorem Wp.mputJ {x : Int64} (hc : cdx X pc = some (.inr (.inr (1, 10, 11, v)), len)) (h : Wp d X (pc + len) l st (mset M (jset σ x)) Q) : Wp d X pc l (.long x :: .ref 287 :: st) (mset M σ) Q := Wp.of (fun _ => Ev.mputJ hc) h
theorem Wp.mput0 (hc : cdx X pc = some (.inr (.inr (1, 10, 0, v)), len)) (h0 : σ.1 0 = 0) (h : Wp d X (pc + len) l st (mset M σ) Q) : Wp d X pc l (.int 0 :: .ref 287 :: st) (mset M σ) Q := Wp.of (fun _ => Ev.mput0 hc h0) h
theorem Wp.miald {k n : Nat} {i : Int32} (hc : cdx X pc = some (.inr (.inl .iaload), len)) (hk : mtl_ k = (0, n)) (hn : n ≠ 0) (hi : vp_in i n) (h : Wp d X (pc + len) l (.int (σ.2.2.1 k i.toNatClampNeg) :: st) (mset M σ) Q) : Wp d X pc l (.int i :: .ref (k + 288) :: st) (mset M σ) Q := Wp.of (fun _ => Ev.miald hc hk hn hi) h
theorem Wp.miast {k n : Nat} {i x : Int32} (hc : cdx X pc = some (.inr (.inl .iastore), len)) (hk : mtl_ k = (0, n)) (hn : n ≠ 0) (hi : vp_in i n) (h : Wp d X (pc + len) l st (mset M (aset σ k (upd (σ.2.2.1 k) i.toNatClampNeg x))) Q) : Wp d X pc l (.int x :: .int i :: .ref (k + 288) :: st) (mset M σ) Q := Wp.of (fun _ => Ev.miast hc hk hn hi) h
theorem Wp.mlald {k n : Nat} {i : Int32} (hc : cdx X pc = some (.inr (.inl .laload), len)) (hk : mtl_ k = (1, n)) (hi : vp_in i n) (h : Wp d X (pc + len) l (.long (σ.2.2.2 k i.toNatClampNeg) :: st) (mset M σ) Q) : Wp d X pc l (.int i :: .ref (k + 288) :: st) (mset M σ) Q := Wp.of (fun _ => Ev.mlald hc hk hi) h
theorem Wp.mlast {k n : Nat} {i : Int32} {x : Int64} (hc : cdx X pc = some (.inr (.inl .lastore), len)) (hk : mtl_ k = (1, n)) (hi : vp_in i n) (h : Wp d X (pc + len) l st (mset M (lset σ k (vp_updL (σ.2.2.2 k) i.toNatClampNeg x))) Q) : Wp d X pc l (.long x :: .int i :: .ref (k + 288) :: st) (mset M σ) Q := Wp.of (fun _ => Ev.mlast hc hk hi) h
end WP
end
section
/-! RULES IN NATURALS: what lies on the stack is nI of a natural. -/
theorem n_sub {a b : Nat} (h : b ≤ a) : nI a - nI b = nI (a - b) := pk_sub h
section NR
variable {d : Nat} {X : MD} {pc len : Nat} {l : AL} {st : List Value} {M : AM} {Q : Option Value → AM → Prop} {a b : Nat} {v : Value}
theorem Wp.top {x y : Int32} (h : x = y) (k : Wp d X pc l (.int y :: st) M Q) : Wp d X pc l (.int x :: st) M Q := h ▸ k
theorem Wp.topL {x y : Int64} (h : x = y) (k : Wp d X pc l (.long y :: st) M Q) : Wp d X pc l (.long x :: st) M Q := h ▸ k
theorem Wp.iaddN {x y : Nat} (hc : cdx X pc = some (.inr (.inl .iadd), len)) (k : Wp d X (pc + len) l (.int (nI (x + y)) :: st) M Q) : Wp d X pc l (.int (nI y) :: .int (nI x) :: st) M Q := by
  refine Wp.s (pc' := pc + len) (l' := l) (st' := .int (nI x + nI y) :: st) (M' := M) ?_ (Wp.top (nI_add x y) k)
  unfold sstep
  rw [hc]
  rfl
theorem Wp.imulN {x y : Nat} (hc : cdx X pc = some (.inr (.inl .imul), len)) (k : Wp d X (pc + len) l (.int (nI (x * y)) :: st) M Q) : Wp d X pc l (.int (nI y) :: .int (nI x) :: st) M Q := by
  refine Wp.s (pc' := pc + len) (l' := l) (st' := .int (nI x * nI y) :: st) (M' := M) ?_ (Wp.top (pk_mul x y) k)
  unfold sstep
  rw [hc]
  rfl
theorem Wp.isubN {x y : Nat} (hc : cdx X pc = some (.inr (.inl .isub), len)) (h : y ≤ x) (k : Wp d X (pc + len) l (.int (nI (x - y)) :: st) M Q) : Wp d X pc l (.int (nI y) :: .int (nI x) :: st) M Q := by
  refine Wp.s (pc' := pc + len) (l' := l) (st' := .int (nI x - nI y) :: st) (M' := M) ?_ (Wp.top (pk_sub h) k)
  unfold sstep
  rw [hc]
  rfl
theorem Wp.incN {x : Nat} (hc : cdx X pc = some (.inr (.inr (46, a, b, .int 1)), len)) (hg : gl l a = some (.int (nI x))) (k : Wp d X (pc + len) (st1 l a (.int (nI (x + 1)))) st M Q) : Wp d X pc l st M Q := by
  refine Wp.s (pc' := pc + len) (l' := st1 l a (.int (nI x + 1))) (st' := st) (M' := M) ?_ (by rw [nI_1]; exact k)
  unfold sstep
  rw [hc]
  show (match gl l a, (Value.int 1) with | some (.int x), .int y => _ | _, _ => _) = _
  rw [hg]
-- compared
theorem Wp.nc0 {x y tgt : Nat} (hc : cdx X pc = some (.inr (.inr (26, tgt, b, v)), len)) (hx : x < 2 ^ 31) (hy : y < 2 ^ 31) (kt : x = y → Wp d X tgt l st M Q) (kf : x ≠ y → Wp d X (pc + len) l st M Q) : Wp d X pc l (.int (nI y) :: .int (nI x) :: st) M Q := Wp.ic0 hc (fun h => kt ((nI_eq hx hy).mp h)) (fun h => kf (fun q => h (q ▸ rfl)))
theorem Wp.nc1 {x y tgt : Nat} (hc : cdx X pc = some (.inr (.inr (27, tgt, b, v)), len)) (hx : x < 2 ^ 31) (hy : y < 2 ^ 31) (kt : x ≠ y → Wp d X tgt l st M Q) (kf : x = y → Wp d X (pc + len) l st M Q) : Wp d X pc l (.int (nI y) :: .int (nI x) :: st) M Q := Wp.ic1 hc (fun h => kt (fun q => h (q ▸ rfl))) (fun h => kf ((nI_eq hx hy).mp h))
theorem Wp.nc2 {x y tgt : Nat} (hc : cdx X pc = some (.inr (.inr (28, tgt, b, v)), len)) (hx : x < 2 ^ 31) (hy : y < 2 ^ 31) (kt : x < y → Wp d X tgt l st M Q) (kf : y ≤ x → Wp d X (pc + len) l st M Q) : Wp d X pc l (.int (nI y) :: .int (nI x) :: st) M Q := Wp.ic2 hc (fun h => kt ((nI_ltI hx hy).mp h)) (fun h => kf (Nat.not_lt.mp (fun q => h ((nI_ltI hx hy).mpr q))))
theorem Wp.nc3 {x y tgt : Nat} (hc : cdx X pc = some (.inr (.inr (29, tgt, b, v)), len)) (hx : x < 2 ^ 31) (hy : y < 2 ^ 31) (kt : y ≤ x → Wp d X tgt l st M Q) (kf : x < y → Wp d X (pc + len) l st M Q) : Wp d X pc l (.int (nI y) :: .int (nI x) :: st) M Q := Wp.ic3 hc (fun h => kt ((nI_leI hy hx).mp h)) (fun h => kf (Nat.not_le.mp (fun q => h ((nI_leI hy hx).mpr q))))
theorem Wp.nc4 {x y tgt : Nat} (hc : cdx X pc = some (.inr (.inr (30, tgt, b, v)), len)) (hx : x < 2 ^ 31) (hy : y < 2 ^ 31) (kt : y < x → Wp d X tgt l st M Q) (kf : x ≤ y → Wp d X (pc + len) l st M Q) : Wp d X pc l (.int (nI y) :: .int (nI x) :: st) M Q := Wp.ic4 hc (fun h => kt ((nI_ltI hy hx).mp h)) (fun h => kf (Nat.not_lt.mp (fun q => h ((nI_ltI hy hx).mpr q))))
theorem Wp.nc5 {x y tgt : Nat} (hc : cdx X pc = some (.inr (.inr (31, tgt, b, v)), len)) (hx : x < 2 ^ 31) (hy : y < 2 ^ 31) (kt : x ≤ y → Wp d X tgt l st M Q) (kf : y < x → Wp d X (pc + len) l st M Q) : Wp d X pc l (.int (nI y) :: .int (nI x) :: st) M Q := Wp.ic5 hc (fun h => kt ((nI_leI hx hy).mp h)) (fun h => kf (Nat.not_le.mp (fun q => h ((nI_leI hx hy).mpr q))))
theorem Wp.nz0 {x tgt : Nat} (hc : cdx X pc = some (.inr (.inr (20, tgt, b, v)), len)) (hx : x < 2 ^ 31) (kt : x = 0 → Wp d X tgt l st M Q) (kf : x ≠ 0 → Wp d X (pc + len) l st M Q) : Wp d X pc l (.int (nI x) :: st) M Q := Wp.if0 hc (fun h => kt ((nI_eq (b := 0) hx (by decide)).mp h)) (fun h => kf (fun q => h (by rw [q]; rfl)))
theorem Wp.nz1 {x tgt : Nat} (hc : cdx X pc = some (.inr (.inr (21, tgt, b, v)), len)) (hx : x < 2 ^ 31) (kt : x ≠ 0 → Wp d X tgt l st M Q) (kf : x = 0 → Wp d X (pc + len) l st M Q) : Wp d X pc l (.int (nI x) :: st) M Q := Wp.if1 hc (fun h => kt (fun q => h (by rw [q]; rfl))) (fun h => kf ((nI_eq (b := 0) hx (by decide)).mp h))
theorem Wp.nz2 {x tgt : Nat} (hc : cdx X pc = some (.inr (.inr (22, tgt, b, v)), len)) (hx : x < 2 ^ 31) (kf : Wp d X (pc + len) l st M Q) : Wp d X pc l (.int (nI x) :: st) M Q := Wp.if2 hc (fun h => absurd h (nI_pos hx)) (fun _ => kf)
theorem Wp.nz3 {x tgt : Nat} (hc : cdx X pc = some (.inr (.inr (23, tgt, b, v)), len)) (hx : x < 2 ^ 31) (kf : Wp d X tgt l st M Q) : Wp d X pc l (.int (nI x) :: st) M Q := Wp.if3 hc (fun _ => kf) (fun h => absurd (nI_pos' hx) h)
theorem Wp.nz4 {x tgt : Nat} (hc : cdx X pc = some (.inr (.inr (24, tgt, b, v)), len)) (hx : x < 2 ^ 31) (kt : 0 < x → Wp d X tgt l st M Q) (kf : x = 0 → Wp d X (pc + len) l st M Q) : Wp d X pc l (.int (nI x) :: st) M Q := Wp.if4 hc (fun h => kt ((nI_ltI (a := 0) (by decide) hx).mp h)) (fun h => kf (Nat.eq_zero_of_not_pos (fun q => h ((nI_ltI (a := 0) (by decide) hx).mpr q))))
theorem Wp.nz5 {x tgt : Nat} (hc : cdx X pc = some (.inr (.inr (25, tgt, b, v)), len)) (hx : x < 2 ^ 31) (kt : x = 0 → Wp d X tgt l st M Q) (kf : 0 < x → Wp d X (pc + len) l st M Q) : Wp d X pc l (.int (nI x) :: st) M Q := Wp.if5 hc (fun h => kt (Nat.eq_zero_of_not_pos (fun q => absurd h (nI_nle q hx)))) (fun h => kf (Nat.pos_of_ne_zero (fun q => h (by rw [q]; exact Int32.le_refl _))))
-- rows
theorem Wp.ialdN {k n t j : Nat} {f : Nat → Int32} (hc : cdx X pc = some (.inr (.inl .iaload), len)) (hM : M k = .inl (t, n, .inl f)) (ht : (Nat.beq t 0 || Nat.beq t 7) = true) (hj : j < n) (hn : n < 2 ^ 31) (h : Wp d X (pc + len) l (.int (f j) :: st) M Q) : Wp d X pc l (.int (nI j) :: .ref k :: st) M Q := Wp.iald hc hM ht (vp_in_nI hj hn) (by rw [nI_clamp (Nat.lt_trans hj hn)]; exact h)
theorem Wp.baldN {k n t j : Nat} {f : Nat → Int32} (hc : cdx X pc = some (.inr (.inl .baload), len)) (hM : M k = .inl (t, n, .inl f)) (ht : (Nat.beq t 2 || Nat.beq t 3) = true) (hj : j < n) (hn : n < 2 ^ 31) (h : Wp d X (pc + len) l (.int (f j) :: st) M Q) : Wp d X pc l (.int (nI j) :: .ref k :: st) M Q := Wp.bald hc hM ht (vp_in_nI hj hn) (by rw [nI_clamp (Nat.lt_trans hj hn)]; exact h)
theorem Wp.laldN {k n j : Nat} {f : Nat → Int64} (hc : cdx X pc = some (.inr (.inl .laload), len)) (hM : M k = .inl (1, n, .inr (.inl f))) (hj : j < n) (hn : n < 2 ^ 31) (h : Wp d X (pc + len) l (.long (f j) :: st) M Q) : Wp d X pc l (.int (nI j) :: .ref k :: st) M Q := Wp.lald hc hM (vp_in_nI hj hn) (by rw [nI_clamp (Nat.lt_trans hj hn)]; exact h)
theorem Wp.aaldN {k n t j q : Nat} {f : Nat → Option Nat} (hc : cdx X pc = some (.inr (.inl .aaload), len)) (hM : M k = .inl (t, n, .inr (.inr (.inr (.inr f))))) (ht : (Nat.ble 4 t && Nat.ble t 6) = true) (hj : j < n) (hn : n < 2 ^ 31) (hq : f j = some q) (h : Wp d X (pc + len) l (.ref q :: st) M Q) : Wp d X pc l (.int (nI j) :: .ref k :: st) M Q := Wp.aald hc hM ht (vp_in_nI hj hn) (by rw [nI_clamp (Nat.lt_trans hj hn), hq]; exact h)
theorem Wp.iastN {k n j : Nat} {f : Nat → Int32} {x : Int32} (hc : cdx X pc = some (.inr (.inl .iastore), len)) (hM : M k = .inl (0, n, .inl f)) (hj : j < n) (hn : n < 2 ^ 31) (h : Wp d X (pc + len) l st (va_up M k (.inl (0, n, .inl (upd f j x)))) Q) : Wp d X pc l (.int x :: .int (nI j) :: .ref k :: st) M Q := Wp.iast hc hM (vp_in_nI hj hn) (by rw [nI_clamp (Nat.lt_trans hj hn)]; exact h)
theorem Wp.bastN {k n t j : Nat} {f : Nat → Int32} {x : Int32} (hc : cdx X pc = some (.inr (.inl .bastore), len)) (hM : M k = .inl (t, n, .inl f)) (ht : (Nat.beq t 2 || Nat.beq t 3) = true) (hj : j < n) (hn : n < 2 ^ 31) (h : Wp d X (pc + len) l st (va_up M k (.inl (t, n, .inl (upd f j (anar t x))))) Q) : Wp d X pc l (.int x :: .int (nI j) :: .ref k :: st) M Q := Wp.bast hc hM ht (vp_in_nI hj hn) (by rw [nI_clamp (Nat.lt_trans hj hn)]; exact h)
theorem Wp.lastN {k n j : Nat} {f : Nat → Int64} {x : Int64} (hc : cdx X pc = some (.inr (.inl .lastore), len)) (hM : M k = .inl (1, n, .inr (.inl f))) (hj : j < n) (hn : n < 2 ^ 31) (h : Wp d X (pc + len) l st (va_up M k (.inl (1, n, .inr (.inl (vp_updL f j x))))) Q) : Wp d X pc l (.long x :: .int (nI j) :: .ref k :: st) M Q := Wp.last hc hM (vp_in_nI hj hn) (by rw [nI_clamp (Nat.lt_trans hj hn)]; exact h)
-- a switch, a null
theorem Wp.sw {x : Int32} {t : Nat} (hc : cdx X pc = some (.inr (.inr (35, a, b, v)), len)) (ht : swx swl a x = some t) (k : Wp d X t l st M Q) : Wp d X pc l (.int x :: st) M Q := by
  refine Wp.s (pc' := t) (l' := l) (st' := st) (M' := M) ?_ k
  unfold sstep
  rw [hc]
  show (match swx swl a x with | some t => _ | none => _) = _
  rw [ht]
-- the reference
variable {σ : MS}
theorem Wp.mialdN {k n j : Nat} (hc : cdx X pc = some (.inr (.inl .iaload), len)) (hk : mtl_ k = (0, n)) (hn : (Nat.blt 0 n && Nat.blt n 100000) = true) (hj : j < n) (h : Wp d X (pc + len) l (.int (σ.2.2.1 k j) :: st) (mset M σ) Q) : Wp d X pc l (.int (nI j) :: .ref (k + 288) :: st) (mset M σ) Q := by
  rw [Bool.and_eq_true] at hn
  have h1 : 0 < n := Nat.le_of_ble_eq_true hn.1
  have h2 : n < 100000 := Nat.le_of_ble_eq_true hn.2
  exact Wp.miald hc hk (by omega) (vp_in_nI hj (by omega)) (by rw [nI_clamp (by omega)]; exact h)
theorem Wp.miastN {k n j : Nat} {x : Int32} (hc : cdx X pc = some (.inr (.inl .iastore), len)) (hk : mtl_ k = (0, n)) (hn : (Nat.blt 0 n && Nat.blt n 100000) = true) (hj : j < n) (h : Wp d X (pc + len) l st (mset M (aset σ k (upd (σ.2.2.1 k) j x))) Q) : Wp d X pc l (.int x :: .int (nI j) :: .ref (k + 288) :: st) (mset M σ) Q := by
  rw [Bool.and_eq_true] at hn
  have h1 : 0 < n := Nat.le_of_ble_eq_true hn.1
  have h2 : n < 100000 := Nat.le_of_ble_eq_true hn.2
  exact Wp.miast hc hk (by omega) (vp_in_nI hj (by omega)) (by rw [nI_clamp (by omega)]; exact h)
theorem Wp.mlaldN {k n j : Nat} (hc : cdx X pc = some (.inr (.inl .laload), len)) (hk : mtl_ k = (1, n)) (hn : Nat.blt n 100000 = true) (hj : j < n) (h : Wp d X (pc + len) l (.long (σ.2.2.2 k j) :: st) (mset M σ) Q) : Wp d X pc l (.int (nI j) :: .ref (k + 288) :: st) (mset M σ) Q := by
  have h2 : n < 100000 := Nat.le_of_ble_eq_true hn
  exact Wp.mlald hc hk (vp_in_nI hj (by omega)) (by rw [nI_clamp (by omega)]; exact h)
theorem Wp.mlastN {k n j : Nat} {x : Int64} (hc : cdx X pc = some (.inr (.inl .lastore), len)) (hk : mtl_ k = (1, n)) (hn : Nat.blt n 100000 = true) (hj : j < n) (h : Wp d X (pc + len) l st (mset M (lset σ k (vp_updL (σ.2.2.2 k) j x))) Q) : Wp d X pc l (.long x :: .int (nI j) :: .ref (k + 288) :: st) (mset M σ) Q := by
  have h2 : n < 100000 := Nat.le_of_ble_eq_true hn
  exact Wp.mlast hc hk (vp_in_nI hj (by omega)) (by rw [nI_clamp (by omega)]; exact h)
-- a realm in memory
variable {r : Nat} {ρ : RC}
theorem ra_ev {w : Option Value} (h : RA M r ρ) (e : Ev d X pc l st (rset M r ρ) (w, rset M r ρ)) : Ev d X pc l st M (w, M) := by
  rw [show rset M r ρ = M from h] at e
  exact e
theorem ra_obj (h : RA M r ρ) : M r = .inr (3, rfs r ρ) := by rw [← show rset M r ρ = M from h]; exact rs_obj
theorem ra_law (h : RA M r ρ) : M (r + 1) = .inr (0, lfs (rlw ρ)) := by rw [← show rset M r ρ = M from h]; exact rs_law
theorem ra_roads (h : RA M r ρ) : M (r + 2) = .inl (4, 12, .inr (.inr (.inr (.inr (fun i => if i < 12 then some (r + 3 + i) else none))))) := by rw [← show rset M r ρ = M from h]; exact rs_roads
theorem ra_road {i : Nat} (h : RA M r ρ) (hi : i < 12) : M (r + 3 + i) = .inr (1, kfs i (rlk ρ i)) := by rw [← show rset M r ρ = M from h]; exact rs_road hi
theorem ra_lanes (h : RA M r ρ) : M (r + 15) = .inl (4, 9, .inr (.inr (.inr (.inr (fun i => if i < 9 then some (r + 16 + i) else none))))) := by rw [← show rset M r ρ = M from h]; exact rs_lanes
theorem ra_lane {i : Nat} (h : RA M r ρ) (hi : i < 9) : M (r + 16 + i) = .inr (1, kfs i (rlk ρ (12 + i))) := by rw [← show rset M r ρ = M from h]; exact rs_lane hi
theorem ra_walks (h : RA M r ρ) : M (r + 25) = .inl (5, 10, .inr (.inr (.inr (.inr (fun i => if i < 10 then some (r + 26 + 2 * i) else none))))) := by rw [← show rset M r ρ = M from h]; exact rs_walks
theorem ra_walk {i : Nat} (h : RA M r ρ) (hi : i < 10) : M (r + 26 + 2 * i) = .inr (7, wfs (rwk ρ i) (r + 27 + 2 * i)) := by rw [← show rset M r ρ = M from h]; exact rs_walk hi
theorem ra_stops {i : Nat} (h : RA M r ρ) (hi : i < 10) : M (r + 27 + 2 * i) = .inl (0, 7, .inl (rst ρ i)) := by rw [← show rset M r ρ = M from h]; exact rs_stops hi
theorem ra_dist (h : RA M r ρ) : M (r + 46) = .inl (0, 49, .inl (rds ρ)) := by rw [← show rset M r ρ = M from h]; exact rs_dist
theorem rset_ra : RA (rset M r ρ) r ρ := by
  show rset (rset M r ρ) r ρ = rset M r ρ
  funext q
  unfold rset
  by_cases h : r ≤ q ∧ q < r + 47
  · rw [if_pos h, if_pos h]
  · simp only [if_neg h]
end NR
end
section
/-! BITS of naturals as ints and longs. -/
theorem n_and (a b : Nat) : nI a &&& nI b = nI (a &&& b) := by
  apply Int32.toBitVec_inj.1
  show BitVec.ofNat 32 a &&& BitVec.ofNat 32 b = BitVec.ofNat 32 (a &&& b)
  apply BitVec.eq_of_getLsbD_eq
  intro i hi
  simp [hi]
theorem n_or (a b : Nat) : nI a ||| nI b = nI (a ||| b) := by
  apply Int32.toBitVec_inj.1
  show BitVec.ofNat 32 a ||| BitVec.ofNat 32 b = BitVec.ofNat 32 (a ||| b)
  apply BitVec.eq_of_getLsbD_eq
  intro i hi
  simp [hi]
theorem n_sh1 : ∀ y, y < 31 → (1 : Int32) <<< (nI y &&& 31) = nI (2 ^ y) := by decide +kernel
theorem n_pow {y : Nat} (h : y < 31) : 2 ^ y < 2 ^ 31 := Nat.pow_lt_pow_right (by decide) h
theorem n_tb (F y : Nat) : F &&& 2 ^ y = 0 ↔ F.testBit y = false := by
  constructor
  · intro h
    have := congrArg (fun n => n.testBit y) h
    simpa [Nat.testBit_and, Nat.testBit_two_pow_self] using this
  · intro h
    apply Nat.eq_of_testBit_eq
    intro i
    rw [Nat.testBit_and, Nat.testBit_two_pow, Nat.zero_testBit]
    by_cases e : y = i
    · subst e; rw [h]; rfl
    · simp [e]
theorem n_bit {F y : Nat} (hF : F < 2 ^ 31) (hy : y < 31) : nI F &&& ((1 : Int32) <<< (nI y &&& 31)) = 0 ↔ F.testBit y = false := by
  rw [n_sh1 y hy, n_and, ← n_tb]
  have h : F &&& 2 ^ y < 2 ^ 31 := Nat.lt_of_le_of_lt Nat.and_le_left hF
  exact nI_eq (b := 0) h (by decide)
theorem l_cnt : ∀ k, k < 64 → ((nI k).toInt64 &&& 63) = lN k := by decide +kernel
theorem l_smod : ∀ k, k < 64 → ((lN k).toBitVec.smod 64).toNat = k := by decide +kernel
theorem l_toInt {n : Nat} (h : n < 2 ^ 63) : (lN n).toInt = (n : Int) := by
  have e : (lN n).toBitVec.toNat = n := by
    show (BitVec.ofNat 64 n).toNat = n
    rw [BitVec.toNat_ofNat]
    exact Nat.mod_eq_of_lt (by omega)
  have c := BitVec.toInt_eq_toNat_cond (lN n).toBitVec
  rw [e] at c
  show (lN n).toBitVec.toInt = _
  rw [c, if_pos (by omega)]
theorem l_inj {a b : Nat} (ha : a < 2 ^ 63) (hb : b < 2 ^ 63) : lN a = lN b ↔ a = b := by
  rw [l_eq, l_toInt ha, l_toInt hb]
  omega
theorem l_shr {a y : Nat} (h : a < 2 ^ 62) (hy : y < 64) : lN a >>> ((nI y).toInt64 &&& 63) = lN (a / 2 ^ y) := by
  rw [l_cnt y hy]
  apply Int64.toInt_inj.mp
  have hd : a / 2 ^ y ≤ a := Nat.div_le_self _ _
  have e : (lN a >>> lN y).toInt = (lN a).toInt >>> y := by
    have h1 := l_smod y hy
    conv => rhs; rw [← h1]
    exact BitVec.toInt_sshiftRight ..
  rw [e, Int.shiftRight_eq_div_pow, l_toInt (by omega), l_toInt (by omega)]
  norm_cast
theorem l_and (a b : Nat) : lN a &&& lN b = lN (a &&& b) := by
  apply Int64.toBitVec_inj.1
  show BitVec.ofNat 64 a &&& BitVec.ofNat 64 b = BitVec.ofNat 64 (a &&& b)
  apply BitVec.eq_of_getLsbD_eq
  intro i hi
  simp [hi]
theorem l_or (a b : Nat) : lN a ||| lN b = lN (a ||| b) := by
  apply Int64.toBitVec_inj.1
  show BitVec.ofNat 64 a ||| BitVec.ofNat 64 b = BitVec.ofNat 64 (a ||| b)
  apply BitVec.eq_of_getLsbD_eq
  intro i hi
  simp [hi]
theorem l_sh1 : ∀ y, y < 31 → (1 : Int64) <<< ((nI y).toInt64 &&& 63) = lN (2 ^ y) := by decide +kernel
theorem l_bit {F y : Nat} (hF : F < 2 ^ 31) (hy : y < 31) : (lN F >>> ((nI y).toInt64 &&& 63)) &&& 1 = lN (F.testBit y).toNat := by
  rw [l_shr (by omega) (by omega), show (1 : Int64) = lN 1 from rfl, l_and, Nat.and_one_is_mod]
  congr 1
  rw [Nat.testBit_eq_decide_div_mod_eq]
  have : F / 2 ^ y % 2 < 2 := Nat.mod_lt _ (by decide)
  by_cases h : F / 2 ^ y % 2 = 1
  · simp [h]
  · simp [h]; omega
theorem n_bitI {F y : Nat} (hF : F < 2 ^ 31) (hy : y < 31) : (nI F >>> (nI y &&& 31)) &&& 1 = nI (F.testBit y).toNat := by
  have hs : ∀ y, y < 31 → ((nI y &&& 31).toBitVec.smod 32).toNat = y := by decide +kernel
  rw [pk_shrN hF _ y (hs y hy), show (1 : Int32) = nI 1 from rfl, n_and, Nat.and_one_is_mod]
  congr 1
  rw [Nat.testBit_eq_decide_div_mod_eq]
  have : F / 2 ^ y % 2 < 2 := Nat.mod_lt _ (by decide)
  by_cases h : F / 2 ^ y % 2 = 1
  · simp [h]
  · simp [h]; omega
end
section
/-! ROADS, LANES, AND WHAT JOINS: class and reference. -/
def IsR (w : Option Value) (M1 : AM) : Option Value → AM → Prop := fun v M' => v = w ∧ M' = M1
theorem Wp.toEv {d : Nat} {X : MD} {pc : Nat} {l : AL} {st : List Value} {M M1 : AM} {w : Option Value} (h : Wp d X pc l st M (IsR w M1)) : Ev d X pc l st M (w, M1) := by
  obtain ⟨v, M', h1, rfl, rfl⟩ := h
  exact h1
section REP
variable {ρ : RC} {K : KD} {σ : MS} {s : Nat}
theorem rc_pl (h : RepC ρ K) : rhd ρ 0 = nI (kh K 0) := h.1
theorem rc_dy (h : RepC ρ K) : rhd ρ 1 = nI (kh K 1) := h.2.1
theorem rc_ln (h : RepC ρ K) : rhd ρ 2 = nI (kh K 5) := h.2.2.1
theorem rc_fl (h : RepC ρ K) : rhd ρ 3 = nI (kh K 12) := h.2.2.2.1
theorem rc_rd (h : RepC ρ K) : rhd ρ 6 = nI (kh K 2) := h.2.2.2.2.1
theorem rc_la (h : RepC ρ K) : rhd ρ 8 = nI (kh K 3 + kh K 11) := h.2.2.2.2.2.1
theorem rc_wk (h : RepC ρ K) : rhd ρ 10 = nI (kh K 4) := h.2.2.2.2.2.2.1
theorem rc_law (h : RepC ρ K) (h0 : 0 < kh K 0) {j : Nat} (hj : j < 5) : rlw ρ j = nI (kh K (6 + j)) := h.2.2.2.2.2.2.2.1 h0 j hj
theorem rc_road (h : RepC ρ K) {i : Nat} (hi : i < kh K 2) : rlk ρ i 1 = 0 ∧ rlk ρ i 2 = bitsE (kr K i 0) (kr K i 1) ∧ rlk ρ i 3 = nI (kr K i 2) ∧ rlk ρ i 6 = 0 := h.2.2.2.2.2.2.2.2.1 i hi
theorem rc_lane (h : RepC ρ K) {l : Nat} (hl : l < kh K 3 ∨ (l = 8 ∧ kh K 11 = 1)) : rlk ρ (12 + phL K l) 1 = nI (kl K l 5 + 1) ∧ rlk ρ (12 + phL K l) 2 = bitsE (kl K l 0) (kl K l 1) ∧ rlk ρ (12 + phL K l) 3 = nI (kl K l 2) ∧ rlk ρ (12 + phL K l) 4 = nI (kl K l 3) ∧ rlk ρ (12 + phL K l) 5 = nI (kl K l 4) ∧ rlk ρ (12 + phL K l) 6 = nI (kl K l 6) := h.2.2.2.2.2.2.2.2.2.1 l hl
theorem rc_walk (h : RepC ρ K) {i : Nat} (hi : i < kh K 4) : rwk ρ i 0 = nI (kw K i 0) ∧ rwk ρ i 1 = nI (kw K i 1) ∧ rwk ρ i 2 = nI (kw K i 2) ∧ rwk ρ i 3 = nI (kw K i 3 - 1) ∧ ∀ j, j < kw K i 3 → rst ρ i j = nI (kw K i (4 + j)) := h.2.2.2.2.2.2.2.2.2.2 i hi
theorem rm_has (h : RepM σ s K) {j : Nat} (hj : j < 5) : σ.2.2.1 6 (5 * s + j) = nI (kh K j) := h.1 j hj
theorem rm_law (h : RepM σ s K) (h0 : 0 < kh K 0) {j : Nat} (hj : j < 5) : σ.2.2.1 7 (5 * s + j) = nI (kh K (6 + j)) := h.2.1 h0 j hj
theorem rm_ln (h : RepM σ s K) : σ.2.2.1 5 s = nI (kh K 5) := h.2.2.1
theorem rm_fl (h : RepM σ s K) : σ.2.2.2 8 s = lN (kh K 12) := h.2.2.2.1
theorem rm_road (h : RepM σ s K) {i j : Nat} (hi : i < kh K 2) (hj : j < 3) : σ.2.2.1 9 (36 * s + 3 * i + j) = nI (kr K i j) := h.2.2.2.2.1 i hi j hj
theorem rm_lane (h : RepM σ s K) {i j : Nat} (hi : i < kh K 3 ∨ (i = 8 ∧ kh K 11 = 1)) (hj : j < 7) : σ.2.2.1 10 (63 * s + 7 * i + j) = nI (kl K i j) := h.2.2.2.2.2.1 i hi j hj
theorem rm_walk (h : RepM σ s K) {i : Nat} (hi : i < kh K 4) : (∀ j, j < 4 → σ.2.2.1 11 (110 * s + 11 * i + j) = nI (kw K i j)) ∧ ∀ j, j < kw K i 3 → σ.2.2.1 11 (110 * s + 11 * i + 4 + j) = nI (kw K i (4 + j)) := h.2.2.2.2.2.2 i hi
-- slot 0
theorem r0_has (h : RepM σ 0 K) {j : Nat} (hj : j < 5) : σ.2.2.1 6 j = nI (kh K j) := by have := rm_has h hj; rwa [show 5 * 0 + j = j by omega] at this
theorem r0_law (h : RepM σ 0 K) (h0 : 0 < kh K 0) {j : Nat} (hj : j < 5) : σ.2.2.1 7 j = nI (kh K (6 + j)) := by have := rm_law h h0 hj; rwa [show 5 * 0 + j = j by omega] at this
theorem r0_road (h : RepM σ 0 K) {i j q : Nat} (hi : i < kh K 2) (hj : j < 3) (hq : q = 3 * i + j) : σ.2.2.1 9 q = nI (kr K i j) := by have := rm_road h hi hj; rwa [show 36 * 0 + 3 * i + j = q by omega] at this
theorem r0_lane (h : RepM σ 0 K) {i j q : Nat} (hi : i < kh K 3 ∨ (i = 8 ∧ kh K 11 = 1)) (hj : j < 7) (hq : q = 7 * i + j) : σ.2.2.1 10 q = nI (kl K i j) := by have := rm_lane h hi hj; rwa [show 63 * 0 + 7 * i + j = q by omega] at this
theorem r0_walk (h : RepM σ 0 K) {i j q : Nat} (hi : i < kh K 4) (hj : j < 4) (hq : q = 11 * i + j) : σ.2.2.1 11 q = nI (kw K i j) := by have := (rm_walk h hi).1 j hj; rwa [show 110 * 0 + 11 * i + j = q by omega] at this
theorem r0_stop (h : RepM σ 0 K) {i j q : Nat} (hi : i < kh K 4) (hj : j < kw K i 3) (hq : q = 11 * i + 4 + j) : σ.2.2.1 11 q = nI (kw K i (4 + j)) := by have := (rm_walk h hi).2 j hj; rwa [show 110 * 0 + 11 * i + 4 + j = q by omega] at this
theorem ok_h (h : KOK K) : kh K 0 ≤ 7 ∧ kh K 1 ≤ 30 ∧ kh K 2 ≤ 12 ∧ kh K 3 ≤ 8 ∧ kh K 4 ≤ 10 ∧ kh K 5 ≤ 2000 ∧ kh K 6 ≤ 99 ∧ kh K 7 ≤ 99 ∧ kh K 8 ≤ 99 ∧ kh K 9 ≤ 1 ∧ kh K 10 ≤ 1 ∧ kh K 11 ≤ 1 ∧ kh K 12 < 2 ^ 30 := ⟨h.1, h.2.1, h.2.2.1, h.2.2.2.1, h.2.2.2.2.1, h.2.2.2.2.2.1, h.2.2.2.2.2.2.1, h.2.2.2.2.2.2.2.1, h.2.2.2.2.2.2.2.2.1, h.2.2.2.2.2.2.2.2.2.1, h.2.2.2.2.2.2.2.2.2.2.1, h.2.2.2.2.2.2.2.2.2.2.2.1, h.2.2.2.2.2.2.2.2.2.2.2.2.1⟩
theorem ok_ln (h : KOK K) : 0 < kh K 5 ↔ 0 < kh K 0 := h.2.2.2.2.2.2.2.2.2.2.2.2.2.1
theorem ok_road (h : KOK K) {i : Nat} (hi : i < kh K 2) : kr K i 0 < kh K 0 ∧ kr K i 1 < kh K 0 ∧ kr K i 0 ≠ kr K i 1 ∧ 1 ≤ kr K i 2 ∧ kr K i 2 ≤ 129 := h.2.2.2.2.2.2.2.2.2.2.2.2.2.2.1 i hi
theorem ok_lane (h : KOK K) {i : Nat} (hi : i < kh K 3 ∨ (i = 8 ∧ kh K 11 = 1)) : kl K i 0 < kh K 0 ∧ kl K i 1 < kh K 0 ∧ kl K i 0 ≠ kl K i 1 ∧ 1 ≤ kl K i 2 ∧ kl K i 2 ≤ 99 ∧ kl K i 3 ≤ 30 ∧ kl K i 4 ≤ 30 ∧ kl K i 5 ≤ 2 ∧ kl K i 6 ≤ 100 := h.2.2.2.2.2.2.2.2.2.2.2.2.2.2.2.1 i hi
theorem ok_walk (h : KOK K) {i : Nat} (hi : i < kh K 4) : kw K i 0 ≤ 4 ∧ 1 ≤ kw K i 1 ∧ kw K i 1 ≤ 9 ∧ kw K i 2 < kh K 1 ∧ 2 ≤ kw K i 3 ∧ kw K i 3 ≤ 7 ∧ (∀ j, j < kw K i 3 → kw K i (4 + j) < kh K 0) ∧ (∀ j, j + 1 < kw K i 3 → kw K i (4 + j) ≠ kw K i (4 + j + 1)) := h.2.2.2.2.2.2.2.2.2.2.2.2.2.2.2.2.1 i hi
theorem ok_uni (h : KOK K) {i j : Nat} (hi : i < kh K 2) (hj : j < kh K 2) (hb : btw (kr K i 0) (kr K i 1) (kr K j 0) (kr K j 1) = true) : i = j := h.2.2.2.2.2.2.2.2.2.2.2.2.2.2.2.2.2 i j hi hj hb
end REP

section JOIN
variable {d : Nat} {M : AM} {r : Nat} {ρ : RC} {K : KD} {σ : MS}
theorem k_roadOf_l (hR : RA M r ρ) (hK : RepC ρ K) (ok : KOK K) {a b : Nat} (ha : a < 7) (hb : b < 7) : ∀ (n i : Nat), i + n = kh K 2 → Wp d md_29 11 [some (.ref r), some (.int (nI a)), some (.int (nI b)), some (.int (bitsE a b)), some (.int (nI i))] [] M (IsR (some (va_rf ((fnd (fun i => btw (kr K i 0) (kr K i 1) a b) n i).map (fun i => r + 3 + i)))) M) := by
  intro n
  obtain ⟨b0, b1, b2, b3, b4, b5, b6, b7, b8, b9, b10, b11, b12⟩ := ok_h ok
  induction n with
  | zero =>
    intro i hi
    refine Wp.n (pc' := 14) 2 rfl ?_
    refine Wp.get (len := 3) rfl (ra_obj hR) rfl ?_
    refine Wp.top (rc_rd hK) ?_
    refine Wp.nc3 (x := i) (y := kh K 2) (tgt := 48) (len := 3) rfl (by omega) (by omega) (fun h17 => ?_) (fun h17 => ?_)
    · skip
      refine Wp.n (pc' := 49) 1 rfl ?_
      refine Wp.retN (len := 1) rfl rfl ?_
      exact ⟨rfl, rfl⟩
    · omega
  | succ n ih =>
    intro i hi
    have hl := rc_road hK (i := i) (by omega)
    have hk := ok_road ok (i := i) (by omega)
    have e := bitsE_eq (a := kr K i 0) (b := kr K i 1) (c := a) (d := b) (by omega) (by omega) ha hb hk.2.2.1
    refine Wp.n (pc' := 14) 2 rfl ?_
    refine Wp.get (len := 3) rfl (ra_obj hR) rfl ?_
    refine Wp.top (rc_rd hK) ?_
    refine Wp.nc3 (x := i) (y := kh K 2) (tgt := 48) (len := 3) rfl (by omega) (by omega) (fun h17 => ?_) (fun h17 => ?_)
    · omega
    · skip
      refine Wp.n (pc' := 21) 1 rfl ?_
      refine Wp.get (len := 3) rfl (ra_obj hR) rfl ?_
      refine Wp.n (pc' := 26) 1 rfl ?_
      refine Wp.aaldN (j := i) (len := 1) rfl (ra_roads hR) rfl (by omega) (by decide) (if_pos (by omega)) ?_
      refine Wp.get (len := 3) rfl (ra_road hR (by omega)) rfl ?_
      refine Wp.top hl.2.1 ?_
      refine Wp.n (pc' := 31) 1 rfl ?_
      refine Wp.ic1 (tgt := 42) (len := 3) rfl (fun h31 => ?_) (fun h31 => ?_)
      · skip
        refine Wp.incN (x := i) (len := 3) rfl rfl ?_
        refine Wp.n (pc' := 11) 1 rfl ?_
        have := ih (i + 1) (by omega)
        unfold fnd
        rw [if_neg (fun q => h31 (e.mpr q))]
        exact this
      · skip
        refine Wp.n (pc' := 35) 1 rfl ?_
        refine Wp.get (len := 3) rfl (ra_obj hR) rfl ?_
        refine Wp.n (pc' := 40) 1 rfl ?_
        refine Wp.aaldN (j := i) (len := 1) rfl (ra_roads hR) rfl (by omega) (by decide) (if_pos (by omega)) ?_
        refine Wp.retR (len := 1) rfl rfl ?_
        refine ⟨?_, rfl⟩
        unfold fnd
        rw [if_pos (e.mp h31)]
        rfl

theorem k_roadOf (hR : RA M r ρ) (hK : RepC ρ K) (ok : KOK K) {a b : Nat} (ha : a < 7) (hb : b < 7) : Ev d md_29 0 [some (.ref r), some (.int (nI a)), some (.int (nI b)), none, none] [] M (some (va_rf ((roadK K a b).map (fun i => r + 3 + i))), M) := by
  refine Wp.toEv ?_
  refine Wp.n (pc' := 11) 10 rfl ?_
  exact k_roadOf_l hR hK ok ha hb (kh K 2) 0 (by omega)
end JOIN
end
section
/-! WHAT JOINS, in the class. -/
/-- the lane at a place of the class -/
def lgl (K : KD) (i : Nat) : Nat := if i < kh K 3 then i else 8
def jad (K : KD) (r j : Nat) : Nat := if j < 20 then r + 3 + j else r + 16 + phL K (j - 20)
def LV (K : KD) (l : Nat) : Prop := l < kh K 3 ∨ (l = 8 ∧ kh K 11 = 1)
def JV (K : KD) (j : Nat) : Prop := j < kh K 2 ∨ (20 ≤ j ∧ LV K (j - 20))
theorem fld_s {α : Type} {f : α → Nat → α} : ∀ (n i : Nat) (x : α), fld f (n + 1) i x = f (fld f n i x) (i + n)
  | 0, i, x => rfl
  | n + 1, i, x => by
    show fld f (n + 1) (i + 1) (f x i) = f (fld f n (i + 1) (f x i)) (i + (n + 1))
    rw [fld_s n (i + 1) (f x i), show i + 1 + n = i + (n + 1) by omega]
theorem fld_c {α : Type} {f g : α → Nat → α} : ∀ (n i : Nat) (x : α), (∀ j, i ≤ j → j < i + n → ∀ y, f y j = g y j) → fld f n i x = fld g n i x
  | 0, i, x, _ => rfl
  | n + 1, i, x, h => by
    show fld f n (i + 1) (f x i) = fld g n (i + 1) (g x i)
    rw [h i (by omega) (by omega), fld_c n (i + 1) (g x i) (fun j h1 h2 => h j (by omega) (by omega))]
theorem joinK_c {K : KD} (ok : KOK K) (a b y : Nat) : fld (fun c i => joinStep K a b y c (lgl K i)) (kh K 3 + kh K 11) 0 (roadK K a b) = joinK K a b y := by
  have b11 : kh K 11 ≤ 1 := (ok_h ok).2.2.2.2.2.2.2.2.2.2.2.1
  have e : fld (fun c i => joinStep K a b y c (lgl K i)) (kh K 3) 0 (roadK K a b) = fld (joinStep K a b y) (kh K 3) 0 (roadK K a b) := fld_c _ _ _ (fun j _ h2 c => by
    show joinStep K a b y c (lgl K j) = _
    unfold lgl
    rw [if_pos (by omega)])
  unfold joinK
  by_cases h : kh K 11 = 1
  · rw [h, fld_s, e]
    show joinStep K a b y _ (lgl K (0 + kh K 3)) = _
    unfold lgl
    rw [if_neg (by omega)]
    rfl
  · rw [show kh K 11 = 0 by omega, Nat.add_zero, e]
    rfl
section LINK
variable {d : Nat} {M : AM} {r : Nat} {ρ : RC} {K : KD}
theorem lgl_v (ok : KOK K) {i : Nat} (hi : i < kh K 3 + kh K 11) : LV K (lgl K i) ∧ phL K (lgl K i) = i := by
  obtain ⟨b0, b1, b2, b3, b4, b5, b6, b7, b8, b9, b10, b11, b12⟩ := ok_h ok
  unfold lgl LV phL
  by_cases h : i < kh K 3
  · rw [if_pos h]
    exact ⟨Or.inl h, if_neg (by omega)⟩
  · rw [if_neg h]
    exact ⟨Or.inr ⟨rfl, by omega⟩, by rw [if_pos rfl]; omega⟩
theorem LV_ph (ok : KOK K) {l : Nat} (hl : LV K l) : phL K l ≤ 8 ∧ phL K l < kh K 3 + kh K 11 := by
  obtain ⟨b0, b1, b2, b3, b4, b5, b6, b7, b8, b9, b10, b11, b12⟩ := ok_h ok
  unfold phL
  by_cases h : l = 8
  · rw [if_pos h]
    unfold LV at hl
    omega
  · rw [if_neg h]
    unfold LV at hl
    omega
theorem j_obj (hR : RA M r ρ) (hK : RepC ρ K) (ok : KOK K) {j : Nat} (hj : JV K j) : ∃ n f, M (jad K r j) = .inr (1, kfs n f) ∧ f 3 = nI (spanJ K j) ∧ (j < 20 → n = j ∧ f 1 = 0 ∧ f 6 = 0) ∧ (20 ≤ j → n = phL K (j - 20) ∧ f 1 = nI (kl K (j - 20) 5 + 1) ∧ f 6 = nI (kl K (j - 20) 6)) := by
  obtain ⟨b0, b1, b2, b3, b4, b5, b6, b7, b8, b9, b10, b11, b12⟩ := ok_h ok
  unfold jad spanJ
  rcases hj with h | ⟨h, h2⟩
  · have q := rc_road hK h
    rw [if_pos (by omega), if_pos (by omega)]
    exact ⟨j, rlk ρ j, ra_road hR (by omega), q.2.2.1, fun _ => ⟨rfl, q.1, q.2.2.2⟩, fun _ => by omega⟩
  · have q := rc_lane hK h2
    have p := LV_ph ok h2
    rw [if_neg (by omega), if_neg (by omega)]
    exact ⟨phL K (j - 20), rlk ρ (12 + phL K (j - 20)), ra_lane hR (by omega), q.2.2.1, fun _ => by omega, fun _ => ⟨rfl, q.1, q.2.2.2.2.2⟩⟩
theorem k_isOpen (hR : RA M r ρ) (hK : RepC ρ K) (ok : KOK K) {l y : Nat} (hl : LV K l) (hy : y < 31) : Ev d md_39 0 [some (.ref r), some (.ref (r + 16 + phL K l)), some (.int (nI y))] [] M (some (.int (bI (openK K l y))), M) := by
  refine Wp.toEv ?_
  obtain ⟨b0, b1, b2, b3, b4, b5, b6, b7, b8, b9, b10, b11, b12⟩ := ok_h ok
  have q := rc_lane hK hl
  have p := LV_ph ok hl
  have t := ok_lane ok hl
  have hM := ra_lane hR (i := phL K l) (by omega)
  refine Wp.n (pc' := 1) 1 rfl ?_
  refine Wp.get (len := 3) rfl (hM) rfl ?_
  refine Wp.top q.1 ?_
  obtain hs | hs | hs : kl K l 5 = 0 ∨ kl K l 5 = 1 ∨ kl K l 5 = 2 := by omega
  · rw [hs]
    refine Wp.sw (len := 28) (t := 32) rfl rfl ?_
    refine Wp.n (pc' := 34) 2 rfl ?_
    refine Wp.get (len := 3) rfl (hM) rfl ?_
    refine Wp.top q.2.2.2.1 ?_
    refine Wp.nc2 (x := y) (y := kl K l 3) (tgt := 52) (len := 3) rfl (by omega) (by omega) (fun h37 => ?_) (fun h37 => ?_)
    · skip
      refine Wp.n (pc' := 53) 1 rfl ?_
      refine Wp.retZ (len := 1) (c := false) rfl rfl rfl ?_
      refine ⟨?_, rfl⟩
      unfold openK
      rw [if_neg (by omega), if_neg (by omega)]
      first | rw [decide_eq_true (by omega)] | rw [decide_eq_false (by omega)]
    · skip
      refine Wp.n (pc' := 42) 2 rfl ?_
      refine Wp.get (len := 3) rfl (hM) rfl ?_
      refine Wp.top q.2.2.2.2.1 ?_
      refine Wp.nc4 (x := y) (y := kl K l 4) (tgt := 52) (len := 3) rfl (by omega) (by omega) (fun h45 => ?_) (fun h45 => ?_)
      · skip
        refine Wp.n (pc' := 53) 1 rfl ?_
        refine Wp.retZ (len := 1) (c := false) rfl rfl rfl ?_
        refine ⟨?_, rfl⟩
        unfold openK
        rw [if_neg (by omega), if_neg (by omega)]
        first | rw [decide_eq_true (by omega)] | rw [decide_eq_false (by omega)]
      · skip
        refine Wp.n (pc' := 53) 2 rfl ?_
        refine Wp.retZ (len := 1) (c := true) rfl rfl rfl ?_
        refine ⟨?_, rfl⟩
        unfold openK
        rw [if_neg (by omega), if_neg (by omega)]
        first | rw [decide_eq_true (by omega)] | rw [decide_eq_false (by omega)]
  · rw [hs]
    refine Wp.sw (len := 28) (t := 54) rfl rfl ?_
    refine Wp.n (pc' := 55) 1 rfl ?_
    refine Wp.get (len := 3) rfl (ra_obj hR) rfl ?_
    refine Wp.top (rc_fl hK) ?_
    refine Wp.n (pc' := 62) 4 rfl ?_
    refine Wp.if1 (tgt := 69) (len := 3) rfl (fun h62 => ?_) (fun h62 => ?_)
    · rw [n_bit (by omega) hy] at h62
      refine Wp.n (pc' := 70) 1 rfl ?_
      refine Wp.retZ (len := 1) (c := false) rfl rfl rfl ?_
      refine ⟨?_, rfl⟩
      unfold openK
      rw [if_neg (by omega), if_pos hs]
      simp_all
    · rw [n_bit (by omega) hy] at h62
      refine Wp.n (pc' := 70) 2 rfl ?_
      refine Wp.retZ (len := 1) (c := true) rfl rfl rfl ?_
      refine ⟨?_, rfl⟩
      unfold openK
      rw [if_neg (by omega), if_pos hs]
      simp_all
  · rw [hs]
    refine Wp.sw (len := 28) (t := 71) rfl rfl ?_
    refine Wp.n (pc' := 72) 1 rfl ?_
    refine Wp.retZ (len := 1) (c := true) rfl rfl rfl ?_
    refine ⟨?_, rfl⟩
    unfold openK
    rw [if_pos hs]


theorem spanJ_b (ok : KOK K) {j : Nat} (hj : JV K j) : 1 ≤ spanJ K j ∧ spanJ K j ≤ 129 := by
  obtain ⟨b0, b1, b2, b3, b4, b5, b6, b7, b8, b9, b10, b11, b12⟩ := ok_h ok
  unfold spanJ
  rcases hj with h | ⟨h, h2⟩
  · rw [if_pos (by omega)]
    have := ok_road ok h
    omega
  · rw [if_neg (by omega)]
    have := ok_lane ok h2
    omega
theorem k_linkOf_l (hR : RA M r ρ) (hK : RepC ρ K) (ok : KOK K) (h32 : 32 ≤ r) {a b y : Nat} (ha : a < 7) (hb : b < 7) (hy : y < 31) : ∀ (n i : Nat) (cur : Option Nat) (z : Option Value), i + n = kh K 3 + kh K 11 → (∀ j, cur = some j → JV K j) → Wp (d + 1) md_40 20 [some (.ref r), some (.int (nI a)), some (.int (nI b)), some (.int (nI y)), some (va_rf (cur.map (jad K r))), some (.int (bitsE a b)), some (.int (nI i)), z] [] M (IsR (some (va_rf ((fld (fun c i => joinStep K a b y c (lgl K i)) n i cur).map (jad K r)))) M) := by
  intro n
  obtain ⟨b0, b1, b2, b3, b4, b5, b6, b7, b8, b9, b10, b11, b12⟩ := ok_h ok
  induction n with
  | zero =>
    intro i cur z hi hc
    refine Wp.n (pc' := 23) 2 rfl ?_
    refine Wp.get (len := 3) rfl (ra_obj hR) rfl ?_
    refine Wp.top (rc_la hK) ?_
    refine Wp.nc3 (x := i) (y := kh K 3 + kh K 11) (tgt := 109) (len := 3) rfl (by omega) (by omega) (fun h26 => ?_) (fun h26 => ?_)
    · skip
      rcases cur with _ | j
      · skip
        refine Wp.n (pc' := 111) 1 rfl ?_
        refine Wp.retN (len := 1) rfl rfl ?_
        exact ⟨rfl, rfl⟩
      · skip
        refine Wp.n (pc' := 111) 1 rfl ?_
        refine Wp.retR (len := 1) rfl rfl ?_
        exact ⟨rfl, rfl⟩
    · omega
  | succ n ih =>
    intro i cur z hi hc
    obtain ⟨hl, hph⟩ := lgl_v ok (i := i) (by omega)
    have q := rc_lane hK hl
    rw [hph] at q
    have t := ok_lane ok hl
    have e := bitsE_eq (a := kl K (lgl K i) 0) (b := kl K (lgl K i) 1) (c := a) (d := b) (by omega) (by omega) ha hb t.2.2.1
    have kt : ∀ z : Option Value, (shr K cur (lgl K i) = true ∧ btw (kl K (lgl K i) 0) (kl K (lgl K i) 1) a b = true ∧ openK K (lgl K i) y = true) → Wp (d + 1) md_40 20 [some (.ref r), some (.int (nI a)), some (.int (nI b)), some (.int (nI y)), some (.ref (r + 16 + i)), some (.int (bitsE a b)), some (.int (nI (i + 1))), z] [] M (IsR (some (va_rf ((fld (fun c i => joinStep K a b y c (lgl K i)) (n + 1) i cur).map (jad K r)))) M) := by
      intro z hC
      have w := ih (i + 1) (some (20 + lgl K i)) z (by omega) (fun j hj => by cases hj; exact Or.inr ⟨by omega, by rw [show 20 + lgl K i - 20 = lgl K i by omega]; exact hl⟩)
      have e1 : (some (20 + lgl K i)).map (jad K r) = some (r + 16 + i) := by
        show some (jad K r (20 + lgl K i)) = _
        unfold jad
        rw [if_neg (by omega), show 20 + lgl K i - 20 = lgl K i by omega, hph]
      rw [e1] at w
      have e2 : joinStep K a b y cur (lgl K i) = some (20 + lgl K i) := if_pos hC
      show Wp _ _ _ _ _ _ (IsR (some (va_rf ((fld _ n (i + 1) (joinStep K a b y cur (lgl K i))).map (jad K r)))) M)
      rw [e2]
      exact w
    have kf : ∀ z : Option Value, ¬ (shr K cur (lgl K i) = true ∧ btw (kl K (lgl K i) 0) (kl K (lgl K i) 1) a b = true ∧ openK K (lgl K i) y = true) → Wp (d + 1) md_40 20 [some (.ref r), some (.int (nI a)), some (.int (nI b)), some (.int (nI y)), some (va_rf (cur.map (jad K r))), some (.int (bitsE a b)), some (.int (nI (i + 1))), z] [] M (IsR (some (va_rf ((fld (fun c i => joinStep K a b y c (lgl K i)) (n + 1) i cur).map (jad K r)))) M) := by
      intro z hC
      have e2 : joinStep K a b y cur (lgl K i) = cur := if_neg hC
      show Wp _ _ _ _ _ _ (IsR (some (va_rf ((fld _ n (i + 1) (joinStep K a b y cur (lgl K i))).map (jad K r)))) M)
      rw [e2]
      exact ih (i + 1) cur z (by omega) hc
    refine Wp.n (pc' := 23) 2 rfl ?_
    refine Wp.get (len := 3) rfl (ra_obj hR) rfl ?_
    refine Wp.top (rc_la hK) ?_
    refine Wp.nc3 (x := i) (y := kh K 3 + kh K 11) (tgt := 109) (len := 3) rfl (by omega) (by omega) (fun h26 => ?_) (fun h26 => ?_)
    · omega
    · skip
      rcases cur with _ | j
      · skip
        refine Wp.n (pc' := 31) 1 rfl ?_
        refine Wp.s (pc' := 52) rfl ?_
        refine Wp.n (pc' := 61) 4 rfl ?_
        refine Wp.nz0 (x := 1) (tgt := 103) (len := 3) rfl (by omega) (fun h61 => ?_) (fun h61 => ?_)
        · omega
        · skip
          refine Wp.n (pc' := 65) 1 rfl ?_
          refine Wp.get (len := 3) rfl (ra_obj hR) rfl ?_
          refine Wp.n (pc' := 70) 1 rfl ?_
          refine Wp.aaldN (j := i) (len := 1) rfl (ra_lanes hR) rfl (by omega) (by decide) (if_pos (by omega)) ?_
          refine Wp.get (len := 3) rfl (ra_lane hR (by omega)) rfl ?_
          refine Wp.top q.2.1 ?_
          refine Wp.n (pc' := 76) 1 rfl ?_
          refine Wp.ic1 (tgt := 103) (len := 3) rfl (fun h76 => ?_) (fun h76 => ?_)
          · skip
            refine Wp.incN (x := i) (len := 3) rfl rfl ?_
            refine Wp.n (pc' := 20) 1 rfl ?_
            first
              | exact kf _ (fun c => h76 (e.mpr c.2.1))
              | exact kf _ (fun c => by have := of_decide_eq_true c.1; omega)
              | exact kf _ (fun c => absurd (c.2.2.symm.trans h91) (by decide))
              | exact kt _ ⟨rfl, e.mp h76, h91⟩
              | exact kt _ ⟨decide_eq_true (by omega), e.mp h76, h91⟩
          · skip
            refine Wp.n (pc' := 81) 2 rfl ?_
            refine Wp.get (len := 3) rfl (ra_obj hR) rfl ?_
            refine Wp.n (pc' := 86) 1 rfl ?_
            refine Wp.aaldN (j := i) (len := 1) rfl (ra_lanes hR) rfl (by omega) (by decide) (if_pos (by omega)) ?_
            refine Wp.n (pc' := 88) 1 rfl ?_
            refine Wp.ecallV (len := 3) rfl rfl rfl (ra_obj hR) rfl h32 rfl ((hph ▸ k_isOpen hR hK ok hl (by omega))) ?_
            refine Wp.ifb0 (tgt := 103) (len := 3) rfl (fun h91 => ?_) (fun h91 => ?_)
            · skip
              refine Wp.incN (x := i) (len := 3) rfl rfl ?_
              refine Wp.n (pc' := 20) 1 rfl ?_
              first
                | exact kf _ (fun c => h76 (e.mpr c.2.1))
                | exact kf _ (fun c => by have := of_decide_eq_true c.1; omega)
                | exact kf _ (fun c => absurd (c.2.2.symm.trans h91) (by decide))
                | exact kt _ ⟨rfl, e.mp h76, h91⟩
                | exact kt _ ⟨decide_eq_true (by omega), e.mp h76, h91⟩
            · skip
              refine Wp.n (pc' := 95) 1 rfl ?_
              refine Wp.get (len := 3) rfl (ra_obj hR) rfl ?_
              refine Wp.n (pc' := 100) 1 rfl ?_
              refine Wp.aaldN (j := i) (len := 1) rfl (ra_lanes hR) rfl (by omega) (by decide) (if_pos (by omega)) ?_
              refine Wp.n (pc' := 103) 1 rfl ?_
              refine Wp.incN (x := i) (len := 3) rfl rfl ?_
              refine Wp.n (pc' := 20) 1 rfl ?_
              first
                | exact kf _ (fun c => h76 (e.mpr c.2.1))
                | exact kf _ (fun c => by have := of_decide_eq_true c.1; omega)
                | exact kf _ (fun c => absurd (c.2.2.symm.trans h91) (by decide))
                | exact kt _ ⟨rfl, e.mp h76, h91⟩
                | exact kt _ ⟨decide_eq_true (by omega), e.mp h76, h91⟩
      · obtain ⟨n0, f, hM, hf, _⟩ := j_obj hR hK ok (hc j rfl)
        have hsp := spanJ_b ok (hc j rfl)
        refine Wp.n (pc' := 31) 1 rfl ?_
        refine Wp.s (pc' := 34) rfl ?_
        refine Wp.n (pc' := 35) 1 rfl ?_
        refine Wp.get (len := 3) rfl (ra_obj hR) rfl ?_
        refine Wp.n (pc' := 40) 1 rfl ?_
        refine Wp.aaldN (j := i) (len := 1) rfl (ra_lanes hR) rfl (by omega) (by decide) (if_pos (by omega)) ?_
        refine Wp.get (len := 3) rfl (ra_lane hR (by omega)) rfl ?_
        refine Wp.top q.2.2.1 ?_
        refine Wp.n (pc' := 46) 1 rfl ?_
        refine Wp.get (len := 3) rfl (hM) rfl ?_
        refine Wp.top hf ?_
        refine Wp.nc3 (x := kl K (lgl K i) 2) (y := spanJ K j) (tgt := 56) (len := 3) rfl (by omega) (by omega) (fun h49 => ?_) (fun h49 => ?_)
        · skip
          refine Wp.n (pc' := 61) 3 rfl ?_
          refine Wp.nz0 (x := 0) (tgt := 103) (len := 3) rfl (by omega) (fun h61 => ?_) (fun h61 => ?_)
          · skip
            refine Wp.incN (x := i) (len := 3) rfl rfl ?_
            refine Wp.n (pc' := 20) 1 rfl ?_
            first
              | exact kf _ (fun c => h76 (e.mpr c.2.1))
              | exact kf _ (fun c => by have := of_decide_eq_true c.1; omega)
              | exact kf _ (fun c => absurd (c.2.2.symm.trans h91) (by decide))
              | exact kt _ ⟨rfl, e.mp h76, h91⟩
              | exact kt _ ⟨decide_eq_true (by omega), e.mp h76, h91⟩
          · omega
        · skip
          refine Wp.n (pc' := 61) 4 rfl ?_
          refine Wp.nz0 (x := 1) (tgt := 103) (len := 3) rfl (by omega) (fun h61 => ?_) (fun h61 => ?_)
          · omega
          · skip
            refine Wp.n (pc' := 65) 1 rfl ?_
            refine Wp.get (len := 3) rfl (ra_obj hR) rfl ?_
            refine Wp.n (pc' := 70) 1 rfl ?_
            refine Wp.aaldN (j := i) (len := 1) rfl (ra_lanes hR) rfl (by omega) (by decide) (if_pos (by omega)) ?_
            refine Wp.get (len := 3) rfl (ra_lane hR (by omega)) rfl ?_
            refine Wp.top q.2.1 ?_
            refine Wp.n (pc' := 76) 1 rfl ?_
            refine Wp.ic1 (tgt := 103) (len := 3) rfl (fun h76 => ?_) (fun h76 => ?_)
            · skip
              refine Wp.incN (x := i) (len := 3) rfl rfl ?_
              refine Wp.n (pc' := 20) 1 rfl ?_
              first
                | exact kf _ (fun c => h76 (e.mpr c.2.1))
                | exact kf _ (fun c => by have := of_decide_eq_true c.1; omega)
                | exact kf _ (fun c => absurd (c.2.2.symm.trans h91) (by decide))
                | exact kt _ ⟨rfl, e.mp h76, h91⟩
                | exact kt _ ⟨decide_eq_true (by omega), e.mp h76, h91⟩
            · skip
              refine Wp.n (pc' := 81) 2 rfl ?_
              refine Wp.get (len := 3) rfl (ra_obj hR) rfl ?_
              refine Wp.n (pc' := 86) 1 rfl ?_
              refine Wp.aaldN (j := i) (len := 1) rfl (ra_lanes hR) rfl (by omega) (by decide) (if_pos (by omega)) ?_
              refine Wp.n (pc' := 88) 1 rfl ?_
              refine Wp.ecallV (len := 3) rfl rfl rfl (ra_obj hR) rfl h32 rfl ((hph ▸ k_isOpen hR hK ok hl (by omega))) ?_
              refine Wp.ifb0 (tgt := 103) (len := 3) rfl (fun h91 => ?_) (fun h91 => ?_)
              · skip
                refine Wp.incN (x := i) (len := 3) rfl rfl ?_
                refine Wp.n (pc' := 20) 1 rfl ?_
                first
                  | exact kf _ (fun c => h76 (e.mpr c.2.1))
                  | exact kf _ (fun c => by have := of_decide_eq_true c.1; omega)
                  | exact kf _ (fun c => absurd (c.2.2.symm.trans h91) (by decide))
                  | exact kt _ ⟨rfl, e.mp h76, h91⟩
                  | exact kt _ ⟨decide_eq_true (by omega), e.mp h76, h91⟩
              · skip
                refine Wp.n (pc' := 95) 1 rfl ?_
                refine Wp.get (len := 3) rfl (ra_obj hR) rfl ?_
                refine Wp.n (pc' := 100) 1 rfl ?_
                refine Wp.aaldN (j := i) (len := 1) rfl (ra_lanes hR) rfl (by omega) (by decide) (if_pos (by omega)) ?_
                refine Wp.n (pc' := 103) 1 rfl ?_
                refine Wp.incN (x := i) (len := 3) rfl rfl ?_
                refine Wp.n (pc' := 20) 1 rfl ?_
                first
                  | exact kf _ (fun c => h76 (e.mpr c.2.1))
                  | exact kf _ (fun c => by have := of_decide_eq_true c.1; omega)
                  | exact kf _ (fun c => absurd (c.2.2.symm.trans h91) (by decide))
                  | exact kt _ ⟨rfl, e.mp h76, h91⟩
                  | exact kt _ ⟨decide_eq_true (by omega), e.mp h76, h91⟩

theorem roadK_v {a b j : Nat} (h : roadK K a b = some j) : j < kh K 2 ∧ btw (kr K j 0) (kr K j 1) a b = true := by
  obtain ⟨_, h2, h3⟩ := fnd_lt h
  exact ⟨by omega, h3⟩
theorem k_linkOf (hR : RA M r ρ) (hK : RepC ρ K) (ok : KOK K) (h32 : 32 ≤ r) {a b y : Nat} (ha : a < 7) (hb : b < 7) (hy : y < 31) : Ev (d + 1) md_40 0 [some (.ref r), some (.int (nI a)), some (.int (nI b)), some (.int (nI y)), none, none, none, none] [] M (some (va_rf ((joinK K a b y).map (jad K r))), M) := by
  refine Wp.toEv ?_
  obtain ⟨b0, b1, b2, b3, b4, b5, b6, b7, b8, b9, b10, b11, b12⟩ := ok_h ok
  refine Wp.n (pc' := 3) 3 rfl ?_
  refine Wp.ecallV (len := 3) rfl rfl rfl (ra_obj hR) rfl h32 rfl (k_roadOf hR hK ok ha hb) ?_
  rw [← joinK_c ok]
  have w := k_linkOf_l (d := d) hR hK ok h32 ha hb hy (kh K 3 + kh K 11) 0 (roadK K a b) none (by omega) (fun j hj => Or.inl (roadK_v hj).1)
  have e : (roadK K a b).map (fun i => r + 3 + i) = (roadK K a b).map (jad K r) := by
    cases h : roadK K a b with
    | none => rfl
    | some j =>
      have := (roadK_v h).1
      show some (r + 3 + j) = some (jad K r j)
      unfold jad
      rw [if_pos (by omega)]
  rw [e]
  refine Wp.n (pc' := 20) 11 ?_ w
  cases roadK K a b <;> rfl
end LINK
end
section
/-! WHAT JOINS, in the reference. -/
def oI : Option Nat → Int32
  | none => -1
  | some n => nI n
theorem oI_ne {n : Nat} (h : n < 2 ^ 31) : ¬ nI n = -1 := by
  intro q
  have := nI_pos h
  rw [q] at this
  exact this (by decide)
section BTW
variable {d : Nat} {M : AM} {σ : MS} {K : KD}

theorem m_between9 {q x y a b : Nat} (hq : q + 1 < 180) (h0 : σ.2.2.1 9 q = nI x) (h1 : σ.2.2.1 9 (q + 1) = nI y) (hx : x < 2 ^ 31) (hy : y < 2 ^ 31) (ha : a < 2 ^ 31) (hb : b < 2 ^ 31) : Ev d md_177 0 [some (.ref 297), some (.int (nI q)), some (.int (nI a)), some (.int (nI b))] [] (mset M σ) (some (.int (bI (btw x y a b))), mset M σ) := by
  refine Wp.toEv ?_
  refine Wp.n (pc' := 2) 2 rfl ?_
  refine Wp.mialdN (j := q) (len := 1) rfl rfl rfl (by omega) ?_
  refine Wp.top h0 ?_
  refine Wp.n (pc' := 4) 1 rfl ?_
  refine Wp.nc1 (x := x) (y := a) (tgt := 16) (len := 3) rfl (by assumption) (by assumption) (fun h4 => ?_) (fun h4 => ?_)
  · skip
    refine Wp.n (pc' := 18) 2 rfl ?_
    refine Wp.mialdN (j := q) (len := 1) rfl rfl rfl (by omega) ?_
    refine Wp.top h0 ?_
    refine Wp.n (pc' := 20) 1 rfl ?_
    refine Wp.nc1 (x := x) (y := b) (tgt := 36) (len := 3) rfl (by assumption) (by assumption) (fun h20 => ?_) (fun h20 => ?_)
    · skip
      refine Wp.n (pc' := 37) 1 rfl ?_
      refine Wp.retZ (len := 1) (c := false) rfl rfl rfl ?_
      refine ⟨?_, rfl⟩
      unfold btw
      simp_all [bI]
    · skip
      refine Wp.n (pc' := 26) 3 rfl ?_
      refine Wp.iaddN (x := q) (y := 1) (len := 1) rfl ?_
      refine Wp.mialdN (j := q + 1) (len := 1) rfl rfl rfl (by omega) ?_
      refine Wp.top h1 ?_
      refine Wp.n (pc' := 29) 1 rfl ?_
      refine Wp.nc1 (x := y) (y := a) (tgt := 36) (len := 3) rfl (by assumption) (by assumption) (fun h29 => ?_) (fun h29 => ?_)
      · skip
        refine Wp.n (pc' := 37) 1 rfl ?_
        refine Wp.retZ (len := 1) (c := false) rfl rfl rfl ?_
        refine ⟨?_, rfl⟩
        unfold btw
        simp_all [bI]
      · skip
        refine Wp.n (pc' := 37) 2 rfl ?_
        refine Wp.retZ (len := 1) (c := true) rfl rfl rfl ?_
        refine ⟨?_, rfl⟩
        unfold btw
        simp_all [bI]
  · skip
    refine Wp.n (pc' := 10) 3 rfl ?_
    refine Wp.iaddN (x := q) (y := 1) (len := 1) rfl ?_
    refine Wp.mialdN (j := q + 1) (len := 1) rfl rfl rfl (by omega) ?_
    refine Wp.top h1 ?_
    refine Wp.n (pc' := 13) 1 rfl ?_
    refine Wp.nc0 (x := y) (y := b) (tgt := 32) (len := 3) rfl (by assumption) (by assumption) (fun h13 => ?_) (fun h13 => ?_)
    · skip
      refine Wp.n (pc' := 37) 2 rfl ?_
      refine Wp.retZ (len := 1) (c := true) rfl rfl rfl ?_
      refine ⟨?_, rfl⟩
      unfold btw
      simp_all [bI]
    · skip
      refine Wp.n (pc' := 18) 2 rfl ?_
      refine Wp.mialdN (j := q) (len := 1) rfl rfl rfl (by omega) ?_
      refine Wp.top h0 ?_
      refine Wp.n (pc' := 20) 1 rfl ?_
      refine Wp.nc1 (x := x) (y := b) (tgt := 36) (len := 3) rfl (by assumption) (by assumption) (fun h20 => ?_) (fun h20 => ?_)
      · skip
        refine Wp.n (pc' := 37) 1 rfl ?_
        refine Wp.retZ (len := 1) (c := false) rfl rfl rfl ?_
        refine ⟨?_, rfl⟩
        unfold btw
        simp_all [bI]
      · skip
        refine Wp.n (pc' := 26) 3 rfl ?_
        refine Wp.iaddN (x := q) (y := 1) (len := 1) rfl ?_
        refine Wp.mialdN (j := q + 1) (len := 1) rfl rfl rfl (by omega) ?_
        refine Wp.top h1 ?_
        refine Wp.n (pc' := 29) 1 rfl ?_
        refine Wp.nc1 (x := y) (y := a) (tgt := 36) (len := 3) rfl (by assumption) (by assumption) (fun h29 => ?_) (fun h29 => ?_)
        · skip
          refine Wp.n (pc' := 37) 1 rfl ?_
          refine Wp.retZ (len := 1) (c := false) rfl rfl rfl ?_
          refine ⟨?_, rfl⟩
          unfold btw
          simp_all [bI]
        · skip
          refine Wp.n (pc' := 37) 2 rfl ?_
          refine Wp.retZ (len := 1) (c := true) rfl rfl rfl ?_
          refine ⟨?_, rfl⟩
          unfold btw
          simp_all [bI]


theorem m_between10 {q x y a b : Nat} (hq : q + 1 < 315) (h0 : σ.2.2.1 10 q = nI x) (h1 : σ.2.2.1 10 (q + 1) = nI y) (hx : x < 2 ^ 31) (hy : y < 2 ^ 31) (ha : a < 2 ^ 31) (hb : b < 2 ^ 31) : Ev d md_177 0 [some (.ref 298), some (.int (nI q)), some (.int (nI a)), some (.int (nI b))] [] (mset M σ) (some (.int (bI (btw x y a b))), mset M σ) := by
  refine Wp.toEv ?_
  refine Wp.n (pc' := 2) 2 rfl ?_
  refine Wp.mialdN (j := q) (len := 1) rfl rfl rfl (by omega) ?_
  refine Wp.top h0 ?_
  refine Wp.n (pc' := 4) 1 rfl ?_
  refine Wp.nc1 (x := x) (y := a) (tgt := 16) (len := 3) rfl (by assumption) (by assumption) (fun h4 => ?_) (fun h4 => ?_)
  · skip
    refine Wp.n (pc' := 18) 2 rfl ?_
    refine Wp.mialdN (j := q) (len := 1) rfl rfl rfl (by omega) ?_
    refine Wp.top h0 ?_
    refine Wp.n (pc' := 20) 1 rfl ?_
    refine Wp.nc1 (x := x) (y := b) (tgt := 36) (len := 3) rfl (by assumption) (by assumption) (fun h20 => ?_) (fun h20 => ?_)
    · skip
      refine Wp.n (pc' := 37) 1 rfl ?_
      refine Wp.retZ (len := 1) (c := false) rfl rfl rfl ?_
      refine ⟨?_, rfl⟩
      unfold btw
      simp_all [bI]
    · skip
      refine Wp.n (pc' := 26) 3 rfl ?_
      refine Wp.iaddN (x := q) (y := 1) (len := 1) rfl ?_
      refine Wp.mialdN (j := q + 1) (len := 1) rfl rfl rfl (by omega) ?_
      refine Wp.top h1 ?_
      refine Wp.n (pc' := 29) 1 rfl ?_
      refine Wp.nc1 (x := y) (y := a) (tgt := 36) (len := 3) rfl (by assumption) (by assumption) (fun h29 => ?_) (fun h29 => ?_)
      · skip
        refine Wp.n (pc' := 37) 1 rfl ?_
        refine Wp.retZ (len := 1) (c := false) rfl rfl rfl ?_
        refine ⟨?_, rfl⟩
        unfold btw
        simp_all [bI]
      · skip
        refine Wp.n (pc' := 37) 2 rfl ?_
        refine Wp.retZ (len := 1) (c := true) rfl rfl rfl ?_
        refine ⟨?_, rfl⟩
        unfold btw
        simp_all [bI]
  · skip
    refine Wp.n (pc' := 10) 3 rfl ?_
    refine Wp.iaddN (x := q) (y := 1) (len := 1) rfl ?_
    refine Wp.mialdN (j := q + 1) (len := 1) rfl rfl rfl (by omega) ?_
    refine Wp.top h1 ?_
    refine Wp.n (pc' := 13) 1 rfl ?_
    refine Wp.nc0 (x := y) (y := b) (tgt := 32) (len := 3) rfl (by assumption) (by assumption) (fun h13 => ?_) (fun h13 => ?_)
    · skip
      refine Wp.n (pc' := 37) 2 rfl ?_
      refine Wp.retZ (len := 1) (c := true) rfl rfl rfl ?_
      refine ⟨?_, rfl⟩
      unfold btw
      simp_all [bI]
    · skip
      refine Wp.n (pc' := 18) 2 rfl ?_
      refine Wp.mialdN (j := q) (len := 1) rfl rfl rfl (by omega) ?_
      refine Wp.top h0 ?_
      refine Wp.n (pc' := 20) 1 rfl ?_
      refine Wp.nc1 (x := x) (y := b) (tgt := 36) (len := 3) rfl (by assumption) (by assumption) (fun h20 => ?_) (fun h20 => ?_)
      · skip
        refine Wp.n (pc' := 37) 1 rfl ?_
        refine Wp.retZ (len := 1) (c := false) rfl rfl rfl ?_
        refine ⟨?_, rfl⟩
        unfold btw
        simp_all [bI]
      · skip
        refine Wp.n (pc' := 26) 3 rfl ?_
        refine Wp.iaddN (x := q) (y := 1) (len := 1) rfl ?_
        refine Wp.mialdN (j := q + 1) (len := 1) rfl rfl rfl (by omega) ?_
        refine Wp.top h1 ?_
        refine Wp.n (pc' := 29) 1 rfl ?_
        refine Wp.nc1 (x := y) (y := a) (tgt := 36) (len := 3) rfl (by assumption) (by assumption) (fun h29 => ?_) (fun h29 => ?_)
        · skip
          refine Wp.n (pc' := 37) 1 rfl ?_
          refine Wp.retZ (len := 1) (c := false) rfl rfl rfl ?_
          refine ⟨?_, rfl⟩
          unfold btw
          simp_all [bI]
        · skip
          refine Wp.n (pc' := 37) 2 rfl ?_
          refine Wp.retZ (len := 1) (c := true) rfl rfl rfl ?_
          refine ⟨?_, rfl⟩
          unfold btw
          simp_all [bI]


/-- the reference, with what is thought of -/
def RM (σ : MS) (K : KD) : Prop := RepM σ 0 K ∧ σ.1 25 = nI (kh K 11)
theorem m_roadOf_l (hM : RepM σ 0 K) (ok : KOK K) {a b : Nat} (ha : a < 7) (hb : b < 7) : ∀ (n i : Nat), i + n = kh K 2 → Wp (d + 1) md_191 2 [some (.ref 287), some (.int (nI a)), some (.int (nI b)), some (.int (nI i))] [] (mset M σ) (IsR (some (.int (oI (fnd (fun i => btw (kr K i 0) (kr K i 1) a b) n i)))) (mset M σ)) := by
  intro n
  obtain ⟨b0, b1, b2, b3, b4, b5, b6, b7, b8, b9, b10, b11, b12⟩ := ok_h ok
  induction n with
  | zero =>
    intro i hi
    refine Wp.n (pc' := 8) 4 rfl ?_
    refine Wp.mialdN (j := 2) (len := 1) rfl rfl rfl (by omega) ?_
    refine Wp.top (r0_has hM (by decide)) ?_
    refine Wp.nc3 (x := i) (y := kh K 2) (tgt := 35) (len := 3) rfl (by omega) (by omega) (fun h9 => ?_) (fun h9 => ?_)
    · skip
      refine Wp.n (pc' := 36) 1 rfl ?_
      refine Wp.retI (len := 1) rfl rfl ?_
      exact ⟨rfl, rfl⟩
    · omega
  | succ n ih =>
    intro i hi
    have hk := ok_road ok (i := i) (by omega)
    have hw := ih (i + 1) (by omega)
    unfold fnd
    refine Wp.n (pc' := 8) 4 rfl ?_
    refine Wp.mialdN (j := 2) (len := 1) rfl rfl rfl (by omega) ?_
    refine Wp.top (r0_has hM (by decide)) ?_
    refine Wp.nc3 (x := i) (y := kh K 2) (tgt := 35) (len := 3) rfl (by omega) (by omega) (fun h9 => ?_) (fun h9 => ?_)
    · omega
    · skip
      refine Wp.n (pc' := 18) 4 rfl ?_
      refine Wp.imulN (x := 3) (y := i) (len := 1) rfl ?_
      refine Wp.n (pc' := 21) 2 rfl ?_
      refine Wp.ecallS (len := 3) rfl rfl rfl rfl (m_between9 (by omega) (r0_road hM (j := 0) (i := i) (by omega) (by decide) (by omega)) (r0_road hM (j := 1) (i := i) (by omega) (by decide) (by omega)) (by omega) (by omega) (by omega) (by omega)) ?_
      refine Wp.ifb0 (tgt := 29) (len := 3) rfl (fun h24 => ?_) (fun h24 => ?_)
      · skip
        refine Wp.incN (x := i) (len := 3) rfl rfl ?_
        refine Wp.n (pc' := 2) 1 rfl ?_
        rw [if_neg (by rw [h24]; decide)]
        exact hw
      · skip
        refine Wp.n (pc' := 28) 1 rfl ?_
        refine Wp.retI (len := 1) rfl rfl ?_
        rw [if_pos h24]
        exact ⟨rfl, rfl⟩

theorem m_roadOf (hM : RepM σ 0 K) (ok : KOK K) {a b : Nat} (ha : a < 7) (hb : b < 7) : Ev (d + 1) md_191 0 [some (.ref 287), some (.int (nI a)), some (.int (nI b)), none] [] (mset M σ) (some (.int (oI (roadK K a b))), mset M σ) := by
  refine Wp.toEv ?_
  refine Wp.n (pc' := 2) 2 rfl ?_
  exact m_roadOf_l hM ok ha hb (kh K 2) 0 (by omega)
theorem m_isOpen (hM : RepM σ 0 K) (ok : KOK K) {l y : Nat} (hl : LV K l) (hy : y < 31) : Ev (d + 1) md_194 0 [some (.ref 287), some (.int (nI l)), some (.int (nI y)), none] [] (mset M σ) (some (.int (bI (openK K l y))), mset M σ) := by
  refine Wp.toEv ?_
  obtain ⟨b0, b1, b2, b3, b4, b5, b6, b7, b8, b9, b10, b11, b12⟩ := ok_h ok
  have t := ok_lane ok hl
  have hl8 : l ≤ 8 := by unfold LV at hl; omega
  refine Wp.n (pc' := 7) 4 rfl ?_
  refine Wp.imulN (x := 7) (y := l) (len := 1) rfl ?_
  refine Wp.n (pc' := 9) 1 rfl ?_
  refine Wp.iaddN (x := 7 * l) (y := 5) (len := 1) rfl ?_
  refine Wp.mialdN (j := (7 * l) + 5) (len := 1) rfl rfl rfl (by omega) ?_
  refine Wp.top (r0_lane hM hl (j := 5) (by decide) (by omega)) ?_
  refine Wp.n (pc' := 14) 3 rfl ?_
  refine Wp.nc0 (x := kl K l 5) (y := 2) (tgt := 73) (len := 3) rfl (by omega) (by omega) (fun h14 => ?_) (fun h14 => ?_)
  · skip
    refine Wp.n (pc' := 78) 2 rfl ?_
    refine Wp.retZ (len := 1) (c := true) rfl rfl rfl ?_
    refine ⟨?_, rfl⟩
    unfold openK
    first
      | (exfalso; omega)
      | (rw [if_pos (by omega)]; done)
      | (rw [if_neg (by omega), if_pos (by omega)]; cases hb : Nat.testBit (kh K 12) y <;> rw [hb] at h34 <;> first | rfl | exact absurd h34 (by decide) | exact absurd rfl h34)
      | (rw [if_neg (by omega), if_neg (by omega)]; first | (rw [decide_eq_true (by have := of_decide_eq_true h70; omega)]; done) | (rw [decide_eq_false (by have := of_decide_eq_false h70; omega)]; done))
      | omega
  · skip
    refine Wp.n (pc' := 19) 2 rfl ?_
    refine Wp.nc1 (x := kl K l 5) (y := 1) (tgt := 37) (len := 3) rfl (by omega) (by omega) (fun h19 => ?_) (fun h19 => ?_)
    · skip
      refine Wp.n (pc' := 38) 1 rfl ?_
      refine Wp.nz1 (x := kl K l 5) (tgt := 77) (len := 3) rfl (by omega) (fun h38 => ?_) (fun h38 => ?_)
      · skip
        refine Wp.n (pc' := 78) 1 rfl ?_
        refine Wp.retZ (len := 1) (c := false) rfl rfl rfl ?_
        refine ⟨?_, rfl⟩
        unfold openK
        first
          | (exfalso; omega)
          | (rw [if_pos (by omega)]; done)
          | (rw [if_neg (by omega), if_pos (by omega)]; cases hb : Nat.testBit (kh K 12) y <;> rw [hb] at h34 <;> first | rfl | exact absurd h34 (by decide) | exact absurd rfl h34)
          | (rw [if_neg (by omega), if_neg (by omega)]; first | (rw [decide_eq_true (by have := of_decide_eq_true h70; omega)]; done) | (rw [decide_eq_false (by have := of_decide_eq_false h70; omega)]; done))
          | omega
      · skip
        refine Wp.n (pc' := 50) 6 rfl ?_
        refine Wp.imulN (x := 7) (y := l) (len := 1) rfl ?_
        refine Wp.n (pc' := 52) 1 rfl ?_
        refine Wp.iaddN (x := 7 * l) (y := 3) (len := 1) rfl ?_
        refine Wp.mialdN (j := (7 * l) + 3) (len := 1) rfl rfl rfl (by omega) ?_
        refine Wp.top (r0_lane hM hl (j := 3) (by decide) (by omega)) ?_
        refine Wp.n (pc' := 62) 5 rfl ?_
        refine Wp.imulN (x := 7) (y := l) (len := 1) rfl ?_
        refine Wp.n (pc' := 64) 1 rfl ?_
        refine Wp.iaddN (x := 7 * l) (y := 4) (len := 1) rfl ?_
        refine Wp.mialdN (j := (7 * l) + 4) (len := 1) rfl rfl rfl (by omega) ?_
        refine Wp.top (r0_lane hM hl (j := 4) (by decide) (by omega)) ?_
        refine Wp.n (pc' := 67) 1 rfl ?_
        refine Wp.ecallS (len := 3) rfl rfl rfl rfl (m_in _ _ _) ?_
        refine Wp.ifb0 (tgt := 77) (len := 3) rfl (fun h70 => ?_) (fun h70 => ?_)
        · rw [il_toInt, il_toInt, il_toInt, nI_toInt (by omega), nI_toInt (by omega), nI_toInt (by omega)] at h70
          refine Wp.n (pc' := 78) 1 rfl ?_
          refine Wp.retZ (len := 1) (c := false) rfl rfl rfl ?_
          refine ⟨?_, rfl⟩
          unfold openK
          first
            | (exfalso; omega)
            | (rw [if_pos (by omega)]; done)
            | (rw [if_neg (by omega), if_pos (by omega)]; cases hb : Nat.testBit (kh K 12) y <;> rw [hb] at h34 <;> first | rfl | exact absurd h34 (by decide) | exact absurd rfl h34)
            | (rw [if_neg (by omega), if_neg (by omega)]; first | (rw [decide_eq_true (by have := of_decide_eq_true h70; omega)]; done) | (rw [decide_eq_false (by have := of_decide_eq_false h70; omega)]; done))
            | omega
        · rw [il_toInt, il_toInt, il_toInt, nI_toInt (by omega), nI_toInt (by omega), nI_toInt (by omega)] at h70
          refine Wp.n (pc' := 78) 2 rfl ?_
          refine Wp.retZ (len := 1) (c := true) rfl rfl rfl ?_
          refine ⟨?_, rfl⟩
          unfold openK
          first
            | (exfalso; omega)
            | (rw [if_pos (by omega)]; done)
            | (rw [if_neg (by omega), if_pos (by omega)]; cases hb : Nat.testBit (kh K 12) y <;> rw [hb] at h34 <;> first | rfl | exact absurd h34 (by decide) | exact absurd rfl h34)
            | (rw [if_neg (by omega), if_neg (by omega)]; first | (rw [decide_eq_true (by have := of_decide_eq_true h70; omega)]; done) | (rw [decide_eq_false (by have := of_decide_eq_false h70; omega)]; done))
            | omega
    · skip
      refine Wp.n (pc' := 27) 3 rfl ?_
      refine Wp.mlaldN (j := 0) (len := 1) rfl rfl rfl (by omega) ?_
      refine Wp.topL (rm_fl hM) ?_
      refine Wp.n (pc' := 33) 5 rfl ?_
      rw [l_bit (by omega) hy]
      refine Wp.n (pc' := 34) 1 rfl ?_
      refine Wp.if0 (tgt := 73) (len := 3) rfl (fun h34 => ?_) (fun h34 => ?_)
      · rw [cmp_eq] at h34
        refine Wp.n (pc' := 78) 2 rfl ?_
        refine Wp.retZ (len := 1) (c := true) rfl rfl rfl ?_
        refine ⟨?_, rfl⟩
        unfold openK
        first
          | (exfalso; omega)
          | (rw [if_pos (by omega)]; done)
          | (rw [if_neg (by omega), if_pos (by omega)]; cases hb : Nat.testBit (kh K 12) y <;> rw [hb] at h34 <;> first | rfl | exact absurd h34 (by decide) | exact absurd rfl h34)
          | (rw [if_neg (by omega), if_neg (by omega)]; first | (rw [decide_eq_true (by have := of_decide_eq_true h70; omega)]; done) | (rw [decide_eq_false (by have := of_decide_eq_false h70; omega)]; done))
          | omega
      · rw [cmp_eq] at h34
        refine Wp.n (pc' := 38) 1 rfl ?_
        refine Wp.nz1 (x := kl K l 5) (tgt := 77) (len := 3) rfl (by omega) (fun h38 => ?_) (fun h38 => ?_)
        · skip
          refine Wp.n (pc' := 78) 1 rfl ?_
          refine Wp.retZ (len := 1) (c := false) rfl rfl rfl ?_
          refine ⟨?_, rfl⟩
          unfold openK
          first
            | (exfalso; omega)
            | (rw [if_pos (by omega)]; done)
            | (rw [if_neg (by omega), if_pos (by omega)]; cases hb : Nat.testBit (kh K 12) y <;> rw [hb] at h34 <;> first | rfl | exact absurd h34 (by decide) | exact absurd rfl h34)
            | (rw [if_neg (by omega), if_neg (by omega)]; first | (rw [decide_eq_true (by have := of_decide_eq_true h70; omega)]; done) | (rw [decide_eq_false (by have := of_decide_eq_false h70; omega)]; done))
            | omega
        · skip
          refine Wp.n (pc' := 50) 6 rfl ?_
          refine Wp.imulN (x := 7) (y := l) (len := 1) rfl ?_
          refine Wp.n (pc' := 52) 1 rfl ?_
          refine Wp.iaddN (x := 7 * l) (y := 3) (len := 1) rfl ?_
          refine Wp.mialdN (j := (7 * l) + 3) (len := 1) rfl rfl rfl (by omega) ?_
          refine Wp.top (r0_lane hM hl (j := 3) (by decide) (by omega)) ?_
          refine Wp.n (pc' := 62) 5 rfl ?_
          refine Wp.imulN (x := 7) (y := l) (len := 1) rfl ?_
          refine Wp.n (pc' := 64) 1 rfl ?_
          refine Wp.iaddN (x := 7 * l) (y := 4) (len := 1) rfl ?_
          refine Wp.mialdN (j := (7 * l) + 4) (len := 1) rfl rfl rfl (by omega) ?_
          refine Wp.top (r0_lane hM hl (j := 4) (by decide) (by omega)) ?_
          refine Wp.n (pc' := 67) 1 rfl ?_
          refine Wp.ecallS (len := 3) rfl rfl rfl rfl (m_in _ _ _) ?_
          refine Wp.ifb0 (tgt := 77) (len := 3) rfl (fun h70 => ?_) (fun h70 => ?_)
          · rw [il_toInt, il_toInt, il_toInt, nI_toInt (by omega), nI_toInt (by omega), nI_toInt (by omega)] at h70
            refine Wp.n (pc' := 78) 1 rfl ?_
            refine Wp.retZ (len := 1) (c := false) rfl rfl rfl ?_
            refine ⟨?_, rfl⟩
            unfold openK
            first
              | (exfalso; omega)
              | (rw [if_pos (by omega)]; done)
              | (rw [if_neg (by omega), if_pos (by omega)]; cases hb : Nat.testBit (kh K 12) y <;> rw [hb] at h34 <;> first | rfl | exact absurd h34 (by decide) | exact absurd rfl h34)
              | (rw [if_neg (by omega), if_neg (by omega)]; first | (rw [decide_eq_true (by have := of_decide_eq_true h70; omega)]; done) | (rw [decide_eq_false (by have := of_decide_eq_false h70; omega)]; done))
              | omega
          · rw [il_toInt, il_toInt, il_toInt, nI_toInt (by omega), nI_toInt (by omega), nI_toInt (by omega)] at h70
            refine Wp.n (pc' := 78) 2 rfl ?_
            refine Wp.retZ (len := 1) (c := true) rfl rfl rfl ?_
            refine ⟨?_, rfl⟩
            unfold openK
            first
              | (exfalso; omega)
              | (rw [if_pos (by omega)]; done)
              | (rw [if_neg (by omega), if_pos (by omega)]; cases hb : Nat.testBit (kh K 12) y <;> rw [hb] at h34 <;> first | rfl | exact absurd h34 (by decide) | exact absurd rfl h34)
              | (rw [if_neg (by omega), if_neg (by omega)]; first | (rw [decide_eq_true (by have := of_decide_eq_true h70; omega)]; done) | (rw [decide_eq_false (by have := of_decide_eq_false h70; omega)]; done))
              | omega

end BTW
end
section
/-! joined, longOf. -/
def lst (K : KD) : Option Nat → Nat
  | none => 1000000
  | some j => spanJ K j
def jstep (K : KD) (a b y : Nat) (c : Option Nat) (l : Nat) : Option Nat := if l < kh K 3 ∨ (l = 8 ∧ kh K 11 = 1) then joinStep K a b y c l else c
theorem fld_add {α : Type} {f : α → Nat → α} : ∀ (m n i : Nat) (x : α), fld f (m + n) i x = fld f n (i + m) (fld f m i x)
  | 0, n, i, x => by rw [Nat.zero_add, Nat.add_zero]; rfl
  | m + 1, n, i, x => by
    rw [show m + 1 + n = (m + n) + 1 by omega]
    show fld f (m + n) (i + 1) (f x i) = fld f n (i + (m + 1)) (fld f m (i + 1) (f x i))
    rw [fld_add m n (i + 1), show i + 1 + m = i + (m + 1) by omega]
theorem fld_id {α : Type} {f : α → Nat → α} : ∀ (n i : Nat) (x : α), (∀ j, i ≤ j → j < i + n → ∀ y, f y j = y) → fld f n i x = x
  | 0, _, _, _ => rfl
  | n + 1, i, x, h => by
    show fld f n (i + 1) (f x i) = x
    rw [h i (by omega) (by omega), fld_id n (i + 1) x (fun j h1 h2 => h j (by omega) (by omega))]
theorem joinK_m {K : KD} (ok : KOK K) (a b y : Nat) : fld (jstep K a b y) 9 0 (roadK K a b) = joinK K a b y := by
  obtain ⟨b0, b1, b2, b3, b4, b5, b6, b7, b8, b9, b10, b11, b12⟩ := ok_h ok
  have e1 : fld (jstep K a b y) 8 0 (roadK K a b) = fld (joinStep K a b y) (kh K 3) 0 (roadK K a b) := by
    rw [show 8 = kh K 3 + (8 - kh K 3) by omega, fld_add, fld_id (8 - kh K 3)]
    · exact fld_c _ _ _ (fun j _ h2 c => if_pos (Or.inl (by omega)))
    · intro j h1 h2 c
      exact if_neg (by omega)
  rw [show 9 = 8 + 1 by omega, fld_s, e1]
  unfold joinK jstep
  by_cases h : kh K 11 = 1
  · rw [h, if_pos (Or.inr ⟨by omega, rfl⟩)]
    rfl
  · rw [if_neg (by omega)]
    exact (if_neg h).symm
section JOINED
variable {d : Nat} {M : AM} {σ : MS} {K : KD}
theorem lst_b (ok : KOK K) {c : Option Nat} (h : ∀ j, c = some j → JV K j) : lst K c ≤ 1000000 := by
  cases c with
  | none => exact Nat.le_refl _
  | some j =>
    have := spanJ_b ok (h j rfl)
    show spanJ K j ≤ _
    omega
theorem lst_lt (ok : KOK K) {c : Option Nat} {l : Nat} (hl : LV K l) : kl K l 2 < lst K c ↔ shr K c l = true := by
  have t := ok_lane ok hl
  cases c with
  | none => exact ⟨fun _ => rfl, fun _ => by show _ < 1000000; omega⟩
  | some j => exact (decide_eq_true_iff (p := kl K l 2 < spanJ K j)).symm
theorem joinStep_v {a b y : Nat} {c : Option Nat} {l : Nat} (hl : LV K l) (h : ∀ j, c = some j → JV K j) : ∀ j, joinStep K a b y c l = some j → JV K j := by
  intro j hj
  unfold joinStep at hj
  split at hj
  · cases hj
    exact Or.inr ⟨by omega, by rw [show 20 + l - 20 = l by omega]; exact hl⟩
  · exact h j hj
theorem m_joined_l (hM : RepM σ 0 K) (hmr : σ.1 25 = nI (kh K 11)) (ok : KOK K) {a b y : Nat} (ha : a < 7) (hb : b < 7) (hy : y < 31) : ∀ (n l : Nat) (cur : Option Nat) (z : Option Value), l + n = 9 → (∀ j, cur = some j → JV K j) → Wp (d + 2) md_197 35 [some (.ref 287), some (.int (nI a)), some (.int (nI b)), some (.int (nI y)), some (.int (oI cur)), some (.int (nI (lst K cur))), some (.int (nI l)), z] [] (mset M σ) (IsR (some (.int (oI (fld (jstep K a b y) n l cur))) ) (mset M σ)) := by
  intro n
  obtain ⟨b0, b1, b2, b3, b4, b5, b6, b7, b8, b9, b10, b11, b12⟩ := ok_h ok
  induction n with
  | zero =>
    intro l cur z hi hc
    refine Wp.n (pc' := 39) 2 rfl ?_
    refine Wp.nc4 (x := l) (y := 8) (tgt := 153) (len := 3) rfl (by omega) (by omega) (fun h39 => ?_) (fun h39 => ?_)
    · skip
      refine Wp.n (pc' := 155) 1 rfl ?_
      refine Wp.retI (len := 1) rfl rfl ?_
      exact ⟨rfl, rfl⟩
    · omega
  | succ n ih =>
    intro l cur z hi hc
    have hls := lst_b ok hc
    have kn : ∀ z : Option Value, ¬ LV K l → Wp (d + 2) md_197 35 [some (.ref 287), some (.int (nI a)), some (.int (nI b)), some (.int (nI y)), some (.int (oI cur)), some (.int (nI (lst K cur))), some (.int (nI (l + 1))), z] [] (mset M σ) (IsR (some (.int (oI (fld (jstep K a b y) (n + 1) l cur))) ) (mset M σ)) := by
      intro z hC
      have e2 : jstep K a b y cur l = cur := if_neg hC
      show Wp _ _ _ _ _ _ (IsR (some (.int (oI (fld (jstep K a b y) n (l + 1) (jstep K a b y cur l)))) ) (mset M σ))
      rw [e2]
      exact ih (l + 1) cur z (by omega) hc
    have kf : ∀ z : Option Value, LV K l → ¬ (shr K cur l = true ∧ btw (kl K l 0) (kl K l 1) a b = true ∧ openK K l y = true) → Wp (d + 2) md_197 35 [some (.ref 287), some (.int (nI a)), some (.int (nI b)), some (.int (nI y)), some (.int (oI cur)), some (.int (nI (lst K cur))), some (.int (nI (l + 1))), z] [] (mset M σ) (IsR (some (.int (oI (fld (jstep K a b y) (n + 1) l cur))) ) (mset M σ)) := by
      intro z hl hC
      have e2 : jstep K a b y cur l = cur := (if_pos hl).trans (if_neg hC)
      show Wp _ _ _ _ _ _ (IsR (some (.int (oI (fld (jstep K a b y) n (l + 1) (jstep K a b y cur l)))) ) (mset M σ))
      rw [e2]
      exact ih (l + 1) cur z (by omega) hc
    have kt : ∀ z : Option Value, LV K l → (shr K cur l = true ∧ btw (kl K l 0) (kl K l 1) a b = true ∧ openK K l y = true) → Wp (d + 2) md_197 35 [some (.ref 287), some (.int (nI a)), some (.int (nI b)), some (.int (nI y)), some (.int (nI (20 + l))), some (.int (nI (kl K l 2))), some (.int (nI (l + 1))), z] [] (mset M σ) (IsR (some (.int (oI (fld (jstep K a b y) (n + 1) l cur))) ) (mset M σ)) := by
      intro z hl hC
      have e2 : jstep K a b y cur l = some (20 + l) := (if_pos hl).trans (if_pos hC)
      have w := ih (l + 1) (some (20 + l)) z (by omega) (fun j hj => by cases hj; exact Or.inr ⟨by omega, by rw [show 20 + l - 20 = l by omega]; exact hl⟩)
      have e3 : lst K (some (20 + l)) = kl K l 2 := by
        show spanJ K (20 + l) = _
        unfold spanJ
        rw [if_neg (by omega), show 20 + l - 20 = l by omega]
      rw [e3] at w
      show Wp _ _ _ _ _ _ (IsR (some (.int (oI (fld (jstep K a b y) n (l + 1) (jstep K a b y cur l)))) ) (mset M σ))
      rw [e2]
      exact w
    by_cases hl : LV K l
    · have t := ok_lane ok hl
      have hlt := lst_lt (c := cur) ok hl
      have hl' : l < kh K 3 ∨ (l = 8 ∧ kh K 11 = 1) := hl
      refine Wp.n (pc' := 39) 2 rfl ?_
      refine Wp.nc4 (x := l) (y := 8) (tgt := 153) (len := 3) rfl (by omega) (by omega) (fun h39 => ?_) (fun h39 => ?_)
      · omega
      · skip
        refine Wp.n (pc' := 49) 4 rfl ?_
        refine Wp.mialdN (j := 3) (len := 1) rfl rfl rfl (by omega) ?_
        refine Wp.top (r0_has hM (by decide)) ?_
        refine Wp.nc2 (x := l) (y := kh K 3) (tgt := 67) (len := 3) rfl (by omega) (by omega) (fun h50 => ?_) (fun h50 => ?_)
        · skip
          refine Wp.n (pc' := 76) 4 rfl ?_
          refine Wp.nz0 (x := 1) (tgt := 147) (len := 3) rfl (by omega) (fun h76 => ?_) (fun h76 => ?_)
          · omega
          · skip
            refine Wp.n (pc' := 87) 4 rfl ?_
            refine Wp.imulN (x := 7) (y := l) (len := 1) rfl ?_
            refine Wp.n (pc' := 90) 2 rfl ?_
            refine Wp.ecallS (len := 3) rfl rfl rfl rfl (m_between10 (by omega) (r0_lane hM hl (j := 0) (by decide) (by omega)) (r0_lane hM hl (j := 1) (by decide) (by omega)) (by omega) (by omega) (by omega) (by omega)) ?_
            refine Wp.ifb0 (tgt := 147) (len := 3) rfl (fun h93 => ?_) (fun h93 => ?_)
            · skip
              refine Wp.incN (x := l) (len := 3) rfl rfl ?_
              refine Wp.n (pc' := 35) 1 rfl ?_
              first
                | exact kt _ hl ⟨hlt.mp h120, h93, h103⟩
                | exact kf _ hl (fun c => absurd (c.2.1.symm.trans h93) (by decide))
                | exact kf _ hl (fun c => absurd (c.2.2.symm.trans h103) (by decide))
                | exact kf _ hl (fun c => absurd (hlt.mpr c.1) (by omega))
            · skip
              refine Wp.n (pc' := 100) 3 rfl ?_
              refine Wp.ecallV (len := 3) rfl rfl rfl (rfl) rfl (by decide) rfl (m_isOpen hM ok hl hy) ?_
              refine Wp.ifb0 (tgt := 147) (len := 3) rfl (fun h103 => ?_) (fun h103 => ?_)
              · skip
                refine Wp.incN (x := l) (len := 3) rfl rfl ?_
                refine Wp.n (pc' := 35) 1 rfl ?_
                first
                  | exact kt _ hl ⟨hlt.mp h120, h93, h103⟩
                  | exact kf _ hl (fun c => absurd (c.2.1.symm.trans h93) (by decide))
                  | exact kf _ hl (fun c => absurd (c.2.2.symm.trans h103) (by decide))
                  | exact kf _ hl (fun c => absurd (hlt.mpr c.1) (by omega))
              · skip
                refine Wp.n (pc' := 114) 4 rfl ?_
                refine Wp.imulN (x := 7) (y := l) (len := 1) rfl ?_
                refine Wp.n (pc' := 116) 1 rfl ?_
                refine Wp.iaddN (x := 7 * l) (y := 2) (len := 1) rfl ?_
                refine Wp.mialdN (j := (7 * l) + 2) (len := 1) rfl rfl rfl (by omega) ?_
                refine Wp.top (r0_lane hM hl (j := 2) (by decide) (by omega)) ?_
                refine Wp.n (pc' := 120) 1 rfl ?_
                refine Wp.nc2 (x := kl K l 2) (y := lst K cur) (tgt := 126) (len := 3) rfl (by omega) (by omega) (fun h120 => ?_) (fun h120 => ?_)
                · skip
                  refine Wp.n (pc' := 130) 2 rfl ?_
                  refine Wp.iaddN (x := 20) (y := l) (len := 1) rfl ?_
                  refine Wp.n (pc' := 141) 5 rfl ?_
                  refine Wp.imulN (x := 7) (y := l) (len := 1) rfl ?_
                  refine Wp.n (pc' := 143) 1 rfl ?_
                  refine Wp.iaddN (x := 7 * l) (y := 2) (len := 1) rfl ?_
                  refine Wp.mialdN (j := (7 * l) + 2) (len := 1) rfl rfl rfl (by omega) ?_
                  refine Wp.top (r0_lane hM hl (j := 2) (by decide) (by omega)) ?_
                  refine Wp.n (pc' := 147) 1 rfl ?_
                  refine Wp.incN (x := l) (len := 3) rfl rfl ?_
                  refine Wp.n (pc' := 35) 1 rfl ?_
                  first
                    | exact kt _ hl ⟨hlt.mp h120, h93, h103⟩
                    | exact kf _ hl (fun c => absurd (c.2.1.symm.trans h93) (by decide))
                    | exact kf _ hl (fun c => absurd (c.2.2.symm.trans h103) (by decide))
                    | exact kf _ hl (fun c => absurd (hlt.mpr c.1) (by omega))
                · skip
                  refine Wp.n (pc' := 147) 1 rfl ?_
                  refine Wp.incN (x := l) (len := 3) rfl rfl ?_
                  refine Wp.n (pc' := 35) 1 rfl ?_
                  first
                    | exact kt _ hl ⟨hlt.mp h120, h93, h103⟩
                    | exact kf _ hl (fun c => absurd (c.2.1.symm.trans h93) (by decide))
                    | exact kf _ hl (fun c => absurd (c.2.2.symm.trans h103) (by decide))
                    | exact kf _ hl (fun c => absurd (hlt.mpr c.1) (by omega))
        · skip
          refine Wp.n (pc' := 57) 2 rfl ?_
          refine Wp.nc1 (x := l) (y := 8) (tgt := 71) (len := 3) rfl (by omega) (by omega) (fun h57 => ?_) (fun h57 => ?_)
          · exact absurd hl' (by omega)
          · skip
            refine Wp.n (pc' := 64) 2 rfl ?_
            refine Wp.top hmr ?_
            refine Wp.nz0 (x := kh K 11) (tgt := 71) (len := 3) rfl (by omega) (fun h64 => ?_) (fun h64 => ?_)
            · exact absurd hl' (by omega)
            · skip
              refine Wp.n (pc' := 76) 4 rfl ?_
              refine Wp.nz0 (x := 1) (tgt := 147) (len := 3) rfl (by omega) (fun h76 => ?_) (fun h76 => ?_)
              · omega
              · skip
                refine Wp.n (pc' := 87) 4 rfl ?_
                refine Wp.imulN (x := 7) (y := l) (len := 1) rfl ?_
                refine Wp.n (pc' := 90) 2 rfl ?_
                refine Wp.ecallS (len := 3) rfl rfl rfl rfl (m_between10 (by omega) (r0_lane hM hl (j := 0) (by decide) (by omega)) (r0_lane hM hl (j := 1) (by decide) (by omega)) (by omega) (by omega) (by omega) (by omega)) ?_
                refine Wp.ifb0 (tgt := 147) (len := 3) rfl (fun h93 => ?_) (fun h93 => ?_)
                · skip
                  refine Wp.incN (x := l) (len := 3) rfl rfl ?_
                  refine Wp.n (pc' := 35) 1 rfl ?_
                  first
                    | exact kt _ hl ⟨hlt.mp h120, h93, h103⟩
                    | exact kf _ hl (fun c => absurd (c.2.1.symm.trans h93) (by decide))
                    | exact kf _ hl (fun c => absurd (c.2.2.symm.trans h103) (by decide))
                    | exact kf _ hl (fun c => absurd (hlt.mpr c.1) (by omega))
                · skip
                  refine Wp.n (pc' := 100) 3 rfl ?_
                  refine Wp.ecallV (len := 3) rfl rfl rfl (rfl) rfl (by decide) rfl (m_isOpen hM ok hl hy) ?_
                  refine Wp.ifb0 (tgt := 147) (len := 3) rfl (fun h103 => ?_) (fun h103 => ?_)
                  · skip
                    refine Wp.incN (x := l) (len := 3) rfl rfl ?_
                    refine Wp.n (pc' := 35) 1 rfl ?_
                    first
                      | exact kt _ hl ⟨hlt.mp h120, h93, h103⟩
                      | exact kf _ hl (fun c => absurd (c.2.1.symm.trans h93) (by decide))
                      | exact kf _ hl (fun c => absurd (c.2.2.symm.trans h103) (by decide))
                      | exact kf _ hl (fun c => absurd (hlt.mpr c.1) (by omega))
                  · skip
                    refine Wp.n (pc' := 114) 4 rfl ?_
                    refine Wp.imulN (x := 7) (y := l) (len := 1) rfl ?_
                    refine Wp.n (pc' := 116) 1 rfl ?_
                    refine Wp.iaddN (x := 7 * l) (y := 2) (len := 1) rfl ?_
                    refine Wp.mialdN (j := (7 * l) + 2) (len := 1) rfl rfl rfl (by omega) ?_
                    refine Wp.top (r0_lane hM hl (j := 2) (by decide) (by omega)) ?_
                    refine Wp.n (pc' := 120) 1 rfl ?_
                    refine Wp.nc2 (x := kl K l 2) (y := lst K cur) (tgt := 126) (len := 3) rfl (by omega) (by omega) (fun h120 => ?_) (fun h120 => ?_)
                    · skip
                      refine Wp.n (pc' := 130) 2 rfl ?_
                      refine Wp.iaddN (x := 20) (y := l) (len := 1) rfl ?_
                      refine Wp.n (pc' := 141) 5 rfl ?_
                      refine Wp.imulN (x := 7) (y := l) (len := 1) rfl ?_
                      refine Wp.n (pc' := 143) 1 rfl ?_
                      refine Wp.iaddN (x := 7 * l) (y := 2) (len := 1) rfl ?_
                      refine Wp.mialdN (j := (7 * l) + 2) (len := 1) rfl rfl rfl (by omega) ?_
                      refine Wp.top (r0_lane hM hl (j := 2) (by decide) (by omega)) ?_
                      refine Wp.n (pc' := 147) 1 rfl ?_
                      refine Wp.incN (x := l) (len := 3) rfl rfl ?_
                      refine Wp.n (pc' := 35) 1 rfl ?_
                      first
                        | exact kt _ hl ⟨hlt.mp h120, h93, h103⟩
                        | exact kf _ hl (fun c => absurd (c.2.1.symm.trans h93) (by decide))
                        | exact kf _ hl (fun c => absurd (c.2.2.symm.trans h103) (by decide))
                        | exact kf _ hl (fun c => absurd (hlt.mpr c.1) (by omega))
                    · skip
                      refine Wp.n (pc' := 147) 1 rfl ?_
                      refine Wp.incN (x := l) (len := 3) rfl rfl ?_
                      refine Wp.n (pc' := 35) 1 rfl ?_
                      first
                        | exact kt _ hl ⟨hlt.mp h120, h93, h103⟩
                        | exact kf _ hl (fun c => absurd (c.2.1.symm.trans h93) (by decide))
                        | exact kf _ hl (fun c => absurd (c.2.2.symm.trans h103) (by decide))
                        | exact kf _ hl (fun c => absurd (hlt.mpr c.1) (by omega))
    · have hl' : ¬ (l < kh K 3 ∨ (l = 8 ∧ kh K 11 = 1)) := hl
      refine Wp.n (pc' := 39) 2 rfl ?_
      refine Wp.nc4 (x := l) (y := 8) (tgt := 153) (len := 3) rfl (by omega) (by omega) (fun h39 => ?_) (fun h39 => ?_)
      · omega
      · skip
        refine Wp.n (pc' := 49) 4 rfl ?_
        refine Wp.mialdN (j := 3) (len := 1) rfl rfl rfl (by omega) ?_
        refine Wp.top (r0_has hM (by decide)) ?_
        refine Wp.nc2 (x := l) (y := kh K 3) (tgt := 67) (len := 3) rfl (by omega) (by omega) (fun h50 => ?_) (fun h50 => ?_)
        · omega
        · skip
          refine Wp.n (pc' := 57) 2 rfl ?_
          refine Wp.nc1 (x := l) (y := 8) (tgt := 71) (len := 3) rfl (by omega) (by omega) (fun h57 => ?_) (fun h57 => ?_)
          · skip
            refine Wp.n (pc' := 76) 3 rfl ?_
            refine Wp.nz0 (x := 0) (tgt := 147) (len := 3) rfl (by omega) (fun h76 => ?_) (fun h76 => ?_)
            · skip
              refine Wp.incN (x := l) (len := 3) rfl rfl ?_
              refine Wp.n (pc' := 35) 1 rfl ?_
              exact kn _ hl
            · omega
          · skip
            refine Wp.n (pc' := 64) 2 rfl ?_
            refine Wp.top hmr ?_
            refine Wp.nz0 (x := kh K 11) (tgt := 71) (len := 3) rfl (by omega) (fun h64 => ?_) (fun h64 => ?_)
            · skip
              refine Wp.n (pc' := 76) 3 rfl ?_
              refine Wp.nz0 (x := 0) (tgt := 147) (len := 3) rfl (by omega) (fun h76 => ?_) (fun h76 => ?_)
              · skip
                refine Wp.incN (x := l) (len := 3) rfl rfl ?_
                refine Wp.n (pc' := 35) 1 rfl ?_
                exact kn _ hl
              · omega
            · exact absurd (Or.inr ⟨h57, by omega⟩) hl'

theorem m_joined (hM : RepM σ 0 K) (hmr : σ.1 25 = nI (kh K 11)) (ok : KOK K) {a b y : Nat} (ha : a < 7) (hb : b < 7) (hy : y < 31) : Ev (d + 2) md_197 0 [some (.ref 287), some (.int (nI a)), some (.int (nI b)), some (.int (nI y)), none, none, none, none] [] (mset M σ) (some (.int (oI (joinK K a b y))), mset M σ) := by
  refine Wp.toEv ?_
  obtain ⟨b0, b1, b2, b3, b4, b5, b6, b7, b8, b9, b10, b11, b12⟩ := ok_h ok
  refine Wp.n (pc' := 3) 3 rfl ?_
  refine Wp.ecallV (len := 3) rfl rfl rfl rfl rfl (by decide) rfl (m_roadOf hM ok ha hb) ?_
  rw [← joinK_m ok]
  have w := m_joined_l (d := d) (M := M) hM hmr ok ha hb hy 9 0 (roadK K a b) none (by omega) (fun j hj => Or.inl (roadK_v hj).1)
  cases hrd : roadK K a b with
  | none =>
    rw [hrd] at w
    refine Wp.n (pc' := 11) 3 rfl ?_
    refine Wp.ic1 (tgt := 19) (len := 3) rfl (fun h11 => ?_) (fun h11 => ?_)
    · exact absurd rfl h11
    · skip
      refine Wp.n (pc' := 35) 5 rfl ?_
      exact w
  | some j =>
    rw [hrd] at w
    have hj := (roadK_v hrd).1
    have e3 : lst K (some j) = kr K j 2 := by
      show spanJ K j = _
      unfold spanJ
      rw [if_pos (by omega)]
    rw [e3] at w
    refine Wp.n (pc' := 11) 3 rfl ?_
    refine Wp.ic1 (tgt := 19) (len := 3) rfl (fun h11 => ?_) (fun h11 => ?_)
    · skip
      refine Wp.n (pc' := 26) 4 rfl ?_
      refine Wp.imulN (x := 3) (y := j) (len := 1) rfl ?_
      refine Wp.n (pc' := 28) 1 rfl ?_
      refine Wp.iaddN (x := 3 * j) (y := 2) (len := 1) rfl ?_
      refine Wp.mialdN (j := (3 * j) + 2) (len := 1) rfl rfl rfl (by omega) ?_
      refine Wp.top (r0_road hM hj (j := 2) (by decide) (by omega)) ?_
      refine Wp.n (pc' := 35) 3 rfl ?_
      exact w
    · exact absurd h11 (oI_ne (by omega))

theorem m_longOf (hM : RepM σ 0 K) (ok : KOK K) {j : Nat} (hj : JV K j) : Ev d md_208 0 [some (.ref 287), some (.int (nI j))] [] (mset M σ) (some (.int (nI (spanJ K j))), mset M σ) := by
  refine Wp.toEv ?_
  obtain ⟨b0, b1, b2, b3, b4, b5, b6, b7, b8, b9, b10, b11, b12⟩ := ok_h ok
  have hj8 : j < 12 ∨ (20 ≤ j ∧ j - 20 ≤ 8) := by unfold JV LV at hj; omega
  have hr : j < 20 → j < kh K 2 := by unfold JV at hj; omega
  have hl : 20 ≤ j → LV K (j - 20) := fun h => by
    rcases hj with q | q
    · omega
    · exact q.2
  unfold spanJ
  refine Wp.n (pc' := 3) 2 rfl ?_
  refine Wp.nc3 (x := j) (y := 20) (tgt := 19) (len := 3) rfl (by omega) (by omega) (fun h3 => ?_) (fun h3 => ?_)
  · skip
    refine Wp.n (pc' := 28) 5 rfl ?_
    refine Wp.isubN (x := j) (y := 20) (len := 1) rfl (by omega) ?_
    refine Wp.imulN (x := 7) (y := j - 20) (len := 1) rfl ?_
    refine Wp.n (pc' := 31) 1 rfl ?_
    refine Wp.iaddN (x := 7 * (j - 20)) (y := 2) (len := 1) rfl ?_
    refine Wp.mialdN (j := (7 * (j - 20)) + 2) (len := 1) rfl rfl rfl (by omega) ?_
    refine Wp.top (r0_lane hM (hl h3) (j := 2) (by decide) (by omega)) ?_
    refine Wp.retI (len := 1) rfl rfl ?_
    first | (rw [if_pos (by omega)]; exact ⟨rfl, rfl⟩) | (rw [if_neg (by omega)]; exact ⟨rfl, rfl⟩)
  · skip
    refine Wp.n (pc' := 12) 4 rfl ?_
    refine Wp.imulN (x := 3) (y := j) (len := 1) rfl ?_
    refine Wp.n (pc' := 14) 1 rfl ?_
    refine Wp.iaddN (x := 3 * j) (y := 2) (len := 1) rfl ?_
    refine Wp.mialdN (j := (3 * j) + 2) (len := 1) rfl rfl rfl (by omega) ?_
    refine Wp.top (r0_road hM (hr h3) (j := 2) (by decide) (by omega)) ?_
    refine Wp.n (pc' := 33) 1 rfl ?_
    refine Wp.retI (len := 1) rfl rfl ?_
    first | (rw [if_pos (by omega)]; exact ⟨rfl, rfl⟩) | (rw [if_neg (by omega)]; exact ⟨rfl, rfl⟩)

end JOINED
end
section
/-! LENGTHS BY ROAD: Floyd's rounds and Bellman's give the same. -/
def D0 (K : KD) (a b : Nat) : Nat := if a = b then 0 else match roadK K a b with
  | none => 1000000
  | some i => kr K i 2
def ph (k : Nat) (D : Nat → Nat → Nat) : Nat → Nat → Nat := fun a b => min (D a b) (D a k + D k b)
def distK (K : KD) : Nat → Nat → Nat := fld (fun D k => ph k D) (kh K 0) 0 (D0 K)
def Eg (K : KD) (a b w : Nat) : Prop := ∃ i, i < kh K 2 ∧ btw (kr K i 0) (kr K i 1) a b = true ∧ kr K i 2 = w
def Wlk (K : KD) : Nat → Nat → Nat → Nat → Prop
  | 0, a, b, l => a = b ∧ l = 0
  | n + 1, a, b, l => ∃ c w l', Eg K a c w ∧ Wlk K n c b l' ∧ l = w + l'
theorem btw_iff {x y a b : Nat} : btw x y a b = true ↔ (x = a ∧ y = b) ∨ (x = b ∧ y = a) := by
  unfold btw
  simp
theorem btw_sym {x y a b : Nat} (h : btw x y a b = true) : btw x y b a = true := by
  rw [btw_iff] at *
  omega
theorem fnd_none {p : Nat → Bool} : ∀ {n i : Nat}, fnd p n i = none → ∀ j, i ≤ j → j < i + n → p j = false
  | 0, i, _, j, h1, h2 => by omega
  | n + 1, i, h, j, h1, h2 => by
    unfold fnd at h
    by_cases hp : p i = true
    · rw [if_pos hp] at h; cases h
    · rw [if_neg hp] at h
      by_cases hj : j = i
      · subst hj; simpa using hp
      · exact fnd_none h j (by omega) (by omega)
section DST
variable {K : KD}
theorem Eg_sym {a b w : Nat} (h : Eg K a b w) : Eg K b a w := by
  obtain ⟨i, h1, h2, h3⟩ := h
  exact ⟨i, h1, btw_sym h2, h3⟩
theorem Eg_b (ok : KOK K) {a b w : Nat} (h : Eg K a b w) : a < kh K 0 ∧ b < kh K 0 ∧ a ≠ b ∧ 1 ≤ w ∧ w ≤ 129 := by
  obtain ⟨i, h1, h2, h3⟩ := h
  have := ok_road ok h1
  rw [btw_iff] at h2
  omega
theorem roadK_uni (ok : KOK K) {a b i : Nat} (hi : i < kh K 2) (hb : btw (kr K i 0) (kr K i 1) a b = true) : roadK K a b = some i := by
  cases h : roadK K a b with
  | none =>
    have := fnd_none h i (by omega) (by omega)
    rw [hb] at this
    cases this
  | some j =>
    obtain ⟨h1, h2⟩ := roadK_v h
    have : j = i := ok_uni ok h1 hi (by rw [btw_iff] at *; omega)
    rw [this]
theorem D0_edge (ok : KOK K) {a b w : Nat} (h : Eg K a b w) : D0 K a b ≤ w := by
  have hb := Eg_b ok h
  obtain ⟨i, h1, h2, h3⟩ := h
  unfold D0
  rw [if_neg (by omega), roadK_uni ok h1 h2]
  exact Nat.le_of_eq h3
theorem D0_walk {a b : Nat} (h : D0 K a b < 1000000) : ∃ n, Wlk K n a b (D0 K a b) := by
  unfold D0 at *
  by_cases e : a = b
  · rw [if_pos e]
    exact ⟨0, e, rfl⟩
  · rw [if_neg e] at h ⊢
    cases hr : roadK K a b with
    | none => rw [hr] at h; exact absurd (show (1000000 : Nat) < 1000000 from h) (by decide)
    | some i =>
      obtain ⟨h1, h2⟩ := roadK_v hr
      exact ⟨1, b, kr K i 2, 0, ⟨i, h1, h2, rfl⟩, ⟨rfl, rfl⟩, rfl⟩
theorem D0_le (ok : KOK K) (a b : Nat) : D0 K a b ≤ 1000000 := by
  unfold D0
  by_cases e : a = b
  · rw [if_pos e]; omega
  · rw [if_neg e]
    cases hr : roadK K a b with
    | none => exact Nat.le_refl _
    | some i =>
      have := ok_road ok (roadK_v hr).1
      show kr K i 2 ≤ _
      omega
theorem Wlk_app : ∀ {n m a b c l l' : Nat}, Wlk K n a b l → Wlk K m b c l' → Wlk K (n + m) a c (l + l')
  | 0, m, a, b, c, l, l', h, h' => by
    obtain ⟨rfl, rfl⟩ := h
    rw [Nat.zero_add, Nat.zero_add]
    exact h'
  | n + 1, m, a, b, c, l, l', h, h' => by
    obtain ⟨e, w, q, h1, h2, rfl⟩ := h
    rw [show n + 1 + m = (n + m) + 1 by omega]
    exact ⟨e, w, q + l', h1, Wlk_app h2 h', by omega⟩
def GD (K : KD) (D : Nat → Nat → Nat) (k : Nat) : Prop := (∀ a, D a a = 0) ∧ (∀ a b w, Eg K a b w → D a b ≤ w) ∧ (∀ a b, D a b < 1000000 → ∃ n, Wlk K n a b (D a b)) ∧ (∀ a b, D a b ≤ 1000000) ∧ (∀ c, c < k → ∀ a b, D a b ≤ D a c + D c b)
theorem GD_0 (ok : KOK K) : GD K (D0 K) 0 := ⟨fun a => if_pos rfl, fun a b w h => D0_edge ok h, fun a b h => D0_walk h, D0_le ok, fun c h => absurd h (Nat.not_lt_zero c)⟩
theorem GD_s {D : Nat → Nat → Nat} {k : Nat} (h : GD K D k) : GD K (ph k D) (k + 1) := by
  obtain ⟨h1, h2, h3, h4, h5⟩ := h
  refine ⟨fun a => ?_, fun a b w e => ?_, fun a b e => ?_, fun a b => ?_, fun c hc a b => ?_⟩
  · show min (D a a) _ = 0
    rw [h1]; omega
  · have := h2 a b w e
    show min (D a b) _ ≤ w
    omega
  · show ∃ n, Wlk K n a b (min (D a b) (D a k + D k b))
    have e' : min (D a b) (D a k + D k b) < 1000000 := e
    by_cases q : D a b ≤ D a k + D k b
    · rw [Nat.min_eq_left q] at e' ⊢
      exact h3 a b e'
    · rw [Nat.min_eq_right (by omega)] at e' ⊢
      obtain ⟨n, p1⟩ := h3 a k (by omega)
      obtain ⟨m, p2⟩ := h3 k b (by omega)
      exact ⟨n + m, Wlk_app p1 p2⟩
  · have := h4 a b
    show min (D a b) _ ≤ _
    omega
  · show min (D a b) (D a k + D k b) ≤ min (D a c) (D a k + D k c) + min (D c b) (D c k + D k b)
    have hk := h1 k
    by_cases e : c = k
    · subst e
      rw [hk]
      omega
    · have hc' : c < k := by omega
      have t1 := h5 c hc' a b
      have t2 := h5 c hc' k b
      have t3 := h5 c hc' a k
      omega
theorem GD_all (ok : KOK K) : ∀ n, GD K (fld (fun D k => ph k D) n 0 (D0 K)) n
  | 0 => GD_0 ok
  | n + 1 => by
    rw [fld_s, Nat.zero_add]
    exact GD_s (GD_all ok n)
theorem dist_g (ok : KOK K) : GD K (distK K) (kh K 0) := GD_all ok _
theorem dist_le (ok : KOK K) (a b : Nat) : distK K a b ≤ 1000000 := (dist_g ok).2.2.2.1 a b
theorem dist_tri (ok : KOK K) {a c w : Nat} (e : Eg K a c w) (b : Nat) : distK K a b ≤ w + distK K c b := by
  have g := dist_g ok
  have h1 := g.2.1 a c w e
  have h2 := g.2.2.2.2 c (Eg_b ok e).2.1 a b
  omega
theorem dist_wlk (ok : KOK K) : ∀ (n : Nat) {a b l : Nat}, Wlk K n a b l → distK K a b ≤ l
  | 0, a, b, l, h => by
    obtain ⟨rfl, rfl⟩ := h
    rw [(dist_g ok).1]; omega
  | n + 1, a, b, l, h => by
    obtain ⟨c, w, l', h1, h2, rfl⟩ := h
    have := dist_tri ok h1 b
    have := dist_wlk ok n h2
    omega
/-- a step of a least way -/
theorem dist_step (ok : KOK K) {a b : Nat} (h : distK K a b < 1000000) (hab : a ≠ b) : ∃ c w, Eg K a c w ∧ distK K a b = w + distK K c b := by
  obtain ⟨n, hn⟩ := (dist_g ok).2.2.1 a b h
  match n, hn with
  | 0, hn => exact absurd hn.1 hab
  | n + 1, hn =>
    obtain ⟨c, w, l', h1, h2, h3⟩ := hn
    have := dist_tri ok h1 b
    have := dist_wlk ok n h2
    exact ⟨c, w, h1, by omega⟩
-- Bellman
def rlx (K : KD) (g : Nat → Nat) (i : Nat) : Nat → Nat := va_up (va_up g (kr K i 0) (min (g (kr K i 0)) (g (kr K i 1) + kr K i 2))) (kr K i 1) (min (va_up g (kr K i 0) (min (g (kr K i 0)) (g (kr K i 1) + kr K i 2)) (kr K i 1)) (va_up g (kr K i 0) (min (g (kr K i 0)) (g (kr K i 1) + kr K i 2)) (kr K i 0) + kr K i 2))
def bfR (K : KD) (g : Nat → Nat) : Nat → Nat := fld (rlx K) (kh K 2) 0 g
def bfI (t : Nat) : Nat → Nat := fun p => if p = t then 0 else 1000000
def bf (K : KD) (t n : Nat) : Nat → Nat := fld (fun g _ => bfR K g) n 0 (bfI t)
theorem rlx_eq (ok : KOK K) {i : Nat} (hi : i < kh K 2) (g : Nat → Nat) (p : Nat) : rlx K g i p = if p = kr K i 1 then min (g (kr K i 1)) (min (g (kr K i 0)) (g (kr K i 1) + kr K i 2) + kr K i 2) else if p = kr K i 0 then min (g (kr K i 0)) (g (kr K i 1) + kr K i 2) else g p := by
  have hr := ok_road ok hi
  unfold rlx
  by_cases h1 : p = kr K i 1
  · rw [if_pos h1, h1, va_up_self, va_up_self, va_up_ne _ _ (by omega)]
  · rw [if_neg h1, va_up_ne _ _ h1]
    by_cases h2 : p = kr K i 0
    · rw [if_pos h2, h2, va_up_self]
    · rw [if_neg h2, va_up_ne _ _ h2]
theorem rlx_mono (ok : KOK K) {i : Nat} (hi : i < kh K 2) (g : Nat → Nat) (p : Nat) : rlx K g i p ≤ g p := by
  rw [rlx_eq ok hi]
  by_cases h1 : p = kr K i 1
  · rw [if_pos h1, h1]; omega
  · rw [if_neg h1]
    by_cases h2 : p = kr K i 0
    · rw [if_pos h2, h2]; omega
    · rw [if_neg h2]; exact Nat.le_refl _
def GB (K : KD) (t : Nat) (g : Nat → Nat) : Prop := g t = 0 ∧ (∀ p, g p ≤ 1000000) ∧ (∀ p, g p < 1000000 → ∃ n, Wlk K n p t (g p))
theorem Wlk_cons {n a c b w l : Nat} (h : Eg K a c w) (h2 : Wlk K n c b l) : Wlk K (n + 1) a b (l + w) := ⟨c, w, l, h, h2, by omega⟩
theorem GB_s (ok : KOK K) {t i : Nat} {g : Nat → Nat} (hi : i < kh K 2) (h : GB K t g) : GB K t (rlx K g i) := by
  obtain ⟨h1, h2, h3⟩ := h
  have hm := rlx_mono ok hi g
  have hr := ok_road ok hi
  have e01 : Eg K (kr K i 0) (kr K i 1) (kr K i 2) := ⟨i, hi, by rw [btw_iff]; omega, rfl⟩
  have s0 : min (g (kr K i 0)) (g (kr K i 1) + kr K i 2) < 1000000 → ∃ n, Wlk K n (kr K i 0) t (min (g (kr K i 0)) (g (kr K i 1) + kr K i 2)) := by
    intro q
    by_cases c : g (kr K i 0) ≤ g (kr K i 1) + kr K i 2
    · rw [Nat.min_eq_left c] at q ⊢
      exact h3 _ q
    · rw [Nat.min_eq_right (by omega)] at q ⊢
      obtain ⟨n, hn⟩ := h3 (kr K i 1) (by omega)
      exact ⟨n + 1, Wlk_cons e01 hn⟩
  refine ⟨by have := hm t; omega, fun p => Nat.le_trans (hm p) (h2 p), fun p q => ?_⟩
  rw [rlx_eq ok hi] at q ⊢
  by_cases c1 : p = kr K i 1
  · rw [if_pos c1] at q ⊢
    rw [c1]
    by_cases c : g (kr K i 1) ≤ min (g (kr K i 0)) (g (kr K i 1) + kr K i 2) + kr K i 2
    · rw [Nat.min_eq_left c] at q ⊢
      exact h3 _ q
    · rw [Nat.min_eq_right (by omega)] at q ⊢
      obtain ⟨n, hn⟩ := s0 (by omega)
      exact ⟨n + 1, Wlk_cons (Eg_sym e01) hn⟩
  · rw [if_neg c1] at q ⊢
    by_cases c2 : p = kr K i 0
    · rw [if_pos c2] at q ⊢
      rw [c2]
      exact s0 q
    · rw [if_neg c2] at q ⊢
      exact h3 p q
/-- a round: all that is kept, what falls, and each road is passed -/
theorem round_g (ok : KOK K) {t : Nat} : ∀ (n i : Nat) (g : Nat → Nat), i + n = kh K 2 → GB K t g → GB K t (fld (rlx K) n i g) ∧ (∀ p, fld (rlx K) n i g p ≤ g p) ∧ (∀ j, i ≤ j → j < kh K 2 → fld (rlx K) n i g (kr K j 0) ≤ g (kr K j 1) + kr K j 2 ∧ fld (rlx K) n i g (kr K j 1) ≤ g (kr K j 0) + kr K j 2)
  | 0, i, g, h, hg => ⟨hg, fun p => Nat.le_refl _, fun j h1 h2 => by omega⟩
  | n + 1, i, g, h, hg => by
    have hi : i < kh K 2 := by omega
    obtain ⟨r1, r2, r3⟩ := round_g ok n (i + 1) (rlx K g i) (by omega) (GB_s ok hi hg)
    have hm := rlx_mono ok hi g
    have hr := ok_road ok hi
    refine ⟨r1, fun p => Nat.le_trans (r2 p) (hm p), fun j h1 h2 => ?_⟩
    show fld (rlx K) n (i + 1) (rlx K g i) (kr K j 0) ≤ _ ∧ fld (rlx K) n (i + 1) (rlx K g i) (kr K j 1) ≤ _
    by_cases e : j = i
    · subst e
      have q0 := r2 (kr K j 0)
      have q1 := r2 (kr K j 1)
      rw [rlx_eq ok hi, if_neg (by omega), if_pos rfl] at q0
      rw [rlx_eq ok hi, if_pos rfl] at q1
      omega
    · obtain ⟨s1, s2⟩ := r3 j (by omega) h2
      have m0 := hm (kr K j 0)
      have m1 := hm (kr K j 1)
      omega
theorem bfR_g (ok : KOK K) {t : Nat} {g : Nat → Nat} (hg : GB K t g) : GB K t (bfR K g) ∧ (∀ p, bfR K g p ≤ g p) ∧ (∀ a b w, Eg K a b w → bfR K g a ≤ g b + w) := by
  obtain ⟨r1, r2, r3⟩ := round_g ok (kh K 2) 0 g (by omega) hg
  refine ⟨r1, r2, fun a b w e => ?_⟩
  obtain ⟨i, hi, hb, rfl⟩ := e
  obtain ⟨s1, s2⟩ := r3 i (by omega) hi
  rw [btw_iff] at hb
  rcases hb with ⟨rfl, rfl⟩ | ⟨rfl, rfl⟩
  · exact s1
  · exact s2
def cn (P : Nat → Bool) : Nat → Nat
  | 0 => 0
  | n + 1 => cn P n + (P n).toNat
theorem cn_le {P Q : Nat → Bool} : ∀ n, (∀ q, q < n → P q = true → Q q = true) → cn P n ≤ cn Q n
  | 0, _ => Nat.le_refl _
  | n + 1, h => by
    have h1 := cn_le n (fun q hq => h q (by omega))
    have h2 := h n (by omega)
    unfold cn
    cases hp : P n with
    | false => rw [show false.toNat = 0 from rfl]; omega
    | true => rw [h2 hp]; omega
theorem cn_lt {P Q : Nat → Bool} : ∀ n, (∀ q, q < n → P q = true → Q q = true) → (∃ q, q < n ∧ P q = false ∧ Q q = true) → cn P n < cn Q n
  | 0, _, h => by obtain ⟨q, h1, _⟩ := h; omega
  | n + 1, h, e => by
    obtain ⟨q, h1, h2, h3⟩ := e
    have a1 := cn_le n (P := P) (Q := Q) (fun q hq => h q (by omega))
    unfold cn
    by_cases c : q = n
    · subst c
      rw [h2, h3, show false.toNat = 0 from rfl, show true.toNat = 1 from rfl]
      omega
    · have a2 := cn_lt n (P := P) (Q := Q) (fun q hq => h q (by omega)) ⟨q, by omega, h2, h3⟩
      have a3 := h n (by omega)
      cases hp : P n with
      | false => rw [show false.toNat = 0 from rfl]; omega
      | true => rw [a3 hp]; omega
theorem cn_all : ∀ n, cn (fun _ => true) n = n
  | 0 => rfl
  | n + 1 => by
    unfold cn
    rw [cn_all n]
    rfl
def rnk (K : KD) (t p : Nat) : Nat := cn (fun q => decide (distK K q t < distK K p t)) (kh K 0)
theorem rnk_lt {t p : Nat} (hp : p < kh K 0) : rnk K t p < kh K 0 := by
  have := cn_lt (P := fun q => decide (distK K q t < distK K p t)) (Q := fun _ => true) (kh K 0) (fun _ _ _ => rfl) ⟨p, hp, decide_eq_false (by omega), rfl⟩
  rw [cn_all] at this
  exact this
theorem rnk_s {t p c : Nat} (hc : c < kh K 0) (h : distK K c t < distK K p t) : rnk K t c < rnk K t p := by
  refine cn_lt (kh K 0) (fun q _ hq => ?_) ⟨c, hc, decide_eq_false (by omega), decide_eq_true h⟩
  have := of_decide_eq_true hq
  exact decide_eq_true (by omega)
theorem bf_g (ok : KOK K) {t : Nat} : ∀ n, GB K t (bf K t n) ∧ ∀ p, p < kh K 0 → distK K p t < 1000000 → rnk K t p ≤ n → bf K t n p ≤ distK K p t
  | 0 => by
    refine ⟨⟨if_pos rfl, fun p => ?_, fun p q => ?_⟩, fun p hp hd hr => ?_⟩
    · show (if p = t then 0 else 1000000) ≤ _
      by_cases e : p = t
      · rw [if_pos e]; omega
      · rw [if_neg e]; exact Nat.le_refl _
    · have q' : (if p = t then 0 else 1000000) < 1000000 := q
      show ∃ n, Wlk K n p t (if p = t then 0 else 1000000)
      by_cases e : p = t
      · rw [if_pos e]; exact ⟨0, e, rfl⟩
      · rw [if_neg e] at q'; omega
    · by_cases e : p = t
      · show (if p = t then 0 else 1000000) ≤ _
        rw [if_pos e]; omega
      · obtain ⟨c, w, h1, h2⟩ := dist_step ok hd e
        have hb := Eg_b ok h1
        have := rnk_s (t := t) (p := p) hb.2.1 (by omega)
        omega
  | n + 1 => by
    obtain ⟨g1, g2⟩ := bf_g ok (t := t) n
    have e : bf K t (n + 1) = bfR K (bf K t n) := fld_s n 0 _
    rw [e]
    obtain ⟨r1, r2, r3⟩ := bfR_g ok g1
    refine ⟨r1, fun p hp hd hr => ?_⟩
    by_cases e : p = t
    · rw [e, r1.1]; omega
    · obtain ⟨c, w, h1, h2⟩ := dist_step ok hd e
      have hb := Eg_b ok h1
      have h3 := rnk_s (t := t) (p := p) hb.2.1 (by omega)
      have h4 := g2 c hb.2.1 (by omega) (by omega)
      have h5 := r3 p c w h1
      omega
theorem bf_dist (ok : KOK K) {t p : Nat} (hp : p < kh K 0) : bf K t (kh K 0) p = distK K p t := by
  obtain ⟨g1, g2⟩ := bf_g ok (t := t) (kh K 0)
  have h1 := g1.2.1 p
  have h2 := dist_le ok p t
  have h3 := rnk_lt (t := t) hp
  have h4 : bf K t (kh K 0) p < 1000000 → distK K p t ≤ bf K t (kh K 0) p := fun q => by
    obtain ⟨n, hn⟩ := g1.2.2 p q
    exact dist_wlk ok n hn
  have h5 := g2 p hp
  omega
end DST
end
section
/-! reckonRoads. -/
theorem n_min {x y : Nat} (hx : x < 2 ^ 31) (hy : y < 2 ^ 31) : (if nI y < nI x then nI y else nI x) = nI (min x y) := by
  by_cases h : y < x
  · rw [if_pos ((nI_ltI hy hx).mpr h), Nat.min_eq_right (by omega)]
  · rw [if_neg (fun q => h ((nI_ltI hy hx).mp q)), Nat.min_eq_left (by omega)]
theorem n_max {x y : Nat} (hx : x < 2 ^ 31) (hy : y < 2 ^ 31) : (if nI x < nI y then nI y else nI x) = nI (max x y) := by
  by_cases h : x < y
  · rw [if_pos ((nI_ltI hx hy).mpr h), Nat.max_eq_right (by omega)]
  · rw [if_neg (fun q => h ((nI_ltI hx hy).mp q)), Nat.max_eq_left (by omega)]
def DC (f : Nat → Int32) (K : KD) (D : Nat → Nat → Nat) : Prop := ∀ x y, x < kh K 0 → y < kh K 0 → f (7 * x + y) = nI (D x y)
def I1 (f : Nat → Int32) (K : KD) (a b : Nat) : Prop := ∀ x y, y < kh K 0 → (x < a ∨ (x = a ∧ y < b)) → f (7 * x + y) = nI (D0 K x y)
theorem I1_s {f : Nat → Int32} {K : KD} {a b : Nat} {v : Int32} (h0 : kh K 0 ≤ 7) (hb : b < kh K 0) (h : I1 f K a b) (hv : v = nI (D0 K a b)) : I1 (upd f (7 * a + b) v) K a (b + 1) := by
  intro x y hy hx
  by_cases e : x = a ∧ y = b
  · obtain ⟨rfl, rfl⟩ := e
    rw [pk_us, hv]
  · rw [pk_un (by omega)]
    exact h x y hy (by omega)
def I2 (f : Nat → Int32) (K : KD) (D : Nat → Nat → Nat) (k a b : Nat) : Prop := ∀ x y, x < kh K 0 → y < kh K 0 → f (7 * x + y) = nI (if x < a ∨ (x = a ∧ y < b) then ph k D x y else D x y)
theorem I2_s {f : Nat → Int32} {K : KD} {D : Nat → Nat → Nat} {k a b : Nat} {v : Int32} (h0 : kh K 0 ≤ 7) (hb : b < kh K 0) (h : I2 f K D k a b) (hv : v = nI (ph k D a b)) : I2 (upd f (7 * a + b) v) K D k a (b + 1) := by
  intro x y hx hy
  by_cases e : x = a ∧ y = b
  · obtain ⟨rfl, rfl⟩ := e
    rw [pk_us, if_pos (by omega), hv]
  · rw [pk_un (by omega), h x y hx hy]
    by_cases q : x < a ∨ (x = a ∧ y < b)
    · rw [if_pos q, if_pos (by omega)]
    · rw [if_neg q, if_neg (by omega)]
theorem I2_g {f : Nat → Int32} {K : KD} {D : Nat → Nat → Nat} {k a b x y : Nat} (hk : D k k = 0) (hx : x < kh K 0) (hy : y < kh K 0) (h : I2 f K D k a b) (e : x = k ∨ y = k) : f (7 * x + y) = nI (D x y) := by
  rw [h x y hx hy]
  have : ph k D x y = D x y := by
    show min (D x y) (D x k + D k y) = D x y
    rcases e with rfl | rfl <;> rw [hk] <;> omega
  by_cases q : x < a ∨ (x = a ∧ y < b)
  · rw [if_pos q, this]
  · rw [if_neg q]
section RR
variable {d : Nat} {M : AM} {r : Nat} {ρ : RC} {K : KD} {Q : Option Value → AM → Prop}
theorem rep_d {f : Nat → Int32} (h : RepC ρ K) : RepC (dset ρ f) K := h

theorem k_rr_b (hK : RepC ρ K) (ok : KOK K) (h32 : 32 ≤ r) {a : Nat} (ha : a < kh K 0) : ∀ (n b : Nat) (f : Nat → Int32) (z3 z4 : Option Value), b + n = kh K 0 → I1 f K a b → (∀ f' z3' z4', I1 f' K a (kh K 0) → Wp (d + 1) md_31 69 [some (.ref r), some (.int (nI a)), some (.int (nI (kh K 0))), z3', z4'] [] (rset M r (dset ρ f')) Q) → Wp (d + 1) md_31 12 [some (.ref r), some (.int (nI a)), some (.int (nI b)), z3, z4] [] (rset M r (dset ρ f)) Q := by
  intro n
  obtain ⟨b0, b1, b2, b3, b4, b5, b6, b7, b8, b9, b10, b11, b12⟩ := ok_h ok
  induction n with
  | zero =>
    intro b f z3 z4 hb hI k
    refine Wp.n (pc' := 14) 2 rfl ?_
    refine Wp.get (len := 3) rfl (rs_obj) rfl ?_
    refine Wp.top (rc_pl hK) ?_
    refine Wp.nc3 (x := b) (y := kh K 0) (tgt := 69) (len := 3) rfl (by omega) (by omega) (fun h17 => ?_) (fun h17 => ?_)
    · skip
      have e : b = kh K 0 := by omega
      rw [e] at hI ⊢
      exact k f z3 z4 hI
    · omega
  | succ n ih =>
    intro b f z3 z4 hb hI k
    have hD : D0 K a b = if a = b then 0 else match roadK K a b with
      | none => 1000000
      | some i => kr K i 2 := rfl
    refine Wp.n (pc' := 14) 2 rfl ?_
    refine Wp.get (len := 3) rfl (rs_obj) rfl ?_
    refine Wp.top (rc_pl hK) ?_
    refine Wp.nc3 (x := b) (y := kh K 0) (tgt := 69) (len := 3) rfl (by omega) (by omega) (fun h17 => ?_) (fun h17 => ?_)
    · omega
    · skip
      refine Wp.n (pc' := 23) 3 rfl ?_
      refine Wp.ecallV (len := 3) rfl rfl rfl (rs_obj) rfl h32 rfl (k_roadOf rset_ra (rep_d hK) ok (by omega) (by omega)) ?_
      rcases hrd : roadK K a b with _ | i
      · rw [hrd] at hD
        refine Wp.n (pc' := 28) 2 rfl ?_
        refine Wp.s (pc' := 31) rfl ?_
        refine Wp.n (pc' := 43) 4 rfl ?_
        refine Wp.get (len := 3) rfl (rs_obj) rfl ?_
        refine Wp.n (pc' := 48) 2 rfl ?_
        refine Wp.ecallS (len := 3) rfl rfl rfl rfl (c_pairOf _ _) ?_
        refine Wp.n (pc' := 53) 2 rfl ?_
        refine Wp.nc1 (x := a) (y := b) (tgt := 60) (len := 3) rfl (by omega) (by omega) (fun h53 => ?_) (fun h53 => ?_)
        · skip
          refine Wp.n (pc' := 62) 1 rfl ?_
          refine Wp.iastN (j := 7 * a + b) (len := 1) rfl rs_dist (by omega) (by decide) ?_
          rw [ru_dist]
          refine Wp.incN (x := b) (len := 3) rfl rfl ?_
          refine Wp.n (pc' := 12) 1 rfl ?_
          refine ih (b + 1) _ _ _ (by omega) (I1_s b0 (by omega) hI ?_) k
          rw [hD]
          first | rw [if_pos (by omega)] | rw [if_neg (by omega)]
          try rfl
        · skip
          refine Wp.n (pc' := 62) 2 rfl ?_
          refine Wp.iastN (j := 7 * a + b) (len := 1) rfl rs_dist (by omega) (by decide) ?_
          rw [ru_dist]
          refine Wp.incN (x := b) (len := 3) rfl rfl ?_
          refine Wp.n (pc' := 12) 1 rfl ?_
          refine ih (b + 1) _ _ _ (by omega) (I1_s b0 (by omega) hI ?_) k
          rw [hD]
          first | rw [if_pos (by omega)] | rw [if_neg (by omega)]
          try rfl
      · rw [hrd] at hD
        have hi := (roadK_v hrd).1
        refine Wp.n (pc' := 28) 2 rfl ?_
        refine Wp.s (pc' := 36) rfl ?_
        refine Wp.n (pc' := 37) 1 rfl ?_
        refine Wp.get (len := 3) rfl (rs_road (by omega)) rfl ?_
        refine Wp.top (rc_road hK hi).2.2.1 ?_
        refine Wp.n (pc' := 43) 2 rfl ?_
        refine Wp.get (len := 3) rfl (rs_obj) rfl ?_
        refine Wp.n (pc' := 48) 2 rfl ?_
        refine Wp.ecallS (len := 3) rfl rfl rfl rfl (c_pairOf _ _) ?_
        refine Wp.n (pc' := 53) 2 rfl ?_
        refine Wp.nc1 (x := a) (y := b) (tgt := 60) (len := 3) rfl (by omega) (by omega) (fun h53 => ?_) (fun h53 => ?_)
        · skip
          refine Wp.n (pc' := 62) 1 rfl ?_
          refine Wp.iastN (j := 7 * a + b) (len := 1) rfl rs_dist (by omega) (by decide) ?_
          rw [ru_dist]
          refine Wp.incN (x := b) (len := 3) rfl rfl ?_
          refine Wp.n (pc' := 12) 1 rfl ?_
          refine ih (b + 1) _ _ _ (by omega) (I1_s b0 (by omega) hI ?_) k
          rw [hD]
          first | rw [if_pos (by omega)] | rw [if_neg (by omega)]
          try rfl
        · skip
          refine Wp.n (pc' := 62) 2 rfl ?_
          refine Wp.iastN (j := 7 * a + b) (len := 1) rfl rs_dist (by omega) (by decide) ?_
          rw [ru_dist]
          refine Wp.incN (x := b) (len := 3) rfl rfl ?_
          refine Wp.n (pc' := 12) 1 rfl ?_
          refine ih (b + 1) _ _ _ (by omega) (I1_s b0 (by omega) hI ?_) k
          rw [hD]
          first | rw [if_pos (by omega)] | rw [if_neg (by omega)]
          try rfl

theorem k_rr_a (hK : RepC ρ K) (ok : KOK K) (h32 : 32 ≤ r) : ∀ (n a : Nat) (f : Nat → Int32) (z2 z3 z4 : Option Value), a + n = kh K 0 → I1 f K a 0 → (∀ f' z2' z3' z4', DC f' K (D0 K) → Wp (d + 1) md_31 75 [some (.ref r), some (.int (nI (kh K 0))), z2', z3', z4'] [] (rset M r (dset ρ f')) Q) → Wp (d + 1) md_31 2 [some (.ref r), some (.int (nI a)), z2, z3, z4] [] (rset M r (dset ρ f)) Q := by
  intro n
  obtain ⟨b0, b1, b2, b3, b4, b5, b6, b7, b8, b9, b10, b11, b12⟩ := ok_h ok
  induction n with
  | zero =>
    intro a f z2 z3 z4 ha hI k
    refine Wp.n (pc' := 4) 2 rfl ?_
    refine Wp.get (len := 3) rfl (rs_obj) rfl ?_
    refine Wp.top (rc_pl hK) ?_
    refine Wp.nc3 (x := a) (y := kh K 0) (tgt := 75) (len := 3) rfl (by omega) (by omega) (fun h7 => ?_) (fun h7 => ?_)
    · skip
      have e : a = kh K 0 := by omega
      rw [e] at hI ⊢
      exact k f z2 z3 z4 (fun x y hx hy => hI x y hy (by omega))
    · omega
  | succ n ih =>
    intro a f z2 z3 z4 ha hI k
    refine Wp.n (pc' := 4) 2 rfl ?_
    refine Wp.get (len := 3) rfl (rs_obj) rfl ?_
    refine Wp.top (rc_pl hK) ?_
    refine Wp.nc3 (x := a) (y := kh K 0) (tgt := 75) (len := 3) rfl (by omega) (by omega) (fun h7 => ?_) (fun h7 => ?_)
    · omega
    · skip
      refine Wp.n (pc' := 12) 2 rfl ?_
      refine k_rr_b hK ok h32 (by omega) (kh K 0) 0 f _ _ (by omega) hI (fun f' z3' z4' hI' => ?_)
      refine Wp.incN (x := a) (len := 3) rfl rfl ?_
      refine Wp.n (pc' := 2) 1 rfl ?_
      exact ih (a + 1) f' _ _ _ (by omega) (fun x y hy hx => hI' x y hy (by omega)) k
      

theorem k_rr_c (hK : RepC ρ K) (ok : KOK K) (h32 : 32 ≤ r) {D : Nat → Nat → Nat} (hD : ∀ a b, D a b ≤ 1000000) {k a : Nat} (hk0 : D k k = 0) (hk : k < kh K 0) (ha : a < kh K 0) : ∀ (n b : Nat) (f : Nat → Int32) (z4 : Option Value), b + n = kh K 0 → I2 f K D k a b → (∀ f' z4', I2 f' K D k a (kh K 0) → Wp (d + 8) md_31 159 [some (.ref r), some (.int (nI k)), some (.int (nI a)), some (.int (nI (kh K 0))), z4'] [] (rset M r (dset ρ f')) Q) → Wp (d + 8) md_31 97 [some (.ref r), some (.int (nI k)), some (.int (nI a)), some (.int (nI b)), z4] [] (rset M r (dset ρ f)) Q := by
  intro n
  obtain ⟨b0, b1, b2, b3, b4, b5, b6, b7, b8, b9, b10, b11, b12⟩ := ok_h ok
  induction n with
  | zero =>
    intro b f z4 hb hI kk
    refine Wp.n (pc' := 99) 2 rfl ?_
    refine Wp.get (len := 3) rfl (rs_obj) rfl ?_
    refine Wp.top (rc_pl hK) ?_
    refine Wp.nc3 (x := b) (y := kh K 0) (tgt := 159) (len := 3) rfl (by omega) (by omega) (fun h102 => ?_) (fun h102 => ?_)
    · skip
      have e : b = kh K 0 := by omega
      rw [e] at hI ⊢
      exact kk f z4 hI
    · omega
  | succ n ih =>
    intro b f z4 hb hI kk
    have e1 : f (7 * a + k) = nI (D a k) := I2_g hk0 ha hk hI (Or.inr rfl)
    have e2 : f (7 * k + b) = nI (D k b) := I2_g hk0 hk (by omega) hI (Or.inl rfl)
    have e3 : f (7 * a + b) = nI (D a b) := by rw [hI a b ha (by omega), if_neg (by omega)]
    have d1 := hD a k
    have d2 := hD k b
    have d3 := hD a b
    refine Wp.n (pc' := 99) 2 rfl ?_
    refine Wp.get (len := 3) rfl (rs_obj) rfl ?_
    refine Wp.top (rc_pl hK) ?_
    refine Wp.nc3 (x := b) (y := kh K 0) (tgt := 159) (len := 3) rfl (by omega) (by omega) (fun h102 => ?_) (fun h102 => ?_)
    · omega
    · skip
      refine Wp.n (pc' := 106) 1 rfl ?_
      refine Wp.get (len := 3) rfl (rs_obj) rfl ?_
      refine Wp.n (pc' := 111) 2 rfl ?_
      refine Wp.ecallS (len := 3) rfl rfl rfl rfl (c_pairOf _ _) ?_
      refine Wp.ialdN (j := 7 * a + k) (len := 1) rfl (rs_dist) rfl (by omega) (by decide) ?_
      refine Wp.top e1 ?_
      refine Wp.n (pc' := 116) 1 rfl ?_
      refine Wp.get (len := 3) rfl (rs_obj) rfl ?_
      refine Wp.n (pc' := 121) 2 rfl ?_
      refine Wp.ecallS (len := 3) rfl rfl rfl rfl (c_pairOf _ _) ?_
      refine Wp.ialdN (j := 7 * k + b) (len := 1) rfl (rs_dist) rfl (by omega) (by decide) ?_
      refine Wp.top e2 ?_
      refine Wp.iaddN (x := D a k) (y := D k b) (len := 1) rfl ?_
      refine Wp.n (pc' := 129) 2 rfl ?_
      refine Wp.get (len := 3) rfl (rs_obj) rfl ?_
      refine Wp.n (pc' := 134) 2 rfl ?_
      refine Wp.ecallS (len := 3) rfl rfl rfl rfl (c_pairOf _ _) ?_
      refine Wp.n (pc' := 138) 1 rfl ?_
      refine Wp.get (len := 3) rfl (rs_obj) rfl ?_
      refine Wp.n (pc' := 143) 2 rfl ?_
      refine Wp.ecallS (len := 3) rfl rfl rfl rfl (c_pairOf _ _) ?_
      refine Wp.ialdN (j := 7 * a + b) (len := 1) rfl (rs_dist) rfl (by omega) (by decide) ?_
      refine Wp.top e3 ?_
      refine Wp.n (pc' := 149) 1 rfl ?_
      refine Wp.bi (len := 3) rfl (by decide) rfl (by omega) ?_
      refine Wp.top (n_min (by omega) (by omega)) ?_
      refine Wp.iastN (j := 7 * a + b) (len := 1) rfl rs_dist (by omega) (by decide) ?_
      rw [ru_dist]
      refine Wp.incN (x := b) (len := 3) rfl rfl ?_
      refine Wp.n (pc' := 97) 1 rfl ?_
      exact ih (b + 1) _ _ (by omega) (I2_s b0 (by omega) hI rfl) kk

theorem k_rr_d (hK : RepC ρ K) (ok : KOK K) (h32 : 32 ≤ r) {D : Nat → Nat → Nat} (hD : ∀ a b, D a b ≤ 1000000) {k : Nat} (hk0 : D k k = 0) (hk : k < kh K 0) : ∀ (n a : Nat) (f : Nat → Int32) (z3 z4 : Option Value), a + n = kh K 0 → I2 f K D k a 0 → (∀ f' z3' z4', DC f' K (ph k D) → Wp (d + 8) md_31 165 [some (.ref r), some (.int (nI k)), some (.int (nI (kh K 0))), z3', z4'] [] (rset M r (dset ρ f')) Q) → Wp (d + 8) md_31 87 [some (.ref r), some (.int (nI k)), some (.int (nI a)), z3, z4] [] (rset M r (dset ρ f)) Q := by
  intro n
  obtain ⟨b0, b1, b2, b3, b4, b5, b6, b7, b8, b9, b10, b11, b12⟩ := ok_h ok
  induction n with
  | zero =>
    intro a f z3 z4 ha hI kk
    refine Wp.n (pc' := 89) 2 rfl ?_
    refine Wp.get (len := 3) rfl (rs_obj) rfl ?_
    refine Wp.top (rc_pl hK) ?_
    refine Wp.nc3 (x := a) (y := kh K 0) (tgt := 165) (len := 3) rfl (by omega) (by omega) (fun h92 => ?_) (fun h92 => ?_)
    · skip
      have e : a = kh K 0 := by omega
      rw [e] at hI ⊢
      exact kk f z3 z4 (fun x y hx hy => by rw [hI x y hx hy, if_pos (by omega)])
    · omega
  | succ n ih =>
    intro a f z3 z4 ha hI kk
    refine Wp.n (pc' := 89) 2 rfl ?_
    refine Wp.get (len := 3) rfl (rs_obj) rfl ?_
    refine Wp.top (rc_pl hK) ?_
    refine Wp.nc3 (x := a) (y := kh K 0) (tgt := 165) (len := 3) rfl (by omega) (by omega) (fun h92 => ?_) (fun h92 => ?_)
    · omega
    · skip
      refine Wp.n (pc' := 97) 2 rfl ?_
      refine k_rr_c hK ok h32 hD hk0 hk (by omega) (kh K 0) 0 f _ (by omega) hI (fun f' z4' hI' => ?_)
      refine Wp.incN (x := a) (len := 3) rfl rfl ?_
      refine Wp.n (pc' := 87) 1 rfl ?_
      refine ih (a + 1) f' _ _ (by omega) (fun x y hx hy => ?_) kk
      rw [hI' x y hx hy]
      by_cases q : x < a ∨ (x = a ∧ y < kh K 0)
      · rw [if_pos q, if_pos (by omega)]
      · rw [if_neg q, if_neg (by omega)]
      

theorem k_rr_e (hK : RepC ρ K) (ok : KOK K) (h32 : 32 ≤ r) : ∀ (n k : Nat) (f : Nat → Int32) (z2 z3 z4 : Option Value), k + n = kh K 0 → DC f K (fld (fun D k => ph k D) k 0 (D0 K)) → (∀ f' z2' z3' z4', DC f' K (distK K) → Wp (d + 8) md_31 171 [some (.ref r), some (.int (nI (kh K 0))), z2', z3', z4'] [] (rset M r (dset ρ f')) Q) → Wp (d + 8) md_31 77 [some (.ref r), some (.int (nI k)), z2, z3, z4] [] (rset M r (dset ρ f)) Q := by
  intro n
  obtain ⟨b0, b1, b2, b3, b4, b5, b6, b7, b8, b9, b10, b11, b12⟩ := ok_h ok
  induction n with
  | zero =>
    intro k f z2 z3 z4 hk hI kk
    refine Wp.n (pc' := 79) 2 rfl ?_
    refine Wp.get (len := 3) rfl (rs_obj) rfl ?_
    refine Wp.top (rc_pl hK) ?_
    refine Wp.nc3 (x := k) (y := kh K 0) (tgt := 171) (len := 3) rfl (by omega) (by omega) (fun h82 => ?_) (fun h82 => ?_)
    · skip
      have e : k = kh K 0 := by omega
      rw [e] at hI ⊢
      exact kk f z2 z3 z4 hI
    · omega
  | succ n ih =>
    intro k f z2 z3 z4 hk hI kk
    have g := GD_all ok k
    refine Wp.n (pc' := 79) 2 rfl ?_
    refine Wp.get (len := 3) rfl (rs_obj) rfl ?_
    refine Wp.top (rc_pl hK) ?_
    refine Wp.nc3 (x := k) (y := kh K 0) (tgt := 171) (len := 3) rfl (by omega) (by omega) (fun h82 => ?_) (fun h82 => ?_)
    · omega
    · skip
      refine Wp.n (pc' := 87) 2 rfl ?_
      refine k_rr_d hK ok h32 g.2.2.2.1 (g.1 k) (by omega) (kh K 0) 0 f _ _ (by omega) (fun x y hx hy => by rw [hI x y hx hy, if_neg (by omega)]) (fun f' z3' z4' hI' => ?_)
      refine Wp.incN (x := k) (len := 3) rfl rfl ?_
      refine Wp.n (pc' := 77) 1 rfl ?_
      refine ih (k + 1) f' _ _ _ (by omega) ?_ kk
      rw [fld_s, Nat.zero_add]
      exact hI'
      

theorem k_reckonRoads (hK : RepC ρ K) (ok : KOK K) (h32 : 32 ≤ r) (hR : RA M r ρ) : Wp (d + 8) md_31 0 [some (.ref r), none, none, none, none] [] M (fun v M' => v = none ∧ ∃ f, M' = rset M r (dset ρ f) ∧ DC f K (distK K)) := by
  obtain ⟨b0, b1, b2, b3, b4, b5, b6, b7, b8, b9, b10, b11, b12⟩ := ok_h ok
  refine Wp.n (pc' := 2) 2 rfl ?_
  have e : M = rset M r (dset ρ (rds ρ)) := (show rset M r ρ = M from hR).symm
  have w := k_rr_a (d := d + 7) (M := M) (Q := fun v M' => v = none ∧ ∃ f, M' = rset M r (dset ρ f) ∧ DC f K (distK K)) hK ok h32 (kh K 0) 0 (rds ρ) none none none (by omega) (fun x y hy hx => by omega) (fun f z2 z3 z4 h0 => by
    refine Wp.n (pc' := 77) 2 rfl ?_
    exact k_rr_e hK ok h32 (kh K 0) 0 f _ _ _ (by omega) h0 (fun f' z2' z3' z4' hI => Wp.retV (len := 1) rfl rfl ⟨rfl, f', rfl, hI⟩))
  rw [← e] at w
  exact w
end RR
end
section
/-! laysFar, byRoad. -/
theorem aset_get {σ : MS} {k : Nat} {f : Nat → Int32} : (aset σ k f).2.2.1 k = f := va_up_self _ _ _
theorem aset_aset {σ : MS} {k : Nat} {f g : Nat → Int32} : aset (aset σ k f) k g = aset σ k g := by
  unfold aset
  have : va_up (va_up σ.2.2.1 k f) k g = va_up σ.2.2.1 k g := by
    funext j
    by_cases h : j = k
    · rw [h, va_up_self, va_up_self]
    · rw [va_up_ne _ _ h, va_up_ne _ _ h, va_up_ne _ _ h]
  rw [this]
theorem aset_same {σ : MS} {k : Nat} : aset σ k (σ.2.2.1 k) = σ := by
  unfold aset
  have : va_up σ.2.2.1 k (σ.2.2.1 k) = σ.2.2.1 := by
    funext j
    by_cases h : j = k
    · rw [h, va_up_self]
    · rw [va_up_ne _ _ h]
  rw [this]
def FR (h : Nat → Int32) (g : Nat → Nat) : Prop := ∀ p, p < 7 → h p = nI (g p)
theorem FR_up {h : Nat → Int32} {g : Nat → Nat} {a v : Nat} {x : Int32} (hh : FR h g) (hx : x = nI v) : FR (upd h a x) (va_up g a v) := by
  intro p hp
  by_cases e : p = a
  · rw [e, pk_us, va_up_self, hx]
  · rw [pk_un e, va_up_ne _ _ e, hh p hp]
def dI (n : Nat) : Int32 := if n < 1000000 then nI n else -1
section FAR
variable {d : Nat} {M : AM} {σ : MS} {K : KD} {Q : Option Value → AM → Prop}

theorem m_lf_i {t : Nat} (ht : t < 7) : ∀ (n p : Nat) (h : Nat → Int32), p + n = 7 → (∀ q, q < p → h q = nI (bfI t q)) → (∀ h', FR h' (bfI t) → Wp d md_189 31 [some (.ref 287), some (.int (nI t)), some (.int (nI 7)), none, none, none] [] (mset M (aset σ 13 h')) Q) → Wp d md_189 2 [some (.ref 287), some (.int (nI t)), some (.int (nI p)), none, none, none] [] (mset M (aset σ 13 h)) Q := by
  intro n
  induction n with
  | zero =>
    intro p h hp hh k
    refine Wp.n (pc' := 5) 2 rfl ?_
    refine Wp.nc3 (x := p) (y := 7) (tgt := 31) (len := 3) rfl (by omega) (by omega) (fun h5 => ?_) (fun h5 => ?_)
    · skip
      have e : p = 7 := by omega
      subst e
      exact k h hh
    · omega
  | succ n ih =>
    intro p h hp hh k
    refine Wp.n (pc' := 5) 2 rfl ?_
    refine Wp.nc3 (x := p) (y := 7) (tgt := 31) (len := 3) rfl (by omega) (by omega) (fun h5 => ?_) (fun h5 => ?_)
    · omega
    · skip
      refine Wp.n (pc' := 15) 5 rfl ?_
      refine Wp.nc1 (x := p) (y := t) (tgt := 22) (len := 3) rfl (by omega) (by omega) (fun h15 => ?_) (fun h15 => ?_)
      · skip
        refine Wp.n (pc' := 24) 1 rfl ?_
        refine Wp.miastN (j := p) (len := 1) rfl rfl rfl (by omega) ?_
        rw [aset_get, aset_aset]
        refine Wp.incN (x := p) (len := 3) rfl rfl ?_
        refine Wp.n (pc' := 2) 1 rfl ?_
        refine ih (p + 1) _ (by omega) (fun q hq => ?_) k
        by_cases e : q = p
        · rw [e, pk_us]
          unfold bfI
          first | (rw [if_pos (by omega)]; rfl) | (rw [if_neg (by omega)]; rfl)
        · rw [pk_un e]
          exact hh q (by omega)
      · skip
        refine Wp.n (pc' := 24) 2 rfl ?_
        refine Wp.miastN (j := p) (len := 1) rfl rfl rfl (by omega) ?_
        rw [aset_get, aset_aset]
        refine Wp.incN (x := p) (len := 3) rfl rfl ?_
        refine Wp.n (pc' := 2) 1 rfl ?_
        refine ih (p + 1) _ (by omega) (fun q hq => ?_) k
        by_cases e : q = p
        · rw [e, pk_us]
          unfold bfI
          first | (rw [if_pos (by omega)]; rfl) | (rw [if_neg (by omega)]; rfl)
        · rw [pk_un e]
          exact hh q (by omega)

theorem m_lf_2 (hM : RepM σ 0 K) (ok : KOK K) {t r i : Nat} (hi : i < kh K 2) {h : Nat → Int32} {g : Nat → Nat} (hh : FR h g) (hg : ∀ p, g p ≤ 1000000) (k : ∀ h', FR h' (va_up g (kr K i 1) (min (g (kr K i 1)) (g (kr K i 0) + kr K i 2))) → Wp d md_189 203 [some (.ref 287), some (.int (nI t)), some (.int (nI r)), some (.int (nI i)), some (.int (nI (kr K i 0))), some (.int (nI (kr K i 1)))] [] (mset M (aset σ 13 h')) Q) : Wp d md_189 140 [some (.ref 287), some (.int (nI t)), some (.int (nI r)), some (.int (nI i)), some (.int (nI (kr K i 0))), some (.int (nI (kr K i 1)))] [] (mset M (aset σ 13 h)) Q := by
  obtain ⟨b0, b1, b2, b3, b4, b5, b6, b7, b8, b9, b10, b11, b12⟩ := ok_h ok
  have hr := ok_road ok hi
  have g0 := hg (kr K i 0)
  have g1 := hg (kr K i 1)
  have e2 := r0_road hM hi (j := 2) (q := 3 * i + 2) (by decide) (by omega)
  have f0 := hh (kr K i 0) (by omega)
  have f1 := hh (kr K i 1) (by omega)
  refine Wp.n (pc' := 152) 6 rfl ?_
  refine Wp.mialdN (j := kr K i 0) (len := 1) rfl rfl rfl (by omega) ?_
  refine Wp.top f0 ?_
  refine Wp.n (pc' := 159) 4 rfl ?_
  refine Wp.imulN (x := 3) (y := i) (len := 1) rfl ?_
  refine Wp.n (pc' := 161) 1 rfl ?_
  refine Wp.iaddN (x := 3 * i) (y := 2) (len := 1) rfl ?_
  refine Wp.mialdN (j := (3 * i) + 2) (len := 1) rfl rfl rfl (by omega) ?_
  refine Wp.top e2 ?_
  refine Wp.iaddN (x := g (kr K i 0)) (y := kr K i 2) (len := 1) rfl ?_
  refine Wp.n (pc' := 170) 3 rfl ?_
  refine Wp.mialdN (j := kr K i 1) (len := 1) rfl rfl rfl (by omega) ?_
  refine Wp.top f1 ?_
  refine Wp.nc3 (x := (g (kr K i 0)) + (kr K i 2)) (y := g (kr K i 1)) (tgt := 195) (len := 3) rfl (by omega) (by omega) (fun h171 => ?_) (fun h171 => ?_)
  · skip
    refine Wp.n (pc' := 201) 3 rfl ?_
    refine Wp.mialdN (j := kr K i 1) (len := 1) rfl rfl rfl (by omega) ?_
    refine Wp.top f1 ?_
    refine Wp.miastN (j := kr K i 1) (len := 1) rfl rfl rfl (by omega) ?_
    rw [aset_get, aset_aset]
    refine k _ (FR_up hh ?_)
    first | rw [Nat.min_eq_left (by omega)] | rw [Nat.min_eq_right (by omega)]
  · skip
    refine Wp.n (pc' := 180) 3 rfl ?_
    refine Wp.mialdN (j := kr K i 0) (len := 1) rfl rfl rfl (by omega) ?_
    refine Wp.top f0 ?_
    refine Wp.n (pc' := 187) 4 rfl ?_
    refine Wp.imulN (x := 3) (y := i) (len := 1) rfl ?_
    refine Wp.n (pc' := 189) 1 rfl ?_
    refine Wp.iaddN (x := 3 * i) (y := 2) (len := 1) rfl ?_
    refine Wp.mialdN (j := (3 * i) + 2) (len := 1) rfl rfl rfl (by omega) ?_
    refine Wp.top e2 ?_
    refine Wp.iaddN (x := g (kr K i 0)) (y := kr K i 2) (len := 1) rfl ?_
    refine Wp.n (pc' := 202) 1 rfl ?_
    refine Wp.miastN (j := kr K i 1) (len := 1) rfl rfl rfl (by omega) ?_
    rw [aset_get, aset_aset]
    refine k _ (FR_up hh ?_)
    first | rw [Nat.min_eq_left (by omega)] | rw [Nat.min_eq_right (by omega)]

theorem m_lf_k (hM : RepM σ 0 K) (ok : KOK K) {t r : Nat} : ∀ (n i : Nat) (h : Nat → Int32) (g : Nat → Nat) (z4 z5 : Option Value), i + n = kh K 2 → FR h g → (∀ p, g p ≤ 1000000) → (∀ h' z4' z5', FR h' (fld (rlx K) n i g) → Wp d md_189 209 [some (.ref 287), some (.int (nI t)), some (.int (nI r)), some (.int (nI (kh K 2))), z4', z5'] [] (mset M (aset σ 13 h')) Q) → Wp d md_189 45 [some (.ref 287), some (.int (nI t)), some (.int (nI r)), some (.int (nI i)), z4, z5] [] (mset M (aset σ 13 h)) Q := by
  intro n
  obtain ⟨b0, b1, b2, b3, b4, b5, b6, b7, b8, b9, b10, b11, b12⟩ := ok_h ok
  induction n with
  | zero =>
    intro i h g z4 z5 hi hh hg k
    refine Wp.n (pc' := 51) 4 rfl ?_
    refine Wp.mialdN (j := 2) (len := 1) rfl rfl rfl (by omega) ?_
    refine Wp.top (r0_has hM (by decide)) ?_
    refine Wp.nc3 (x := i) (y := kh K 2) (tgt := 209) (len := 3) rfl (by omega) (by omega) (fun h52 => ?_) (fun h52 => ?_)
    · skip
      have e : i = kh K 2 := by omega
      rw [e]
      exact k h z4 z5 hh
    · omega
  | succ n ih =>
    intro i h g z4 z5 hi hh hg k
    have hr := ok_road ok (i := i) (by omega)
    have g0 := hg (kr K i 0)
    have g1 := hg (kr K i 1)
    have q0 := r0_road hM (i := i) (by omega) (j := 0) (q := 3 * i) (by decide) (by omega)
    have q1 := r0_road hM (i := i) (by omega) (j := 1) (q := 3 * i + 1) (by decide) (by omega)
    have e2 := r0_road hM (i := i) (by omega) (j := 2) (q := 3 * i + 2) (by decide) (by omega)
    have f0 := hh (kr K i 0) (by omega)
    have f1 := hh (kr K i 1) (by omega)
    have hm := rlx_mono ok (i := i) (by omega) g
    refine Wp.n (pc' := 51) 4 rfl ?_
    refine Wp.mialdN (j := 2) (len := 1) rfl rfl rfl (by omega) ?_
    refine Wp.top (r0_has hM (by decide)) ?_
    refine Wp.nc3 (x := i) (y := kh K 2) (tgt := 209) (len := 3) rfl (by omega) (by omega) (fun h52 => ?_) (fun h52 => ?_)
    · omega
    · skip
      refine Wp.n (pc' := 61) 4 rfl ?_
      refine Wp.imulN (x := 3) (y := i) (len := 1) rfl ?_
      refine Wp.mialdN (j := 3 * i) (len := 1) rfl rfl rfl (by omega) ?_
      refine Wp.top q0 ?_
      refine Wp.n (pc' := 71) 5 rfl ?_
      refine Wp.imulN (x := 3) (y := i) (len := 1) rfl ?_
      refine Wp.n (pc' := 73) 1 rfl ?_
      refine Wp.iaddN (x := 3 * i) (y := 1) (len := 1) rfl ?_
      refine Wp.mialdN (j := (3 * i) + 1) (len := 1) rfl rfl rfl (by omega) ?_
      refine Wp.top q1 ?_
      refine Wp.n (pc' := 89) 7 rfl ?_
      refine Wp.mialdN (j := kr K i 1) (len := 1) rfl rfl rfl (by omega) ?_
      refine Wp.top f1 ?_
      refine Wp.n (pc' := 96) 4 rfl ?_
      refine Wp.imulN (x := 3) (y := i) (len := 1) rfl ?_
      refine Wp.n (pc' := 98) 1 rfl ?_
      refine Wp.iaddN (x := 3 * i) (y := 2) (len := 1) rfl ?_
      refine Wp.mialdN (j := (3 * i) + 2) (len := 1) rfl rfl rfl (by omega) ?_
      refine Wp.top e2 ?_
      refine Wp.iaddN (x := g (kr K i 1)) (y := kr K i 2) (len := 1) rfl ?_
      refine Wp.n (pc' := 107) 3 rfl ?_
      refine Wp.mialdN (j := kr K i 0) (len := 1) rfl rfl rfl (by omega) ?_
      refine Wp.top f0 ?_
      refine Wp.nc3 (x := (g (kr K i 1)) + (kr K i 2)) (y := g (kr K i 0)) (tgt := 132) (len := 3) rfl (by omega) (by omega) (fun h108 => ?_) (fun h108 => ?_)
      · skip
        refine Wp.n (pc' := 138) 3 rfl ?_
        refine Wp.mialdN (j := kr K i 0) (len := 1) rfl rfl rfl (by omega) ?_
        refine Wp.top f0 ?_
        refine Wp.miastN (j := kr K i 0) (len := 1) rfl rfl rfl (by omega) ?_
        rw [aset_get, aset_aset]
        have hu : FR _ (va_up g (kr K i 0) (min (g (kr K i 0)) (g (kr K i 1) + kr K i 2))) := FR_up hh (by first | rw [Nat.min_eq_left (by omega)] | rw [Nat.min_eq_right (by omega)])
        refine m_lf_2 hM ok (by omega) hu (fun p => ?_) (fun h' hh' => ?_)
        · by_cases e : p = kr K i 0
          · rw [e, va_up_self]; omega
          · rw [va_up_ne _ _ e]; exact hg p
        · skip
          refine Wp.incN (x := i) (len := 3) rfl rfl ?_
          refine Wp.n (pc' := 45) 1 rfl ?_
          exact ih (i + 1) h' (rlx K g i) _ _ (by omega) hh' (fun p => Nat.le_trans (hm p) (hg p)) k
        
      · skip
        refine Wp.n (pc' := 117) 3 rfl ?_
        refine Wp.mialdN (j := kr K i 1) (len := 1) rfl rfl rfl (by omega) ?_
        refine Wp.top f1 ?_
        refine Wp.n (pc' := 124) 4 rfl ?_
        refine Wp.imulN (x := 3) (y := i) (len := 1) rfl ?_
        refine Wp.n (pc' := 126) 1 rfl ?_
        refine Wp.iaddN (x := 3 * i) (y := 2) (len := 1) rfl ?_
        refine Wp.mialdN (j := (3 * i) + 2) (len := 1) rfl rfl rfl (by omega) ?_
        refine Wp.top e2 ?_
        refine Wp.iaddN (x := g (kr K i 1)) (y := kr K i 2) (len := 1) rfl ?_
        refine Wp.n (pc' := 139) 1 rfl ?_
        refine Wp.miastN (j := kr K i 0) (len := 1) rfl rfl rfl (by omega) ?_
        rw [aset_get, aset_aset]
        have hu : FR _ (va_up g (kr K i 0) (min (g (kr K i 0)) (g (kr K i 1) + kr K i 2))) := FR_up hh (by first | rw [Nat.min_eq_left (by omega)] | rw [Nat.min_eq_right (by omega)])
        refine m_lf_2 hM ok (by omega) hu (fun p => ?_) (fun h' hh' => ?_)
        · by_cases e : p = kr K i 0
          · rw [e, va_up_self]; omega
          · rw [va_up_ne _ _ e]; exact hg p
        · skip
          refine Wp.incN (x := i) (len := 3) rfl rfl ?_
          refine Wp.n (pc' := 45) 1 rfl ?_
          exact ih (i + 1) h' (rlx K g i) _ _ (by omega) hh' (fun p => Nat.le_trans (hm p) (hg p)) k
        

theorem bf_le (ok : KOK K) {t : Nat} (n : Nat) : ∀ p, bf K t n p ≤ 1000000 := (bf_g ok n).1.2.1
theorem m_lf_n (hM : RepM σ 0 K) (ok : KOK K) {t : Nat} : ∀ (n r : Nat) (h : Nat → Int32) (z3 z4 z5 : Option Value), r + n = kh K 0 → FR h (bf K t r) → (∀ h' z3' z4' z5', FR h' (bf K t (kh K 0)) → Wp d md_189 215 [some (.ref 287), some (.int (nI t)), some (.int (nI (kh K 0))), z3', z4', z5'] [] (mset M (aset σ 13 h')) Q) → Wp d md_189 33 [some (.ref 287), some (.int (nI t)), some (.int (nI r)), z3, z4, z5] [] (mset M (aset σ 13 h)) Q := by
  intro n
  obtain ⟨b0, b1, b2, b3, b4, b5, b6, b7, b8, b9, b10, b11, b12⟩ := ok_h ok
  induction n with
  | zero =>
    intro r h z3 z4 z5 hr hh k
    refine Wp.n (pc' := 39) 4 rfl ?_
    refine Wp.mialdN (j := 0) (len := 1) rfl rfl rfl (by omega) ?_
    refine Wp.top (r0_has hM (by decide)) ?_
    refine Wp.nc3 (x := r) (y := kh K 0) (tgt := 215) (len := 3) rfl (by omega) (by omega) (fun h40 => ?_) (fun h40 => ?_)
    · skip
      have e : r = kh K 0 := by omega
      rw [e] at hh ⊢
      exact k h z3 z4 z5 hh
    · omega
  | succ n ih =>
    intro r h z3 z4 z5 hr hh k
    refine Wp.n (pc' := 39) 4 rfl ?_
    refine Wp.mialdN (j := 0) (len := 1) rfl rfl rfl (by omega) ?_
    refine Wp.top (r0_has hM (by decide)) ?_
    refine Wp.nc3 (x := r) (y := kh K 0) (tgt := 215) (len := 3) rfl (by omega) (by omega) (fun h40 => ?_) (fun h40 => ?_)
    · omega
    · skip
      refine Wp.n (pc' := 45) 2 rfl ?_
      refine m_lf_k hM ok (kh K 2) 0 h (bf K t r) _ _ (by omega) hh (bf_le ok r) (fun h' z4' z5' hh' => ?_)
      refine Wp.incN (x := r) (len := 3) rfl rfl ?_
      refine Wp.n (pc' := 33) 1 rfl ?_
      refine ih (r + 1) h' _ _ _ (by omega) ?_ k
      rw [show bf K t (r + 1) = bfR K (bf K t r) from fld_s r 0 _]
      exact hh'
      

def FarOf (h : Nat → Int32) (K : KD) (t : Nat) : Prop := ∀ p, p < kh K 0 → h p = nI (distK K p t)
theorem m_laysFar (hM : RepM σ 0 K) (ok : KOK K) {t : Nat} (ht : t < 7) : Wp d md_189 0 [some (.ref 287), some (.int (nI t)), none, none, none, none] [] (mset M σ) (fun v M' => v = none ∧ ∃ h, M' = mset M (aset σ 13 h) ∧ FarOf h K t) := by
  obtain ⟨b0, b1, b2, b3, b4, b5, b6, b7, b8, b9, b10, b11, b12⟩ := ok_h ok
  have e : mset M σ = mset M (aset σ 13 (σ.2.2.1 13)) := by rw [aset_same]
  rw [e]
  refine Wp.n (pc' := 2) 2 rfl ?_
  refine m_lf_i ht 7 0 _ (by omega) (fun q hq => by omega) (fun h0 hh0 => ?_)
  refine Wp.n (pc' := 33) 2 rfl ?_
  refine m_lf_n hM ok (kh K 0) 0 h0 _ _ _ (by omega) hh0 (fun h' z3 z4 z5 hh' => ?_)
  refine Wp.retV (len := 1) rfl rfl ⟨rfl, h', rfl, fun p hp => ?_⟩
  rw [hh' p (by omega), bf_dist ok hp]
theorem m_byRoad (hM : RepM σ 0 K) (ok : KOK K) {a t : Nat} (ha : a < kh K 0) (ht : t < 7) : Wp (d + 1) md_188 0 [some (.ref 287), some (.int (nI a)), some (.int (nI t))] [] (mset M σ) (fun v M' => v = some (.int (dI (distK K a t))) ∧ ∃ h, M' = mset M (aset σ 13 h) ∧ FarOf h K t) := by
  obtain ⟨b0, b1, b2, b3, b4, b5, b6, b7, b8, b9, b10, b11, b12⟩ := ok_h ok
  have hd := dist_le ok a t
  unfold dI
  refine Wp.n (pc' := 2) 2 rfl ?_
  refine Wp.callV (len := 3) rfl rfl rfl (rfl) rfl (by decide) rfl (m_laysFar hM ok ht) ?_
  rintro _ _ ⟨rfl, h, rfl, hh⟩
  refine Wp.n (pc' := 10) 3 rfl ?_
  refine Wp.mialdN (j := a) (len := 1) rfl rfl rfl (by omega) ?_
  refine Wp.top (hh a ha) ?_
  refine Wp.n (pc' := 13) 1 rfl ?_
  refine Wp.nc2 (x := distK K a t) (y := 1000000) (tgt := 20) (len := 3) rfl (by omega) (by omega) (fun h13 => ?_) (fun h13 => ?_)
  · skip
    refine Wp.n (pc' := 25) 3 rfl ?_
    refine Wp.mialdN (j := a) (len := 1) rfl rfl rfl (by omega) ?_
    refine Wp.top (hh a ha) ?_
    refine Wp.retI (len := 1) rfl rfl ?_
    first | (rw [if_pos (by omega)]; exact ⟨rfl, h, rfl, hh⟩) | (rw [if_neg (by omega)]; exact ⟨rfl, h, rfl, hh⟩)
  · skip
    refine Wp.n (pc' := 26) 2 rfl ?_
    refine Wp.retI (len := 1) rfl rfl ?_
    first | (rw [if_pos (by omega)]; exact ⟨rfl, h, rfl, hh⟩) | (rw [if_neg (by omega)]; exact ⟨rfl, h, rfl, hh⟩)

theorem k_byRoad {r : Nat} {ρ : RC} (hR : RA M r ρ) (hD : DC (rds ρ) K (distK K)) (ok : KOK K) {a b : Nat} (ha : a < kh K 0) (hb : b < kh K 0) : Ev (d + 1) md_34 0 [some (.ref r), some (.int (nI a)), some (.int (nI b)), none] [] M (some (.int (dI (distK K a b))), M) := by
  obtain ⟨b0, b1, b2, b3, b4, b5, b6, b7, b8, b9, b10, b11, b12⟩ := ok_h ok
  have w := ra_ev hR (c_byRoad (d := d) (M := M) (r := r) (ρ := ρ) a b (by omega) (by omega))
  have hd := dist_le ok a b
  rw [hD a b ha hb, nI_toInt (by omega)] at w
  unfold dI
  by_cases c : distK K a b < 1000000
  · rw [if_pos c]
    rw [if_pos (by omega)] at w
    exact w
  · rw [if_neg c]
    rw [if_neg (by omega)] at w
    exact w
end FAR
end
section
/-! THE WAY BY ROAD. -/
def nxtP (K : KD) (t p q : Nat) : Bool := match roadK K p q with
  | none => false
  | some j => decide (kr K j 2 + distK K q t = distK K p t)
def nxt (K : KD) (t p : Nat) : Option Nat := fnd (nxtP K t p) (kh K 0) 0
def wayK (K : KD) (f t : Nat) : Nat → Option Nat
  | 0 => some f
  | i + 1 => (wayK K f t i).bind (nxt K t)
def wayA (K : KD) (f t : Nat) (x : Int32) : Int32 := if x < 0 ∨ ¬ distK K f t < 1000000 then -1 else oI (wayK K f t x.toNatClampNeg)
theorem fnd_some {p : Nat → Bool} : ∀ {n i j : Nat}, i ≤ j → j < i + n → p j = true → ∃ k, fnd p n i = some k
  | 0, i, j, h1, h2, _ => by omega
  | n + 1, i, j, h1, h2, hp => by
    unfold fnd
    by_cases e : p i = true
    · rw [if_pos e]; exact ⟨i, rfl⟩
    · rw [if_neg e]
      have : j ≠ i := fun q => e (q ▸ hp)
      exact fnd_some (by omega) (by omega) hp
section WAY
variable {d : Nat} {M : AM} {r : Nat} {ρ : RC} {σ : MS} {K : KD} {Q : Option Value → AM → Prop}
theorem nxt_v (ok : KOK K) {t p q : Nat} (h : nxt K t p = some q) : q < kh K 0 ∧ distK K q t < distK K p t := by
  obtain ⟨h1, h2, h3⟩ := fnd_lt h
  refine ⟨by omega, ?_⟩
  unfold nxtP at h3
  cases hr : roadK K p q with
  | none => rw [hr] at h3; cases h3
  | some j =>
    rw [hr] at h3
    have h4 : kr K j 2 + distK K q t = distK K p t := of_decide_eq_true h3
    have := ok_road ok (roadK_v hr).1
    omega
theorem nxt_t (ok : KOK K) {t : Nat} : nxt K t t = none := by
  cases h : nxt K t t with
  | none => rfl
  | some q =>
    have := (nxt_v ok h).2
    rw [(dist_g ok).1 t] at this
    omega
theorem nxt_s (ok : KOK K) {t p : Nat} (h : distK K p t < 1000000) (hp : p ≠ t) : ∃ q, nxt K t p = some q := by
  obtain ⟨c, w, h1, h2⟩ := dist_step ok h hp
  have hb := Eg_b ok h1
  refine fnd_some (j := c) (by omega) (by omega) ?_
  obtain ⟨i, hi, h3, rfl⟩ := h1
  unfold nxtP
  rw [roadK_uni ok hi h3]
  exact decide_eq_true h2.symm
theorem wayK_v (ok : KOK K) {f t : Nat} (hf : f < kh K 0) : ∀ {i p : Nat}, wayK K f t i = some p → p < kh K 0 ∧ distK K p t ≤ distK K f t ∧ rnk K t p + i ≤ rnk K t f
  | 0, p, h => by cases h; exact ⟨hf, by omega, by omega⟩
  | i + 1, p, h => by
    unfold wayK at h
    cases hw : wayK K f t i with
    | none => rw [hw] at h; cases h
    | some q =>
      rw [hw] at h
      obtain ⟨a1, a2, a3⟩ := wayK_v ok hf hw
      obtain ⟨c1, c2⟩ := nxt_v ok (show nxt K t q = some p from h)
      have := rnk_s (t := t) (p := q) c1 c2
      exact ⟨c1, by omega, by omega⟩
theorem wayK_7 (ok : KOK K) {f t : Nat} (hf : f < kh K 0) {i : Nat} (hi : 7 ≤ i) : wayK K f t i = none := by
  cases h : wayK K f t i with
  | none => rfl
  | some p =>
    have h1 := (wayK_v ok hf h).2.2
    have h2 := rnk_lt (t := t) hf
    have h3 := (ok_h ok).1
    omega
theorem wayK_n {f t i : Nat} (h : wayK K f t i = none) : ∀ n, wayK K f t (i + n) = none
  | 0 => h
  | n + 1 => by
    show (wayK K f t (i + n)).bind (nxt K t) = none
    rw [wayK_n h n]
    rfl

theorem k_next_l (hR : RA M r ρ) (hK : RepC ρ K) (hD : DC (rds ρ) K (distK K)) (ok : KOK K) (h32 : 32 ≤ r) {p t : Nat} (hp : p < kh K 0) (ht : t < kh K 0) (hpt : distK K p t < 1000000) : ∀ (n q : Nat) (z : Option Value), q + n = kh K 0 → Wp (d + 2) md_36 2 [some (.ref r), some (.int (nI p)), some (.int (nI t)), some (.int (nI q)), z] [] M (IsR (some (.int (oI (fnd (nxtP K t p) n q)))) M) := by
  intro n
  obtain ⟨b0, b1, b2, b3, b4, b5, b6, b7, b8, b9, b10, b11, b12⟩ := ok_h ok
  have e2 : dI (distK K p t) = nI (distK K p t) := if_pos hpt
  induction n with
  | zero =>
    intro q z hq
    refine Wp.n (pc' := 4) 2 rfl ?_
    refine Wp.get (len := 3) rfl (ra_obj hR) rfl ?_
    refine Wp.top (rc_pl hK) ?_
    refine Wp.nc3 (x := q) (y := kh K 0) (tgt := 62) (len := 3) rfl (by omega) (by omega) (fun h7 => ?_) (fun h7 => ?_)
    · skip
      refine Wp.n (pc' := 63) 1 rfl ?_
      refine Wp.retI (len := 1) rfl rfl ?_
      exact ⟨rfl, rfl⟩
    · omega
  | succ n ih =>
    intro q z hq
    have hw := fun z => ih (q + 1) z (by omega)
    by_cases c : distK K q t < 1000000
    · have e1 : dI (distK K q t) = nI (distK K q t) := if_pos c
      refine Wp.n (pc' := 4) 2 rfl ?_
      refine Wp.get (len := 3) rfl (ra_obj hR) rfl ?_
      refine Wp.top (rc_pl hK) ?_
      refine Wp.nc3 (x := q) (y := kh K 0) (tgt := 62) (len := 3) rfl (by omega) (by omega) (fun h7 => ?_) (fun h7 => ?_)
      · omega
      · skip
        refine Wp.n (pc' := 13) 3 rfl ?_
        refine Wp.ecallV (len := 3) rfl rfl rfl (ra_obj hR) rfl h32 rfl (k_roadOf hR hK ok (by omega) (by omega)) ?_
        rcases hrd : roadK K p q with _ | j
        · have hx : nxtP K t p q = false := by
            unfold nxtP
            rw [hrd]
          refine Wp.n (pc' := 20) 2 rfl ?_
          refine Wp.s (pc' := 56) rfl ?_
          refine Wp.incN (x := q) (len := 3) rfl rfl ?_
          refine Wp.n (pc' := 2) 1 rfl ?_
          unfold fnd
          rw [if_neg (by rw [hx]; first | decide | (rw [decide_eq_false (by omega)]; decide))]
          exact hw _
        · have hj := (roadK_v hrd).1
          have ho := ok_road ok hj
          have hx : nxtP K t p q = decide (kr K j 2 + distK K q t = distK K p t) := by
            unfold nxtP
            rw [hrd]
          refine Wp.n (pc' := 20) 2 rfl ?_
          refine Wp.s (pc' := 23) rfl ?_
          refine Wp.n (pc' := 26) 3 rfl ?_
          refine Wp.ecallV (len := 3) rfl rfl rfl (ra_obj hR) rfl h32 rfl (k_byRoad hR hD ok (by omega) (by omega)) ?_
          refine Wp.top e1 ?_
          refine Wp.n (pc' := 30) 1 rfl ?_
          refine Wp.ic0 (tgt := 56) (len := 3) rfl (fun h30 => ?_) (fun h30 => ?_)
          · exact absurd h30 (oI_ne (by omega))
          · skip
            refine Wp.n (pc' := 35) 1 rfl ?_
            refine Wp.get (len := 3) rfl (ra_road hR (by omega)) rfl ?_
            refine Wp.top (rc_road hK hj).2.2.1 ?_
            refine Wp.n (pc' := 41) 3 rfl ?_
            refine Wp.ecallV (len := 3) rfl rfl rfl (ra_obj hR) rfl h32 rfl (k_byRoad hR hD ok (by omega) (by omega)) ?_
            refine Wp.top e1 ?_
            refine Wp.iaddN (x := kr K j 2) (y := distK K q t) (len := 1) rfl ?_
            refine Wp.n (pc' := 48) 3 rfl ?_
            refine Wp.ecallV (len := 3) rfl rfl rfl (ra_obj hR) rfl h32 rfl (k_byRoad hR hD ok (by omega) (by omega)) ?_
            refine Wp.top e2 ?_
            refine Wp.nc1 (x := (kr K j 2) + (distK K q t)) (y := distK K p t) (tgt := 56) (len := 3) rfl (by omega) (by omega) (fun h51 => ?_) (fun h51 => ?_)
            · skip
              refine Wp.incN (x := q) (len := 3) rfl rfl ?_
              refine Wp.n (pc' := 2) 1 rfl ?_
              unfold fnd
              rw [if_neg (by rw [hx]; first | decide | (rw [decide_eq_false (by omega)]; decide))]
              exact hw _
            · skip
              refine Wp.n (pc' := 55) 1 rfl ?_
              refine Wp.retI (len := 1) rfl rfl ?_
              refine ⟨?_, rfl⟩
              unfold fnd
              rw [if_pos (by rw [hx]; exact decide_eq_true (by omega))]
              rfl
    · have e1 : dI (distK K q t) = -1 := if_neg c
      refine Wp.n (pc' := 4) 2 rfl ?_
      refine Wp.get (len := 3) rfl (ra_obj hR) rfl ?_
      refine Wp.top (rc_pl hK) ?_
      refine Wp.nc3 (x := q) (y := kh K 0) (tgt := 62) (len := 3) rfl (by omega) (by omega) (fun h7 => ?_) (fun h7 => ?_)
      · omega
      · skip
        refine Wp.n (pc' := 13) 3 rfl ?_
        refine Wp.ecallV (len := 3) rfl rfl rfl (ra_obj hR) rfl h32 rfl (k_roadOf hR hK ok (by omega) (by omega)) ?_
        rcases hrd : roadK K p q with _ | j
        · have hx : nxtP K t p q = false := by
            unfold nxtP
            rw [hrd]
          refine Wp.n (pc' := 20) 2 rfl ?_
          refine Wp.s (pc' := 56) rfl ?_
          refine Wp.incN (x := q) (len := 3) rfl rfl ?_
          refine Wp.n (pc' := 2) 1 rfl ?_
          unfold fnd
          rw [if_neg (by rw [hx]; first | decide | (rw [decide_eq_false (by omega)]; decide))]
          exact hw _
        · have hj := (roadK_v hrd).1
          have ho := ok_road ok hj
          have hx : nxtP K t p q = decide (kr K j 2 + distK K q t = distK K p t) := by
            unfold nxtP
            rw [hrd]
          refine Wp.n (pc' := 20) 2 rfl ?_
          refine Wp.s (pc' := 23) rfl ?_
          refine Wp.n (pc' := 26) 3 rfl ?_
          refine Wp.ecallV (len := 3) rfl rfl rfl (ra_obj hR) rfl h32 rfl (k_byRoad hR hD ok (by omega) (by omega)) ?_
          refine Wp.top e1 ?_
          refine Wp.n (pc' := 30) 1 rfl ?_
          refine Wp.ic0 (tgt := 56) (len := 3) rfl (fun h30 => ?_) (fun h30 => ?_)
          · skip
            refine Wp.incN (x := q) (len := 3) rfl rfl ?_
            refine Wp.n (pc' := 2) 1 rfl ?_
            unfold fnd
            rw [if_neg (by rw [hx]; first | decide | (rw [decide_eq_false (by omega)]; decide))]
            exact hw _
          · exact absurd rfl h30

theorem k_next (hR : RA M r ρ) (hK : RepC ρ K) (hD : DC (rds ρ) K (distK K)) (ok : KOK K) (h32 : 32 ≤ r) {p t : Nat} (hp : p < kh K 0) (ht : t < kh K 0) (hpt : distK K p t < 1000000) : Ev (d + 2) md_36 0 [some (.ref r), some (.int (nI p)), some (.int (nI t)), none, none] [] M (some (.int (oI (nxt K t p))), M) := by
  refine Wp.toEv ?_
  refine Wp.n (pc' := 2) 2 rfl ?_
  exact k_next_l hR hK hD ok h32 hp ht hpt (kh K 0) 0 none (by omega)
theorem k_pbr_l (hR : RA M r ρ) (hK : RepC ρ K) (hD : DC (rds ρ) K (distK K)) (ok : KOK K) (h32 : 32 ≤ r) {f t i : Nat} (hf : f < kh K 0) (ht : t < kh K 0) (hft : distK K f t < 1000000) (hi : i < 7) : ∀ (n g : Nat), g + n = i → Wp (d + 3) md_35 28 [some (.ref r), some (.int (nI f)), some (.int (nI t)), some (.int (nI i)), some (.int (oI (wayK K f t g))), some (.int (nI g))] [] M (IsR (some (.int (oI (wayK K f t i)))) M) := by
  intro n
  obtain ⟨b0, b1, b2, b3, b4, b5, b6, b7, b8, b9, b10, b11, b12⟩ := ok_h ok
  induction n with
  | zero =>
    intro g hg
    refine Wp.n (pc' := 31) 2 rfl ?_
    refine Wp.nc3 (x := g) (y := i) (tgt := 59) (len := 3) rfl (by omega) (by omega) (fun h31 => ?_) (fun h31 => ?_)
    · skip
      refine Wp.n (pc' := 61) 1 rfl ?_
      refine Wp.retI (len := 1) rfl rfl ?_
      rw [show g = i by omega]
      exact ⟨rfl, rfl⟩
    · omega
  | succ n ih =>
    intro g hg
    have w := ih (g + 1) (by omega)
    rw [show wayK K f t (g + 1) = (wayK K f t g).bind (nxt K t) from rfl] at w
    refine Wp.n (pc' := 31) 2 rfl ?_
    refine Wp.nc3 (x := g) (y := i) (tgt := 59) (len := 3) rfl (by omega) (by omega) (fun h31 => ?_) (fun h31 => ?_)
    · omega
    · skip
      rcases hc : wayK K f t g with _ | p
      · rw [hc] at w
        refine Wp.n (pc' := 37) 2 rfl ?_
        refine Wp.ic1 (tgt := 44) (len := 3) rfl (fun h37 => ?_) (fun h37 => ?_)
        · exact absurd rfl h37
        · skip
          refine Wp.n (pc' := 53) 3 rfl ?_
          refine Wp.incN (x := g) (len := 3) rfl rfl ?_
          refine Wp.n (pc' := 28) 1 rfl ?_
          exact w
      · rw [hc] at w
        obtain ⟨p1, p2, _⟩ := wayK_v ok hf hc
        refine Wp.n (pc' := 37) 2 rfl ?_
        refine Wp.ic1 (tgt := 44) (len := 3) rfl (fun h37 => ?_) (fun h37 => ?_)
        · skip
          refine Wp.n (pc' := 48) 3 rfl ?_
          refine Wp.ecallV (len := 3) rfl rfl rfl (ra_obj hR) rfl h32 rfl (k_next hR hK hD ok h32 p1 ht (by omega)) ?_
          refine Wp.n (pc' := 53) 1 rfl ?_
          refine Wp.incN (x := g) (len := 3) rfl rfl ?_
          refine Wp.n (pc' := 28) 1 rfl ?_
          exact w
        · exact absurd h37 (oI_ne (by omega))

theorem k_placeByRoad (hR : RA M r ρ) (hK : RepC ρ K) (hD : DC (rds ρ) K (distK K)) (ok : KOK K) (h32 : 32 ≤ r) {f t : Nat} (hf : f < kh K 0) (ht : t < kh K 0) (x : Int32) : Ev (d + 3) md_35 0 [some (.ref r), some (.int (nI f)), some (.int (nI t)), some (.int x), none, none] [] M (some (.int (wayA K f t x)), M) := by
  refine Wp.toEv ?_
  obtain ⟨b0, b1, b2, b3, b4, b5, b6, b7, b8, b9, b10, b11, b12⟩ := ok_h ok
  unfold wayA
  by_cases h0 : x < 0
  · rw [if_pos (Or.inl h0)]
    refine Wp.n (pc' := 1) 1 rfl ?_
    refine Wp.if2 (tgt := 20) (len := 3) rfl (fun h1 => ?_) (fun h1 => ?_)
    · skip
      refine Wp.n (pc' := 21) 1 rfl ?_
      refine Wp.retI (len := 1) rfl rfl ?_
      exact ⟨rfl, rfl⟩
    · exact absurd h0 h1
  · obtain ⟨i, hi, rfl⟩ := nI_of h0
    rw [nI_clamp hi]
    by_cases c : distK K f t < 1000000
    · rw [if_neg (by intro q; rcases q with q | q; exact h0 q; exact q c)]
      have e1 : dI (distK K f t) = nI (distK K f t) := if_pos c
      refine Wp.n (pc' := 1) 1 rfl ?_
      refine Wp.nz2 (x := i) (tgt := 20) (len := 3) rfl (by omega) ?_
      refine Wp.n (pc' := 7) 2 rfl ?_
      refine Wp.nc3 (x := i) (y := 7) (tgt := 20) (len := 3) rfl (by omega) (by omega) (fun h7 => ?_) (fun h7 => ?_)
      · skip
        refine Wp.n (pc' := 21) 1 rfl ?_
        refine Wp.retI (len := 1) rfl rfl ?_
        rw [wayK_7 ok hf h7]
        exact ⟨rfl, rfl⟩
      · skip
        refine Wp.n (pc' := 13) 3 rfl ?_
        refine Wp.ecallV (len := 3) rfl rfl rfl (ra_obj hR) rfl h32 rfl (k_byRoad hR hD ok (by omega) (by omega)) ?_
        refine Wp.top e1 ?_
        refine Wp.n (pc' := 17) 1 rfl ?_
        refine Wp.ic1 (tgt := 22) (len := 3) rfl (fun h17 => ?_) (fun h17 => ?_)
        · skip
          refine Wp.n (pc' := 28) 4 rfl ?_
          exact k_pbr_l hR hK hD ok h32 hf ht c (by omega) i 0 (by omega)
        · exact absurd h17 (oI_ne (by omega))
    · rw [if_pos (Or.inr c)]
      have e1 : dI (distK K f t) = -1 := if_neg c
      refine Wp.n (pc' := 1) 1 rfl ?_
      refine Wp.nz2 (x := i) (tgt := 20) (len := 3) rfl (by omega) ?_
      refine Wp.n (pc' := 7) 2 rfl ?_
      refine Wp.nc3 (x := i) (y := 7) (tgt := 20) (len := 3) rfl (by omega) (by omega) (fun h7 => ?_) (fun h7 => ?_)
      · skip
        refine Wp.n (pc' := 21) 1 rfl ?_
        refine Wp.retI (len := 1) rfl rfl ?_
        exact ⟨rfl, rfl⟩
      · skip
        refine Wp.n (pc' := 13) 3 rfl ?_
        refine Wp.ecallV (len := 3) rfl rfl rfl (ra_obj hR) rfl h32 rfl (k_byRoad hR hD ok (by omega) (by omega)) ?_
        refine Wp.top e1 ?_
        refine Wp.n (pc' := 17) 1 rfl ?_
        refine Wp.ic1 (tgt := 22) (len := 3) rfl (fun h17 => ?_) (fun h17 => ?_)
        · exact absurd rfl h17
        · skip
          refine Wp.n (pc' := 21) 1 rfl ?_
          refine Wp.retI (len := 1) rfl rfl ?_
          exact ⟨rfl, rfl⟩

end WAY
end
section
/-! THE REFERENCE'S QUESTIONS: what may change, bounds, the way by road. -/
/-- only fields of F and rows of A may differ -/
def Fr (F A : List Nat) (σ σ' : MS) : Prop := (∀ j, List.elem j F = false → σ'.1 j = σ.1 j) ∧ (∀ k, List.elem k A = false → σ'.2.2.1 k = σ.2.2.1 k) ∧ σ'.2.1 = σ.2.1 ∧ σ'.2.2.2 = σ.2.2.2
theorem upd_ne {f : Nat → Int32} {k j : Nat} {x : Int32} (h : j ≠ k) : upd f k x j = f j := pk_un h
section FR
variable {F A : List Nat} {σ σ' σ'' : MS}
theorem Fr.rfl' : Fr F A σ σ := ⟨fun _ _ => rfl, fun _ _ => rfl, rfl, rfl⟩
theorem Fr.trans (h : Fr F A σ σ') (h' : Fr F A σ' σ'') : Fr F A σ σ'' := ⟨fun j hj => (h'.1 j hj).trans (h.1 j hj), fun k hk => (h'.2.1 k hk).trans (h.2.1 k hk), h'.2.2.1.trans h.2.2.1, h'.2.2.2.trans h.2.2.2⟩
theorem Fr.fset {j : Nat} {x : Int32} (h : Fr F A σ σ') (hj : List.elem j F = true) : Fr F A σ (fset σ' j x) := ⟨fun i hi => (upd_ne (fun e => by rw [e, hj] at hi; cases hi)).trans (h.1 i hi), h.2.1, h.2.2.1, h.2.2.2⟩
theorem Fr.aset {k : Nat} {f : Nat → Int32} (h : Fr F A σ σ') (hk : List.elem k A = true) : Fr F A σ (aset σ' k f) := ⟨h.1, fun i hi => (va_up_ne _ _ (fun e => by rw [e, hk] at hi; cases hi)).trans (h.2.1 i hi), h.2.2.1, h.2.2.2⟩
theorem Fr.mono {F' A' : List Nat} (h : Fr F A σ σ') (hF : F.all (fun j => List.elem j F') = true) (hA : A.all (fun j => List.elem j A') = true) : Fr F' A' σ σ' := by
  refine ⟨fun j hj => h.1 j ?_, fun k hk => h.2.1 k ?_, h.2.2.1, h.2.2.2⟩
  · cases e : List.elem j F with
    | false => rfl
    | true =>
      have := List.all_eq_true.mp hF j (List.elem_iff.mp e)
      rw [hj] at this
      cases this
  · cases e : List.elem k A with
    | false => rfl
    | true =>
      have := List.all_eq_true.mp hA k (List.elem_iff.mp e)
      rw [hk] at this
      cases this
end FR
/-- scratch -/
abbrev SF : List Nat := [27, 28, 29, 30, 32, 33, 34, 35, 36, 37, 38, 39, 40, 41, 42]
abbrev SA : List Nat := [13, 14, 15, 16, 17]
def Scr (σ σ' : MS) : Prop := Fr SF SA σ σ'
def MK (σ : MS) (K : KD) : Prop := RepM σ 0 K ∧ KOK K ∧ σ.1 25 = nI (kh K 11) ∧ σ.1 0 = 0
theorem RepM_fr {σ σ' : MS} {s : Nat} {K : KD} (h : RepM σ s K) (e5 : σ'.2.2.1 5 = σ.2.2.1 5) (e6 : σ'.2.2.1 6 = σ.2.2.1 6) (e7 : σ'.2.2.1 7 = σ.2.2.1 7) (e9 : σ'.2.2.1 9 = σ.2.2.1 9) (e10 : σ'.2.2.1 10 = σ.2.2.1 10) (e11 : σ'.2.2.1 11 = σ.2.2.1 11) (e8 : σ'.2.2.2 8 = σ.2.2.2 8) : RepM σ' s K := by
  unfold RepM at *
  rw [e5, e6, e7, e8, e9, e10, e11]
  exact h
theorem RepM_scr {σ σ' : MS} {s : Nat} {K : KD} (h : RepM σ s K) (e : Scr σ σ') : RepM σ' s K := RepM_fr h (e.2.1 5 rfl) (e.2.1 6 rfl) (e.2.1 7 rfl) (e.2.1 9 rfl) (e.2.1 10 rfl) (e.2.1 11 rfl) (by rw [e.2.2.2])
theorem MK_scr {σ σ' : MS} {K : KD} (h : MK σ K) (e : Scr σ σ') : MK σ' K := ⟨RepM_scr h.1 e, h.2.1, (e.1 25 rfl).trans h.2.2.1, (e.1 0 rfl).trans h.2.2.2⟩
/-- a number below n -/
def isN (n : Nat) (x : Int32) : Bool := decide (0 ≤ x.toInt ∧ x.toInt < (n : Int))
theorem isN_of {n : Nat} {x : Int32} (h : isN n x = true) : ∃ a : Nat, a < n ∧ x = nI a := by
  have h1 := of_decide_eq_true h
  obtain ⟨a, ha, rfl⟩ := nI_of (x := x) (by rw [i_lt]; intro q; have : x.toInt < 0 := q; omega)
  refine ⟨a, ?_, rfl⟩
  rw [nI_toInt ha] at h1
  omega
theorem isN_nI {n a : Nat} (ha : a < 2 ^ 31) : isN n (nI a) = decide (a < n) := by
  unfold isN
  rw [nI_toInt ha]
  by_cases h : a < n
  · rw [decide_eq_true h, decide_eq_true (by omega)]
  · rw [decide_eq_false h, decide_eq_false (by omega)]
theorem isN_le {n : Nat} {x y : Int32} (hn : n < 2 ^ 30) (hy : y = nI n) : decide (0 ≤ x.toInt ∧ x.toInt ≤ (y - 1).toInt) = isN n x := by
  unfold isN
  rw [hy, show (nI n - 1).toInt = (n : Int) - 1 from pk_sub_toInt (a := n) (b := 1) hn (by decide)]
  by_cases h : 0 ≤ x.toInt ∧ x.toInt < (n : Int)
  · rw [decide_eq_true h, decide_eq_true (by omega)]
  · rw [decide_eq_false h, decide_eq_false (by omega)]
section RQ
variable {d : Nat} {M : AM} {σ : MS} {K : KD} {Q : Option Value → AM → Prop}
theorem m_isPlaceK (hM : RepM σ 0 K) (ok : KOK K) (x : Int32) : Ev (d + 1) md_187 0 [some (.ref 287), some (.int x)] [] (mset M σ) (some (.int (bI (isN (kh K 0) x))), mset M σ) := by
  obtain ⟨b0, b1, b2, b3, b4, b5, b6, b7, b8, b9, b10, b11, b12⟩ := ok_h ok
  rw [← isN_le (n := kh K 0) (by omega) (r0_has hM (j := 0) (by decide))]
  exact m_isPlace σ x
theorem m_isDayK (hM : RepM σ 0 K) (ok : KOK K) (x : Int32) : Ev (d + 1) md_193 0 [some (.ref 287), some (.int x)] [] (mset M σ) (some (.int (bI (isN (kh K 1) x))), mset M σ) := by
  obtain ⟨b0, b1, b2, b3, b4, b5, b6, b7, b8, b9, b10, b11, b12⟩ := ok_h ok
  rw [← isN_le (n := kh K 1) (by omega) (r0_has hM (j := 1) (by decide))]
  exact m_isDay σ x
theorem m_isWalkK (hM : RepM σ 0 K) (ok : KOK K) (x : Int32) : Ev (d + 1) md_199 0 [some (.ref 287), some (.int x)] [] (mset M σ) (some (.int (bI (isN (kh K 4) x))), mset M σ) := by
  obtain ⟨b0, b1, b2, b3, b4, b5, b6, b7, b8, b9, b10, b11, b12⟩ := ok_h ok
  rw [← isN_le (n := kh K 4) (by omega) (r0_has hM (j := 4) (by decide))]
  exact m_isWalk σ x
def areT (K : KD) (x y : Int32) : Bool := isN (kh K 0) x && isN (kh K 0) y && !(decide (x = y))
theorem m_areTwo (hM : RepM σ 0 K) (ok : KOK K) (x y : Int32) : Ev (d + 2) md_196 0 [some (.ref 287), some (.int x), some (.int y)] [] (mset M σ) (some (.int (bI (areT K x y))), mset M σ) := by
  refine Wp.toEv ?_
  unfold areT
  refine Wp.n (pc' := 2) 2 rfl ?_
  refine Wp.ecallV (len := 3) rfl rfl rfl (rfl) rfl (by decide) rfl (m_isPlaceK hM ok _) ?_
  refine Wp.ifb0 (tgt := 25) (len := 3) rfl (fun h5 => ?_) (fun h5 => ?_)
  · skip
    refine Wp.n (pc' := 26) 1 rfl ?_
    refine Wp.retZ (len := 1) (c := false) rfl rfl rfl ?_
    exact ⟨by simp_all, rfl⟩
  · skip
    refine Wp.n (pc' := 10) 2 rfl ?_
    refine Wp.ecallV (len := 3) rfl rfl rfl (rfl) rfl (by decide) rfl (m_isPlaceK hM ok _) ?_
    refine Wp.ifb0 (tgt := 25) (len := 3) rfl (fun h13 => ?_) (fun h13 => ?_)
    · skip
      refine Wp.n (pc' := 26) 1 rfl ?_
      refine Wp.retZ (len := 1) (c := false) rfl rfl rfl ?_
      exact ⟨by simp_all, rfl⟩
    · skip
      refine Wp.n (pc' := 18) 2 rfl ?_
      refine Wp.ic0 (tgt := 25) (len := 3) rfl (fun h18 => ?_) (fun h18 => ?_)
      · skip
        refine Wp.n (pc' := 26) 1 rfl ?_
        refine Wp.retZ (len := 1) (c := false) rfl rfl rfl ?_
        exact ⟨by simp_all, rfl⟩
      · skip
        refine Wp.n (pc' := 26) 2 rfl ?_
        refine Wp.retZ (len := 1) (c := true) rfl rfl rfl ?_
        exact ⟨by simp_all, rfl⟩

def isT (K : KD) (x y z : Int32) : Bool := areT K x y && isN (kh K 1) z
theorem m_isTrip (hM : RepM σ 0 K) (ok : KOK K) (x y z : Int32) : Ev (d + 3) md_226 0 [some (.ref 287), some (.int x), some (.int y), some (.int z)] [] (mset M σ) (some (.int (bI (isT K x y z))), mset M σ) := by
  refine Wp.toEv ?_
  unfold isT
  refine Wp.n (pc' := 3) 3 rfl ?_
  refine Wp.ecallV (len := 3) rfl rfl rfl (rfl) rfl (by decide) rfl (m_areTwo hM ok _ _) ?_
  refine Wp.ifb0 (tgt := 21) (len := 3) rfl (fun h6 => ?_) (fun h6 => ?_)
  · skip
    refine Wp.n (pc' := 22) 1 rfl ?_
    refine Wp.retZ (len := 1) (c := false) rfl rfl rfl ?_
    exact ⟨by simp_all, rfl⟩
  · skip
    refine Wp.n (pc' := 11) 2 rfl ?_
    refine Wp.ecallV (len := 3) rfl rfl rfl (rfl) rfl (by decide) rfl (m_isDayK hM ok _) ?_
    refine Wp.ifb0 (tgt := 21) (len := 3) rfl (fun h14 => ?_) (fun h14 => ?_)
    · skip
      refine Wp.n (pc' := 22) 1 rfl ?_
      refine Wp.retZ (len := 1) (c := false) rfl rfl rfl ?_
      exact ⟨by simp_all, rfl⟩
    · skip
      refine Wp.n (pc' := 22) 2 rfl ?_
      refine Wp.retZ (len := 1) (c := true) rfl rfl rfl ?_
      exact ⟨by simp_all, rfl⟩

theorem m_isKingdom (hM : RepM σ 0 K) (ok : KOK K) : Ev d md_205 0 [some (.ref 287)] [] (mset M σ) (some (.int (bI (decide (0 < kh K 0)))), mset M σ) := by
  refine Wp.toEv ?_
  obtain ⟨b0, b1, b2, b3, b4, b5, b6, b7, b8, b9, b10, b11, b12⟩ := ok_h ok
  have hl := ok_ln ok
  refine Wp.n (pc' := 5) 3 rfl ?_
  refine Wp.mialdN (j := 0) (len := 1) rfl rfl rfl (by omega) ?_
  refine Wp.top (rm_ln hM) ?_
  refine Wp.nz5 (x := kh K 5) (tgt := 13) (len := 3) rfl (by omega) (fun h6 => ?_) (fun h6 => ?_)
  · skip
    refine Wp.n (pc' := 14) 1 rfl ?_
    refine Wp.retZ (len := 1) (c := false) rfl rfl rfl ?_
    exact ⟨by first | rw [decide_eq_true (by omega)] | rw [decide_eq_false (by omega)], rfl⟩
  · skip
    refine Wp.n (pc' := 14) 2 rfl ?_
    refine Wp.retZ (len := 1) (c := true) rfl rfl rfl ?_
    exact ⟨by first | rw [decide_eq_true (by omega)] | rw [decide_eq_false (by omega)], rfl⟩

theorem m_many0 (hM : RepM σ 0 K) (ok : KOK K) {w : Nat} (hw : w < kh K 4) : Ev (d + 1) md_203 0 [some (.ref 287), some (.int (nI w))] [] (mset M σ) (some (.int (nI (kw K w 3))), mset M σ) := by
  refine Wp.toEv ?_
  obtain ⟨b0, b1, b2, b3, b4, b5, b6, b7, b8, b9, b10, b11, b12⟩ := ok_h ok
  refine Wp.n (pc' := 3) 3 rfl ?_
  refine Wp.ecallV (len := 3) rfl rfl rfl (rfl) rfl (by decide) rfl (m_of σ w 3 (by omega)) ?_
  refine Wp.top (r0_walk hM hw (j := 3) (by decide) (by omega)) ?_
  refine Wp.retI (len := 1) rfl rfl ?_
  exact ⟨rfl, rfl⟩

theorem m_from (hM : RepM σ 0 K) (ok : KOK K) {w : Nat} (hw : w < kh K 4) : Ev (d + 1) md_201 0 [some (.ref 287), some (.int (nI w))] [] (mset M σ) (some (.int (nI (kw K w 4))), mset M σ) := by
  refine Wp.toEv ?_
  obtain ⟨b0, b1, b2, b3, b4, b5, b6, b7, b8, b9, b10, b11, b12⟩ := ok_h ok
  have t := ok_walk ok hw
  refine Wp.n (pc' := 3) 3 rfl ?_
  refine Wp.ecallV (len := 3) rfl rfl rfl (rfl) rfl (by decide) rfl (m_of σ w 4 (by omega)) ?_
  refine Wp.top (r0_stop hM hw (j := 0) (by omega) (by omega)) ?_
  refine Wp.retI (len := 1) rfl rfl ?_
  exact ⟨rfl, rfl⟩

theorem m_to (hM : RepM σ 0 K) (ok : KOK K) {w : Nat} (hw : w < kh K 4) : Ev (d + 2) md_202 0 [some (.ref 287), some (.int (nI w))] [] (mset M σ) (some (.int (nI (kw K w (3 + kw K w 3)))), mset M σ) := by
  refine Wp.toEv ?_
  obtain ⟨b0, b1, b2, b3, b4, b5, b6, b7, b8, b9, b10, b11, b12⟩ := ok_h ok
  have t := ok_walk ok hw
  have e := r0_stop hM hw (j := kw K w 3 - 1) (q := 11 * w + (3 + kw K w 3)) (by omega) (by omega)
  rw [show 4 + (kw K w 3 - 1) = 3 + kw K w 3 by omega] at e
  refine Wp.n (pc' := 5) 5 rfl ?_
  refine Wp.ecallV (len := 3) rfl rfl rfl (rfl) rfl (by decide) rfl (m_many0 hM ok hw) ?_
  refine Wp.iaddN (x := 3) (y := kw K w 3) (len := 1) rfl ?_
  refine Wp.ecallV (len := 3) rfl rfl rfl (rfl) rfl (by decide) rfl (m_of σ w (3 + kw K w 3) (by omega)) ?_
  refine Wp.top e ?_
  refine Wp.retI (len := 1) rfl rfl ?_
  exact ⟨rfl, rfl⟩


theorem m_way_o (hM : RepM σ 0 K) (ok : KOK K) {h : Nat → Int32} {f t p i k q : Nat} (hq : q < 7) (kk : ∀ z, Wp (d + 2) md_190 140 [some (.ref 287), some (.int (nI f)), some (.int (nI t)), some (.int (nI i)), some (.int (nI p)), some (.int (nI k)), some (.int (nI q)), z] [] (mset M (aset σ 13 h)) Q) : Wp (d + 2) md_190 66 [some (.ref 287), some (.int (nI f)), some (.int (nI t)), some (.int (nI i)), some (.int (nI p)), some (.int (nI k)), some (.int (nI q)), some (.int (nI (q + 1)))] [] (mset M (aset σ 13 h)) Q := by
  obtain ⟨b0, b1, b2, b3, b4, b5, b6, b7, b8, b9, b10, b11, b12⟩ := ok_h ok
  refine Wp.n (pc' := 73) 4 rfl ?_
  refine Wp.mialdN (j := 0) (len := 1) rfl rfl rfl (by omega) ?_
  refine Wp.top (r0_has hM (by decide)) ?_
  refine Wp.nc3 (x := q + 1) (y := kh K 0) (tgt := 140) (len := 3) rfl (by omega) (by omega) (fun h74 => ?_) (fun h74 => ?_)
  · skip
    exact kk _
  · skip
    refine Wp.n (pc' := 80) 2 rfl ?_
    refine Wp.ic1 (tgt := 140) (len := 3) rfl (fun h80 => ?_) (fun h80 => ?_)
    · skip
      exact kk _
    · exact absurd h80 (oI_ne (by omega))
theorem m_way_q (hM : RepM σ 0 K) (ok : KOK K) {h : Nat → Int32} {f t p i k : Nat} (hh : FarOf h K t) (hp : p < kh K 0) (hpt : distK K p t < 1000000) : ∀ (n q : Nat), q + n = kh K 0 → (∀ z, Wp (d + 2) md_190 140 [some (.ref 287), some (.int (nI f)), some (.int (nI t)), some (.int (nI i)), some (.int (nI p)), some (.int (nI k)), some (.int (oI (fnd (nxtP K t p) n q))), z] [] (mset M (aset σ 13 h)) Q) → Wp (d + 2) md_190 66 [some (.ref 287), some (.int (nI f)), some (.int (nI t)), some (.int (nI i)), some (.int (nI p)), some (.int (nI k)), some (.int (-1)), some (.int (nI q))] [] (mset M (aset σ 13 h)) Q := by
  intro n
  obtain ⟨b0, b1, b2, b3, b4, b5, b6, b7, b8, b9, b10, b11, b12⟩ := ok_h ok
  have dp := hh p hp
  induction n with
  | zero =>
    intro q hq kk
    refine Wp.n (pc' := 73) 4 rfl ?_
    refine Wp.mialdN (j := 0) (len := 1) rfl rfl rfl (by omega) ?_
    refine Wp.top (r0_has hM (by decide)) ?_
    refine Wp.nc3 (x := q) (y := kh K 0) (tgt := 140) (len := 3) rfl (by omega) (by omega) (fun h74 => ?_) (fun h74 => ?_)
    · skip
      exact kk _
    · omega
  | succ n ih =>
    intro q hq kk
    have dq := hh q (by omega)
    have dl := dist_le ok q t
    unfold fnd at kk
    refine Wp.n (pc' := 73) 4 rfl ?_
    refine Wp.mialdN (j := 0) (len := 1) rfl rfl rfl (by omega) ?_
    refine Wp.top (r0_has hM (by decide)) ?_
    refine Wp.nc3 (x := q) (y := kh K 0) (tgt := 140) (len := 3) rfl (by omega) (by omega) (fun h74 => ?_) (fun h74 => ?_)
    · omega
    · skip
      refine Wp.n (pc' := 80) 2 rfl ?_
      refine Wp.ic1 (tgt := 140) (len := 3) rfl (fun h80 => ?_) (fun h80 => ?_)
      · exact absurd rfl h80
      · skip
        refine Wp.n (pc' := 88) 3 rfl ?_
        refine Wp.ecallV (len := 3) rfl rfl rfl (rfl) rfl (by decide) rfl (m_roadOf (show RepM (aset σ 13 h) 0 K from hM) ok (by omega) (by omega)) ?_
        rcases hrd : roadK K p q with _ | j
        · have hx : nxtP K t p q = false := by
            unfold nxtP
            rw [hrd]
          rw [if_neg (by rw [hx]; decide)] at kk
          refine Wp.n (pc' := 92) 1 rfl ?_
          refine Wp.ic0 (tgt := 134) (len := 3) rfl (fun h92 => ?_) (fun h92 => ?_)
          · skip
            refine Wp.incN (x := q) (len := 3) rfl rfl ?_
            refine Wp.n (pc' := 66) 1 rfl ?_
            first
              | exact ih (q + 1) (by omega) kk
              | (rw [if_neg (by rw [hx, decide_eq_false (by omega)]; decide)] at kk; exact ih (q + 1) (by omega) kk)
              | (rw [if_pos (by rw [hx]; exact decide_eq_true (by omega))] at kk
                 exact m_way_o hM ok (by omega) kk)
          · exact absurd rfl h92
        · have hj := (roadK_v hrd).1
          have ho := ok_road ok hj
          have hx : nxtP K t p q = decide (kr K j 2 + distK K q t = distK K p t) := by
            unfold nxtP
            rw [hrd]
          refine Wp.n (pc' := 92) 1 rfl ?_
          refine Wp.ic0 (tgt := 134) (len := 3) rfl (fun h92 => ?_) (fun h92 => ?_)
          · exact absurd h92 (oI_ne (by omega))
          · skip
            refine Wp.n (pc' := 101) 3 rfl ?_
            refine Wp.mialdN (j := q) (len := 1) rfl rfl rfl (by omega) ?_
            refine Wp.top dq ?_
            refine Wp.n (pc' := 112) 6 rfl ?_
            refine Wp.ecallV (len := 3) rfl rfl rfl (rfl) rfl (by decide) rfl (m_roadOf (show RepM (aset σ 13 h) 0 K from hM) ok (by omega) (by omega)) ?_
            refine Wp.top (congrArg oI hrd) ?_
            refine Wp.imulN (x := 3) (y := j) (len := 1) rfl ?_
            refine Wp.n (pc' := 117) 1 rfl ?_
            refine Wp.iaddN (x := 3 * j) (y := 2) (len := 1) rfl ?_
            refine Wp.mialdN (j := (3 * j) + 2) (len := 1) rfl rfl rfl (by omega) ?_
            refine Wp.top (r0_road hM hj (j := 2) (by decide) (by omega)) ?_
            refine Wp.iaddN (x := distK K q t) (y := kr K j 2) (len := 1) rfl ?_
            refine Wp.n (pc' := 126) 3 rfl ?_
            refine Wp.mialdN (j := p) (len := 1) rfl rfl rfl (by omega) ?_
            refine Wp.top dp ?_
            refine Wp.nc1 (x := (distK K q t) + (kr K j 2)) (y := distK K p t) (tgt := 134) (len := 3) rfl (by omega) (by omega) (fun h127 => ?_) (fun h127 => ?_)
            · skip
              refine Wp.incN (x := q) (len := 3) rfl rfl ?_
              refine Wp.n (pc' := 66) 1 rfl ?_
              first
                | exact ih (q + 1) (by omega) kk
                | (rw [if_neg (by rw [hx, decide_eq_false (by omega)]; decide)] at kk; exact ih (q + 1) (by omega) kk)
                | (rw [if_pos (by rw [hx]; exact decide_eq_true (by omega))] at kk
                   exact m_way_o hM ok (by omega) kk)
            · skip
              refine Wp.n (pc' := 134) 2 rfl ?_
              refine Wp.incN (x := q) (len := 3) rfl rfl ?_
              refine Wp.n (pc' := 66) 1 rfl ?_
              first
                | exact ih (q + 1) (by omega) kk
                | (rw [if_neg (by rw [hx, decide_eq_false (by omega)]; decide)] at kk; exact ih (q + 1) (by omega) kk)
                | (rw [if_pos (by rw [hx]; exact decide_eq_true (by omega))] at kk
                   exact m_way_o hM ok (by omega) kk)


theorem m_way_l (hM : RepM σ 0 K) (ok : KOK K) {h : Nat → Int32} {f t i : Nat} (hh : FarOf h K t) (hf : f < kh K 0) (ht : t < kh K 0) (hft : distK K f t < 1000000) (hi : i < 2 ^ 31) : ∀ (n k p : Nat) (z6 z7 : Option Value), k + n = i → wayK K f t k = some p → Wp (d + 2) md_190 46 [some (.ref 287), some (.int (nI f)), some (.int (nI t)), some (.int (nI i)), some (.int (nI p)), some (.int (nI k)), z6, z7] [] (mset M (aset σ 13 h)) (IsR (some (.int (oI (wayK K f t i)))) (mset M (aset σ 13 h))) := by
  intro n
  obtain ⟨b0, b1, b2, b3, b4, b5, b6, b7, b8, b9, b10, b11, b12⟩ := ok_h ok
  induction n with
  | zero =>
    intro k p z6 z7 hk hw
    rw [show i = k by omega, hw]
    refine Wp.n (pc' := 49) 2 rfl ?_
    refine Wp.nc3 (x := k) (y := k) (tgt := 150) (len := 3) rfl (by omega) (by omega) (fun h49 => ?_) (fun h49 => ?_)
    · skip
      refine Wp.n (pc' := 152) 1 rfl ?_
      refine Wp.retI (len := 1) rfl rfl ?_
      exact ⟨rfl, rfl⟩
    · omega
  | succ n ih =>
    intro k p z6 z7 hk hw
    obtain ⟨p1, p2, _⟩ := wayK_v ok hf hw
    refine Wp.n (pc' := 49) 2 rfl ?_
    refine Wp.nc3 (x := k) (y := i) (tgt := 150) (len := 3) rfl (by omega) (by omega) (fun h49 => ?_) (fun h49 => ?_)
    · omega
    · skip
      refine Wp.n (pc' := 55) 2 rfl ?_
      refine Wp.nc1 (x := p) (y := t) (tgt := 60) (len := 3) rfl (by omega) (by omega) (fun h55 => ?_) (fun h55 => ?_)
      · skip
        refine Wp.n (pc' := 66) 4 rfl ?_
        obtain ⟨q, hq⟩ := nxt_s ok (t := t) (p := p) (by omega) h55
        refine m_way_q hM ok hh p1 (by omega) (kh K 0) 0 (by omega) (fun z => ?_)
        rw [show fnd (nxtP K t p) (kh K 0) 0 = some q from hq]
        refine Wp.n (pc' := 144) 2 rfl ?_
        refine Wp.incN (x := k) (len := 3) rfl rfl ?_
        refine Wp.n (pc' := 46) 1 rfl ?_
        exact ih (k + 1) q _ _ (by omega) (by show (wayK K f t k).bind (nxt K t) = some q; rw [hw]; exact hq)
        
      · skip
        refine Wp.n (pc' := 59) 1 rfl ?_
        refine Wp.retI (len := 1) rfl rfl ?_
        refine ⟨?_, rfl⟩
        have e : wayK K f t (k + 1) = none := by
          show (wayK K f t k).bind (nxt K t) = none
          rw [hw, h55]
          exact nxt_t ok
        have e2 := wayK_n e n
        rw [show k + 1 + n = i by omega] at e2
        rw [e2]
        rfl

theorem m_way (hM : RepM σ 0 K) (ok : KOK K) (hσ0 : σ.1 0 = 0) (x y i : Int32) : Wp (d + 3) md_190 0 [some (.ref 287), some (.int x), some (.int y), some (.int i), none, none, none, none] [] (mset M σ) (fun v M' => v = some (.int (if (isN (kh K 0) x && isN (kh K 0) y) = true then wayA K x.toNatClampNeg y.toNatClampNeg i else -2)) ∧ ∃ h, M' = mset M (aset σ 13 h)) := by
  obtain ⟨b0, b1, b2, b3, b4, b5, b6, b7, b8, b9, b10, b11, b12⟩ := ok_h ok
  have e0 : mset M σ = mset M (aset σ 13 (σ.2.2.1 13)) := by rw [aset_same]
  refine Wp.n (pc' := 2) 2 rfl ?_
  refine Wp.mput0 (len := 3) rfl hσ0 ?_
  refine Wp.n (pc' := 7) 2 rfl ?_
  refine Wp.ecallV (len := 3) rfl rfl rfl (rfl) rfl (by decide) rfl (m_isPlaceK hM ok _) ?_
  refine Wp.ifb0 (tgt := 21) (len := 3) rfl (fun h10 => ?_) (fun h10 => ?_)
  · skip
    refine Wp.n (pc' := 23) 1 rfl ?_
    refine Wp.retI (len := 1) rfl rfl ?_
    refine ⟨?_, σ.2.2.1 13, e0⟩
    first | (rw [h10]; rfl) | (rw [h10, h18]; rfl)
  · skip
    refine Wp.n (pc' := 15) 2 rfl ?_
    refine Wp.ecallV (len := 3) rfl rfl rfl (rfl) rfl (by decide) rfl (m_isPlaceK hM ok _) ?_
    refine Wp.ifb1 (tgt := 24) (len := 3) rfl (fun h18 => ?_) (fun h18 => ?_)
    · skip
      rw [h10, h18]
      obtain ⟨a, ha, rfl⟩ := isN_of h10
      obtain ⟨b, hb, rfl⟩ := isN_of h18
      rw [nI_clamp (by omega), nI_clamp (by omega)]
      have hd := dist_le ok a b
      refine Wp.n (pc' := 27) 3 rfl ?_
      refine Wp.callV (len := 3) rfl rfl rfl (rfl) rfl (by decide) rfl (m_byRoad hM ok ha (by omega)) ?_
      rintro _ _ ⟨rfl, h, rfl, hh⟩
      refine Wp.n (pc' := 31) 1 rfl ?_
      refine Wp.ic0 (tgt := 38) (len := 3) rfl (fun h31 => ?_) (fun h31 => ?_)
      · skip
        refine Wp.n (pc' := 39) 1 rfl ?_
        refine Wp.retI (len := 1) rfl rfl ?_
        refine ⟨?_, h, rfl⟩
        unfold wayA
        first
          | (rw [if_pos (show (true && true) = true from rfl), if_pos (Or.inl (by rw [i_lt]; rw [i_le] at h35; exact Int.not_le.mp h35))]; done)
          | (rw [if_pos (show (true && true) = true from rfl), if_pos (Or.inr (fun c => by rw [show dI (distK K a b) = nI (distK K a b) from if_pos c] at h31; exact oI_ne (by omega) h31))]; done)
      · skip
        refine Wp.n (pc' := 35) 1 rfl ?_
        refine Wp.if3 (tgt := 40) (len := 3) rfl (fun h35 => ?_) (fun h35 => ?_)
        · skip
          have hc : distK K a b < 1000000 := Decidable.byContradiction (fun c => h31 (if_neg c))
          obtain ⟨k, hk, rfl⟩ := nI_of (show ¬ i < 0 from fun q => by rw [i_lt] at q; rw [i_le] at h35; exact absurd (show (i.toInt < 0) from q) (by have : (0 : Int) ≤ i.toInt := h35; omega))
          refine Wp.n (pc' := 46) 4 rfl ?_
          refine Wp.mono (m_way_l hM ok hh ha hb hc hk k 0 a none none (by omega) rfl) (fun v M' q => ?_)
          obtain ⟨rfl, rfl⟩ := q
          refine ⟨?_, h, rfl⟩
          unfold wayA
          rw [if_pos (show (true && true) = true from rfl), if_neg (by intro q; rcases q with q | q; exact nI_pos hk q; exact q hc), nI_clamp hk]
        · skip
          refine Wp.n (pc' := 39) 1 rfl ?_
          refine Wp.retI (len := 1) rfl rfl ?_
          refine ⟨?_, h, rfl⟩
          unfold wayA
          first
            | (rw [if_pos (show (true && true) = true from rfl), if_pos (Or.inl (by rw [i_lt]; rw [i_le] at h35; exact Int.not_le.mp h35))]; done)
            | (rw [if_pos (show (true && true) = true from rfl), if_pos (Or.inr (fun c => by rw [show dI (distK K a b) = nI (distK K a b) from if_pos c] at h31; exact oI_ne (by omega) h31))]; done)
    · skip
      refine Wp.n (pc' := 23) 1 rfl ?_
      refine Wp.retI (len := 1) rfl rfl ?_
      refine ⟨?_, σ.2.2.1 13, e0⟩
      first | (rw [h10]; rfl) | (rw [h10, h18]; rfl)

end RQ
end
