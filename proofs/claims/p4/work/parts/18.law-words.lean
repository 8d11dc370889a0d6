/-! THE LAW, from its entry: the skeleton's head, and the start of the abstract run. -/
/-! THE CLAIM OUT OF ONE WALK OF THE LAW'S BODY. Your part is whole_start (and what it stands on); all else here is the same for every law, but numbers. -/
def R_law : String := "ShortcutDutyLaw"
def lw_P (b : Addr) (xs : List Int32) (args : Array Value) (s : State) : Prop := args = #[.ref b] ∧ s.IntsAt b xs ∧ xs.length ≤ 3072 ∧ (Jvm.Cond.and given_1 narrow_1).before args s = true
def lw_Q (_ : Array Value) (s : State) (o : Outcome) (t : State) : Prop := o = .returned (some (.int 1)) ∧ Framed s o t [] 600000 7302250
def lw_Z (below : List Frame) (a : Array Value) (s : State) : State → Prop := fun t => ∃ o, t.status = .running ∧ Ended t below o ∧ lw_Q a s o t
/-- the law's own end, with 1 on the stack, nothing written that was there before, its room as the claim has it -/
theorem lw_ret {p : Program} {l : Launch} {e : Env} {s : State} {m : MethodId} {below : List Frame} {meth : Method} {c : Code} {b : Nat} (hx : p.tables.exec = Jvm.exec) (hb : c.code = code) (hr : meth.sig.returnType = ret) (hlocks : meth.locks = false) {pc : Nat} {H : Heap} {ls : Array Slot} (hdg : decode code pc = .ok (.ireturn, 1)) : W p l e room_1 s m #[Value.ref b] below meth c H [] 600000 7302250 (lw_Z below #[Value.ref b] s) (F0 m pc ls [.int 1]) := by
  intro T hT X
  obtain ⟨fs, hret, hrun, hended, hW, hframe⟩ := X.leave (v := some (.int 1)) (hlocks := hlocks) (fun h => by rw [hr] at h; cases h)
  have hmeth' : T.vm.method? m = some meth := X.method'
  refine ⟨T.setFrames fs, ?_, .returned (some (.int 1)), hrun, hended, rfl, ⟨_, rfl⟩, hW, hframe⟩
  jvm_step X.here [X.here.top, hx, hb, hdg, hmeth', hr, ret, narrow_b1]
  (try refine ⟨rfl, ?_⟩); (try refine ⟨rfl, ?_⟩)
  first | (intro acts; rw [hret _ acts rfl rfl rfl]) | rw [hret _ _ rfl rfl rfl]
  exact Steps.refl _
/-- what holds at the law's entry: the machine, the code, the tables' words (any of lw_tbl by 'hts w (by decide +kernel)'), the script of L ints xs at the cell b, what the Statement gives of the start (any of its parts by flat_of_before) -/
def lw_At (p : Program) (s : State) (m : MethodId) (meth : Method) (c : Code) (b L : Nat) (xs : Nat → Int32) : Prop :=
  p.tables.exec = Jvm.exec ∧ c.code = code ∧ meth.sig.returnType = ret ∧ c.maxLocals = 4 ∧ s.vm.findClass R_law = some m.cls ∧ (∀ w ∈ lw_tbl, w.before #[Value.ref b] s = true) ∧ va_X b L xs s s.heap ∧ b < s.heap.size ∧ meth.locks = false ∧ (Jvm.Cond.and given_1 narrow_1).before #[Value.ref b] s = true

def fl1 : List Jvm.Cond := flatC (Jvm.Cond.and given_1 narrow_1)
def tmS (i : Nat) : Term := .string RX2 (sidx.getD i 0)
def strW (i : Nat) : List Jvm.Cond := [Jvm.Cond.exactly (tmS i) "java/lang/String", .eq (.field (tmS i) "java/lang/String" "coder" "B") (.int 0), .arrayOf (.field (tmS i) "java/lang/String" "value" "[B") .byte, .eq (.length (.field (tmS i) "java/lang/String" "value" "[B")) (.int (Int32.ofNat (slen.getD i 0)))] ++ (List.range (slen.getD i 0)).map (fun j => Jvm.Cond.eq (.elem (.field (tmS i) "java/lang/String" "value" "[B") (.int (Int32.ofNat j))) (.int ((sbyt.getD i []).getD j 0)))
def strN (i : Nat) : List Jvm.Cond := ((List.range i).map (fun j => Jvm.Cond.not (.eq (tmS j) (tmS i))))
set_option maxRecDepth 100000 in
theorem strk_0 : (strW 0).all (fun w => decide (w ∈ fl1)) = true := by decide +kernel
set_option maxRecDepth 100000 in
theorem strk_1 : (strW 1).all (fun w => decide (w ∈ fl1)) = true := by decide +kernel
set_option maxRecDepth 100000 in
theorem strk_2 : (strW 2).all (fun w => decide (w ∈ fl1)) = true := by decide +kernel
set_option maxRecDepth 100000 in
theorem strk_3 : (strW 3).all (fun w => decide (w ∈ fl1)) = true := by decide +kernel
set_option maxRecDepth 100000 in
theorem strk_4 : (strW 4).all (fun w => decide (w ∈ fl1)) = true := by decide +kernel
set_option maxRecDepth 100000 in
theorem strk_5 : (strW 5).all (fun w => decide (w ∈ fl1)) = true := by decide +kernel
set_option maxRecDepth 100000 in
theorem strk_6 : (strW 6).all (fun w => decide (w ∈ fl1)) = true := by decide +kernel
set_option maxRecDepth 100000 in
theorem strk_7 : (strW 7).all (fun w => decide (w ∈ fl1)) = true := by decide +kernel
set_option maxRecDepth 100000 in
theorem strk_8 : (strW 8).all (fun w => decide (w ∈ fl1)) = true := by decide +kernel
set_option maxRecDepth 100000 in
theorem strk_9 : (strW 9).all (fun w => decide (w ∈ fl1)) = true := by decide +kernel
set_option maxRecDepth 100000 in
theorem strk_10 : (strW 10).all (fun w => decide (w ∈ fl1)) = true := by decide +kernel
set_option maxRecDepth 100000 in
theorem strk_11 : (strW 11).all (fun w => decide (w ∈ fl1)) = true := by decide +kernel
set_option maxRecDepth 100000 in
theorem strk_12 : (strW 12).all (fun w => decide (w ∈ fl1)) = true := by decide +kernel
set_option maxRecDepth 100000 in
theorem strk_13 : (strW 13).all (fun w => decide (w ∈ fl1)) = true := by decide +kernel
set_option maxRecDepth 100000 in
theorem strk_14 : (strW 14).all (fun w => decide (w ∈ fl1)) = true := by decide +kernel
set_option maxRecDepth 100000 in
theorem strk_15 : (strW 15).all (fun w => decide (w ∈ fl1)) = true := by decide +kernel
set_option maxRecDepth 100000 in
theorem strk_16 : (strW 16).all (fun w => decide (w ∈ fl1)) = true := by decide +kernel
set_option maxRecDepth 100000 in
theorem strk_17 : (strW 17).all (fun w => decide (w ∈ fl1)) = true := by decide +kernel
set_option maxRecDepth 100000 in
theorem strk_18 : (strW 18).all (fun w => decide (w ∈ fl1)) = true := by decide +kernel
set_option maxRecDepth 100000 in
theorem strk_19 : (strW 19).all (fun w => decide (w ∈ fl1)) = true := by decide +kernel
set_option maxRecDepth 100000 in
theorem strk_20 : (strW 20).all (fun w => decide (w ∈ fl1)) = true := by decide +kernel
set_option maxRecDepth 100000 in
theorem strn_0 : (strN 0).all (fun w => decide (w ∈ fl1)) = true := by decide +kernel
set_option maxRecDepth 100000 in
theorem strn_1 : (strN 1).all (fun w => decide (w ∈ fl1)) = true := by decide +kernel
set_option maxRecDepth 100000 in
theorem strn_2 : (strN 2).all (fun w => decide (w ∈ fl1)) = true := by decide +kernel
set_option maxRecDepth 100000 in
theorem strn_3 : (strN 3).all (fun w => decide (w ∈ fl1)) = true := by decide +kernel
set_option maxRecDepth 100000 in
theorem strn_4 : (strN 4).all (fun w => decide (w ∈ fl1)) = true := by decide +kernel
set_option maxRecDepth 100000 in
theorem strn_5 : (strN 5).all (fun w => decide (w ∈ fl1)) = true := by decide +kernel
set_option maxRecDepth 100000 in
theorem strn_6 : (strN 6).all (fun w => decide (w ∈ fl1)) = true := by decide +kernel
set_option maxRecDepth 100000 in
theorem strn_7 : (strN 7).all (fun w => decide (w ∈ fl1)) = true := by decide +kernel
set_option maxRecDepth 100000 in
theorem strn_8 : (strN 8).all (fun w => decide (w ∈ fl1)) = true := by decide +kernel
set_option maxRecDepth 100000 in
theorem strn_9 : (strN 9).all (fun w => decide (w ∈ fl1)) = true := by decide +kernel
set_option maxRecDepth 100000 in
theorem strn_10 : (strN 10).all (fun w => decide (w ∈ fl1)) = true := by decide +kernel
set_option maxRecDepth 100000 in
theorem strn_11 : (strN 11).all (fun w => decide (w ∈ fl1)) = true := by decide +kernel
set_option maxRecDepth 100000 in
theorem strn_12 : (strN 12).all (fun w => decide (w ∈ fl1)) = true := by decide +kernel
set_option maxRecDepth 100000 in
theorem strn_13 : (strN 13).all (fun w => decide (w ∈ fl1)) = true := by decide +kernel
set_option maxRecDepth 100000 in
theorem strn_14 : (strN 14).all (fun w => decide (w ∈ fl1)) = true := by decide +kernel
set_option maxRecDepth 100000 in
theorem strn_15 : (strN 15).all (fun w => decide (w ∈ fl1)) = true := by decide +kernel
set_option maxRecDepth 100000 in
theorem strn_16 : (strN 16).all (fun w => decide (w ∈ fl1)) = true := by decide +kernel
set_option maxRecDepth 100000 in
theorem strn_17 : (strN 17).all (fun w => decide (w ∈ fl1)) = true := by decide +kernel
set_option maxRecDepth 100000 in
theorem strn_18 : (strN 18).all (fun w => decide (w ∈ fl1)) = true := by decide +kernel
set_option maxRecDepth 100000 in
theorem strn_19 : (strN 19).all (fun w => decide (w ∈ fl1)) = true := by decide +kernel
set_option maxRecDepth 100000 in
theorem strn_20 : (strN 20).all (fun w => decide (w ∈ fl1)) = true := by decide +kernel
theorem strk {i : Nat} (hi : i < 21) : ∀ w ∈ strW i, w ∈ fl1 := by
  have h : (strW i).all (fun w => decide (w ∈ fl1)) = true := by
    match i, hi with
    | 0, _ => exact strk_0
    | 1, _ => exact strk_1
    | 2, _ => exact strk_2
    | 3, _ => exact strk_3
    | 4, _ => exact strk_4
    | 5, _ => exact strk_5
    | 6, _ => exact strk_6
    | 7, _ => exact strk_7
    | 8, _ => exact strk_8
    | 9, _ => exact strk_9
    | 10, _ => exact strk_10
    | 11, _ => exact strk_11
    | 12, _ => exact strk_12
    | 13, _ => exact strk_13
    | 14, _ => exact strk_14
    | 15, _ => exact strk_15
    | 16, _ => exact strk_16
    | 17, _ => exact strk_17
    | 18, _ => exact strk_18
    | 19, _ => exact strk_19
    | 20, _ => exact strk_20
    | i + 21, h => exact absurd h (by omega)
  exact fun w hw => of_decide_eq_true (List.all_eq_true.mp h w hw)
theorem strn {i : Nat} (hi : i < 21) : ∀ w ∈ strN i, w ∈ fl1 := by
  have h : (strN i).all (fun w => decide (w ∈ fl1)) = true := by
    match i, hi with
    | 0, _ => exact strn_0
    | 1, _ => exact strn_1
    | 2, _ => exact strn_2
    | 3, _ => exact strn_3
    | 4, _ => exact strn_4
    | 5, _ => exact strn_5
    | 6, _ => exact strn_6
    | 7, _ => exact strn_7
    | 8, _ => exact strn_8
    | 9, _ => exact strn_9
    | 10, _ => exact strn_10
    | 11, _ => exact strn_11
    | 12, _ => exact strn_12
    | 13, _ => exact strn_13
    | 14, _ => exact strn_14
    | 15, _ => exact strn_15
    | 16, _ => exact strn_16
    | 17, _ => exact strn_17
    | 18, _ => exact strn_18
    | 19, _ => exact strn_19
    | 20, _ => exact strn_20
    | i + 21, h => exact absurd h (by omega)
  exact fun w hw => of_decide_eq_true (List.all_eq_true.mp h w hw)
