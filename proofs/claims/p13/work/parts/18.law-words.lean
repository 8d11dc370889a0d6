/-! THE LAW, from its entry: the skeleton's head, and the start of the abstract run. -/
/-! THE CLAIM OUT OF ONE WALK OF THE LAW'S BODY. Your part is whole_start (and what it stands on); all else here is the same for every law, but numbers. -/
def R_law : String := "ShortcutDutyLaw"
def lw_P (b : Addr) (xs : List Int32) (args : Array Value) (s : State) : Prop := args = #[.ref b] ∧ s.IntsAt b xs ∧ xs.length ≤ 3072 ∧ (Jvm.Cond.and given_1 narrow_1).before args s = true
def lw_Q (_ : Array Value) (s : State) (o : Outcome) (t : State) : Prop := o = .returned (some (.int 1)) ∧ Framed s o t [] 600000 7302250
def lw_Z (below : List Frame) (a : Array Value) (s : State) : State → Prop := fun t => ∃ o, t.status = .running ∧ Ended t below o ∧ lw_Q a s o t
/-- the law's own end, with 1 on the stack, nothing written that was there before, its room as the claim has it -/
theorem lw_ret {p : Program} {l : Launch} {e : Env} {s : State} {m : MethodId} {below : List Frame} {meth : Method} {c : Code} {b : Nat} (hx : p.tables.exec = Jvm.exec) (hb : c.code = code) (hr : meth.sig.returnType = ret) (hlocks : meth.locks = false) {pc : Nat} {H : Heap} {ls : Array Slot} (hdg : decode code pc = .ok (.ireturn, 1)) : W p l e room_1 s m #[Value.ref b] below meth c H [] 600000 7302250 (lw_Z below #[Value.ref b] s) (F0 m pc ls [.int 1]) := by
  intro T hT X
  obtain ⟨fs, hret, hrun, hended, hW, hframe⟩ := X.leave (v := some (.int 1)) (hlocks := hlocks) (fun h => by rw [hr] at h; cases h)
  have hmeth' : T.vm.method? m = some meth := X.method'
  refine ⟨T.setFrames fs, ?_, .returned (some (.int 1)), hrun, hended, rfl, ⟨_, rfl⟩, hW, hframe⟩
  jvm_step X.here [X.here.top, hx, hb, hdg, hmeth', hr, ret, narrow_b1]
  (try refine ⟨rfl, ?_⟩); (try refine ⟨rfl, ?_⟩)
  first | (intro acts; rw [hret _ acts rfl rfl rfl]) | rw [hret _ _ rfl rfl rfl]
  exact Steps.refl _
/-- what holds at the law's entry: the machine, the code, the tables' words (any of lw_tbl by 'hts w (by decide +kernel)'), the script of L ints xs at the cell b, what the Statement gives of the start (any of its parts by flat_of_before) -/
def lw_At (p : Program) (s : State) (m : MethodId) (meth : Method) (c : Code) (b L : Nat) (xs : Nat → Int32) : Prop :=
  p.tables.exec = Jvm.exec ∧ c.code = code ∧ meth.sig.returnType = ret ∧ c.maxLocals = 4 ∧ s.vm.findClass R_law = some m.cls ∧ (∀ w ∈ lw_tbl, w.before #[Value.ref b] s = true) ∧ va_X b L xs s s.heap ∧ b < s.heap.size ∧ meth.locks = false ∧ (Jvm.Cond.and given_1 narrow_1).before #[Value.ref b] s = true

def fl1 : List Jvm.Cond := flatC (Jvm.Cond.and given_1 narrow_1)
def tmS (i : Nat) : Term := .string RX2 (sidx.getD i 0)
def strW (i : Nat) : List Jvm.Cond := [Jvm.Cond.exactly (tmS i) "java/lang/String", .eq (.field (tmS i) "java/lang/String" "coder" "B") (.int 0), .arrayOf (.field (tmS i) "java/lang/String" "value" "[B") .byte, .eq (.length (.field (tmS i) "java/lang/String" "value" "[B")) (.int (Int32.ofNat (slen.getD i 0)))] ++ (List.range (slen.getD i 0)).map (fun j => Jvm.Cond.eq (.elem (.field (tmS i) "java/lang/String" "value" "[B") (.int (Int32.ofNat j))) (.int ((sbyt.getD i []).getD j 0)))
def strN (i : Nat) : List Jvm.Cond := ((List.range i).map (fun j => Jvm.Cond.not (.eq (tmS j) (tmS i))))
def fxi : List Nat → List Jvm.Cond → Bool
  | [], [] => true
  | k :: kt, w :: wt => decide (fl1[k]? = some w) && fxi kt wt
  | _, _ => false
theorem fxi_mem : ∀ {ks : List Nat} {ws : List Jvm.Cond}, fxi ks ws = true → ∀ w ∈ ws, w ∈ fl1
  | [], [], _, w, hw => absurd hw List.not_mem_nil
  | [], _ :: _, h, _, _ => absurd (show false = true from h) (by decide)
  | _ :: _, [], h, _, _ => absurd (show false = true from h) (by decide)
  | k :: kt, v :: wt, h, w, hw => by
    have h2 := Bool.and_eq_true_iff.mp (show (decide (fl1[k]? = some v) && fxi kt wt) = true from h)
    rcases List.mem_cons.mp hw with e | e
    · rw [e]
      exact List.mem_of_getElem? (of_decide_eq_true h2.1)
    · exact fxi_mem h2.2 w e
set_option maxRecDepth 100000 in
theorem strk_0 : fxi [42, 43, 44, 45, 46, 47, 48, 49, 50, 51, 52] (strW 0) = true := by decide +kernel
set_option maxRecDepth 100000 in
theorem strk_1 : fxi [53, 54, 55, 56, 57, 58, 59, 60, 61, 62] (strW 1) = true := by decide +kernel
set_option maxRecDepth 100000 in
theorem strk_2 : fxi [64, 65, 66, 67, 68, 69, 70, 71] (strW 2) = true := by decide +kernel
set_option maxRecDepth 100000 in
theorem strk_3 : fxi [74, 75, 76, 77, 78, 79, 80, 81] (strW 3) = true := by decide +kernel
set_option maxRecDepth 100000 in
theorem strk_4 : fxi [85, 86, 87, 88, 89, 90, 91, 92] (strW 4) = true := by decide +kernel
set_option maxRecDepth 100000 in
theorem strk_5 : fxi [97, 98, 99, 100, 101, 102, 103, 104] (strW 5) = true := by decide +kernel
set_option maxRecDepth 100000 in
theorem strk_6 : fxi [110, 111, 112, 113, 114, 115, 116, 117] (strW 6) = true := by decide +kernel
set_option maxRecDepth 100000 in
theorem strk_7 : fxi [124, 125, 126, 127, 128, 129] (strW 7) = true := by decide +kernel
set_option maxRecDepth 100000 in
theorem strk_8 : fxi [137, 138, 139, 140, 141, 142, 143, 144] (strW 8) = true := by decide +kernel
set_option maxRecDepth 100000 in
theorem strk_9 : fxi [153, 154, 155, 156, 157, 158, 159, 160, 161, 162, 163] (strW 9) = true := by decide +kernel
set_option maxRecDepth 100000 in
theorem strk_10 : fxi [173, 174, 175, 176, 177, 178, 179, 180] (strW 10) = true := by decide +kernel
set_option maxRecDepth 100000 in
theorem strk_11 : fxi [191, 192, 193, 194, 195, 196, 197, 198] (strW 11) = true := by decide +kernel
set_option maxRecDepth 100000 in
theorem strk_12 : fxi [210, 211, 212, 213, 214, 215, 216, 217] (strW 12) = true := by decide +kernel
set_option maxRecDepth 100000 in
theorem strk_13 : fxi [230, 231, 232, 233, 234, 235, 236, 237, 238] (strW 13) = true := by decide +kernel
set_option maxRecDepth 100000 in
theorem strk_14 : fxi [252, 253, 254, 255, 256, 257] (strW 14) = true := by decide +kernel
set_option maxRecDepth 100000 in
theorem strk_15 : fxi [272, 273, 274, 275, 276, 277, 278, 279] (strW 15) = true := by decide +kernel
set_option maxRecDepth 100000 in
theorem strk_16 : fxi [295, 296, 297, 298, 299, 300, 301, 302] (strW 16) = true := by decide +kernel
set_option maxRecDepth 100000 in
theorem strk_17 : fxi [319, 320, 321, 322, 323, 324] (strW 17) = true := by decide +kernel
set_option maxRecDepth 100000 in
theorem strk_18 : fxi [342, 343, 344, 345, 346, 347, 348] (strW 18) = true := by decide +kernel
set_option maxRecDepth 100000 in
theorem strk_19 : fxi [367, 368, 369, 370, 371, 372, 373, 374, 375, 376] (strW 19) = true := by decide +kernel
set_option maxRecDepth 100000 in
theorem strk_20 : fxi [396, 397, 398, 399, 400, 401, 402, 403, 404] (strW 20) = true := by decide +kernel
set_option maxRecDepth 100000 in
theorem strn_0 : fxi [] (strN 0) = true := by decide +kernel
set_option maxRecDepth 100000 in
theorem strn_1 : fxi [63] (strN 1) = true := by decide +kernel
set_option maxRecDepth 100000 in
theorem strn_2 : fxi [72, 73] (strN 2) = true := by decide +kernel
set_option maxRecDepth 100000 in
theorem strn_3 : fxi [82, 83, 84] (strN 3) = true := by decide +kernel
set_option maxRecDepth 100000 in
theorem strn_4 : fxi [93, 94, 95, 96] (strN 4) = true := by decide +kernel
set_option maxRecDepth 100000 in
theorem strn_5 : fxi [105, 106, 107, 108, 109] (strN 5) = true := by decide +kernel
set_option maxRecDepth 100000 in
theorem strn_6 : fxi [118, 119, 120, 121, 122, 123] (strN 6) = true := by decide +kernel
set_option maxRecDepth 100000 in
theorem strn_7 : fxi [130, 131, 132, 133, 134, 135, 136] (strN 7) = true := by decide +kernel
set_option maxRecDepth 100000 in
theorem strn_8 : fxi [145, 146, 147, 148, 149, 150, 151, 152] (strN 8) = true := by decide +kernel
set_option maxRecDepth 100000 in
theorem strn_9 : fxi [164, 165, 166, 167, 168, 169, 170, 171, 172] (strN 9) = true := by decide +kernel
set_option maxRecDepth 100000 in
theorem strn_10 : fxi [181, 182, 183, 184, 185, 186, 187, 188, 189, 190] (strN 10) = true := by decide +kernel
set_option maxRecDepth 100000 in
theorem strn_11 : fxi [199, 200, 201, 202, 203, 204, 205, 206, 207, 208, 209] (strN 11) = true := by decide +kernel
set_option maxRecDepth 100000 in
theorem strn_12 : fxi [218, 219, 220, 221, 222, 223, 224, 225, 226, 227, 228, 229] (strN 12) = true := by decide +kernel
set_option maxRecDepth 100000 in
theorem strn_13 : fxi [239, 240, 241, 242, 243, 244, 245, 246, 247, 248, 249, 250, 251] (strN 13) = true := by decide +kernel
set_option maxRecDepth 100000 in
theorem strn_14 : fxi [258, 259, 260, 261, 262, 263, 264, 265, 266, 267, 268, 269, 270, 271] (strN 14) = true := by decide +kernel
set_option maxRecDepth 100000 in
theorem strn_15 : fxi [280, 281, 282, 283, 284, 285, 286, 287, 288, 289, 290, 291, 292, 293, 294] (strN 15) = true := by decide +kernel
set_option maxRecDepth 100000 in
theorem strn_16 : fxi [303, 304, 305, 306, 307, 308, 309, 310, 311, 312, 313, 314, 315, 316, 317, 318] (strN 16) = true := by decide +kernel
set_option maxRecDepth 100000 in
theorem strn_17 : fxi [325, 326, 327, 328, 329, 330, 331, 332, 333, 334, 335, 336, 337, 338, 339, 340, 341] (strN 17) = true := by decide +kernel
set_option maxRecDepth 100000 in
theorem strn_18 : fxi [349, 350, 351, 352, 353, 354, 355, 356, 357, 358, 359, 360, 361, 362, 363, 364, 365, 366] (strN 18) = true := by decide +kernel
set_option maxRecDepth 100000 in
theorem strn_19 : fxi [377, 378, 379, 380, 381, 382, 383, 384, 385, 386, 387, 388, 389, 390, 391, 392, 393, 394, 395] (strN 19) = true := by decide +kernel
set_option maxRecDepth 100000 in
theorem strn_20 : fxi [405, 406, 407, 408, 409, 410, 411, 412, 413, 414, 415, 416, 417, 418, 419, 420, 421, 422, 423, 424] (strN 20) = true := by decide +kernel
theorem strk {i : Nat} (hi : i < 21) : ∀ w ∈ strW i, w ∈ fl1 := by
  match i, hi with
  | 0, _ => exact fxi_mem strk_0
  | 1, _ => exact fxi_mem strk_1
  | 2, _ => exact fxi_mem strk_2
  | 3, _ => exact fxi_mem strk_3
  | 4, _ => exact fxi_mem strk_4
  | 5, _ => exact fxi_mem strk_5
  | 6, _ => exact fxi_mem strk_6
  | 7, _ => exact fxi_mem strk_7
  | 8, _ => exact fxi_mem strk_8
  | 9, _ => exact fxi_mem strk_9
  | 10, _ => exact fxi_mem strk_10
  | 11, _ => exact fxi_mem strk_11
  | 12, _ => exact fxi_mem strk_12
  | 13, _ => exact fxi_mem strk_13
  | 14, _ => exact fxi_mem strk_14
  | 15, _ => exact fxi_mem strk_15
  | 16, _ => exact fxi_mem strk_16
  | 17, _ => exact fxi_mem strk_17
  | 18, _ => exact fxi_mem strk_18
  | 19, _ => exact fxi_mem strk_19
  | 20, _ => exact fxi_mem strk_20
  | i + 21, h => exact absurd h (by omega)
theorem strn {i : Nat} (hi : i < 21) : ∀ w ∈ strN i, w ∈ fl1 := by
  match i, hi with
  | 0, _ => exact fxi_mem strn_0
  | 1, _ => exact fxi_mem strn_1
  | 2, _ => exact fxi_mem strn_2
  | 3, _ => exact fxi_mem strn_3
  | 4, _ => exact fxi_mem strn_4
  | 5, _ => exact fxi_mem strn_5
  | 6, _ => exact fxi_mem strn_6
  | 7, _ => exact fxi_mem strn_7
  | 8, _ => exact fxi_mem strn_8
  | 9, _ => exact fxi_mem strn_9
  | 10, _ => exact fxi_mem strn_10
  | 11, _ => exact fxi_mem strn_11
  | 12, _ => exact fxi_mem strn_12
  | 13, _ => exact fxi_mem strn_13
  | 14, _ => exact fxi_mem strn_14
  | 15, _ => exact fxi_mem strn_15
  | 16, _ => exact fxi_mem strn_16
  | 17, _ => exact fxi_mem strn_17
  | 18, _ => exact fxi_mem strn_18
  | 19, _ => exact fxi_mem strn_19
  | 20, _ => exact fxi_mem strn_20
  | i + 21, h => exact absurd h (by omega)
