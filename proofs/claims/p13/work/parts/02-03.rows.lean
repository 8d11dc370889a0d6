section
/-! THE ABSTRACT MACHINE. One memory M : Nat → cell; references are places in it. Places 0 and 1 count the cells and slots that were made, 2 is the script, 3 .. 23 the String constants, 32 + k the k-th cell that was made. -/
abbrev AE : Type := (Nat × vp_A) ⊕ (Nat × List Value)
abbrev AM : Type := Nat → AE
abbrev AL : Type := List (Option Value)
abbrev AI : Type := Value ⊕ Instr ⊕ (Nat × Nat × Nat × Value)
abbrev MC : Type := List (Nat × List (Nat × AI × Nat))
abbrev MD : Type := Nat × Bool × Nat × Nat × MethodName × ByteArray × MC
def md_o (X : MD) : Nat := X.1
def md_i (X : MD) : Bool := X.2.1
def md_L (X : MD) : Nat := X.2.2.1
def md_r (X : MD) : Nat := X.2.2.2.1
def md_y (X : MD) : MethodName := X.2.2.2.2.1
def md_b (X : MD) : ByteArray := X.2.2.2.2.2.1
def md_c (X : MD) : MC := X.2.2.2.2.2.2
def lk {α : Type} : List (Nat × α) → Nat → Option α
  | [], _ => none
  | (p, x) :: t, pc => bif Nat.beq p pc then some x else lk t pc
def lk2 {α : Type} : List (Nat × List (Nat × α)) → Nat → Option α
  | [], _ => none
  | (hi, c) :: t, pc => bif Nat.ble pc hi then lk c pc else lk2 t pc
theorem lk_mem {α : Type} : ∀ {c : List (Nat × α)} {pc : Nat} {x : α}, lk c pc = some x → (pc, x) ∈ c
  | [], _, _, h => by simp [lk] at h
  | (p, y) :: t, pc, x, h => by
    unfold lk at h
    cases hb : Nat.beq p pc with
    | true =>
      rw [hb] at h
      have h1 : p = pc := Nat.eq_of_beq_eq_true hb
      have h2 : y = x := Option.some.inj h
      rw [h1, h2]
      exact List.mem_cons_self
    | false =>
      rw [hb] at h
      exact List.mem_cons_of_mem _ (lk_mem h)
theorem lk2_mem {α : Type} : ∀ {cs : List (Nat × List (Nat × α))} {pc : Nat} {x : α}, lk2 cs pc = some x → ∃ c ∈ cs, (pc, x) ∈ c.2
  | [], _, _, h => by simp [lk2] at h
  | (hi, c) :: t, pc, x, h => by
    unfold lk2 at h
    cases hb : Nat.ble pc hi with
    | true =>
      rw [hb] at h
      exact ⟨(hi, c), List.mem_cons_self, lk_mem h⟩
    | false =>
      rw [hb] at h
      obtain ⟨c', h1, h2⟩ := lk2_mem (cs := t) h
      exact ⟨c', List.mem_cons_of_mem _ h1, h2⟩
def cdx (X : MD) (pc : Nat) : Option (AI × Nat) := lk2 (md_c X) pc
-- locals
def gl : AL → Nat → Option Value
  | [], _ => none
  | a :: _, 0 => a
  | _ :: t, n + 1 => gl t n
def cl2 : Option Value → Option Value
  | some (.long _) => none
  | some (.double _) => none
  | o => o
/-- a value of one slot is stored -/
def st1 : AL → Nat → Value → AL
  | [], _, _ => []
  | _ :: t, 0, v => some v :: t
  | a :: t, n + 1, v => (match n with | 0 => cl2 a | _ + 1 => a) :: st1 t n v
/-- a long is stored -/
def st2 : AL → Nat → Value → AL
  | [], _, _ => []
  | _ :: t, 0, v => some v :: (match t with | [] => [] | _ :: u => none :: u)
  | a :: t, n + 1, v => (match n with | 0 => cl2 a | _ + 1 => a) :: st2 t n v
/-- the locals at a method's entry -/
def ent : List Value → Nat → AL
  | [], n => List.replicate n none
  | .long x :: t, n => some (.long x) :: none :: ent t (n - 2)
  | .double x :: t, n => some (.double x) :: none :: ent t (n - 2)
  | v :: t, n => some v :: ent t (n - 1)
-- memory
def cnt (M : AM) (i : Nat) : Nat := match M i with
  | .inr (n, _) => n
  | .inl _ => 0
def gv : List Value → Nat → Option Value
  | [], _ => none
  | a :: _, 0 => some a
  | _ :: t, n + 1 => gv t n
def mnew (M : AM) (e : AE) (sz : Nat) : AM := va_up (va_up (va_up M (32 + cnt M 0) e) 0 (.inr (cnt M 0 + 1, []))) 1 (.inr (cnt M 1 + sz, []))
def ain (i : Int32) (n : Nat) : Bool := !(decide (i < 0)) && Nat.blt i.toNatClampNeg n
def anar (t : Nat) (x : Int32) : Int32 := bif Nat.beq t 2 then vp_nar .byte x else vp_nar .boolean x
def tag_cls (t : Nat) : Nat := bif Nat.beq t 4 then 1 else bif Nat.beq t 5 then 7 else 3
-- plain instructions
def pstep (i : Instr) (st : List Value) : Option (List Value) := match i, st with
  | .iadd, .int y :: .int x :: r => some (.int (x + y) :: r)
  | .isub, .int y :: .int x :: r => some (.int (x - y) :: r)
  | .imul, .int y :: .int x :: r => some (.int (x * y) :: r)
  | .iand, .int y :: .int x :: r => some (.int (x &&& y) :: r)
  | .ior, .int y :: .int x :: r => some (.int (x ||| y) :: r)
  | .ishl, .int y :: .int x :: r => some (.int (x <<< (y &&& 31)) :: r)
  | .ishr, .int y :: .int x :: r => some (.int (x >>> (y &&& 31)) :: r)
  | .iushr, .int y :: .int x :: r => some (.int (x.toUInt32 >>> (y.toUInt32 &&& Int32.toUInt32 31)).toInt32 :: r)
  | .irem, .int y :: .int x :: r => bif y == 0 then none else some (.int (x - x / y * y) :: r)
  | .ladd, .long y :: .long x :: r => some (.long (x + y) :: r)
  | .lsub, .long y :: .long x :: r => some (.long (x - y) :: r)
  | .lmul, .long y :: .long x :: r => some (.long (x * y) :: r)
  | .land, .long y :: .long x :: r => some (.long (x &&& y) :: r)
  | .lor, .long y :: .long x :: r => some (.long (x ||| y) :: r)
  | .ldiv, .long y :: .long x :: r => bif y == 0 then none else some (.long (x / y) :: r)
  | .lrem, .long y :: .long x :: r => bif y == 0 then none else some (.long (x - x / y * y) :: r)
  | .lshl, .int y :: .long x :: r => some (.long (x <<< (y.toInt64 &&& 63)) :: r)
  | .lshr, .int y :: .long x :: r => some (.long (x >>> (y.toInt64 &&& 63)) :: r)
  | .lcmp, .long y :: .long x :: r => some (.int (lg_cmp x y) :: r)
  | .i2l, .int x :: r => some (.long x.toInt64 :: r)
  | .l2i, .long x :: r => some (.int x.toInt32 :: r)
  | .i2b, .int x :: r => some (.int x.toInt8.toInt32 :: r)
  | .i2s, .int x :: r => some (.int x.toInt16.toInt32 :: r)
  | .dup, .int x :: r => some (.int x :: .int x :: r)
  | .dup, .ref x :: r => some (.ref x :: .ref x :: r)
  | .dup2, .int y :: .ref x :: r => some (.int y :: .ref x :: .int y :: .ref x :: r)
  | .pop, .int x :: r => some r
  | .pop2, .long x :: r => some r
  | _, _ => none
def mstep (i : Instr) (st : List Value) (M : AM) : Option (List Value × AM) := match i, st with
  | .iaload, .int j :: .ref k :: r => (match M k with
    | .inl (t, n, .inl f) => bif (Nat.beq t 0 || Nat.beq t 7) && ain j n then some (.int (f j.toNatClampNeg) :: r, M) else none
    | _ => none)
  | .baload, .int j :: .ref k :: r => (match M k with
    | .inl (t, n, .inl f) => bif (Nat.beq t 2 || Nat.beq t 3) && ain j n then some (.int (f j.toNatClampNeg) :: r, M) else none
    | _ => none)
  | .laload, .int j :: .ref k :: r => (match M k with
    | .inl (t, n, .inr (.inl f)) => bif Nat.beq t 1 && ain j n then some (.long (f j.toNatClampNeg) :: r, M) else none
    | _ => none)
  | .aaload, .int j :: .ref k :: r => (match M k with
    | .inl (t, n, .inr (.inr (.inr (.inr f)))) => bif Nat.ble 4 t && Nat.ble t 6 && ain j n then some (va_rf (f j.toNatClampNeg) :: r, M) else none
    | _ => none)
  | .iastore, .int x :: .int j :: .ref k :: r => (match M k with
    | .inl (t, n, .inl f) => bif Nat.beq t 0 && ain j n then some (r, va_up M k (.inl (t, n, .inl (upd f j.toNatClampNeg x)))) else none
    | _ => none)
  | .bastore, .int x :: .int j :: .ref k :: r => (match M k with
    | .inl (t, n, .inl f) => bif (Nat.beq t 2 || Nat.beq t 3) && ain j n then some (r, va_up M k (.inl (t, n, .inl (upd f j.toNatClampNeg (anar t x))))) else none
    | _ => none)
  | .lastore, .long x :: .int j :: .ref k :: r => (match M k with
    | .inl (t, n, .inr (.inl f)) => bif Nat.beq t 1 && ain j n then some (r, va_up M k (.inl (t, n, .inr (.inl (vp_updL f j.toNatClampNeg x))))) else none
    | _ => none)
  | .aastore, .ref v :: .int j :: .ref k :: r => (match M k, M v with
    | .inl (t, n, .inr (.inr (.inr (.inr f)))), .inr (ci, _) => bif Nat.ble 4 t && Nat.ble t 6 && Nat.beq ci (tag_cls t) && Nat.ble 32 v && ain j n then some (r, va_up M k (.inl (t, n, .inr (.inr (.inr (.inr (va_up f j.toNatClampNeg (some v)))))))) else none
    | _, _ => none)
  | .arraylength, .ref k :: r => (match M k with
    | .inl (t, n, _) => bif Nat.beq t 8 then none else some (.int (Int32.ofNat n) :: r, M)
    | _ => none)
  | .newarray ty, .int n :: r => bif decide (n < 0) || Nat.blt 100000 n.toNatClampNeg then none else (match ty with
    | .int => some (.ref (32 + cnt M 0) :: r, mnew M (.inl (0, n.toNatClampNeg, .inl (fun _ => 0))) n.toNatClampNeg)
    | .long => some (.ref (32 + cnt M 0) :: r, mnew M (.inl (1, n.toNatClampNeg, .inr (.inl (fun _ => 0)))) n.toNatClampNeg)
    | .byte => some (.ref (32 + cnt M 0) :: r, mnew M (.inl (2, n.toNatClampNeg, .inl (fun _ => 0))) n.toNatClampNeg)
    | .boolean => some (.ref (32 + cnt M 0) :: r, mnew M (.inl (3, n.toNatClampNeg, .inl (fun _ => 0))) n.toNatClampNeg)
    | _ => none)
  | _, _ => none
-- fields
def fcode (ci j : Nat) : FieldType := match ci with
  | 0 => tyX0 j | 1 => tyX1 j | 2 => tyX2 j | 3 => tyX3 j | 4 => tyX4 j | 5 => tyX5 j | 6 => tyX6 j | 7 => tyX7 j | 8 => tyX8 j | 9 => tyX9 j | _ => tyX10 j
def fTX (ci : Nat) : u_T := match ci with
  | 0 => TX0 | 1 => TX1 | 2 => TX2 | 3 => TX3 | 4 => TX4 | 5 => TX5 | 6 => TX6 | 7 => TX7 | 8 => TX8 | 9 => TX9 | _ => TX10
def fN (ci : Nat) : Nat := match ci with
  | 0 => 5 | 1 => 7 | 2 => 8 | 3 => 12 | 4 => 3 | 5 => 2 | 6 => 8 | 7 => 5 | 8 => 13 | 9 => 11 | _ => 45
def cnm (o : Nat) : String := match o with
  | 0 => RX0 | 1 => RX1 | 2 => RX2 | 3 => RX3 | 4 => RX4 | 5 => RX5 | 6 => RX6 | 7 => RX7 | 8 => RX8 | 9 => RX9 | 10 => RX10 | 11 => RL | 12 => "java/lang/Math" | _ => "java/lang/Integer"
def pfit : FieldType → Value → Bool
  | .int, .int _ => true
  | .long, .long _ => true
  | .boolean, .int x => x == 0 || x == 1
  | .object _, .ref _ => true
  | .object _, .null => true
  | .array _, .ref _ => true
  | .array _, .null => true
  | _, _ => false
def dfv : FieldType → Value
  | .int => .int 0
  | .long => .long 0
  | .boolean => .int 0
  | .object _ => .null
  | .array _ => .null
  | _ => .retAddr 0
def nfs (ci : Nat) : List Value := (List.range (fN ci)).map (fun j => dfv (fcode ci j))
def jb (c : Nat) (x y : Int32) : Bool := match c with
  | 0 => decide (x = y)
  | 1 => !(decide (x = y))
  | 2 => decide (x < y)
  | 3 => decide (y ≤ x)
  | 4 => decide (y < x)
  | _ => decide (x ≤ y)
def swx (swl : List (Nat × Int × List Nat × Nat)) (a : Nat) (x : Int32) : Option Nat := match lk swl a with
  | some (lo, tg, d) => some (if x.toInt < lo then d else tg.getD (x.toInt - lo).toNat d)
  | none => none
def ostep (swl : List (Nat × Int × List Nat × Nat)) (o : Nat) (ini : Bool) (op a b : Nat) (v : Value) (pc len : Nat) (l : AL) (st : List Value) (M : AM) : Option (Nat × AL × List Value × AM) :=
  bif Nat.beq op 42 then (match gl l a with
    | some (.ref x) => some (pc + len, l, .ref x :: st, M)
    | some .null => some (pc + len, l, .null :: st, M)
    | _ => none)
  else bif Nat.beq op 40 then (match gl l a with
    | some (.int x) => some (pc + len, l, .int x :: st, M)
    | _ => none)
  else bif Nat.beq op 0 then (match st with
    | .ref k :: r => (match M k with
      | .inr (ci, fs) => bif Nat.beq ci a then (match gv fs b with
        | some w => some (pc + len, l, w :: r, M)
        | none => none) else none
      | .inl _ => none)
    | _ => none)
  else bif Nat.beq op 1 then (match st with
    | w :: .ref k :: r => (match M k with
      | .inr (ci, fs) => bif Nat.beq ci a && Nat.blt b fs.length && pfit (fcode a b) w && (bif (fTX a b).2.2.2 then ini && Nat.beq o a else true) then some (pc + len, l, r, va_up M k (.inr (ci, fs.set b w))) else none
      | .inl _ => none)
    | _ => none)
  else bif Nat.beq op 43 then (match st with
    | .int x :: r => some (pc + len, st1 l a (.int x), r, M)
    | _ => none)
  else bif Nat.beq op 32 then some (a, l, st, M)
  else bif Nat.beq op 46 then (match gl l a, v with
    | some (.int x), .int y => some (pc + len, st1 l a (.int (x + y)), st, M)
    | _, _ => none)
  else bif Nat.beq op 41 then (match gl l a with
    | some (.long x) => some (pc + len, l, .long x :: st, M)
    | _ => none)
  else bif Nat.beq op 44 then (match st with
    | .long x :: r => some (pc + len, st2 l a (.long x), r, M)
    | _ => none)
  else bif Nat.beq op 45 then (match st with
    | .ref x :: r => some (pc + len, st1 l a (.ref x), r, M)
    | .null :: r => some (pc + len, st1 l a .null, r, M)
    | _ => none)
  else bif Nat.ble 20 op && Nat.ble op 25 then (match st with
    | .int x :: r => some (bif jb (op - 20) x 0 then a else pc + len, l, r, M)
    | _ => none)
  else bif Nat.ble 26 op && Nat.ble op 31 then (match st with
    | .int y :: .int x :: r => some (bif jb (op - 26) x y then a else pc + len, l, r, M)
    | _ => none)
  else bif Nat.beq op 33 then (match st with
    | .null :: r => some (a, l, r, M)
    | .ref _ :: r => some (pc + len, l, r, M)
    | _ => none)
  else bif Nat.beq op 34 then (match st with
    | .null :: r => some (pc + len, l, r, M)
    | .ref _ :: r => some (a, l, r, M)
    | _ => none)
  else bif Nat.beq op 35 then (match st with
    | .int x :: r => (match swx swl a x with
      | some t => some (t, l, r, M)
      | none => none)
    | _ => none)
  else bif Nat.beq op 2 then some (pc + len, l, .ref (32 + cnt M 0) :: st, mnew M (.inr (a, nfs a)) (fN a))
  else bif Nat.beq op 3 then (match st with
    | .int n :: r => bif decide (n < 0) || Nat.blt 100000 n.toNatClampNeg then none else some (pc + len, l, .ref (32 + cnt M 0) :: r, mnew M (.inl (a, n.toNatClampNeg, .inr (.inr (.inr (.inr (fun _ => none)))))) n.toNatClampNeg)
    | _ => none)
  else none
def sstep (swl : List (Nat × Int × List Nat × Nat)) (X : MD) (pc : Nat) (l : AL) (st : List Value) (M : AM) : Option (Nat × AL × List Value × AM) := match cdx X pc with
  | none => none
  | some (.inl v, len) => some (pc + len, l, v :: st, M)
  | some (.inr (.inl i), len) => (match pstep i st with
    | some st' => some (pc + len, l, st', M)
    | none => (match mstep i st M with
      | some (st', M') => some (pc + len, l, st', M')
      | none => none))
  | some (.inr (.inr (op, a, b, v)), len) => ostep swl (md_o X) (md_i X) op a b v pc len l st M
/-- returns: 0 void, 1 int, 2 boolean, 3 long, 4 a reference -/
def rstep (rt : Nat) (i : Instr) (st : List Value) (M : AM) : Option (Option Value × AM) := match i, st with
  | .ireturn, [.int v] => bif Nat.beq rt 1 || (Nat.beq rt 2 && (v == 0 || v == 1)) then some (some (.int v), M) else none
  | .lreturn, [.long v] => bif Nat.beq rt 3 then some (some (.long v), M) else none
  | .areturn, [.ref v] => bif Nat.beq rt 4 then some (some (.ref v), M) else none
  | .areturn, [.null] => bif Nat.beq rt 4 then some (some .null, M) else none
  | .return_, [] => bif Nat.beq rt 0 then some (none, M) else none
  | _, _ => none
/-- what may lie below a call's values -/
def rok (r : List Value) : Bool := Nat.ble r.length 4 || Nat.ble (r.map (fun v => v.category)).sum 8
/-- what a call takes off the stack, if it may be made -/
def csplit (op b : Nat) (st : List Value) (M : AM) (Y : MD) : Option (List Value × List Value) :=
  bif Nat.beq op 4 then (bif Nat.ble b st.length && rok (st.drop b) then some ((st.take b).reverse, st.drop b) else none)
  else (match (st.drop b) with
    | .ref k :: r => bif Nat.beq op 5 then (match M k with
        | .inr (ci, _) => bif Nat.beq ci (md_o Y) && rok r && Nat.ble 32 k then some (.ref k :: (st.take b).reverse, r) else none
        | .inl _ => none)
      else bif Nat.beq op 6 && rok r then some (.ref k :: (st.take b).reverse, r) else none
    | _ => none)
/-- the JDK's own: 7 String.length, 8 String.charAt, 9 System.arraycopy, 10 Object.<init>, 11 Math.min, 12 Math.max -/
def bstep (op : Nat) (st : List Value) (M : AM) : Option (List Value × AM) :=
  bif Nat.beq op 10 then (match st with
    | .ref _ :: r => bif Nat.ble r.length 4 then some (r, M) else none
    | _ => none)
  else bif Nat.beq op 7 then (match st with
    | .ref k :: r => (match M k with
      | .inl (t, n, _) => bif Nat.beq t 8 && Nat.ble r.length 4 then some (.int (Int32.ofNat n) :: r, M) else none
      | .inr _ => none)
    | _ => none)
  else bif Nat.beq op 8 then (match st with
    | .int j :: .ref k :: r => (match M k with
      | .inl (t, n, .inl f) => bif Nat.beq t 8 && ain j n && Nat.ble r.length 4 then some (.int (f j.toNatClampNeg) :: r, M) else none
      | _ => none)
    | _ => none)
  else bif Nat.beq op 9 then (match st with
    | .int n :: .int dp :: .ref k :: .int sp :: .ref k0 :: r => bif decide (n < 0) || decide (dp < 0) || decide (sp < 0) || Nat.blt 4 r.length then none else (match M k0, M k with
      | .inl (t0, n0, .inl f), .inl (t1, n1, .inl g) => bif Nat.beq t0 0 && Nat.beq t1 0 && Nat.ble (sp.toNatClampNeg + n.toNatClampNeg) n0 && Nat.ble (dp.toNatClampNeg + n.toNatClampNeg) n1 then some (r, va_up M k (.inl (0, n1, .inl (va_cpy f g sp.toNatClampNeg dp.toNatClampNeg n.toNatClampNeg)))) else none
      | .inl (t0, n0, .inr (.inl f)), .inl (t1, n1, .inr (.inl g)) => bif Nat.beq t0 1 && Nat.beq t1 1 && Nat.ble (sp.toNatClampNeg + n.toNatClampNeg) n0 && Nat.ble (dp.toNatClampNeg + n.toNatClampNeg) n1 then some (r, va_up M k (.inl (1, n1, .inr (.inl (va_cpy f g sp.toNatClampNeg dp.toNatClampNeg n.toNatClampNeg))))) else none
      | _, _ => none)
    | _ => none)
  else bif Nat.beq op 11 then (match st with
    | .int y :: .int x :: r => bif Nat.ble r.length 4 then some (.int (if y < x then y else x) :: r, M) else none
    | _ => none)
  else bif Nat.beq op 12 then (match st with
    | .int y :: .int x :: r => bif Nat.ble r.length 4 then some (.int (if x < y then y else x) :: r, M) else none
    | _ => none)
  else none
end
section
/-! CODE TABLES, printed by wip/duty/gen_code.py out of the Statement's bytes and words. -/
def swl : List (Nat × Int × List Nat × Nat) := [(0, 0, [32, 45, 58, 71], 84), (1, 1, [32, 54], 71), (2, 0, [28, 33, 38], 42), (3, 0, [28, 36], 44), (4, 0, [64, 69, 74, 79, 84, 89], 94), (5, 0, [92, 102, 113], 124), (6, 0, [44, 54, 63], 73), (7, 0, [52, 60, 68, 76, 84, 92, 103, 111, 119], 127), (8, 0, [60, 60, 60, 60, 60, 67, 97, 104, 109], 142), (9, 0, [228, 291, 314, 327, 350, 383, 426, 459, 502, 535, 548, 571, 594, 617, 640, 663, 686, 709, 742, 775, 818, 861, 924, 987, 1030, 1053, 1106, 1129, 1172, 1195, 1218, 1251, 1274, 1307, 1340, 1373, 1396, 1449, 1482, 1515, 1538, 1561, 1584, 1627, 1700], 1763)]
def flT : List (Nat × List (Nat × Nat × Nat × Bool × Nat)) := [(1028, [(7, 0, 0, false, 175), (13, 0, 1, false, 178), (16, 0, 2, false, 181), (19, 0, 3, false, 184), (22, 0, 4, false, 186), (1007, 1, 0, false, 210), (1013, 1, 1, false, 212), (1016, 1, 2, false, 215), (1019, 1, 3, false, 218), (1022, 1, 4, false, 224), (1025, 1, 5, false, 227), (1028, 1, 6, false, 230)]), (2108, [(2009, 2, 3, false, 140), (2015, 2, 0, false, 136), (2019, 2, 1, false, 137), (2028, 2, 2, false, 138), (2031, 2, 6, false, 144), (2037, 2, 4, false, 142), (2040, 3, 2, true, 293), (2077, 2, 5, false, 143), (2096, 3, 0, true, 287), (2100, 3, 1, true, 290), (2102, 3, 4, true, 300), (2108, 0, 0, true, 176)]), (2176, [(2114, 0, 1, true, 179), (2118, 0, 2, true, 182), (2136, 1, 2, true, 216), (2139, 1, 3, true, 221), (2144, 1, 4, true, 225), (2147, 1, 5, true, 228), (2152, 1, 6, true, 232), (2159, 3, 3, true, 296), (2162, 3, 10, true, 316), (2165, 3, 9, true, 313), (2169, 7, 0, true, 257), (2176, 7, 1, true, 261)]), (3035, [(2178, 7, 2, true, 265), (2181, 7, 4, true, 272), (2187, 7, 3, true, 269), (2197, 0, 3, true, 185), (2200, 0, 4, true, 187), (2209, 2, 7, false, 145), (2218, 5, 0, true, 120), (2228, 5, 1, true, 123), (3012, 3, 4, false, 298), (3023, 3, 5, false, 303), (3030, 3, 7, false, 307), (3035, 3, 9, false, 311)]), (3093, [(3040, 3, 11, false, 318), (3044, 3, 0, false, 285), (3048, 3, 1, false, 289), (3051, 3, 2, false, 292), (3054, 3, 3, false, 295), (3057, 3, 6, false, 305), (3060, 3, 8, false, 309), (3063, 3, 10, false, 315), (3084, 1, 5, true, 229), (3087, 1, 2, true, 217), (3090, 1, 3, true, 222), (3093, 1, 1, true, 214)]), (6029, [(3096, 1, 4, true, 226), (3107, 1, 6, true, 233), (4011, 4, 0, false, 438), (4015, 4, 1, false, 439), (4019, 4, 2, false, 441), (5009, 5, 0, false, 119), (5013, 5, 1, false, 121), (6009, 6, 6, false, 413), (6015, 3, 9, true, 312), (6021, 6, 0, false, 401), (6025, 6, 1, false, 403), (6029, 6, 2, false, 405)]), (7015, [(6032, 6, 3, false, 407), (6035, 6, 7, false, 414), (6038, 7, 3, true, 268), (6047, 7, 2, true, 264), (6072, 6, 4, false, 409), (6078, 3, 4, true, 299), (6082, 7, 1, true, 260), (6091, 6, 5, false, 411), (6094, 1, 3, true, 219), (6102, 1, 6, true, 231), (7009, 7, 4, false, 271), (7015, 7, 0, false, 256)]), (8048, [(7019, 7, 1, false, 259), (7022, 7, 2, false, 263), (7025, 7, 3, false, 267), (8011, 8, 0, false, 351), (8015, 8, 1, false, 353), (8018, 8, 2, false, 354), (8021, 8, 3, false, 356), (8024, 8, 5, false, 359), (8027, 8, 6, false, 360), (8030, 8, 7, false, 361), (8040, 8, 8, false, 362), (8048, 8, 9, false, 363)]), (9030, [(8051, 8, 10, false, 364), (8054, 8, 11, false, 365), (8057, 8, 12, false, 366), (8060, 8, 4, false, 357), (8070, 3, 0, true, 286), (8077, 1, 3, true, 220), (8095, 3, 4, true, 301), (8108, 0, 2, true, 183), (9012, 9, 0, false, 451), (9019, 9, 1, false, 452), (9026, 9, 2, false, 453), (9030, 9, 3, false, 454)]), (9139, [(9033, 9, 4, false, 455), (9037, 9, 5, false, 456), (9044, 9, 6, false, 457), (9051, 9, 7, false, 458), (9058, 9, 8, false, 459), (9062, 9, 9, false, 460), (9074, 5, 1, true, 122), (9088, 2, 2, true, 139), (9098, 3, 2, true, 294), (9101, 2, 3, true, 141), (9123, 3, 7, true, 308), (9139, 1, 1, true, 213)]), (9205, [(9144, 1, 0, true, 211), (9150, 3, 9, true, 314), (9154, 7, 0, true, 258), (9159, 7, 1, true, 262), (9162, 7, 2, true, 266), (9172, 7, 3, true, 270), (9178, 3, 10, true, 317), (9189, 6, 0, true, 402), (9196, 6, 2, true, 406), (9199, 6, 4, true, 410), (9202, 6, 5, true, 412), (9205, 6, 3, true, 408)]), (9354, [(9237, 8, 0, true, 352), (9243, 8, 2, true, 355), (9249, 8, 4, true, 358), (9270, 3, 0, true, 288), (9280, 3, 6, true, 306), (9286, 9, 10, false, 461), (9289, 3, 8, true, 310), (9307, 3, 4, true, 302), (9311, 0, 1, true, 180), (9335, 4, 1, true, 440), (9339, 1, 3, true, 223), (9354, 3, 1, true, 291)]), (10031, [(9357, 3, 3, true, 297), (9369, 4, 2, true, 442), (9382, 6, 1, true, 404), (9386, 0, 0, true, 177), (9392, 3, 5, true, 304), (10007, 10, 1, false, 1156), (10013, 10, 2, false, 1157), (10016, 10, 3, false, 1158), (10020, 10, 4, false, 1159), (10023, 10, 5, false, 1160), (10027, 10, 15, false, 1170), (10031, 10, 16, false, 1171)]), (10068, [(10034, 10, 17, false, 1172), (10037, 10, 18, false, 1173), (10040, 10, 19, false, 1174), (10043, 10, 20, false, 1175), (10046, 10, 21, false, 1176), (10049, 10, 22, false, 1177), (10052, 10, 23, false, 1178), (10056, 10, 24, false, 1179), (10059, 10, 26, false, 1181), (10062, 10, 31, false, 1185), (10065, 10, 43, false, 1197), (10068, 10, 44, false, 1198)]), (10291, [(10071, 10, 0, false, 1155), (10088, 10, 6, false, 1161), (10095, 10, 7, false, 1162), (10102, 10, 9, false, 1164), (10105, 10, 10, false, 1165), (10108, 10, 11, false, 1166), (10112, 10, 8, false, 1163), (10123, 10, 12, false, 1167), (10126, 10, 13, false, 1168), (10150, 10, 14, false, 1169), (10274, 10, 25, false, 1180), (10291, 10, 28, false, 1183)]), (10385, [(10294, 10, 29, false, 1184), (10297, 10, 32, false, 1186), (10300, 10, 27, false, 1182), (10353, 10, 33, false, 1187), (10356, 10, 34, false, 1188), (10359, 10, 35, false, 1189), (10362, 10, 37, false, 1191), (10366, 10, 38, false, 1192), (10369, 10, 39, false, 1193), (10372, 10, 42, false, 1196), (10382, 10, 36, false, 1190), (10385, 10, 40, false, 1194)]), (10388, [(10388, 10, 41, false, 1195)])]
def mlT : List (Nat × List (Nat × Nat × Nat × Nat × Bool × Nat × Nat × Nat)) := [(2120, [(2023, 27, 5, 0, false, 509, 510, 511), (2034, 11, 5, 0, false, 513, 515, 0), (2043, 15, 5, 0, false, 532, 534, 1), (2048, 17, 5, 1, false, 541, 543, 3), (2054, 21, 5, 1, false, 611, 613, 7), (2066, 23, 5, 0, false, 642, 644, 9), (2071, 24, 5, 0, false, 648, 650, 10), (2074, 25, 5, 0, false, 658, 660, 11), (2080, 18, 5, 2, false, 593, 595, 4), (2086, 16, 5, 1, false, 537, 539, 2), (2092, 19, 5, 3, false, 598, 600, 5), (2120, 28, 5, 1, false, 615, 616, 617)]), (3066, [(2124, 6, 5, 1, false, 619, 620, 621), (2126, 20, 5, 2, false, 602, 604, 6), (2132, 22, 5, 2, false, 624, 626, 8), (2154, 30, 5, 1, false, 634, 635, 636), (2190, 69, 5, 1, false, 654, 655, 656), (2205, 29, 5, 2, false, 628, 629, 630), (2231, 12, 4, 1, false, 517, 518, 0), (3011, 0, 6, 0, true, 171, 172, 0), (3018, 1, 5, 0, false, 199, 200, 201), (3027, 5, 6, 1, false, 206, 207, 0), (3039, 68, 6, 0, false, 252, 253, 0), (3066, 2, 5, 1, false, 679, 680, 681)]), (6050, [(3070, 7, 5, 1, false, 683, 684, 685), (3073, 70, 5, 1, false, 687, 688, 689), (3082, 6, 5, 1, false, 978, 620, 621), (3099, 29, 5, 2, false, 669, 629, 630), (3103, 39, 5, 2, false, 756, 741, 742), (3111, 91, 4, 2, true, 671, 672, 0), (3120, 34, 5, 2, false, 723, 712, 713), (3123, 36, 5, 2, false, 724, 726, 13), (4022, 51, 5, 1, false, 1108, 1067, 1068), (4026, 56, 4, 2, false, 1133, 1134, 0), (6043, 69, 5, 1, false, 790, 655, 656), (6050, 40, 5, 3, false, 791, 753, 754)]), (8044, [(6054, 64, 5, 1, false, 792, 794, 16), (6058, 71, 5, 0, false, 800, 766, 767), (6062, 72, 5, 0, false, 801, 771, 772), (6065, 34, 5, 2, false, 802, 712, 713), (6069, 43, 4, 2, false, 803, 804, 0), (6075, 44, 5, 0, false, 809, 810, 811), (6085, 3, 5, 3, false, 813, 814, 815), (6099, 8, 5, 0, false, 796, 797, 798), (6107, 66, 4, 2, false, 863, 864, 0), (7034, 69, 5, 1, false, 769, 655, 656), (8034, 34, 5, 2, false, 878, 712, 713), (8044, 44, 5, 0, false, 879, 810, 811)]), (9011, [(8063, 75, 5, 0, false, 880, 882, 19), (8066, 76, 4, 6, false, 887, 888, 0), (8073, 40, 5, 3, false, 884, 753, 754), (8082, 8, 5, 0, false, 885, 797, 798), (8085, 91, 4, 2, true, 886, 672, 0), (8088, 77, 4, 2, false, 890, 891, 0), (8091, 78, 5, 4, false, 893, 895, 20), (8099, 43, 4, 2, false, 931, 804, 0), (8102, 3, 5, 3, false, 932, 814, 815), (8111, 82, 5, 2, false, 927, 928, 929), (8114, 81, 5, 1, false, 923, 924, 925), (9011, 59, 6, 0, false, 115, 116, 0)]), (9094, [(9018, 9, 6, 0, false, 132, 133, 0), (9025, 26, 6, 0, false, 165, 166, 0), (9043, 73, 6, 0, false, 347, 348, 0), (9050, 62, 6, 0, false, 397, 398, 0), (9057, 49, 6, 0, false, 434, 435, 0), (9066, 60, 5, 0, false, 489, 490, 491), (9070, 61, 5, 1, false, 493, 494, 495), (9078, 10, 5, 2, false, 505, 506, 507), (9082, 13, 5, 0, false, 524, 525, 526), (9085, 14, 5, 0, false, 528, 529, 530), (9091, 31, 5, 0, false, 665, 666, 667), (9094, 32, 5, 1, false, 675, 676, 677)]), (9175, [(9104, 94, 5, 2, false, 703, 705, 12), (9108, 34, 5, 2, false, 711, 712, 713), (9112, 35, 5, 3, false, 719, 720, 721), (9116, 37, 5, 1, false, 732, 733, 734), (9120, 38, 5, 1, false, 736, 737, 738), (9127, 39, 5, 2, false, 740, 741, 742), (9131, 98, 5, 3, false, 748, 750, 14), (9135, 40, 5, 3, false, 752, 753, 754), (9147, 41, 5, 1, false, 761, 762, 763), (9165, 71, 5, 0, false, 765, 766, 767), (9169, 72, 5, 0, false, 770, 771, 772), (9175, 42, 5, 0, false, 778, 779, 780)]), (9240, [(9181, 101, 5, 2, false, 782, 784, 15), (9185, 63, 5, 2, false, 786, 787, 788), (9192, 104, 5, 1, false, 825, 827, 17), (9208, 109, 5, 3, false, 845, 847, 18), (9214, 65, 5, 2, false, 858, 859, 860), (9218, 74, 5, 5, false, 874, 875, 876), (9222, 79, 5, 1, false, 897, 898, 899), (9225, 45, 5, 0, false, 905, 906, 907), (9228, 116, 4, 1, false, 913, 914, 0), (9231, 80, 5, 0, false, 919, 920, 921), (9234, 81, 5, 1, false, 933, 924, 925), (9240, 82, 5, 2, false, 934, 928, 929)]), (9300, [(9246, 83, 5, 2, false, 939, 940, 941), (9252, 121, 4, 1, false, 951, 952, 0), (9255, 122, 5, 2, false, 954, 956, 21), (9259, 126, 4, 1, false, 970, 971, 0), (9263, 46, 5, 0, false, 974, 975, 976), (9266, 47, 5, 3, false, 979, 980, 981), (9273, 48, 5, 1, false, 991, 992, 993), (9276, 129, 5, 2, false, 995, 997, 24), (9283, 265, 5, 0, false, 1007, 1009, 25), (9292, 264, 4, 1, false, 1011, 1012, 0), (9297, 132, 5, 1, false, 1017, 1019, 26), (9300, 117, 4, 3, false, 916, 917, 0)]), (9363, [(9303, 134, 5, 2, false, 1025, 1027, 27), (9316, 4, 5, 2, false, 1038, 1039, 1040), (9319, 123, 5, 2, false, 958, 960, 22), (9322, 84, 5, 1, false, 1046, 1047, 1048), (9326, 85, 5, 1, false, 1054, 1055, 1056), (9329, 50, 5, 1, false, 1062, 1063, 1064), (9332, 51, 5, 1, false, 1066, 1067, 1068), (9336, 52, 5, 2, false, 1070, 1071, 1072), (9347, 86, 5, 3, false, 1079, 1080, 1081), (9351, 67, 5, 1, false, 1088, 1089, 1090), (9360, 53, 5, 0, false, 1104, 1105, 1106), (9363, 54, 5, 3, false, 1121, 1122, 1123)]), (10133, [(9365, 55, 5, 3, false, 1129, 1130, 1131), (9372, 57, 5, 3, false, 1140, 1141, 1142), (9375, 58, 5, 5, false, 1144, 1145, 1146), (9379, 33, 5, 1, false, 707, 708, 709), (9389, 124, 5, 2, false, 962, 964, 23), (10076, 152, 4, 3, false, 1298, 1299, 0), (10080, 151, 4, 1, false, 1294, 1295, 0), (10084, 154, 4, 2, false, 1305, 1306, 0), (10091, 157, 5, 1, false, 1316, 1318, 28), (10098, 164, 5, 3, false, 1344, 1346, 32), (10129, 169, 5, 1, false, 1370, 1372, 37), (10133, 163, 5, 0, false, 1340, 1342, 31)]), (10207, [(10136, 168, 5, 1, false, 1366, 1368, 36), (10139, 170, 5, 1, false, 1374, 1376, 38), (10142, 167, 5, 1, false, 1362, 1364, 35), (10146, 172, 5, 2, false, 1383, 1385, 40), (10153, 174, 5, 1, false, 1400, 1402, 42), (10157, 177, 4, 4, false, 1413, 1414, 0), (10163, 176, 5, 2, false, 1409, 1411, 44), (10167, 178, 5, 1, false, 1416, 1418, 45), (10173, 171, 5, 3, false, 1379, 1381, 39), (10184, 165, 5, 0, false, 1353, 1355, 33), (10204, 175, 5, 0, false, 1404, 1406, 43), (10207, 179, 5, 0, false, 1420, 1422, 46)]), (10259, [(10210, 180, 5, 1, false, 1428, 1430, 47), (10217, 181, 5, 0, false, 1435, 1437, 48), (10230, 161, 5, 0, false, 1332, 1334, 29), (10233, 162, 5, 0, false, 1336, 1338, 30), (10236, 166, 5, 0, false, 1357, 1359, 34), (10239, 173, 5, 0, false, 1391, 1393, 41), (10242, 182, 5, 0, false, 1441, 1443, 49), (10245, 183, 5, 0, false, 1445, 1447, 50), (10248, 184, 5, 2, false, 1449, 1451, 51), (10252, 185, 4, 4, false, 1453, 1454, 0), (10256, 187, 5, 1, false, 1460, 1462, 52), (10259, 200, 5, 2, false, 1513, 1515, 61)]), (10312, [(10262, 203, 5, 1, false, 1525, 1527, 64), (10265, 189, 5, 1, false, 1468, 1470, 54), (10268, 188, 5, 2, false, 1464, 1466, 53), (10271, 191, 5, 2, false, 1476, 1478, 55), (10278, 194, 5, 2, false, 1488, 1490, 57), (10281, 193, 5, 1, false, 1484, 1486, 56), (10284, 196, 5, 2, false, 1496, 1498, 58), (10287, 197, 5, 3, false, 1500, 1502, 59), (10303, 208, 5, 1, false, 1545, 1547, 68), (10306, 216, 5, 0, false, 1577, 1579, 72), (10309, 212, 5, 1, false, 1561, 1563, 69), (10312, 207, 5, 1, false, 1541, 1543, 67)]), (10379, [(10315, 215, 5, 2, false, 1573, 1575, 71), (10318, 199, 5, 1, false, 1508, 1510, 60), (10323, 201, 5, 1, false, 1517, 1519, 62), (10326, 202, 5, 1, false, 1521, 1523, 63), (10329, 205, 5, 0, false, 1533, 1535, 65), (10332, 206, 5, 1, false, 1537, 1539, 66), (10335, 214, 5, 1, false, 1569, 1571, 70), (10339, 219, 5, 2, false, 1590, 1592, 73), (10344, 223, 4, 2, false, 1608, 1609, 0), (10350, 222, 5, 2, false, 1603, 1605, 74), (10375, 228, 5, 3, false, 1628, 1630, 77), (10379, 229, 5, 0, false, 1632, 1634, 78)]), (10443, [(10391, 226, 5, 3, false, 1619, 1621, 75), (10394, 227, 5, 5, false, 1623, 1625, 76), (10400, 232, 4, 1, false, 1644, 1645, 0), (10403, 236, 5, 1, false, 1660, 1662, 79), (10406, 240, 5, 3, false, 1676, 1678, 81), (10411, 238, 4, 1, false, 1668, 1669, 0), (10414, 239, 5, 4, false, 1672, 1674, 80), (10419, 243, 5, 3, false, 1689, 1691, 82), (10422, 246, 4, 1, false, 1701, 1702, 0), (10425, 248, 5, 2, false, 1708, 1710, 83), (10430, 252, 5, 3, false, 1725, 1727, 84), (10443, 257, 4, 1, false, 1746, 1747, 0)]), (11032, [(10446, 258, 5, 1, false, 1749, 1751, 85), (11009, 87, 6, 0, false, 107, 108, 0), (11012, 149, 6, 0, false, 1151, 1152, 0), (11013, 88, 5, 5, false, 485, 486, 487), (11017, 156, 5, 5, false, 1312, 1313, 1314), (11018, 89, 5, 1, false, 497, 498, 499), (11022, 158, 5, 1, false, 1320, 1321, 1322), (11023, 90, 5, 0, false, 501, 502, 503), (11027, 160, 5, 0, false, 1328, 1329, 1330), (11028, 92, 5, 1, false, 695, 696, 697), (11031, 159, 5, 1, false, 1324, 1325, 1326), (11032, 93, 5, 2, false, 699, 700, 701)]), (11058, [(11036, 186, 5, 2, false, 1456, 1457, 1458), (11037, 95, 5, 3, false, 715, 716, 717), (11041, 190, 5, 3, false, 1472, 1473, 1474), (11042, 96, 5, 2, false, 728, 729, 730), (11045, 192, 5, 2, false, 1480, 1481, 1482), (11046, 97, 5, 3, false, 744, 745, 746), (11049, 195, 5, 3, false, 1492, 1493, 1494), (11050, 99, 5, 2, false, 757, 758, 759), (11053, 198, 5, 2, false, 1504, 1505, 1506), (11054, 100, 5, 0, false, 774, 775, 776), (11057, 204, 5, 0, false, 1529, 1530, 1531), (11058, 102, 5, 1, false, 817, 818, 819)]), (11082, [(11061, 209, 5, 1, false, 1549, 1550, 1551), (11062, 103, 5, 1, false, 821, 822, 823), (11065, 210, 5, 1, false, 1553, 1554, 1555), (11066, 105, 5, 1, false, 829, 830, 831), (11069, 211, 5, 1, false, 1557, 1558, 1559), (11070, 106, 5, 1, false, 833, 834, 835), (11073, 213, 5, 1, false, 1565, 1566, 1567), (11074, 107, 5, 1, false, 837, 838, 839), (11077, 217, 5, 1, false, 1581, 1582, 1583), (11078, 108, 5, 1, false, 841, 842, 843), (11081, 218, 5, 1, false, 1585, 1586, 1587), (11082, 110, 5, 1, false, 849, 850, 851)]), (11107, [(11085, 220, 5, 1, false, 1594, 1595, 1596), (11086, 111, 5, 2, false, 853, 854, 855), (11090, 221, 5, 2, false, 1598, 1599, 1600), (11091, 112, 5, 2, false, 866, 867, 868), (11094, 224, 5, 2, false, 1611, 1612, 1613), (11095, 113, 5, 3, false, 870, 871, 872), (11098, 225, 5, 3, false, 1615, 1616, 1617), (11099, 114, 5, 3, false, 901, 902, 903), (11102, 230, 5, 3, false, 1636, 1637, 1638), (11103, 115, 5, 5, false, 909, 910, 911), (11106, 231, 5, 5, false, 1640, 1641, 1642), (11107, 118, 5, 5, false, 935, 936, 937)]), (11132, [(11110, 233, 5, 5, false, 1648, 1649, 1650), (11111, 119, 5, 3, false, 943, 944, 945), (11114, 234, 5, 3, false, 1652, 1653, 1654), (11115, 120, 5, 1, false, 947, 948, 949), (11118, 235, 5, 1, false, 1656, 1657, 1658), (11119, 125, 5, 4, false, 966, 967, 968), (11123, 237, 5, 4, false, 1664, 1665, 1666), (11124, 127, 5, 1, false, 983, 984, 985), (11127, 241, 5, 1, false, 1681, 1682, 1683), (11128, 128, 5, 3, false, 987, 988, 989), (11131, 242, 5, 3, false, 1685, 1686, 1687), (11132, 130, 5, 1, false, 999, 1000, 1001)]), (11156, [(11135, 244, 5, 1, false, 1693, 1694, 1695), (11136, 131, 5, 1, false, 1003, 1004, 1005), (11139, 245, 5, 1, false, 1697, 1698, 1699), (11140, 133, 5, 2, false, 1021, 1022, 1023), (11143, 247, 5, 2, false, 1704, 1705, 1706), (11144, 135, 5, 1, false, 1029, 1030, 1031), (11147, 249, 5, 1, false, 1712, 1713, 1714), (11148, 136, 5, 2, false, 1034, 1035, 1036), (11151, 250, 5, 2, false, 1717, 1718, 1719), (11152, 137, 5, 2, false, 1042, 1043, 1044), (11155, 251, 5, 2, false, 1721, 1722, 1723), (11156, 138, 5, 2, false, 1050, 1051, 1052)]), (11180, [(11159, 253, 5, 2, false, 1729, 1730, 1731), (11160, 139, 5, 1, false, 1058, 1059, 1060), (11163, 254, 5, 1, false, 1733, 1734, 1735), (11164, 140, 5, 4, false, 1074, 1075, 1076), (11167, 255, 5, 4, false, 1738, 1739, 1740), (11168, 141, 5, 2, false, 1083, 1084, 1085), (11171, 256, 5, 2, false, 1742, 1743, 1744), (11172, 142, 5, 2, false, 1096, 1097, 1098), (11175, 259, 5, 2, false, 1757, 1758, 1759), (11176, 143, 5, 1, false, 1100, 1101, 1102), (11179, 260, 5, 1, false, 1762, 1763, 1764), (11180, 144, 5, 1, false, 1109, 1110, 1111)]), (11202, [(11183, 261, 5, 1, false, 1766, 1767, 1768), (11184, 145, 5, 1, false, 1113, 1114, 1115), (11187, 262, 5, 1, false, 1771, 1772, 1773), (11188, 146, 5, 3, false, 1117, 1118, 1119), (11191, 150, 5, 3, false, 1290, 1291, 1292), (11194, 147, 5, 3, false, 1125, 1126, 1127), (11198, 153, 5, 3, false, 1301, 1302, 1303), (11199, 148, 5, 5, false, 1136, 1137, 1138), (11202, 155, 5, 5, false, 1308, 1309, 1310)])]
def blT : List (Nat × List (Nat × Nat × Nat)) := [(4030, [(1, 10, 174), (1001, 10, 209), (2003, 10, 135), (2212, 7, 545), (2224, 8, 555), (2234, 11, 520), (3003, 10, 168), (3076, 9, 694), (3115, 11, 674), (3126, 12, 806), (4003, 10, 437), (4030, 9, 1148)]), (10001, [(5001, 10, 118), (6003, 10, 400), (7003, 10, 255), (7028, 9, 691), (8003, 10, 350), (9003, 10, 110), (9342, 11, 1078), (10001, 10, 1154)])]
def clT : List (Nat × List (Nat × Nat × Nat × Nat × Nat)) := [(11010, [(3009, 0, 169, 170, 91), (3021, 1, 203, 205, 92), (3033, 7, 249, 251, 93), (9009, 5, 113, 114, 88), (9016, 2, 130, 131, 89), (9023, 3, 163, 164, 90), (9041, 8, 345, 346, 94), (9048, 6, 395, 396, 95), (9055, 4, 432, 433, 96), (11007, 9, 105, 106, 87), (11010, 10, 1149, 1150, 97)])]
def alT : List (Nat × List (Nat × Nat × Nat × Nat)) := [(9023, [(3021, 4, 203, 204), (3033, 5, 249, 250), (9023, 6, 163, 344)])]
def kT : List (Nat × List (Nat × Int32 × Nat)) := [(13267, [(2239, 1000000, 523), (3110, 1000000, 670), (9262, -2000000, 973), (9306, 999999, 1033), (9350, 2000000000, 1087), (10121, 100000, 1351), (10122, 1000000, 1352), (10365, 100000000, 1627), (10418, -2000000, 1680), (13265, 1431655765, 1014), (13266, 858993459, 1015), (13267, 252645135, 1016)])]
def kJ : List (Nat × List (Nat × Int64 × Nat)) := [(10171, [(6105, 100, 862), (6111, 1103515245, 1092), (6113, 12345, 1093), (6115, 2147483648, 1094), (6117, 65536, 1095), (9212, -2, 857), (10074, 3, 1297), (10115, -1, 1348), (10117, 27, 1349), (10119, 96, 1350), (10161, 555, 1408), (10171, 131638, 1426)]), (10202, [(10176, 8935713994, 1432), (10178, 247162, 1424), (10180, 419, 1425), (10182, 79, 1427), (10188, 284068024, 1439), (10190, 131360, 1389), (10192, 6559778, 1440), (10194, 237308, 1395), (10196, 129523, 1396), (10198, 50348, 1397), (10200, 365260, 1398), (10202, 453773, 1399)]), (10398, [(10213, 3436186, 1433), (10215, 8798, 1434), (10220, 4398346831, 1361), (10222, 235981828, 1378), (10224, 80155, 1387), (10226, 355568, 1388), (10228, 400577, 1390), (10321, 5, 1512), (10337, 4, 1589), (10342, 100, 1607), (10348, -2, 1602), (10398, 9, 1647)]), (11192, [(10409, 99, 1671), (10428, 999999, 1716), (10433, 2000000000, 1737), (10435, 1103515245, 1753), (10437, 12345, 1754), (10439, 2147483648, 1755), (10441, 65536, 1756), (10449, 20, 1761), (10451, 2, 1770), (11192, 4294967295, 1775)])]
def sT : List (Nat × List (Nat × Nat)) := [(2116, [(2046, 6), (2058, 10), (2060, 11), (2062, 12), (2064, 13), (2069, 15), (2084, 0), (2090, 1), (2098, 2), (2106, 3), (2112, 4), (2116, 5)]), (2203, [(2130, 7), (2142, 8), (2150, 9), (2157, 14), (2174, 16), (2185, 17), (2194, 18), (2195, 19), (2203, 20)])]
def rF (r : Nat) : Option FieldType := match r with
  | 0 => none | 1 => some .int | 2 => some .boolean | 3 => some .long | _ => some (.object RX1)
def swok (dd : Except DecodeError (Instr × Nat)) (pc a len : Nat) : Bool := match dd, lk swl a with
  | .ok (.tableswitch df lo hi offs, ln), some (lo', tg, d) => Nat.beq ln len && decide (lo = lo') && decide ((pc : Int) + df = (d : Int)) && decide (hi - lo + 1 = (tg.length : Int)) && Nat.beq offs.size tg.length && (List.range tg.length).all (fun i => decide ((pc : Int) + offs.getD i 0 = ((tg.getD i 0 : Nat) : Int)))
  | .ok (.lookupswitch df ps, ln), some (lo', tg, d) => Nat.beq ln len && decide ((pc : Int) + df = (d : Int)) && (match ps.toList, tg with
    | [(k0, o0), (k1, o1)], [t0, t1] => decide (k0 = lo') && decide (k1 = lo' + 1) && decide ((pc : Int) + o0 = (t0 : Int)) && decide ((pc : Int) + o1 = (t1 : Int))
    | _, _ => false)
  | _, _ => false
def ochk (o : Nat) (op a b : Nat) (v : Value) (pc len : Nat) (dd : Except DecodeError (Instr × Nat)) : Bool := match dd with
  | .ok (.aload_n k, 1) => Nat.beq op 42 && Nat.beq k.val a && Nat.beq len 1
  | .ok (.aload k, 2) => Nat.beq op 42 && Nat.beq k a && Nat.beq len 2
  | .ok (.iload_n k, 1) => Nat.beq op 40 && Nat.beq k.val a && Nat.beq len 1
  | .ok (.iload k, 2) => Nat.beq op 40 && Nat.beq k a && Nat.beq len 2
  | .ok (.lload_n k, 1) => Nat.beq op 41 && Nat.beq k.val a && Nat.beq len 1
  | .ok (.lload k, 2) => Nat.beq op 41 && Nat.beq k a && Nat.beq len 2
  | .ok (.astore_n k, 1) => Nat.beq op 45 && Nat.beq k.val a && Nat.beq len 1
  | .ok (.astore k, 2) => Nat.beq op 45 && Nat.beq k a && Nat.beq len 2
  | .ok (.istore_n k, 1) => Nat.beq op 43 && Nat.beq k.val a && Nat.beq len 1
  | .ok (.istore k, 2) => Nat.beq op 43 && Nat.beq k a && Nat.beq len 2
  | .ok (.lstore_n k, 1) => Nat.beq op 44 && Nat.beq k.val a && Nat.beq len 1
  | .ok (.lstore k, 2) => Nat.beq op 44 && Nat.beq k a && Nat.beq len 2
  | .ok (.iinc k n, 3) => Nat.beq op 46 && Nat.beq k a && Nat.beq len 3 && decide (v = .int (Int32.ofInt n))
  | .ok (.getfield i, 3) => Nat.beq op 0 && Nat.beq len 3 && Nat.blt i 1000 && (match lk2 flT (1000 * o + i) with | some (ci, j, _, _) => Nat.beq ci a && Nat.beq j b | none => false)
  | .ok (.putfield i, 3) => Nat.beq op 1 && Nat.beq len 3 && Nat.blt i 1000 && (match lk2 flT (1000 * o + i) with | some (ci, j, ne, _) => Nat.beq ci a && Nat.beq j b && (!ne || !(fTX a b).2.2.2) | none => false)
  | .ok (.goto off, 3) => Nat.beq op 32 && Nat.beq len 3 && decide ((pc : Int) + off = (a : Int))
  | .ok (.ifCond c off, 3) => Nat.beq len 3 && decide ((pc : Int) + off = (a : Int)) && Nat.beq op (match c with | .eq => 20 | .ne => 21 | .lt => 22 | .ge => 23 | .gt => 24 | .le => 25)
  | .ok (.if_icmp c off, 3) => Nat.beq len 3 && decide ((pc : Int) + off = (a : Int)) && Nat.beq op (match c with | .eq => 26 | .ne => 27 | .lt => 28 | .ge => 29 | .gt => 30 | .le => 31)
  | .ok (.ifnull off, 3) => Nat.beq op 33 && Nat.beq len 3 && decide ((pc : Int) + off = (a : Int))
  | .ok (.ifnonnull off, 3) => Nat.beq op 34 && Nat.beq len 3 && decide ((pc : Int) + off = (a : Int))
  | .ok (.tableswitch .., _) => Nat.beq op 35 && swok dd pc a len
  | .ok (.lookupswitch .., _) => Nat.beq op 35 && swok dd pc a len
  | .ok (.new i, 3) => Nat.beq op 2 && Nat.beq len 3 && Nat.blt i 1000 && (match lk2 clT (1000 * o + i) with | some (ci, _) => Nat.beq ci a | none => false)
  | .ok (.anewarray i, 3) => Nat.beq op 3 && Nat.beq len 3 && Nat.blt i 1000 && (match lk2 alT (1000 * o + i) with | some (t, _) => Nat.beq t a | none => false)
  | .ok (.invokevirtual i, 3) => Nat.beq len 3 && Nat.blt i 1000 && (match lk2 mlT (1000 * o + i) with
    | some (m, p, n, _) => Nat.beq op 5 && Nat.beq p 5 && Nat.beq m a && Nat.beq n b
    | none => (match lk2 blT (1000 * o + i) with | some (p, _) => Nat.beq op p && (Nat.beq p 7 || Nat.beq p 8) | none => false))
  | .ok (.invokespecial i, 3) => Nat.beq len 3 && Nat.blt i 1000 && (match lk2 mlT (1000 * o + i) with
    | some (m, p, n, _) => Nat.beq op 6 && Nat.beq p 6 && Nat.beq m a && Nat.beq n b
    | none => (match lk2 blT (1000 * o + i) with | some (p, _) => Nat.beq op p && Nat.beq p 10 | none => false))
  | .ok (.invokestatic i, 3) => Nat.beq len 3 && Nat.blt i 1000 && (match lk2 mlT (1000 * o + i) with
    | some (m, p, n, _) => Nat.beq op 4 && Nat.beq p 4 && Nat.beq m a && Nat.beq n b
    | none => (match lk2 blT (1000 * o + i) with | some (p, _) => Nat.beq op p && (Nat.beq p 9 || Nat.beq p 11 || Nat.beq p 12) | none => false))
  | _ => false
def kchk (o : Nat) (v : Value) (len : Nat) (dd : Except DecodeError (Instr × Nat)) : Bool := match v, dd with
  | .int x, .ok (.iconst n, 1) => Nat.beq len 1 && decide (Int32.ofInt n = x)
  | .int x, .ok (.bipush n, 2) => Nat.beq len 2 && decide ((Int8.ofInt n).toInt32 = x)
  | .int x, .ok (.sipush n, 3) => Nat.beq len 3 && decide ((Int16.ofInt n).toInt32 = x)
  | .int x, .ok (.ldc k, 2) => Nat.beq len 2 && Nat.blt k 1000 && (match lk2 kT (1000 * o + k) with | some (y, _) => decide (y = x) | none => false)
  | .int x, .ok (.ldc_w k, 3) => Nat.beq len 3 && Nat.blt k 1000 && (match lk2 kT (1000 * o + k) with | some (y, _) => decide (y = x) | none => false)
  | .long x, .ok (.lconst n, 1) => Nat.beq len 1 && decide (Int64.ofNat n.val = x)
  | .long x, .ok (.ldc2_w k, 3) => Nat.beq len 3 && Nat.blt k 1000 && (match lk2 kJ (1000 * o + k) with | some (y, _) => decide (y = x) | none => false)
  | .null, .ok (.aconst_null, 1) => Nat.beq len 1
  | .ref r, .ok (.ldc k, 2) => Nat.beq len 2 && Nat.blt k 1000 && (match lk2 sT (1000 * o + k) with | some i => Nat.beq r (3 + i) | none => false)
  | _, _ => false
def achk (o : Nat) (cc : ByteArray) (pc : Nat) (q : AI × Nat) : Bool := match q.1 with
  | .inl v => kchk o v q.2 (decode cc pc)
  | .inr (.inl i) => decide (decode cc pc = .ok (i, q.2)) && (match i with | .newarray _ => Nat.beq q.2 2 | _ => Nat.beq q.2 1)
  | .inr (.inr (op, a, b, v)) => ochk o op a b v pc q.2 (decode cc pc)
def mchk (X : MD) : Bool := (md_c X).all (fun c => c.2.all (fun q => achk (md_o X) (md_b X) q.1 q.2))
def MWok (Y : MD) : Prop := Jvm.Cond.code (md_y Y) (md_b Y) (md_L Y) (rF (md_r Y)) ∈ lw_tbl ∧ Jvm.Cond.initialized (md_y Y).cls ∈ lw_tbl ∧ ((md_y Y).cls ≠ "java/lang/invoke/MethodHandle" ∧ (md_y Y).cls ≠ "java/lang/invoke/VarHandle") ∧ (md_y Y).cls = cnm (md_o Y) ∧ plainName (md_y Y).cls = true ∧ md_L Y ≤ 20 ∧ (md_i Y = true → (md_y Y).name = "<init>" ∧ md_r Y = 0)
theorem tin_1 {w : Jvm.Cond} (h : w ∈ tables_1_1) : w ∈ lw_tbl := show w ∈ k2_sels lw_privs ++ (tables_1_1 ++ (tables_1_2 ++ (tables_1_3 ++ (tables_1_4 ++ (tables_1_5 ++ (tables_1_6 ++ (tables_1_7 ++ tables_1_8))))))) from List.mem_append_right _ (List.mem_append_left _ h)
theorem tin_2 {w : Jvm.Cond} (h : w ∈ tables_1_2) : w ∈ lw_tbl := show w ∈ k2_sels lw_privs ++ (tables_1_1 ++ (tables_1_2 ++ (tables_1_3 ++ (tables_1_4 ++ (tables_1_5 ++ (tables_1_6 ++ (tables_1_7 ++ tables_1_8))))))) from List.mem_append_right _ (List.mem_append_right _ (List.mem_append_left _ h))
theorem tin_3 {w : Jvm.Cond} (h : w ∈ tables_1_3) : w ∈ lw_tbl := show w ∈ k2_sels lw_privs ++ (tables_1_1 ++ (tables_1_2 ++ (tables_1_3 ++ (tables_1_4 ++ (tables_1_5 ++ (tables_1_6 ++ (tables_1_7 ++ tables_1_8))))))) from List.mem_append_right _ (List.mem_append_right _ (List.mem_append_right _ (List.mem_append_left _ h)))
theorem tin_4 {w : Jvm.Cond} (h : w ∈ tables_1_4) : w ∈ lw_tbl := show w ∈ k2_sels lw_privs ++ (tables_1_1 ++ (tables_1_2 ++ (tables_1_3 ++ (tables_1_4 ++ (tables_1_5 ++ (tables_1_6 ++ (tables_1_7 ++ tables_1_8))))))) from List.mem_append_right _ (List.mem_append_right _ (List.mem_append_right _ (List.mem_append_right _ (List.mem_append_left _ h))))
theorem tin_5 {w : Jvm.Cond} (h : w ∈ tables_1_5) : w ∈ lw_tbl := show w ∈ k2_sels lw_privs ++ (tables_1_1 ++ (tables_1_2 ++ (tables_1_3 ++ (tables_1_4 ++ (tables_1_5 ++ (tables_1_6 ++ (tables_1_7 ++ tables_1_8))))))) from List.mem_append_right _ (List.mem_append_right _ (List.mem_append_right _ (List.mem_append_right _ (List.mem_append_right _ (List.mem_append_left _ h)))))
theorem tin_6 {w : Jvm.Cond} (h : w ∈ tables_1_6) : w ∈ lw_tbl := show w ∈ k2_sels lw_privs ++ (tables_1_1 ++ (tables_1_2 ++ (tables_1_3 ++ (tables_1_4 ++ (tables_1_5 ++ (tables_1_6 ++ (tables_1_7 ++ tables_1_8))))))) from List.mem_append_right _ (List.mem_append_right _ (List.mem_append_right _ (List.mem_append_right _ (List.mem_append_right _ (List.mem_append_right _ (List.mem_append_left _ h))))))
theorem tin_7 {w : Jvm.Cond} (h : w ∈ tables_1_7) : w ∈ lw_tbl := show w ∈ k2_sels lw_privs ++ (tables_1_1 ++ (tables_1_2 ++ (tables_1_3 ++ (tables_1_4 ++ (tables_1_5 ++ (tables_1_6 ++ (tables_1_7 ++ tables_1_8))))))) from List.mem_append_right _ (List.mem_append_right _ (List.mem_append_right _ (List.mem_append_right _ (List.mem_append_right _ (List.mem_append_right _ (List.mem_append_right _ (List.mem_append_left _ h)))))))
theorem tin_8 {w : Jvm.Cond} (h : w ∈ tables_1_8) : w ∈ lw_tbl := show w ∈ k2_sels lw_privs ++ (tables_1_1 ++ (tables_1_2 ++ (tables_1_3 ++ (tables_1_4 ++ (tables_1_5 ++ (tables_1_6 ++ (tables_1_7 ++ tables_1_8))))))) from List.mem_append_right _ (List.mem_append_right _ (List.mem_append_right _ (List.mem_append_right _ (List.mem_append_right _ (List.mem_append_right _ (List.mem_append_right _ (List.mem_append_right _ (h))))))))
theorem lwz_if {c : Bool} {A B : Option Jvm.Cond} {w : Jvm.Cond} {P : Prop} (h : (bif c then A else B) = some w) (ha : A = some w → P) (hb : B = some w → P) : P := by
  cases c with
  | true => exact ha h
  | false => exact hb h
def lwz (i : Nat) : Option Jvm.Cond := bif Nat.blt i 86 then (k2_sels lw_privs)[i]? else bif Nat.blt i 326 then tables_1_1[i - 86]? else bif Nat.blt i 566 then tables_1_2[i - 326]? else bif Nat.blt i 806 then tables_1_3[i - 566]? else bif Nat.blt i 1046 then tables_1_4[i - 806]? else bif Nat.blt i 1286 then tables_1_5[i - 1046]? else bif Nat.blt i 1526 then tables_1_6[i - 1286]? else bif Nat.blt i 1766 then tables_1_7[i - 1526]? else tables_1_8[i - 1766]?
theorem lwz_mem {i : Nat} {w : Jvm.Cond} (h : lwz i = some w) : w ∈ lw_tbl := by
  unfold lwz at h
  exact lwz_if h (fun h => (List.mem_append_left _ (List.mem_of_getElem? h) : w ∈ k2_sels lw_privs ++ tables_1)) (fun h => lwz_if h (fun h => tin_1 (List.mem_of_getElem? h)) (fun h => lwz_if h (fun h => tin_2 (List.mem_of_getElem? h)) (fun h => lwz_if h (fun h => tin_3 (List.mem_of_getElem? h)) (fun h => lwz_if h (fun h => tin_4 (List.mem_of_getElem? h)) (fun h => lwz_if h (fun h => tin_5 (List.mem_of_getElem? h)) (fun h => lwz_if h (fun h => tin_6 (List.mem_of_getElem? h)) (fun h => lwz_if h (fun h => tin_7 (List.mem_of_getElem? h)) (fun h => tin_8 (List.mem_of_getElem? h)))))))))
end
