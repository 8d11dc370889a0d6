/-! THE ABSTRACT MACHINE. One memory M : Nat → cell; references are places in it. Places 0 and 1 count the cells and slots that were made, 2 is the script, 3 .. 23 the String constants, 32 + k the k-th cell that was made. -/
abbrev AE : Type := (Nat × vp_A) ⊕ (Nat × List Value)
abbrev AM : Type := Nat → AE
abbrev AL : Type := List (Option Value)
abbrev AI : Type := Value ⊕ Instr ⊕ (Nat × Nat × Nat × Value)
abbrev MC : Type := List (Nat × List (Nat × AI × Nat))
abbrev MD : Type := Nat × Bool × Nat × Nat × MethodName × ByteArray × MC
def md_o (X : MD) : Nat := X.1
def md_i (X : MD) : Bool := X.2.1
def md_L (X : MD) : Nat := X.2.2.1
def md_r (X : MD) : Nat := X.2.2.2.1
def md_y (X : MD) : MethodName := X.2.2.2.2.1
def md_b (X : MD) : ByteArray := X.2.2.2.2.2.1
def md_c (X : MD) : MC := X.2.2.2.2.2.2
def lk {α : Type} : List (Nat × α) → Nat → Option α
  | [], _ => none
  | (p, x) :: t, pc => bif Nat.beq p pc then some x else lk t pc
def lk2 {α : Type} : List (Nat × List (Nat × α)) → Nat → Option α
  | [], _ => none
  | (hi, c) :: t, pc => bif Nat.ble pc hi then lk c pc else lk2 t pc
theorem lk_mem {α : Type} : ∀ {c : List (Nat × α)} {pc : Nat} {x : α}, lk c pc = some x → (pc, x) ∈ c
  | [], _, _, h => by simp [lk] at h
  | (p, y) :: t, pc, x, h => by
    unfold lk at h
    cases hb : Nat.beq p pc with
    | true =>
      rw [hb] at h
      have h1 : p = pc := Nat.eq_of_beq_eq_true hb
      have h2 : y = x := Option.some.inj h
      rw [h1, h2]
      exact List.mem_cons_self
    | false =>
      rw [hb] at h
      exact List.mem_cons_of_mem _ (lk_mem h)
theorem lk2_mem {α : Type} : ∀ {cs : List (Nat × List (Nat × α))} {pc : Nat} {x : α}, lk2 cs pc = some x → ∃ c ∈ cs, (pc, x) ∈ c.2
  | [], _, _, h => by simp [lk2] at h
  | (hi, c) :: t, pc, x, h => by
    unfold lk2 at h
    cases hb : Nat.ble pc hi with
    | true =>
      rw [hb] at h
      exact ⟨(hi, c), List.mem_cons_self, lk_mem h⟩
    | false =>
      rw [hb] at h
      obtain ⟨c', h1, h2⟩ := lk2_mem (cs := t) h
      exact ⟨c', List.mem_cons_of_mem _ h1, h2⟩
def cdx (X : MD) (pc : Nat) : Option (AI × Nat) := lk2 (md_c X) pc
-- locals
def gl : AL → Nat → Option Value
  | [], _ => none
  | a :: _, 0 => a
  | _ :: t, n + 1 => gl t n
def cl2 : Option Value → Option Value
  | some (.long _) => none
  | some (.double _) => none
  | o => o
/-- a value of one slot is stored -/
def st1 : AL → Nat → Value → AL
  | [], _, _ => []
  | _ :: t, 0, v => some v :: t
  | a :: t, n + 1, v => (match n with | 0 => cl2 a | _ + 1 => a) :: st1 t n v
/-- a long is stored -/
def st2 : AL → Nat → Value → AL
  | [], _, _ => []
  | _ :: t, 0, v => some v :: (match t with | [] => [] | _ :: u => none :: u)
  | a :: t, n + 1, v => (match n with | 0 => cl2 a | _ + 1 => a) :: st2 t n v
/-- the locals at a method's entry -/
def ent : List Value → Nat → AL
  | [], n => List.replicate n none
  | .long x :: t, n => some (.long x) :: none :: ent t (n - 2)
  | .double x :: t, n => some (.double x) :: none :: ent t (n - 2)
  | v :: t, n => some v :: ent t (n - 1)
-- memory
def cnt (M : AM) (i : Nat) : Nat := match M i with
  | .inr (n, _) => n
  | .inl _ => 0
def gv : List Value → Nat → Option Value
  | [], _ => none
  | a :: _, 0 => some a
  | _ :: t, n + 1 => gv t n
def mnew (M : AM) (e : AE) (sz : Nat) : AM := va_up (va_up (va_up M (32 + cnt M 0) e) 0 (.inr (cnt M 0 + 1, []))) 1 (.inr (cnt M 1 + sz, []))
def ain (i : Int32) (n : Nat) : Bool := !(decide (i < 0)) && Nat.blt i.toNatClampNeg n
def anar (t : Nat) (x : Int32) : Int32 := bif Nat.beq t 2 then vp_nar .byte x else vp_nar .boolean x
def tag_cls (t : Nat) : Nat := bif Nat.beq t 4 then 1 else bif Nat.beq t 5 then 7 else 3
-- plain instructions
def pstep (i : Instr) (st : List Value) : Option (List Value) := match i, st with
  | .iadd, .int y :: .int x :: r => some (.int (x + y) :: r)
  | .isub, .int y :: .int x :: r => some (.int (x - y) :: r)
  | .imul, .int y :: .int x :: r => some (.int (x * y) :: r)
  | .iand, .int y :: .int x :: r => some (.int (x &&& y) :: r)
  | .ior, .int y :: .int x :: r => some (.int (x ||| y) :: r)
  | .ishl, .int y :: .int x :: r => some (.int (x <<< (y &&& 31)) :: r)
  | .ishr, .int y :: .int x :: r => some (.int (x >>> (y &&& 31)) :: r)
  | .iushr, .int y :: .int x :: r => some (.int (x.toUInt32 >>> (y.toUInt32 &&& Int32.toUInt32 31)).toInt32 :: r)
  | .irem, .int y :: .int x :: r => bif y == 0 then none else some (.int (x - x / y * y) :: r)
  | .ladd, .long y :: .long x :: r => some (.long (x + y) :: r)
  | .lsub, .long y :: .long x :: r => some (.long (x - y) :: r)
  | .lmul, .long y :: .long x :: r => some (.long (x * y) :: r)
  | .land, .long y :: .long x :: r => some (.long (x &&& y) :: r)
  | .lor, .long y :: .long x :: r => some (.long (x ||| y) :: r)
  | .ldiv, .long y :: .long x :: r => bif y == 0 then none else some (.long (x / y) :: r)
  | .lrem, .long y :: .long x :: r => bif y == 0 then none else some (.long (x - x / y * y) :: r)
  | .lshl, .int y :: .long x :: r => some (.long (x <<< (y.toInt64 &&& 63)) :: r)
  | .lshr, .int y :: .long x :: r => some (.long (x >>> (y.toInt64 &&& 63)) :: r)
  | .lcmp, .long y :: .long x :: r => some (.int (lg_cmp x y) :: r)
  | .i2l, .int x :: r => some (.long x.toInt64 :: r)
  | .l2i, .long x :: r => some (.int x.toInt32 :: r)
  | .i2b, .int x :: r => some (.int x.toInt8.toInt32 :: r)
  | .i2s, .int x :: r => some (.int x.toInt16.toInt32 :: r)
  | .dup, .int x :: r => some (.int x :: .int x :: r)
  | .dup, .ref x :: r => some (.ref x :: .ref x :: r)
  | .dup2, .int y :: .ref x :: r => some (.int y :: .ref x :: .int y :: .ref x :: r)
  | .pop, .int x :: r => some r
  | .pop2, .long x :: r => some r
  | _, _ => none
def mstep (i : Instr) (st : List Value) (M : AM) : Option (List Value × AM) := match i, st with
  | .iaload, .int j :: .ref k :: r => (match M k with
    | .inl (t, n, .inl f) => bif (Nat.beq t 0 || Nat.beq t 7) && ain j n then some (.int (f j.toNatClampNeg) :: r, M) else none
    | _ => none)
  | .baload, .int j :: .ref k :: r => (match M k with
    | .inl (t, n, .inl f) => bif (Nat.beq t 2 || Nat.beq t 3) && ain j n then some (.int (f j.toNatClampNeg) :: r, M) else none
    | _ => none)
  | .laload, .int j :: .ref k :: r => (match M k with
    | .inl (t, n, .inr (.inl f)) => bif Nat.beq t 1 && ain j n then some (.long (f j.toNatClampNeg) :: r, M) else none
    | _ => none)
  | .aaload, .int j :: .ref k :: r => (match M k with
    | .inl (t, n, .inr (.inr (.inr (.inr f)))) => bif Nat.ble 4 t && Nat.ble t 6 && ain j n then some (va_rf (f j.toNatClampNeg) :: r, M) else none
    | _ => none)
  | .iastore, .int x :: .int j :: .ref k :: r => (match M k with
    | .inl (t, n, .inl f) => bif Nat.beq t 0 && ain j n then some (r, va_up M k (.inl (t, n, .inl (upd f j.toNatClampNeg x)))) else none
    | _ => none)
  | .bastore, .int x :: .int j :: .ref k :: r => (match M k with
    | .inl (t, n, .inl f) => bif (Nat.beq t 2 || Nat.beq t 3) && ain j n then some (r, va_up M k (.inl (t, n, .inl (upd f j.toNatClampNeg (anar t x))))) else none
    | _ => none)
  | .lastore, .long x :: .int j :: .ref k :: r => (match M k with
    | .inl (t, n, .inr (.inl f)) => bif Nat.beq t 1 && ain j n then some (r, va_up M k (.inl (t, n, .inr (.inl (vp_updL f j.toNatClampNeg x))))) else none
    | _ => none)
  | .aastore, .ref v :: .int j :: .ref k :: r => (match M k, M v with
    | .inl (t, n, .inr (.inr (.inr (.inr f)))), .inr (ci, _) => bif Nat.ble 4 t && Nat.ble t 6 && Nat.beq ci (tag_cls t) && Nat.ble 32 v && ain j n then some (r, va_up M k (.inl (t, n, .inr (.inr (.inr (.inr (va_up f j.toNatClampNeg (some v)))))))) else none
    | _, _ => none)
  | .arraylength, .ref k :: r => (match M k with
    | .inl (t, n, _) => bif Nat.beq t 8 then none else some (.int (Int32.ofNat n) :: r, M)
    | _ => none)
  | .newarray ty, .int n :: r => bif decide (n < 0) || Nat.blt 100000 n.toNatClampNeg then none else (match ty with
    | .int => some (.ref (32 + cnt M 0) :: r, mnew M (.inl (0, n.toNatClampNeg, .inl (fun _ => 0))) n.toNatClampNeg)
    | .long => some (.ref (32 + cnt M 0) :: r, mnew M (.inl (1, n.toNatClampNeg, .inr (.inl (fun _ => 0)))) n.toNatClampNeg)
    | .byte => some (.ref (32 + cnt M 0) :: r, mnew M (.inl (2, n.toNatClampNeg, .inl (fun _ => 0))) n.toNatClampNeg)
    | .boolean => some (.ref (32 + cnt M 0) :: r, mnew M (.inl (3, n.toNatClampNeg, .inl (fun _ => 0))) n.toNatClampNeg)
    | _ => none)
  | _, _ => none
-- fields
def fcode (ci j : Nat) : FieldType := match ci with
  | 0 => tyX0 j | 1 => tyX1 j | 2 => tyX2 j | 3 => tyX3 j | 4 => tyX4 j | 5 => tyX5 j | 6 => tyX6 j | 7 => tyX7 j | 8 => tyX8 j | 9 => tyX9 j | _ => tyX10 j
def fTX (ci : Nat) : u_T := match ci with
  | 0 => TX0 | 1 => TX1 | 2 => TX2 | 3 => TX3 | 4 => TX4 | 5 => TX5 | 6 => TX6 | 7 => TX7 | 8 => TX8 | 9 => TX9 | _ => TX10
def fN (ci : Nat) : Nat := match ci with
  | 0 => 5 | 1 => 7 | 2 => 8 | 3 => 12 | 4 => 3 | 5 => 2 | 6 => 8 | 7 => 5 | 8 => 13 | 9 => 11 | _ => 45
def cnm (o : Nat) : String := match o with
  | 0 => RX0 | 1 => RX1 | 2 => RX2 | 3 => RX3 | 4 => RX4 | 5 => RX5 | 6 => RX6 | 7 => RX7 | 8 => RX8 | 9 => RX9 | 10 => RX10 | 11 => RL | 12 => "java/lang/Math" | _ => "java/lang/Integer"
def pfit : FieldType → Value → Bool
  | .int, .int _ => true
  | .long, .long _ => true
  | .boolean, .int x => x == 0 || x == 1
  | .object _, .ref _ => true
  | .object _, .null => true
  | .array _, .ref _ => true
  | .array _, .null => true
  | _, _ => false
def dfv : FieldType → Value
  | .int => .int 0
  | .long => .long 0
  | .boolean => .int 0
  | .object _ => .null
  | .array _ => .null
  | _ => .retAddr 0
def nfs (ci : Nat) : List Value := (List.range (fN ci)).map (fun j => dfv (fcode ci j))
def jb (c : Nat) (x y : Int32) : Bool := match c with
  | 0 => decide (x = y)
  | 1 => !(decide (x = y))
  | 2 => decide (x < y)
  | 3 => decide (y ≤ x)
  | 4 => decide (y < x)
  | _ => decide (x ≤ y)
def swx (swl : List (Nat × Int × List Nat × Nat)) (a : Nat) (x : Int32) : Option Nat := match lk swl a with
  | some (lo, tg, d) => some (if x.toInt < lo then d else tg.getD (x.toInt - lo).toNat d)
  | none => none
def ostep (swl : List (Nat × Int × List Nat × Nat)) (o : Nat) (ini : Bool) (op a b : Nat) (v : Value) (pc len : Nat) (l : AL) (st : List Value) (M : AM) : Option (Nat × AL × List Value × AM) :=
  bif Nat.beq op 42 then (match gl l a with
    | some (.ref x) => some (pc + len, l, .ref x :: st, M)
    | some .null => some (pc + len, l, .null :: st, M)
    | _ => none)
  else bif Nat.beq op 40 then (match gl l a with
    | some (.int x) => some (pc + len, l, .int x :: st, M)
    | _ => none)
  else bif Nat.beq op 0 then (match st with
    | .ref k :: r => (match M k with
      | .inr (ci, fs) => bif Nat.beq ci a then (match gv fs b with
        | some w => some (pc + len, l, w :: r, M)
        | none => none) else none
      | .inl _ => none)
    | _ => none)
  else bif Nat.beq op 1 then (match st with
    | w :: .ref k :: r => (match M k with
      | .inr (ci, fs) => bif Nat.beq ci a && Nat.blt b fs.length && pfit (fcode a b) w && (bif (fTX a b).2.2.2 then ini && Nat.beq o a else true) then some (pc + len, l, r, va_up M k (.inr (ci, fs.set b w))) else none
      | .inl _ => none)
    | _ => none)
  else bif Nat.beq op 43 then (match st with
    | .int x :: r => some (pc + len, st1 l a (.int x), r, M)
    | _ => none)
  else bif Nat.beq op 32 then some (a, l, st, M)
  else bif Nat.beq op 46 then (match gl l a, v with
    | some (.int x), .int y => some (pc + len, st1 l a (.int (x + y)), st, M)
    | _, _ => none)
  else bif Nat.beq op 41 then (match gl l a with
    | some (.long x) => some (pc + len, l, .long x :: st, M)
    | _ => none)
  else bif Nat.beq op 44 then (match st with
    | .long x :: r => some (pc + len, st2 l a (.long x), r, M)
    | _ => none)
  else bif Nat.beq op 45 then (match st with
    | .ref x :: r => some (pc + len, st1 l a (.ref x), r, M)
    | .null :: r => some (pc + len, st1 l a .null, r, M)
    | _ => none)
  else bif Nat.ble 20 op && Nat.ble op 25 then (match st with
    | .int x :: r => some (bif jb (op - 20) x 0 then a else pc + len, l, r, M)
    | _ => none)
  else bif Nat.ble 26 op && Nat.ble op 31 then (match st with
    | .int y :: .int x :: r => some (bif jb (op - 26) x y then a else pc + len, l, r, M)
    | _ => none)
  else bif Nat.beq op 33 then (match st with
    | .null :: r => some (a, l, r, M)
    | .ref _ :: r => some (pc + len, l, r, M)
    | _ => none)
  else bif Nat.beq op 34 then (match st with
    | .null :: r => some (pc + len, l, r, M)
    | .ref _ :: r => some (a, l, r, M)
    | _ => none)
  else bif Nat.beq op 35 then (match st with
    | .int x :: r => (match swx swl a x with
      | some t => some (t, l, r, M)
      | none => none)
    | _ => none)
  else bif Nat.beq op 2 then some (pc + len, l, .ref (32 + cnt M 0) :: st, mnew M (.inr (a, nfs a)) (fN a))
  else bif Nat.beq op 3 then (match st with
    | .int n :: r => bif decide (n < 0) || Nat.blt 100000 n.toNatClampNeg then none else some (pc + len, l, .ref (32 + cnt M 0) :: r, mnew M (.inl (a, n.toNatClampNeg, .inr (.inr (.inr (.inr (fun _ => none)))))) n.toNatClampNeg)
    | _ => none)
  else none
def sstep (swl : List (Nat × Int × List Nat × Nat)) (X : MD) (pc : Nat) (l : AL) (st : List Value) (M : AM) : Option (Nat × AL × List Value × AM) := match cdx X pc with
  | none => none
  | some (.inl v, len) => some (pc + len, l, v :: st, M)
  | some (.inr (.inl i), len) => (match pstep i st with
    | some st' => some (pc + len, l, st', M)
    | none => (match mstep i st M with
      | some (st', M') => some (pc + len, l, st', M')
      | none => none))
  | some (.inr (.inr (op, a, b, v)), len) => ostep swl (md_o X) (md_i X) op a b v pc len l st M
/-- returns: 0 void, 1 int, 2 boolean, 3 long, 4 a reference -/
def rstep (rt : Nat) (i : Instr) (st : List Value) (M : AM) : Option (Option Value × AM) := match i, st with
  | .ireturn, [.int v] => bif Nat.beq rt 1 || (Nat.beq rt 2 && (v == 0 || v == 1)) then some (some (.int v), M) else none
  | .lreturn, [.long v] => bif Nat.beq rt 3 then some (some (.long v), M) else none
  | .areturn, [.ref v] => bif Nat.beq rt 4 then some (some (.ref v), M) else none
  | .areturn, [.null] => bif Nat.beq rt 4 then some (some .null, M) else none
  | .return_, [] => bif Nat.beq rt 0 then some (none, M) else none
  | _, _ => none
/-- what may lie below a call's values -/
def rok (r : List Value) : Bool := Nat.ble r.length 4 || Nat.ble (r.map (fun v => v.category)).sum 8
/-- what a call takes off the stack, if it may be made -/
def csplit (op b : Nat) (st : List Value) (M : AM) (Y : MD) : Option (List Value × List Value) :=
  bif Nat.beq op 4 then (bif Nat.ble b st.length && rok (st.drop b) then some ((st.take b).reverse, st.drop b) else none)
  else (match (st.drop b) with
    | .ref k :: r => bif Nat.beq op 5 then (match M k with
        | .inr (ci, _) => bif Nat.beq ci (md_o Y) && rok r && Nat.ble 32 k then some (.ref k :: (st.take b).reverse, r) else none
        | .inl _ => none)
      else bif Nat.beq op 6 && rok r then some (.ref k :: (st.take b).reverse, r) else none
    | _ => none)
/-- the JDK's own: 7 String.length, 8 String.charAt, 9 System.arraycopy, 10 Object.<init>, 11 Math.min, 12 Math.max -/
def bstep (op : Nat) (st : List Value) (M : AM) : Option (List Value × AM) :=
  bif Nat.beq op 10 then (match st with
    | .ref _ :: r => bif Nat.ble r.length 4 then some (r, M) else none
    | _ => none)
  else bif Nat.beq op 7 then (match st with
    | .ref k :: r => (match M k with
      | .inl (t, n, _) => bif Nat.beq t 8 && Nat.ble r.length 4 then some (.int (Int32.ofNat n) :: r, M) else none
      | .inr _ => none)
    | _ => none)
  else bif Nat.beq op 8 then (match st with
    | .int j :: .ref k :: r => (match M k with
      | .inl (t, n, .inl f) => bif Nat.beq t 8 && ain j n && Nat.ble r.length 4 then some (.int (f j.toNatClampNeg) :: r, M) else none
      | _ => none)
    | _ => none)
  else bif Nat.beq op 9 then (match st with
    | .int n :: .int dp :: .ref k :: .int sp :: .ref k0 :: r => bif decide (n < 0) || decide (dp < 0) || decide (sp < 0) || Nat.blt 4 r.length then none else (match M k0, M k with
      | .inl (t0, n0, .inl f), .inl (t1, n1, .inl g) => bif Nat.beq t0 0 && Nat.beq t1 0 && Nat.ble (sp.toNatClampNeg + n.toNatClampNeg) n0 && Nat.ble (dp.toNatClampNeg + n.toNatClampNeg) n1 then some (r, va_up M k (.inl (0, n1, .inl (va_cpy f g sp.toNatClampNeg dp.toNatClampNeg n.toNatClampNeg)))) else none
      | .inl (t0, n0, .inr (.inl f)), .inl (t1, n1, .inr (.inl g)) => bif Nat.beq t0 1 && Nat.beq t1 1 && Nat.ble (sp.toNatClampNeg + n.toNatClampNeg) n0 && Nat.ble (dp.toNatClampNeg + n.toNatClampNeg) n1 then some (r, va_up M k (.inl (1, n1, .inr (.inl (va_cpy f g sp.toNatClampNeg dp.toNatClampNeg n.toNatClampNeg))))) else none
      | _, _ => none)
    | _ => none)
  else bif Nat.beq op 11 then (match st with
    | .int y :: .int x :: r => bif Nat.ble r.length 4 then some (.int (if y < x then y else x) :: r, M) else none
    | _ => none)
  else bif Nat.beq op 12 then (match st with
    | .int y :: .int x :: r => bif Nat.ble r.length 4 then some (.int (if x < y then y else x) :: r, M) else none
    | _ => none)
  else none
