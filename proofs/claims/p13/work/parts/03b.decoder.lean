/-! A DECODER OF ONE'S OWN that goes along the bytes: what it answers decode answers. -/
abbrev fz_F : Type := Instr ⊕ (Nat → Instr) ⊕ (Int → Instr) ⊕ (Nat → Instr) ⊕ (Int → Instr) ⊕ (Nat → Int → Instr)
def fz_den (F : fz_F) : Jvm.ClassFile.Decoder Instr := match F with
  | .inl i => pure i
  | .inr (.inl g) => Jvm.ClassFile.Reader.u1 >>= fun k => pure (g k)
  | .inr (.inr (.inl g)) => Jvm.ClassFile.Reader.s1 >>= fun k => pure (g k)
  | .inr (.inr (.inr (.inl g))) => Jvm.ClassFile.Reader.u2 >>= fun k => pure (g k)
  | .inr (.inr (.inr (.inr (.inl g)))) => Jvm.ClassFile.Reader.s2 >>= fun k => pure (g k)
  | .inr (.inr (.inr (.inr (.inr g)))) => Jvm.ClassFile.Reader.u1 >>= fun k => Jvm.ClassFile.Reader.s1 >>= fun n => pure (g k n)
def fz_run (F : fz_F) (l : List UInt8) : Option (Instr × Nat) := match F with
  | .inl i => some (i, 0)
  | .inr (.inl g) => (match l with | b :: _ => some (g b.toNat, 1) | [] => none)
  | .inr (.inr (.inl g)) => (match l with | b :: _ => some (g (Jvm.ClassFile.Reader.signed 8 b.toNat), 1) | [] => none)
  | .inr (.inr (.inr (.inl g))) => (match l with | b :: c :: _ => some (g (b.toNat * 256 + c.toNat), 2) | _ => none)
  | .inr (.inr (.inr (.inr (.inl g)))) => (match l with | b :: c :: _ => some (g (Jvm.ClassFile.Reader.signed 16 (b.toNat * 256 + c.toNat)), 2) | _ => none)
  | .inr (.inr (.inr (.inr (.inr g)))) => (match l with | b :: c :: _ => some (g b.toNat (Jvm.ClassFile.Reader.signed 8 c.toNat), 2) | _ => none)
theorem fz_bind {α β : Type} {x : Jvm.ClassFile.Decoder α} {f : α → Jvm.ClassFile.Decoder β} {cc : ByteArray} {p q : Nat} {a : α} (h : Jvm.ClassFile.Reader.runAt x cc p = .ok (a, q)) : Jvm.ClassFile.Reader.runAt (x >>= f) cc p = Jvm.ClassFile.Reader.runAt (f a) cc q := by
  have h' : x cc p = Except.ok (a, q) := h
  have e : Jvm.ClassFile.Reader.runAt (x >>= f) cc p = Except.bind (x cc p) (fun r => f r.1 cc r.2) := rfl
  rw [e, h']
  rfl
theorem fz_map {α β : Type} {x : Jvm.ClassFile.Decoder α} {f : α → β} {cc : ByteArray} {p q : Nat} {a : α} (h : Jvm.ClassFile.Reader.runAt x cc p = .ok (a, q)) : Jvm.ClassFile.Reader.runAt (f <$> x : Jvm.ClassFile.Decoder β) cc p = .ok (f a, q) := by
  have h' : x cc p = Except.ok (a, q) := h
  have e : Jvm.ClassFile.Reader.runAt (f <$> x : Jvm.ClassFile.Decoder β) cc p = Except.bind (x cc p) (fun r => .ok (f r.1, r.2)) := rfl
  rw [e, h']
  rfl
theorem fz_dif {c : Prop} {d : Decidable c} {β : Type} {t : c → Jvm.ClassFile.Decoder β} {e : ¬ c → Jvm.ClassFile.Decoder β} (h : c) (cc : ByteArray) (p : Nat) : (@dite (Jvm.ClassFile.Decoder β) c d t e) cc p = t h cc p := by
  rw [dif_pos h]
theorem fz_u1 {cc : ByteArray} {p : Nat} {b : UInt8} {r : List UInt8} (h : cc.data.toList.drop p = b :: r) : Jvm.ClassFile.Reader.runAt (Jvm.ClassFile.Reader.u1 : Jvm.ClassFile.Decoder Nat) cc p = .ok (b.toNat, p + 1) := by
  obtain ⟨⟨L⟩⟩ := cc
  have h : L.drop p = b :: r := h
  have hp : p < L.length := by
    refine Nat.lt_of_not_le (fun hle => ?_)
    rw [List.drop_eq_nil_of_le hle] at h
    cases h
  rw [List.drop_eq_getElem_cons hp] at h
  injection h with h1 h2
  have hs : p < (ByteArray.mk (Array.mk L)).size := hp
  have e : Jvm.ClassFile.Reader.runAt (Jvm.ClassFile.Reader.u1 : Jvm.ClassFile.Decoder Nat) (ByteArray.mk (Array.mk L)) p = .ok ((ByteArray.mk (Array.mk L))[p].toNat, p + 1) :=
    (fz_dif (c := p < (ByteArray.mk (Array.mk L)).size) hs (ByteArray.mk (Array.mk L)) p).trans rfl
  subst h1
  exact e
theorem fz_tl {cc : ByteArray} {p : Nat} {b : UInt8} {r : List UInt8} (h : cc.data.toList.drop p = b :: r) : cc.data.toList.drop (p + 1) = r := by
  have e := List.drop_drop (i := 1) (j := p) (l := cc.data.toList)
  rw [h] at e
  exact e.symm
theorem fz_s1 {cc : ByteArray} {p : Nat} {b : UInt8} {r : List UInt8} (h : cc.data.toList.drop p = b :: r) : Jvm.ClassFile.Reader.runAt (Jvm.ClassFile.Reader.s1 : Jvm.ClassFile.Decoder Int) cc p = .ok (Jvm.ClassFile.Reader.signed 8 b.toNat, p + 1) :=
  fz_map (f := Jvm.ClassFile.Reader.signed 8) (fz_u1 h)
theorem fz_u2 {cc : ByteArray} {p : Nat} {b c : UInt8} {r : List UInt8} (h : cc.data.toList.drop p = b :: c :: r) : Jvm.ClassFile.Reader.runAt (Jvm.ClassFile.Reader.u2 : Jvm.ClassFile.Decoder Nat) cc p = .ok (b.toNat * 256 + c.toNat, p + 2) :=
  (fz_bind (fz_u1 h)).trans ((fz_bind (fz_u1 (fz_tl h))).trans rfl)
theorem fz_s2 {cc : ByteArray} {p : Nat} {b c : UInt8} {r : List UInt8} (h : cc.data.toList.drop p = b :: c :: r) : Jvm.ClassFile.Reader.runAt (Jvm.ClassFile.Reader.s2 : Jvm.ClassFile.Decoder Int) cc p = .ok (Jvm.ClassFile.Reader.signed 16 (b.toNat * 256 + c.toNat), p + 2) :=
  fz_map (f := Jvm.ClassFile.Reader.signed 16) (fz_u2 h)
theorem fz_run_ok {cc : ByteArray} {p : Nat} {F : fz_F} {l : List UInt8} {y : Instr × Nat} (hl : cc.data.toList.drop p = l) (h : fz_run F l = some y) : Jvm.ClassFile.Reader.runAt (fz_den F) cc p = .ok (y.1, p + y.2) := by
  rcases F with i | g | g | g | g | g
  · have h : some (i, 0) = some y := h
    cases h
    rfl
  · rcases l with _ | ⟨b, r⟩
    · cases (show (none : Option (Instr × Nat)) = some y from h)
    · have h : some (g b.toNat, 1) = some y := h
      cases h
      exact (fz_bind (fz_u1 hl)).trans rfl
  · rcases l with _ | ⟨b, r⟩
    · cases (show (none : Option (Instr × Nat)) = some y from h)
    · have h : some (g (Jvm.ClassFile.Reader.signed 8 b.toNat), 1) = some y := h
      cases h
      exact (fz_bind (fz_s1 hl)).trans rfl
  · rcases l with _ | ⟨b, _ | ⟨c, r⟩⟩
    · cases (show (none : Option (Instr × Nat)) = some y from h)
    · cases (show (none : Option (Instr × Nat)) = some y from h)
    · have h : some (g (b.toNat * 256 + c.toNat), 2) = some y := h
      cases h
      exact (fz_bind (fz_u2 hl)).trans rfl
  · rcases l with _ | ⟨b, _ | ⟨c, r⟩⟩
    · cases (show (none : Option (Instr × Nat)) = some y from h)
    · cases (show (none : Option (Instr × Nat)) = some y from h)
    · have h : some (g (Jvm.ClassFile.Reader.signed 16 (b.toNat * 256 + c.toNat)), 2) = some y := h
      cases h
      exact (fz_bind (fz_s2 hl)).trans rfl
  · rcases l with _ | ⟨b, _ | ⟨c, r⟩⟩
    · cases (show (none : Option (Instr × Nat)) = some y from h)
    · cases (show (none : Option (Instr × Nat)) = some y from h)
    · have h : some (g b.toNat (Jvm.ClassFile.Reader.signed 8 c.toNat), 2) = some y := h
      cases h
      exact (fz_bind (fz_u1 hl)).trans ((fz_bind (fz_s1 (fz_tl hl))).trans rfl)
def fz_G (q : Nat × fz_F) : Prop := ∀ (cc : ByteArray) (pc s : Nat), Jvm.ClassFile.Reader.runAt (Jvm.ClassFile.Reader.u1 : Jvm.ClassFile.Decoder Nat) cc pc = .ok (q.1, s) → Jvm.ClassFile.Reader.runAt (Jvm.ClassFile.Decoder.instr pc) cc pc = Jvm.ClassFile.Reader.runAt (fz_den q.2) cc s
set_option maxRecDepth 100000 in
theorem fz_g1 : fz_G (1, .inl (.aconst_null)) := fun _ _ _ h => fz_bind (a := 1) h
set_option maxRecDepth 100000 in
theorem fz_g2 : fz_G (2, .inl (.iconst (-1))) := fun _ _ _ h => fz_bind (a := 2) h
set_option maxRecDepth 100000 in
theorem fz_g3 : fz_G (3, .inl (.iconst 0)) := fun _ _ _ h => fz_bind (a := 3) h
set_option maxRecDepth 100000 in
theorem fz_g4 : fz_G (4, .inl (.iconst 1)) := fun _ _ _ h => fz_bind (a := 4) h
set_option maxRecDepth 100000 in
theorem fz_g5 : fz_G (5, .inl (.iconst 2)) := fun _ _ _ h => fz_bind (a := 5) h
set_option maxRecDepth 100000 in
theorem fz_g6 : fz_G (6, .inl (.iconst 3)) := fun _ _ _ h => fz_bind (a := 6) h
set_option maxRecDepth 100000 in
theorem fz_g7 : fz_G (7, .inl (.iconst 4)) := fun _ _ _ h => fz_bind (a := 7) h
set_option maxRecDepth 100000 in
theorem fz_g8 : fz_G (8, .inl (.iconst 5)) := fun _ _ _ h => fz_bind (a := 8) h
set_option maxRecDepth 100000 in
theorem fz_g9 : fz_G (9, .inl (.lconst 0)) := fun _ _ _ h => fz_bind (a := 9) h
set_option maxRecDepth 100000 in
theorem fz_g10 : fz_G (10, .inl (.lconst 1)) := fun _ _ _ h => fz_bind (a := 10) h
set_option maxRecDepth 100000 in
theorem fz_g16 : fz_G (16, .inr (.inr (.inl (fun k => .bipush k)))) := fun _ _ _ h => fz_bind (a := 16) h
set_option maxRecDepth 100000 in
theorem fz_g17 : fz_G (17, .inr (.inr (.inr (.inr (.inl (fun k => .sipush k)))))) := fun _ _ _ h => fz_bind (a := 17) h
set_option maxRecDepth 100000 in
theorem fz_g18 : fz_G (18, .inr (.inl (fun k => .ldc k))) := fun _ _ _ h => fz_bind (a := 18) h
set_option maxRecDepth 100000 in
theorem fz_g19 : fz_G (19, .inr (.inr (.inr (.inl (fun k => .ldc_w k))))) := fun _ _ _ h => fz_bind (a := 19) h
set_option maxRecDepth 100000 in
theorem fz_g20 : fz_G (20, .inr (.inr (.inr (.inl (fun k => .ldc2_w k))))) := fun _ _ _ h => fz_bind (a := 20) h
set_option maxRecDepth 100000 in
theorem fz_g21 : fz_G (21, .inr (.inl (fun k => .iload k))) := fun _ _ _ h => fz_bind (a := 21) h
set_option maxRecDepth 100000 in
theorem fz_g22 : fz_G (22, .inr (.inl (fun k => .lload k))) := fun _ _ _ h => fz_bind (a := 22) h
set_option maxRecDepth 100000 in
theorem fz_g25 : fz_G (25, .inr (.inl (fun k => .aload k))) := fun _ _ _ h => fz_bind (a := 25) h
set_option maxRecDepth 100000 in
theorem fz_g26 : fz_G (26, .inl (.iload_n 0)) := fun _ _ _ h => fz_bind (a := 26) h
set_option maxRecDepth 100000 in
theorem fz_g27 : fz_G (27, .inl (.iload_n 1)) := fun _ _ _ h => fz_bind (a := 27) h
set_option maxRecDepth 100000 in
theorem fz_g28 : fz_G (28, .inl (.iload_n 2)) := fun _ _ _ h => fz_bind (a := 28) h
set_option maxRecDepth 100000 in
theorem fz_g29 : fz_G (29, .inl (.iload_n 3)) := fun _ _ _ h => fz_bind (a := 29) h
set_option maxRecDepth 100000 in
theorem fz_g30 : fz_G (30, .inl (.lload_n 0)) := fun _ _ _ h => fz_bind (a := 30) h
set_option maxRecDepth 100000 in
theorem fz_g31 : fz_G (31, .inl (.lload_n 1)) := fun _ _ _ h => fz_bind (a := 31) h
set_option maxRecDepth 100000 in
theorem fz_g32 : fz_G (32, .inl (.lload_n 2)) := fun _ _ _ h => fz_bind (a := 32) h
set_option maxRecDepth 100000 in
theorem fz_g33 : fz_G (33, .inl (.lload_n 3)) := fun _ _ _ h => fz_bind (a := 33) h
set_option maxRecDepth 100000 in
theorem fz_g42 : fz_G (42, .inl (.aload_n 0)) := fun _ _ _ h => fz_bind (a := 42) h
set_option maxRecDepth 100000 in
theorem fz_g43 : fz_G (43, .inl (.aload_n 1)) := fun _ _ _ h => fz_bind (a := 43) h
set_option maxRecDepth 100000 in
theorem fz_g44 : fz_G (44, .inl (.aload_n 2)) := fun _ _ _ h => fz_bind (a := 44) h
set_option maxRecDepth 100000 in
theorem fz_g45 : fz_G (45, .inl (.aload_n 3)) := fun _ _ _ h => fz_bind (a := 45) h
set_option maxRecDepth 100000 in
theorem fz_g46 : fz_G (46, .inl (.iaload)) := fun _ _ _ h => fz_bind (a := 46) h
set_option maxRecDepth 100000 in
theorem fz_g47 : fz_G (47, .inl (.laload)) := fun _ _ _ h => fz_bind (a := 47) h
set_option maxRecDepth 100000 in
theorem fz_g50 : fz_G (50, .inl (.aaload)) := fun _ _ _ h => fz_bind (a := 50) h
set_option maxRecDepth 100000 in
theorem fz_g51 : fz_G (51, .inl (.baload)) := fun _ _ _ h => fz_bind (a := 51) h
set_option maxRecDepth 100000 in
theorem fz_g54 : fz_G (54, .inr (.inl (fun k => .istore k))) := fun _ _ _ h => fz_bind (a := 54) h
set_option maxRecDepth 100000 in
theorem fz_g55 : fz_G (55, .inr (.inl (fun k => .lstore k))) := fun _ _ _ h => fz_bind (a := 55) h
set_option maxRecDepth 100000 in
theorem fz_g58 : fz_G (58, .inr (.inl (fun k => .astore k))) := fun _ _ _ h => fz_bind (a := 58) h
set_option maxRecDepth 100000 in
theorem fz_g59 : fz_G (59, .inl (.istore_n 0)) := fun _ _ _ h => fz_bind (a := 59) h
set_option maxRecDepth 100000 in
theorem fz_g60 : fz_G (60, .inl (.istore_n 1)) := fun _ _ _ h => fz_bind (a := 60) h
set_option maxRecDepth 100000 in
theorem fz_g61 : fz_G (61, .inl (.istore_n 2)) := fun _ _ _ h => fz_bind (a := 61) h
set_option maxRecDepth 100000 in
theorem fz_g62 : fz_G (62, .inl (.istore_n 3)) := fun _ _ _ h => fz_bind (a := 62) h
set_option maxRecDepth 100000 in
theorem fz_g65 : fz_G (65, .inl (.lstore_n 2)) := fun _ _ _ h => fz_bind (a := 65) h
set_option maxRecDepth 100000 in
theorem fz_g66 : fz_G (66, .inl (.lstore_n 3)) := fun _ _ _ h => fz_bind (a := 66) h
set_option maxRecDepth 100000 in
theorem fz_g76 : fz_G (76, .inl (.astore_n 1)) := fun _ _ _ h => fz_bind (a := 76) h
set_option maxRecDepth 100000 in
theorem fz_g77 : fz_G (77, .inl (.astore_n 2)) := fun _ _ _ h => fz_bind (a := 77) h
set_option maxRecDepth 100000 in
theorem fz_g78 : fz_G (78, .inl (.astore_n 3)) := fun _ _ _ h => fz_bind (a := 78) h
set_option maxRecDepth 100000 in
theorem fz_g79 : fz_G (79, .inl (.iastore)) := fun _ _ _ h => fz_bind (a := 79) h
set_option maxRecDepth 100000 in
theorem fz_g80 : fz_G (80, .inl (.lastore)) := fun _ _ _ h => fz_bind (a := 80) h
set_option maxRecDepth 100000 in
theorem fz_g83 : fz_G (83, .inl (.aastore)) := fun _ _ _ h => fz_bind (a := 83) h
set_option maxRecDepth 100000 in
theorem fz_g84 : fz_G (84, .inl (.bastore)) := fun _ _ _ h => fz_bind (a := 84) h
set_option maxRecDepth 100000 in
theorem fz_g87 : fz_G (87, .inl (.pop)) := fun _ _ _ h => fz_bind (a := 87) h
set_option maxRecDepth 100000 in
theorem fz_g88 : fz_G (88, .inl (.pop2)) := fun _ _ _ h => fz_bind (a := 88) h
set_option maxRecDepth 100000 in
theorem fz_g89 : fz_G (89, .inl (.dup)) := fun _ _ _ h => fz_bind (a := 89) h
set_option maxRecDepth 100000 in
theorem fz_g92 : fz_G (92, .inl (.dup2)) := fun _ _ _ h => fz_bind (a := 92) h
set_option maxRecDepth 100000 in
theorem fz_g96 : fz_G (96, .inl (.iadd)) := fun _ _ _ h => fz_bind (a := 96) h
set_option maxRecDepth 100000 in
theorem fz_g97 : fz_G (97, .inl (.ladd)) := fun _ _ _ h => fz_bind (a := 97) h
set_option maxRecDepth 100000 in
theorem fz_g100 : fz_G (100, .inl (.isub)) := fun _ _ _ h => fz_bind (a := 100) h
set_option maxRecDepth 100000 in
theorem fz_g101 : fz_G (101, .inl (.lsub)) := fun _ _ _ h => fz_bind (a := 101) h
set_option maxRecDepth 100000 in
theorem fz_g104 : fz_G (104, .inl (.imul)) := fun _ _ _ h => fz_bind (a := 104) h
set_option maxRecDepth 100000 in
theorem fz_g105 : fz_G (105, .inl (.lmul)) := fun _ _ _ h => fz_bind (a := 105) h
set_option maxRecDepth 100000 in
theorem fz_g109 : fz_G (109, .inl (.ldiv)) := fun _ _ _ h => fz_bind (a := 109) h
set_option maxRecDepth 100000 in
theorem fz_g112 : fz_G (112, .inl (.irem)) := fun _ _ _ h => fz_bind (a := 112) h
set_option maxRecDepth 100000 in
theorem fz_g113 : fz_G (113, .inl (.lrem)) := fun _ _ _ h => fz_bind (a := 113) h
set_option maxRecDepth 100000 in
theorem fz_g120 : fz_G (120, .inl (.ishl)) := fun _ _ _ h => fz_bind (a := 120) h
set_option maxRecDepth 100000 in
theorem fz_g121 : fz_G (121, .inl (.lshl)) := fun _ _ _ h => fz_bind (a := 121) h
set_option maxRecDepth 100000 in
theorem fz_g122 : fz_G (122, .inl (.ishr)) := fun _ _ _ h => fz_bind (a := 122) h
set_option maxRecDepth 100000 in
theorem fz_g123 : fz_G (123, .inl (.lshr)) := fun _ _ _ h => fz_bind (a := 123) h
set_option maxRecDepth 100000 in
theorem fz_g124 : fz_G (124, .inl (.iushr)) := fun _ _ _ h => fz_bind (a := 124) h
set_option maxRecDepth 100000 in
theorem fz_g126 : fz_G (126, .inl (.iand)) := fun _ _ _ h => fz_bind (a := 126) h
set_option maxRecDepth 100000 in
theorem fz_g127 : fz_G (127, .inl (.land)) := fun _ _ _ h => fz_bind (a := 127) h
set_option maxRecDepth 100000 in
theorem fz_g128 : fz_G (128, .inl (.ior)) := fun _ _ _ h => fz_bind (a := 128) h
set_option maxRecDepth 100000 in
theorem fz_g129 : fz_G (129, .inl (.lor)) := fun _ _ _ h => fz_bind (a := 129) h
set_option maxRecDepth 100000 in
theorem fz_g132 : fz_G (132, .inr (.inr (.inr (.inr (.inr (fun k n => .iinc k n)))))) := fun _ _ _ h => fz_bind (a := 132) h
set_option maxRecDepth 100000 in
theorem fz_g133 : fz_G (133, .inl (.i2l)) := fun _ _ _ h => fz_bind (a := 133) h
set_option maxRecDepth 100000 in
theorem fz_g136 : fz_G (136, .inl (.l2i)) := fun _ _ _ h => fz_bind (a := 136) h
set_option maxRecDepth 100000 in
theorem fz_g145 : fz_G (145, .inl (.i2b)) := fun _ _ _ h => fz_bind (a := 145) h
set_option maxRecDepth 100000 in
theorem fz_g147 : fz_G (147, .inl (.i2s)) := fun _ _ _ h => fz_bind (a := 147) h
set_option maxRecDepth 100000 in
theorem fz_g148 : fz_G (148, .inl (.lcmp)) := fun _ _ _ h => fz_bind (a := 148) h
set_option maxRecDepth 100000 in
theorem fz_g153 : fz_G (153, .inr (.inr (.inr (.inr (.inl (fun k => .ifCond .eq k)))))) := fun _ _ _ h => fz_bind (a := 153) h
set_option maxRecDepth 100000 in
theorem fz_g154 : fz_G (154, .inr (.inr (.inr (.inr (.inl (fun k => .ifCond .ne k)))))) := fun _ _ _ h => fz_bind (a := 154) h
set_option maxRecDepth 100000 in
theorem fz_g155 : fz_G (155, .inr (.inr (.inr (.inr (.inl (fun k => .ifCond .lt k)))))) := fun _ _ _ h => fz_bind (a := 155) h
set_option maxRecDepth 100000 in
theorem fz_g156 : fz_G (156, .inr (.inr (.inr (.inr (.inl (fun k => .ifCond .ge k)))))) := fun _ _ _ h => fz_bind (a := 156) h
set_option maxRecDepth 100000 in
theorem fz_g157 : fz_G (157, .inr (.inr (.inr (.inr (.inl (fun k => .ifCond .gt k)))))) := fun _ _ _ h => fz_bind (a := 157) h
set_option maxRecDepth 100000 in
theorem fz_g158 : fz_G (158, .inr (.inr (.inr (.inr (.inl (fun k => .ifCond .le k)))))) := fun _ _ _ h => fz_bind (a := 158) h
set_option maxRecDepth 100000 in
theorem fz_g159 : fz_G (159, .inr (.inr (.inr (.inr (.inl (fun k => .if_icmp .eq k)))))) := fun _ _ _ h => fz_bind (a := 159) h
set_option maxRecDepth 100000 in
theorem fz_g160 : fz_G (160, .inr (.inr (.inr (.inr (.inl (fun k => .if_icmp .ne k)))))) := fun _ _ _ h => fz_bind (a := 160) h
set_option maxRecDepth 100000 in
theorem fz_g161 : fz_G (161, .inr (.inr (.inr (.inr (.inl (fun k => .if_icmp .lt k)))))) := fun _ _ _ h => fz_bind (a := 161) h
set_option maxRecDepth 100000 in
theorem fz_g162 : fz_G (162, .inr (.inr (.inr (.inr (.inl (fun k => .if_icmp .ge k)))))) := fun _ _ _ h => fz_bind (a := 162) h
set_option maxRecDepth 100000 in
theorem fz_g163 : fz_G (163, .inr (.inr (.inr (.inr (.inl (fun k => .if_icmp .gt k)))))) := fun _ _ _ h => fz_bind (a := 163) h
set_option maxRecDepth 100000 in
theorem fz_g164 : fz_G (164, .inr (.inr (.inr (.inr (.inl (fun k => .if_icmp .le k)))))) := fun _ _ _ h => fz_bind (a := 164) h
set_option maxRecDepth 100000 in
theorem fz_g167 : fz_G (167, .inr (.inr (.inr (.inr (.inl (fun k => .goto k)))))) := fun _ _ _ h => fz_bind (a := 167) h
set_option maxRecDepth 100000 in
theorem fz_g172 : fz_G (172, .inl (.ireturn)) := fun _ _ _ h => fz_bind (a := 172) h
set_option maxRecDepth 100000 in
theorem fz_g173 : fz_G (173, .inl (.lreturn)) := fun _ _ _ h => fz_bind (a := 173) h
set_option maxRecDepth 100000 in
theorem fz_g176 : fz_G (176, .inl (.areturn)) := fun _ _ _ h => fz_bind (a := 176) h
set_option maxRecDepth 100000 in
theorem fz_g177 : fz_G (177, .inl (.return_)) := fun _ _ _ h => fz_bind (a := 177) h
set_option maxRecDepth 100000 in
theorem fz_g180 : fz_G (180, .inr (.inr (.inr (.inl (fun k => .getfield k))))) := fun _ _ _ h => fz_bind (a := 180) h
set_option maxRecDepth 100000 in
theorem fz_g181 : fz_G (181, .inr (.inr (.inr (.inl (fun k => .putfield k))))) := fun _ _ _ h => fz_bind (a := 181) h
set_option maxRecDepth 100000 in
theorem fz_g182 : fz_G (182, .inr (.inr (.inr (.inl (fun k => .invokevirtual k))))) := fun _ _ _ h => fz_bind (a := 182) h
set_option maxRecDepth 100000 in
theorem fz_g183 : fz_G (183, .inr (.inr (.inr (.inl (fun k => .invokespecial k))))) := fun _ _ _ h => fz_bind (a := 183) h
set_option maxRecDepth 100000 in
theorem fz_g184 : fz_G (184, .inr (.inr (.inr (.inl (fun k => .invokestatic k))))) := fun _ _ _ h => fz_bind (a := 184) h
set_option maxRecDepth 100000 in
theorem fz_g187 : fz_G (187, .inr (.inr (.inr (.inl (fun k => .new k))))) := fun _ _ _ h => fz_bind (a := 187) h
set_option maxRecDepth 100000 in
theorem fz_g189 : fz_G (189, .inr (.inr (.inr (.inl (fun k => .anewarray k))))) := fun _ _ _ h => fz_bind (a := 189) h
set_option maxRecDepth 100000 in
theorem fz_g190 : fz_G (190, .inl (.arraylength)) := fun _ _ _ h => fz_bind (a := 190) h
set_option maxRecDepth 100000 in
theorem fz_g198 : fz_G (198, .inr (.inr (.inr (.inr (.inl (fun k => .ifnull k)))))) := fun _ _ _ h => fz_bind (a := 198) h
set_option maxRecDepth 100000 in
theorem fz_g199 : fz_G (199, .inr (.inr (.inr (.inr (.inl (fun k => .ifnonnull k)))))) := fun _ _ _ h => fz_bind (a := 199) h
def fz_T : List (Nat × List (Nat × fz_F)) := [(10, [(1, .inl (.aconst_null)), (2, .inl (.iconst (-1))), (3, .inl (.iconst 0)), (4, .inl (.iconst 1)), (5, .inl (.iconst 2)), (6, .inl (.iconst 3)), (7, .inl (.iconst 4)), (8, .inl (.iconst 5)), (9, .inl (.lconst 0)), (10, .inl (.lconst 1))]), (27, [(16, .inr (.inr (.inl (fun k => .bipush k)))), (17, .inr (.inr (.inr (.inr (.inl (fun k => .sipush k)))))), (18, .inr (.inl (fun k => .ldc k))), (19, .inr (.inr (.inr (.inl (fun k => .ldc_w k))))), (20, .inr (.inr (.inr (.inl (fun k => .ldc2_w k))))), (21, .inr (.inl (fun k => .iload k))), (22, .inr (.inl (fun k => .lload k))), (25, .inr (.inl (fun k => .aload k))), (26, .inl (.iload_n 0)), (27, .inl (.iload_n 1))]), (45, [(28, .inl (.iload_n 2)), (29, .inl (.iload_n 3)), (30, .inl (.lload_n 0)), (31, .inl (.lload_n 1)), (32, .inl (.lload_n 2)), (33, .inl (.lload_n 3)), (42, .inl (.aload_n 0)), (43, .inl (.aload_n 1)), (44, .inl (.aload_n 2)), (45, .inl (.aload_n 3))]), (61, [(46, .inl (.iaload)), (47, .inl (.laload)), (50, .inl (.aaload)), (51, .inl (.baload)), (54, .inr (.inl (fun k => .istore k))), (55, .inr (.inl (fun k => .lstore k))), (58, .inr (.inl (fun k => .astore k))), (59, .inl (.istore_n 0)), (60, .inl (.istore_n 1)), (61, .inl (.istore_n 2))]), (84, [(62, .inl (.istore_n 3)), (65, .inl (.lstore_n 2)), (66, .inl (.lstore_n 3)), (76, .inl (.astore_n 1)), (77, .inl (.astore_n 2)), (78, .inl (.astore_n 3)), (79, .inl (.iastore)), (80, .inl (.lastore)), (83, .inl (.aastore)), (84, .inl (.bastore))]), (105, [(87, .inl (.pop)), (88, .inl (.pop2)), (89, .inl (.dup)), (92, .inl (.dup2)), (96, .inl (.iadd)), (97, .inl (.ladd)), (100, .inl (.isub)), (101, .inl (.lsub)), (104, .inl (.imul)), (105, .inl (.lmul))]), (127, [(109, .inl (.ldiv)), (112, .inl (.irem)), (113, .inl (.lrem)), (120, .inl (.ishl)), (121, .inl (.lshl)), (122, .inl (.ishr)), (123, .inl (.lshr)), (124, .inl (.iushr)), (126, .inl (.iand)), (127, .inl (.land))]), (154, [(128, .inl (.ior)), (129, .inl (.lor)), (132, .inr (.inr (.inr (.inr (.inr (fun k n => .iinc k n)))))), (133, .inl (.i2l)), (136, .inl (.l2i)), (145, .inl (.i2b)), (147, .inl (.i2s)), (148, .inl (.lcmp)), (153, .inr (.inr (.inr (.inr (.inl (fun k => .ifCond .eq k)))))), (154, .inr (.inr (.inr (.inr (.inl (fun k => .ifCond .ne k))))))]), (164, [(155, .inr (.inr (.inr (.inr (.inl (fun k => .ifCond .lt k)))))), (156, .inr (.inr (.inr (.inr (.inl (fun k => .ifCond .ge k)))))), (157, .inr (.inr (.inr (.inr (.inl (fun k => .ifCond .gt k)))))), (158, .inr (.inr (.inr (.inr (.inl (fun k => .ifCond .le k)))))), (159, .inr (.inr (.inr (.inr (.inl (fun k => .if_icmp .eq k)))))), (160, .inr (.inr (.inr (.inr (.inl (fun k => .if_icmp .ne k)))))), (161, .inr (.inr (.inr (.inr (.inl (fun k => .if_icmp .lt k)))))), (162, .inr (.inr (.inr (.inr (.inl (fun k => .if_icmp .ge k)))))), (163, .inr (.inr (.inr (.inr (.inl (fun k => .if_icmp .gt k)))))), (164, .inr (.inr (.inr (.inr (.inl (fun k => .if_icmp .le k))))))]), (184, [(167, .inr (.inr (.inr (.inr (.inl (fun k => .goto k)))))), (172, .inl (.ireturn)), (173, .inl (.lreturn)), (176, .inl (.areturn)), (177, .inl (.return_)), (180, .inr (.inr (.inr (.inl (fun k => .getfield k))))), (181, .inr (.inr (.inr (.inl (fun k => .putfield k))))), (182, .inr (.inr (.inr (.inl (fun k => .invokevirtual k))))), (183, .inr (.inr (.inr (.inl (fun k => .invokespecial k))))), (184, .inr (.inr (.inr (.inl (fun k => .invokestatic k)))))]), (199, [(187, .inr (.inr (.inr (.inl (fun k => .new k))))), (189, .inr (.inr (.inr (.inl (fun k => .anewarray k))))), (190, .inl (.arraylength)), (198, .inr (.inr (.inr (.inr (.inl (fun k => .ifnull k)))))), (199, .inr (.inr (.inr (.inr (.inl (fun k => .ifnonnull k))))))])]
theorem fz_T_ok : ∀ c ∈ fz_T, ∀ q ∈ c.2, fz_G q := List.forall_mem_cons.mpr ⟨List.forall_mem_cons.mpr ⟨fz_g1, List.forall_mem_cons.mpr ⟨fz_g2, List.forall_mem_cons.mpr ⟨fz_g3, List.forall_mem_cons.mpr ⟨fz_g4, List.forall_mem_cons.mpr ⟨fz_g5, List.forall_mem_cons.mpr ⟨fz_g6, List.forall_mem_cons.mpr ⟨fz_g7, List.forall_mem_cons.mpr ⟨fz_g8, List.forall_mem_cons.mpr ⟨fz_g9, List.forall_mem_cons.mpr ⟨fz_g10, fun _ h => absurd h List.not_mem_nil⟩⟩⟩⟩⟩⟩⟩⟩⟩⟩, List.forall_mem_cons.mpr ⟨List.forall_mem_cons.mpr ⟨fz_g16, List.forall_mem_cons.mpr ⟨fz_g17, List.forall_mem_cons.mpr ⟨fz_g18, List.forall_mem_cons.mpr ⟨fz_g19, List.forall_mem_cons.mpr ⟨fz_g20, List.forall_mem_cons.mpr ⟨fz_g21, List.forall_mem_cons.mpr ⟨fz_g22, List.forall_mem_cons.mpr ⟨fz_g25, List.forall_mem_cons.mpr ⟨fz_g26, List.forall_mem_cons.mpr ⟨fz_g27, fun _ h => absurd h List.not_mem_nil⟩⟩⟩⟩⟩⟩⟩⟩⟩⟩, List.forall_mem_cons.mpr ⟨List.forall_mem_cons.mpr ⟨fz_g28, List.forall_mem_cons.mpr ⟨fz_g29, List.forall_mem_cons.mpr ⟨fz_g30, List.forall_mem_cons.mpr ⟨fz_g31, List.forall_mem_cons.mpr ⟨fz_g32, List.forall_mem_cons.mpr ⟨fz_g33, List.forall_mem_cons.mpr ⟨fz_g42, List.forall_mem_cons.mpr ⟨fz_g43, List.forall_mem_cons.mpr ⟨fz_g44, List.forall_mem_cons.mpr ⟨fz_g45, fun _ h => absurd h List.not_mem_nil⟩⟩⟩⟩⟩⟩⟩⟩⟩⟩, List.forall_mem_cons.mpr ⟨List.forall_mem_cons.mpr ⟨fz_g46, List.forall_mem_cons.mpr ⟨fz_g47, List.forall_mem_cons.mpr ⟨fz_g50, List.forall_mem_cons.mpr ⟨fz_g51, List.forall_mem_cons.mpr ⟨fz_g54, List.forall_mem_cons.mpr ⟨fz_g55, List.forall_mem_cons.mpr ⟨fz_g58, List.forall_mem_cons.mpr ⟨fz_g59, List.forall_mem_cons.mpr ⟨fz_g60, List.forall_mem_cons.mpr ⟨fz_g61, fun _ h => absurd h List.not_mem_nil⟩⟩⟩⟩⟩⟩⟩⟩⟩⟩, List.forall_mem_cons.mpr ⟨List.forall_mem_cons.mpr ⟨fz_g62, List.forall_mem_cons.mpr ⟨fz_g65, List.forall_mem_cons.mpr ⟨fz_g66, List.forall_mem_cons.mpr ⟨fz_g76, List.forall_mem_cons.mpr ⟨fz_g77, List.forall_mem_cons.mpr ⟨fz_g78, List.forall_mem_cons.mpr ⟨fz_g79, List.forall_mem_cons.mpr ⟨fz_g80, List.forall_mem_cons.mpr ⟨fz_g83, List.forall_mem_cons.mpr ⟨fz_g84, fun _ h => absurd h List.not_mem_nil⟩⟩⟩⟩⟩⟩⟩⟩⟩⟩, List.forall_mem_cons.mpr ⟨List.forall_mem_cons.mpr ⟨fz_g87, List.forall_mem_cons.mpr ⟨fz_g88, List.forall_mem_cons.mpr ⟨fz_g89, List.forall_mem_cons.mpr ⟨fz_g92, List.forall_mem_cons.mpr ⟨fz_g96, List.forall_mem_cons.mpr ⟨fz_g97, List.forall_mem_cons.mpr ⟨fz_g100, List.forall_mem_cons.mpr ⟨fz_g101, List.forall_mem_cons.mpr ⟨fz_g104, List.forall_mem_cons.mpr ⟨fz_g105, fun _ h => absurd h List.not_mem_nil⟩⟩⟩⟩⟩⟩⟩⟩⟩⟩, List.forall_mem_cons.mpr ⟨List.forall_mem_cons.mpr ⟨fz_g109, List.forall_mem_cons.mpr ⟨fz_g112, List.forall_mem_cons.mpr ⟨fz_g113, List.forall_mem_cons.mpr ⟨fz_g120, List.forall_mem_cons.mpr ⟨fz_g121, List.forall_mem_cons.mpr ⟨fz_g122, List.forall_mem_cons.mpr ⟨fz_g123, List.forall_mem_cons.mpr ⟨fz_g124, List.forall_mem_cons.mpr ⟨fz_g126, List.forall_mem_cons.mpr ⟨fz_g127, fun _ h => absurd h List.not_mem_nil⟩⟩⟩⟩⟩⟩⟩⟩⟩⟩, List.forall_mem_cons.mpr ⟨List.forall_mem_cons.mpr ⟨fz_g128, List.forall_mem_cons.mpr ⟨fz_g129, List.forall_mem_cons.mpr ⟨fz_g132, List.forall_mem_cons.mpr ⟨fz_g133, List.forall_mem_cons.mpr ⟨fz_g136, List.forall_mem_cons.mpr ⟨fz_g145, List.forall_mem_cons.mpr ⟨fz_g147, List.forall_mem_cons.mpr ⟨fz_g148, List.forall_mem_cons.mpr ⟨fz_g153, List.forall_mem_cons.mpr ⟨fz_g154, fun _ h => absurd h List.not_mem_nil⟩⟩⟩⟩⟩⟩⟩⟩⟩⟩, List.forall_mem_cons.mpr ⟨List.forall_mem_cons.mpr ⟨fz_g155, List.forall_mem_cons.mpr ⟨fz_g156, List.forall_mem_cons.mpr ⟨fz_g157, List.forall_mem_cons.mpr ⟨fz_g158, List.forall_mem_cons.mpr ⟨fz_g159, List.forall_mem_cons.mpr ⟨fz_g160, List.forall_mem_cons.mpr ⟨fz_g161, List.forall_mem_cons.mpr ⟨fz_g162, List.forall_mem_cons.mpr ⟨fz_g163, List.forall_mem_cons.mpr ⟨fz_g164, fun _ h => absurd h List.not_mem_nil⟩⟩⟩⟩⟩⟩⟩⟩⟩⟩, List.forall_mem_cons.mpr ⟨List.forall_mem_cons.mpr ⟨fz_g167, List.forall_mem_cons.mpr ⟨fz_g172, List.forall_mem_cons.mpr ⟨fz_g173, List.forall_mem_cons.mpr ⟨fz_g176, List.forall_mem_cons.mpr ⟨fz_g177, List.forall_mem_cons.mpr ⟨fz_g180, List.forall_mem_cons.mpr ⟨fz_g181, List.forall_mem_cons.mpr ⟨fz_g182, List.forall_mem_cons.mpr ⟨fz_g183, List.forall_mem_cons.mpr ⟨fz_g184, fun _ h => absurd h List.not_mem_nil⟩⟩⟩⟩⟩⟩⟩⟩⟩⟩, List.forall_mem_cons.mpr ⟨List.forall_mem_cons.mpr ⟨fz_g187, List.forall_mem_cons.mpr ⟨fz_g189, List.forall_mem_cons.mpr ⟨fz_g190, List.forall_mem_cons.mpr ⟨fz_g198, List.forall_mem_cons.mpr ⟨fz_g199, fun _ h => absurd h List.not_mem_nil⟩⟩⟩⟩⟩, fun _ h => absurd h List.not_mem_nil⟩⟩⟩⟩⟩⟩⟩⟩⟩⟩⟩
def fz_dec (l : List UInt8) : Option (Instr × Nat) := match l with
  | [] => none
  | b :: r => (lk2 fz_T b.toNat).bind (fun F => (fz_run F r).bind (fun y => some (y.1, 1 + y.2)))
theorem fz_ok {cc : ByteArray} {pc : Nat} {x : Instr × Nat} (h : fz_dec (cc.data.toList.drop pc) = some x) : decode cc pc = .ok x := by
  cases hl : cc.data.toList.drop pc with
  | nil => rw [hl] at h; cases (show (none : Option (Instr × Nat)) = some x from h)
  | cons b r =>
    rw [hl] at h
    have h : (lk2 fz_T b.toNat).bind (fun F => (fz_run F r).bind (fun y => some (y.1, 1 + y.2))) = some x := h
    obtain ⟨F, hF, h2⟩ := Option.bind_eq_some_iff.mp h
    obtain ⟨y, hy, h3⟩ := Option.bind_eq_some_iff.mp h2
    cases h3
    obtain ⟨c, hc1, hc2⟩ := lk2_mem hF
    have hT := (fz_T_ok c hc1 _ hc2 cc pc (pc + 1) (fz_u1 hl)).trans (fz_run_ok (fz_tl hl) hy)
    have e : decode cc pc = Except.bind (Jvm.ClassFile.Reader.runAt (Jvm.ClassFile.Decoder.instr pc) cc pc) (fun r => .ok (r.1, r.2 - pc)) := rfl
    rw [e, hT]
    show Except.ok (y.1, pc + 1 + y.2 - pc) = _
    rw [show pc + 1 + y.2 - pc = 1 + y.2 by omega]
def fz_chk (o pc : Nat) (q : AI × Nat) (dd : Except DecodeError (Instr × Nat)) : Bool := match q.1 with
  | .inl v => kchk o v q.2 dd
  | .inr (.inl i) => decide (dd = .ok (i, q.2)) && (match i with | .newarray _ => Nat.beq q.2 2 | _ => Nat.beq q.2 1)
  | .inr (.inr (op, a, b, v)) => ochk o op a b v pc q.2 dd
theorem fz_chk_eq (o : Nat) (cc : ByteArray) (pc : Nat) (q : AI × Nat) : achk o cc pc q = fz_chk o pc q (decode cc pc) := by
  obtain ⟨a, n⟩ := q
  rcases a with v | i | ⟨op, a, b, v⟩ <;> rfl
def fz_one (o : Nat) (cc : ByteArray) (pc : Nat) (q : AI × Nat) (l : List UInt8) : Bool := match fz_dec l with
  | some x => fz_chk o pc q (.ok x)
  | none => achk o cc pc q
theorem fz_one_ok {o : Nat} {cc : ByteArray} {pc : Nat} {q : AI × Nat} (h : fz_one o cc pc q (cc.data.toList.drop pc) = true) : achk o cc pc q = true := by
  unfold fz_one at h
  cases hd : fz_dec (cc.data.toList.drop pc) with
  | none => rw [hd] at h; exact h
  | some x => rw [hd] at h; rw [fz_chk_eq, fz_ok hd]; exact h
def fz_cs {β : Type} (f : List UInt8 → β) (l : List UInt8) : β := match l with
  | [] => f []
  | b :: r => f (b :: r)
theorem fz_cs_eq {β : Type} (f : List UInt8 → β) (l : List UInt8) : fz_cs f l = f l := by cases l <;> rfl
def fz_wlk (o : Nat) (cc : ByteArray) : List (Nat × AI × Nat) → Nat → List UInt8 → Bool
  | [], _, _ => true
  | q :: L, pc, l => Nat.beq q.1 pc && (fz_one o cc q.1 q.2 l && fz_cs (fun l' => fz_wlk o cc L (q.1 + q.2.2) l') (l.drop q.2.2))
theorem fz_wlk_ok {o : Nat} {cc : ByteArray} : ∀ {L : List (Nat × AI × Nat)} {pc : Nat} {l : List UInt8}, cc.data.toList.drop pc = l → fz_wlk o cc L pc l = true → L.all (fun q => achk o cc q.1 q.2) = true
  | [], _, _, _, _ => rfl
  | q :: L, pc, l, hl, h => by
    have h : (Nat.beq q.1 pc && (fz_one o cc q.1 q.2 l && fz_cs (fun l' => fz_wlk o cc L (q.1 + q.2.2) l') (l.drop q.2.2))) = true := h
    rw [Bool.and_eq_true, Bool.and_eq_true, fz_cs_eq] at h
    obtain ⟨h1, h2, h3⟩ := h
    have e := Nat.eq_of_beq_eq_true h1
    subst e
    subst hl
    rw [List.drop_drop] at h3
    rw [List.all_cons, Bool.and_eq_true]
    exact ⟨fz_one_ok h2, fz_wlk_ok rfl h3⟩
def fz_flt {α : Type} : List (Nat × List α) → List α
  | [] => []
  | c :: cs => c.2 ++ fz_flt cs
theorem fz_flt_all {α : Type} {P : α → Bool} : ∀ {cs : List (Nat × List α)}, (fz_flt cs).all P = true → cs.all (fun c => c.2.all P) = true
  | [], _ => rfl
  | c :: cs, h => by
    have h : (c.2 ++ fz_flt cs).all P = true := h
    rw [List.all_append, Bool.and_eq_true] at h
    rw [List.all_cons, Bool.and_eq_true]
    exact ⟨h.1, fz_flt_all h.2⟩
theorem fz_mchk {X : MD} (h : fz_wlk (md_o X) (md_b X) (fz_flt (md_c X)) 0 (md_b X).data.toList = true) : mchk X = true := fz_flt_all (fz_wlk_ok (pc := 0) rfl h)
