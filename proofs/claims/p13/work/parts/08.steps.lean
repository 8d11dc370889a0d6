/-! EACH INSTRUCTION of the abstract machine is the machine's. -/
/-- what holds of a frame of the method X: the machine, the code, the tables -/
def FRm (G : SG) (sc : Nat × (Nat → Int32)) (adV : Nat → Nat) (X : MD) (p : Program) (s : State) (m : MethodId) (args : Array Value) (meth : Method) (c : Code) : Prop :=
  p.tables.exec = Jvm.exec ∧ c.code = md_b X ∧ c.maxLocals = md_L X ∧ s.vm.findClass (cnm (md_o X)) = some m.cls ∧ (∀ w ∈ lw_t2, w.before args s = true) ∧ (md_i X = true → meth.name = "<init>") ∧ va_K G.2.2.2 vwCl (tysA G) s ∧ Old G sc adV s s.heap ∧ G.1 ≤ s.heap.size
/-- the heap holds the memory -/
def HR (G : SG) (sc : Nat × (Nat → Int32)) (s : State) (M : AM) (H : Heap) (locs : List Loc) : Prop :=
  va_P G.2.2.2 vwCl (lay G M) H ∧ va_S (fun q => G.1 ≤ q) s.heap H locs ∧ Wf sc M
theorem HR.obj {G : SG} {sc : Nat × (Nat → Int32)} {s : State} {M : AM} {H : Heap} {locs : List Loc} (h : HR G sc s M H locs) {k ci : Nat} {fs : List Value} (hk : M k = .inr (ci, fs)) (hf : fs ≠ []) : 32 ≤ k ∧ k - 32 < cnt M 0 ∧ (lay G M)[k - 32]? = some (ad G k, .inr (ci, fs.map (cv G))) := by
  obtain ⟨h1, h2⟩ := h.2.2.obj hk hf
  refine ⟨h1, h2, ?_⟩
  rw [lay_get h2, ad_ge h1, show 32 + (k - 32) = k by omega, hk]
  rfl
theorem HR.arr {G : SG} {sc : Nat × (Nat → Int32)} {s : State} {M : AM} {H : Heap} {locs : List Loc} (h : HR G sc s M H locs) {k t n : Nat} {x : ADt} (hk : M k = .inl (t, n, x)) (ht : t < 7) : 32 ≤ k ∧ k - 32 < cnt M 0 ∧ (lay G M)[k - 32]? = some (ad G k, .inl (G.2.2.1 t, n, cdt G x)) := by
  obtain ⟨h1, h2⟩ := h.2.2.arr hk ht
  refine ⟨h1, h2, ?_⟩
  rw [lay_get h2, ad_ge h1, show 32 + (k - 32) = k by omega, hk]
  rfl
theorem lay_upd {G : SG} {M : AM} {k : Nat} {e : AE} (h1 : 32 ≤ k) (h2 : k - 32 < cnt M 0) : (lay G M).set (k - 32) (ad G k, ce G e) = lay G (va_up M k e) := by
  rw [ad_ge h1, lay_set h2, show 32 + (k - 32) = k by omega]
theorem vw_at (a : Nat) (h : a < 11) : vwCl[a]? = some (cnm a, fTX a, fN a) := by
  match a, h with
  | 0, _ => rfl | 1, _ => rfl | 2, _ => rfl | 3, _ => rfl | 4, _ => rfl | 5, _ => rfl | 6, _ => rfl | 7, _ => rfl | 8, _ => rfl | 9, _ => rfl | 10, _ => rfl
theorem fT_ok (a : Nat) (h : a < 11) : ∀ k, k < fN a → parseFieldDescriptor (fTX a k).2.2.1 = some (fcode a k) := by
  match a, h with
  | 0, _ => exact tyX0_ok | 1, _ => exact tyX1_ok | 2, _ => exact tyX2_ok | 3, _ => exact tyX3_ok | 4, _ => exact tyX4_ok | 5, _ => exact tyX5_ok | 6, _ => exact tyX6_ok | 7, _ => exact tyX7_ok | 8, _ => exact tyX8_ok | 9, _ => exact tyX9_ok | 10, _ => exact tyX10_ok
theorem fN_nm (a : Nat) (h : a < 11) : ∀ x, x < fN a → ∀ y, y < fN a → x ≠ y → (fTX a x).2.1 ≠ (fTX a y).2.1 := by
  match a, h with
  | 0, _ => exact nmX0 | 1, _ => exact nmX1 | 2, _ => exact nmX2 | 3, _ => exact nmX3 | 4, _ => exact nmX4 | 5, _ => exact nmX5 | 6, _ => exact nmX6 | 7, _ => exact nmX7 | 8, _ => exact nmX8 | 9, _ => exact nmX9 | 10, _ => exact nmX10
def wsI (a : Nat) : List Nat := match a with
  | 0 => [188, 190, 192, 194, 196]
  | 1 => [234, 236, 238, 240, 242, 244, 246]
  | 2 => [146, 148, 150, 152, 154, 156, 158, 160]
  | 3 => [319, 321, 323, 325, 327, 329, 331, 333, 335, 337, 339, 341]
  | 4 => [443, 445, 447]
  | 5 => [124, 126]
  | 6 => [415, 417, 419, 421, 423, 425, 427, 429]
  | 7 => [273, 275, 277, 279, 281]
  | 8 => [367, 369, 371, 373, 375, 377, 379, 381, 383, 385, 387, 389, 391]
  | 9 => [462, 464, 466, 468, 470, 472, 474, 476, 478, 480, 482]
  | _ => [1199, 1201, 1203, 1205, 1207, 1209, 1211, 1213, 1215, 1217, 1219, 1221, 1223, 1225, 1227, 1229, 1231, 1233, 1235, 1237, 1239, 1241, 1243, 1245, 1247, 1249, 1251, 1253, 1255, 1257, 1259, 1261, 1263, 1265, 1267, 1269, 1271, 1273, 1275, 1277, 1279, 1281, 1283, 1285, 1287]
def fzx : List Nat → List Jvm.Cond → Bool
  | [], [] => true
  | k :: kt, w :: wt => decide (lwz k = some w) && gword w && fzx kt wt
  | _, _ => false
theorem fzx_mem : ∀ {ks : List Nat} {ws : List Jvm.Cond}, fzx ks ws = true → ∀ w ∈ ws, w ∈ lw_t2
  | [], [], _, w, hw => absurd hw List.not_mem_nil
  | [], _ :: _, h, _, _ => absurd (show false = true from h) (by decide)
  | _ :: _, [], h, _, _ => absurd (show false = true from h) (by decide)
  | k :: kt, v :: wt, h, w, hw => by
    have h2 := Bool.and_eq_true_iff.mp (show (decide (lwz k = some v) && gword v && fzx kt wt) = true from h)
    have h3 := Bool.and_eq_true_iff.mp h2.1
    rcases List.mem_cons.mp hw with e | e
    · rw [e]
      exact t2_in (lwz_mem (of_decide_eq_true h3.1)) h3.2
    · exact fzx_mem h2.2 w e
set_option maxRecDepth 100000 in
theorem f_ws_all : (List.range 11).all (fun a => fzx (wsI a) (u_ws (cnm a) (fTX a) (fN a))) = true := by decide +kernel
theorem f_ws (a : Nat) (h : a < 11) : ∀ w ∈ u_ws (cnm a) (fTX a) (fN a), w ∈ lw_t2 := fzx_mem (List.all_eq_true.mp f_ws_all a (List.mem_range.mpr h))
/-- the links' words are the tables' -/
def flW (o i ci j : Nat) (ne : Bool) : Jvm.Cond := bif ne then .fieldLinkNest (cnm o) i (cnm ci) (fTX ci j).2.1 (fTX ci j).2.2.1 RX9 else .fieldLink (cnm o) i (cnm ci) (fTX ci j).2.1 (fTX ci j).2.2.1
set_option maxRecDepth 100000 in
theorem flT_all : flT.all (fun c => c.2.all (fun q => decide (lwz q.2.2.2.2 = some (flW (q.1 / 1000) (q.1 % 1000) q.2.1 q.2.2.1 q.2.2.2.1)) && Nat.blt q.2.1 11 && Nat.blt q.2.2.1 (fN q.2.1) && decide ((fTX q.2.1 q.2.2.1).1 = cnm q.2.1))) = true := by decide +kernel
theorem flT_ok {o i ci j x : Nat} {ne : Bool} (hi : i < 1000) (h : lk2 flT (1000 * o + i) = some (ci, j, ne, x)) : flW o i ci j ne ∈ lw_t2 ∧ ci < 11 ∧ j < fN ci ∧ (fTX ci j).1 = cnm ci := by
  obtain ⟨c, h1, h2⟩ := lk2_mem h
  have h3 := List.all_eq_true.mp (List.all_eq_true.mp flT_all c h1) _ h2
  simp only [Bool.and_eq_true, decide_eq_true_eq] at h3
  obtain ⟨⟨⟨a1, a2⟩, a3⟩, a4⟩ := h3
  have e1 : (1000 * o + i) / 1000 = o := by omega
  have e2 : (1000 * o + i) % 1000 = i := by omega
  rw [e1, e2] at a1
  exact ⟨t2_in (lwz_mem a1) (by cases ne <;> rfl), Nat.le_of_ble_eq_true a2, Nat.le_of_ble_eq_true a3, a4⟩
section STEPS
variable {p : Program} {l : Launch} {e : Env} {R : Room} {s : State} {m : MethodId} {args : Array Value} {below : List Frame} {meth : Method} {c : Code} {H : Heap} {locs : List Loc} {cells slots : Nat} {Q : State → Prop}
variable {G : SG} {sc : Nat × (Nat → Int32)} {adV : Nat → Nat} {X : MD} {pc len : Nat} {ls : Array Slot} {ll : AL} {st st' : List Value} {M M' : AM}
set_option maxHeartbeats 1000000 in
theorem w_pstep {i : Instr} (F : FRm G sc adV X p s m args meth c) (hd : decode (md_b X) pc = .ok (i, 1)) (hp : pstep i st = some st')
    (k : W p l e R s m args below meth c H locs cells slots Q (F0 m (pc + 1) ls (st'.map (cv G)))) : W p l e R s m args below meth c H locs cells slots Q (F0 m pc ls (st.map (cv G))) := by
  obtain ⟨hx, hb, -⟩ := F
  unfold pstep at hp
  split at hp
  · cases hp; exact lv_iadd hx hb hd k
  · cases hp; exact lv_isub hx hb hd k
  · cases hp; exact lv_imul hx hb hd k
  · cases hp; exact lv_iand hx hb hd k
  · cases hp; exact lv_ior hx hb hd k
  · cases hp; exact lv_ishl hx hb hd k
  · cases hp; exact lv_ishr hx hb hd k
  · cases hp; exact lv_iushr hx hb hd rfl k
  · rename_i y x r
    cases hy : (y == 0) with
    | true => rw [hy] at hp; cases hp
    | false =>
      rw [hy] at hp
      cases hp
      exact lv_irem hx hb hd (by simpa using hy) k
  · cases hp; exact lv_ladd hx hb hd k
  · cases hp; exact lv_lsub hx hb hd k
  · cases hp; exact lv_lmul hx hb hd k
  · cases hp; exact lv_land hx hb hd k
  · cases hp; exact lv_lor hx hb hd k
  · rename_i y x r
    cases hy : (y == 0) with
    | true => rw [hy] at hp; cases hp
    | false =>
      rw [hy] at hp
      cases hp
      exact lv_ldiv hx hb hd (by simpa using hy) k
  · rename_i y x r
    cases hy : (y == 0) with
    | true => rw [hy] at hp; cases hp
    | false =>
      rw [hy] at hp
      cases hp
      exact lv_lrem hx hb hd (by simpa using hy) k
  · cases hp; exact lv_lshl hx hb hd rfl k
  · cases hp; exact lv_lshr hx hb hd rfl k
  · cases hp; exact W.lcmp hx hb hd k
  · cases hp; exact lv_i2l hx hb hd rfl k
  · cases hp; exact lv_l2i hx hb hd rfl k
  · cases hp; exact lv_i2b hx hb hd rfl k
  · cases hp; exact lv_i2s hx hb hd rfl k
  · cases hp; exact lv_dup hx hb hd rfl k
  · cases hp; exact lv_dup hx hb hd rfl k
  · cases hp; exact lv_dup2_11 hx hb hd rfl rfl k
  · cases hp; exact lv_pop hx hb hd rfl k
  · cases hp; exact lv_pop2_2 hx hb hd rfl k
  · cases hp
end STEPS
