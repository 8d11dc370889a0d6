/-! MAKING OBJECTS: a memory with its two counters, rules for new cells; a block of cells. -/
def cx (M : AM) (n m : Nat) : AM := va_up (va_up M 0 (.inr (n, []))) 1 (.inr (m, []))
def rsE (M : AM) (r e : Nat) (f : Nat → AE) : AM := fun q => if r ≤ q ∧ q < r + e then f (q - r) else M q
def rwE (t w : Nat) (g : Nat → Nat) (j : Nat) : AE := .inl (t, w, .inr (.inr (.inr (.inr (fun i => if i < j then some (g i) else none)))))
section MKO
variable {d : Nat} {X : MD} {pc len a b : Nat} {l : AL} {st : List Value} {M M' : AM} {v : Value} {Q : Option Value → AM → Prop} {n m r e q k : Nat} {f g : Nat → AE}
theorem cx_o (h : 2 ≤ k) : cx M n m k = M k := (va_up_ne _ _ (by omega)).trans (va_up_ne _ _ (by omega))
theorem cx_up {c : AE} (h : 2 ≤ k) : va_up (cx M n m) k c = cx (va_up M k c) n m := by
  funext q
  by_cases h1 : q = k
  · rw [h1, va_up_self, cx_o h, va_up_self]
  · rw [va_up_ne _ _ h1]
    by_cases h2 : 2 ≤ q
    · rw [cx_o h2, cx_o h2, va_up_ne _ _ h1]
    · obtain rfl | rfl : q = 0 ∨ q = 1 := by omega
      · rfl
      · rfl
theorem mnew_cx {c : AE} {sz : Nat} : mnew (cx M n m) c sz = cx (va_up M (32 + n) c) (n + 1) (m + sz) := by
  show va_up (va_up (va_up (cx M n m) (32 + n) c) 0 (.inr (n + 1, []))) 1 (.inr (m + sz, [])) = _
  rw [cx_up (by omega)]
  funext q
  by_cases h2 : 2 ≤ q
  · rw [va_up_ne _ _ (by omega), va_up_ne _ _ (by omega), cx_o h2, cx_o h2]
  · obtain rfl | rfl : q = 0 ∨ q = 1 := by omega
    · rfl
    · rfl
theorem cx_eq {n' m' : Nat} (h1 : M = M') (h2 : n = n') (h3 : m = m') : cx M n m = cx M' n' m' := by subst h1 h2 h3; rfl
theorem Wp.cong (h : M = M') (w : Wp d X pc l st M' Q) : Wp d X pc l st M Q := h ▸ w
theorem nI_nn (h : k ≤ 100000) : (decide (nI k < 0) || Nat.blt 100000 (nI k).toNatClampNeg) = false := by
  have h1 : ¬ nI k < 0 := fun q => vp_in_nI (n := k) (N := k + 1) (by omega) (by omega) (Or.inl q)
  rw [decide_eq_false h1, nI_clamp (by omega)]
  cases hb : Nat.blt 100000 k with
  | false => rfl
  | true => exact absurd (show 100000 < k from Nat.le_of_ble_eq_true hb) (by omega)
theorem Wp.xnew (hc : cdx X pc = some (.inr (.inr (2, a, b, v)), len)) (hq : 32 + n = q) (h : Wp d X (pc + len) l (.ref q :: st) (cx (va_up M q (.inr (a, nfs a))) (n + 1) (m + fN a)) Q) : Wp d X pc l st (cx M n m) Q := by
  subst hq
  refine Wp.s (pc' := pc + len) (l' := l) (st' := .ref (32 + n) :: st) (M' := cx (va_up M (32 + n) (.inr (a, nfs a))) (n + 1) (m + fN a)) ?_ h
  unfold sstep
  rw [hc]
  show some (pc + len, l, .ref (32 + n) :: st, mnew (cx M n m) (.inr (a, nfs a)) (fN a)) = _
  rw [mnew_cx]
theorem Wp.xanew (hc : cdx X pc = some (.inr (.inr (3, a, b, v)), len)) (hk : k ≤ 100000) (hq : 32 + n = q) (h : Wp d X (pc + len) l (.ref q :: st) (cx (va_up M q (.inl (a, k, .inr (.inr (.inr (.inr (fun _ => none))))))) (n + 1) (m + k)) Q) : Wp d X pc l (.int (nI k) :: st) (cx M n m) Q := by
  subst hq
  refine Wp.s (pc' := pc + len) (l' := l) (st' := .ref (32 + n) :: st) (M' := cx (va_up M (32 + n) (.inl (a, k, .inr (.inr (.inr (.inr (fun _ => none))))))) (n + 1) (m + k)) ?_ h
  unfold sstep
  rw [hc]
  show (bif decide (nI k < 0) || Nat.blt 100000 (nI k).toNatClampNeg then none else some (pc + len, l, .ref (32 + n) :: st, mnew (cx M n m) (.inl (a, (nI k).toNatClampNeg, .inr (.inr (.inr (.inr (fun _ => none)))))) (nI k).toNatClampNeg)) = _
  rw [nI_nn hk, nI_clamp (by omega), mnew_cx]
  rfl
theorem Wp.xna0 (hc : cdx X pc = some (.inr (.inl (.newarray .int)), len)) (hk : k ≤ 100000) (hq : 32 + n = q) (h : Wp d X (pc + len) l (.ref q :: st) (cx (va_up M q (.inl (0, k, .inl (fun _ => 0)))) (n + 1) (m + k)) Q) : Wp d X pc l (.int (nI k) :: st) (cx M n m) Q := by
  subst hq
  refine Wp.s (pc' := pc + len) (l' := l) (st' := .ref (32 + n) :: st) (M' := cx (va_up M (32 + n) (.inl (0, k, .inl (fun _ => 0)))) (n + 1) (m + k)) ?_ h
  have e : mstep (.newarray .int) (.int (nI k) :: st) (cx M n m) = some (.ref (32 + n) :: st, cx (va_up M (32 + n) (.inl (0, k, .inl (fun _ => 0)))) (n + 1) (m + k)) := by
    show (bif decide (nI k < 0) || Nat.blt 100000 (nI k).toNatClampNeg then none else some (.ref (32 + n) :: st, mnew (cx M n m) (.inl (0, (nI k).toNatClampNeg, .inl (fun _ => 0))) (nI k).toNatClampNeg)) = _
    rw [nI_nn hk, nI_clamp (by omega), mnew_cx]
    rfl
  unfold sstep
  rw [hc]
  show (match mstep (.newarray .int) (.int (nI k) :: st) (cx M n m) with | some (st', M') => some (pc + len, l, st', M') | none => none) = _
  rw [e]
theorem Wp.xna1 (hc : cdx X pc = some (.inr (.inl (.newarray .long)), len)) (hk : k ≤ 100000) (hq : 32 + n = q) (h : Wp d X (pc + len) l (.ref q :: st) (cx (va_up M q (.inl (1, k, .inr (.inl (fun _ => 0))))) (n + 1) (m + k)) Q) : Wp d X pc l (.int (nI k) :: st) (cx M n m) Q := by
  subst hq
  refine Wp.s (pc' := pc + len) (l' := l) (st' := .ref (32 + n) :: st) (M' := cx (va_up M (32 + n) (.inl (1, k, .inr (.inl (fun _ => 0))))) (n + 1) (m + k)) ?_ h
  have e : mstep (.newarray .long) (.int (nI k) :: st) (cx M n m) = some (.ref (32 + n) :: st, cx (va_up M (32 + n) (.inl (1, k, .inr (.inl (fun _ => 0))))) (n + 1) (m + k)) := by
    show (bif decide (nI k < 0) || Nat.blt 100000 (nI k).toNatClampNeg then none else some (.ref (32 + n) :: st, mnew (cx M n m) (.inl (1, (nI k).toNatClampNeg, .inr (.inl (fun _ => 0)))) (nI k).toNatClampNeg)) = _
    rw [nI_nn hk, nI_clamp (by omega), mnew_cx]
    rfl
  unfold sstep
  rw [hc]
  show (match mstep (.newarray .long) (.int (nI k) :: st) (cx M n m) with | some (st', M') => some (pc + len, l, st', M') | none => none) = _
  rw [e]
theorem Wp.xna2 (hc : cdx X pc = some (.inr (.inl (.newarray .byte)), len)) (hk : k ≤ 100000) (hq : 32 + n = q) (h : Wp d X (pc + len) l (.ref q :: st) (cx (va_up M q (.inl (2, k, .inl (fun _ => 0)))) (n + 1) (m + k)) Q) : Wp d X pc l (.int (nI k) :: st) (cx M n m) Q := by
  subst hq
  refine Wp.s (pc' := pc + len) (l' := l) (st' := .ref (32 + n) :: st) (M' := cx (va_up M (32 + n) (.inl (2, k, .inl (fun _ => 0)))) (n + 1) (m + k)) ?_ h
  have e : mstep (.newarray .byte) (.int (nI k) :: st) (cx M n m) = some (.ref (32 + n) :: st, cx (va_up M (32 + n) (.inl (2, k, .inl (fun _ => 0)))) (n + 1) (m + k)) := by
    show (bif decide (nI k < 0) || Nat.blt 100000 (nI k).toNatClampNeg then none else some (.ref (32 + n) :: st, mnew (cx M n m) (.inl (2, (nI k).toNatClampNeg, .inl (fun _ => 0))) (nI k).toNatClampNeg)) = _
    rw [nI_nn hk, nI_clamp (by omega), mnew_cx]
    rfl
  unfold sstep
  rw [hc]
  show (match mstep (.newarray .byte) (.int (nI k) :: st) (cx M n m) with | some (st', M') => some (pc + len, l, st', M') | none => none) = _
  rw [e]
theorem Wp.xna3 (hc : cdx X pc = some (.inr (.inl (.newarray .boolean)), len)) (hk : k ≤ 100000) (hq : 32 + n = q) (h : Wp d X (pc + len) l (.ref q :: st) (cx (va_up M q (.inl (3, k, .inl (fun _ => 0)))) (n + 1) (m + k)) Q) : Wp d X pc l (.int (nI k) :: st) (cx M n m) Q := by
  subst hq
  refine Wp.s (pc' := pc + len) (l' := l) (st' := .ref (32 + n) :: st) (M' := cx (va_up M (32 + n) (.inl (3, k, .inl (fun _ => 0)))) (n + 1) (m + k)) ?_ h
  have e : mstep (.newarray .boolean) (.int (nI k) :: st) (cx M n m) = some (.ref (32 + n) :: st, cx (va_up M (32 + n) (.inl (3, k, .inl (fun _ => 0)))) (n + 1) (m + k)) := by
    show (bif decide (nI k < 0) || Nat.blt 100000 (nI k).toNatClampNeg then none else some (.ref (32 + n) :: st, mnew (cx M n m) (.inl (3, (nI k).toNatClampNeg, .inl (fun _ => 0))) (nI k).toNatClampNeg)) = _
    rw [nI_nn hk, nI_clamp (by omega), mnew_cx]
    rfl
  unfold sstep
  rw [hc]
  show (match mstep (.newarray .boolean) (.int (nI k) :: st) (cx M n m) with | some (st', M') => some (pc + len, l, st', M') | none => none) = _
  rw [e]
theorem Wp.xput {fs : List Value} {w : Value} (hc : cdx X pc = some (.inr (.inr (1, a, b, v)), len)) (hM : M k = .inr (a, fs)) (h2 : 2 ≤ k) (hok : (Nat.blt b fs.length && pfit (fcode a b) w && (bif (fTX a b).2.2.2 then md_i X && Nat.beq (md_o X) a else true)) = true) (h : Wp d X (pc + len) l st (cx (va_up M k (.inr (a, fs.set b w))) n m) Q) : Wp d X pc l (w :: .ref k :: st) (cx M n m) Q := by
  refine Wp.put hc ((cx_o h2).trans hM) hok ?_
  rw [cx_up h2]
  exact h
theorem Wp.xget {fs : List Value} {w : Value} (hc : cdx X pc = some (.inr (.inr (0, a, b, v)), len)) (hM : M k = .inr (a, fs)) (h2 : 2 ≤ k) (hv : gv fs b = some w) (h : Wp d X (pc + len) l (w :: st) (cx M n m) Q) : Wp d X pc l (.ref k :: st) (cx M n m) Q := Wp.get hc ((cx_o h2).trans hM) hv h
theorem Wp.xiast {w j : Nat} {g : Nat → Int32} {x : Int32} (hc : cdx X pc = some (.inr (.inl .iastore), len)) (hM : M k = .inl (0, w, .inl g)) (h2 : 2 ≤ k) (hj : j < w) (hw : w < 2 ^ 31) (h : Wp d X (pc + len) l st (cx (va_up M k (.inl (0, w, .inl (upd g j x)))) n m) Q) : Wp d X pc l (.int x :: .int (nI j) :: .ref k :: st) (cx M n m) Q := by
  refine Wp.iastN hc ((cx_o h2).trans hM) hj hw ?_
  rw [cx_up h2]
  exact h
theorem rwE_0 {t w : Nat} {g : Nat → Nat} : (.inl (t, w, .inr (.inr (.inr (.inr (fun _ => none))))) : AE) = rwE t w g 0 := by
  have e : (fun i => if i < 0 then some (g i) else none : Nat → Option Nat) = fun _ => none := by
    funext i
    exact if_neg (Nat.not_lt_zero _)
  unfold rwE
  rw [e]
theorem rwE_s {t w j p : Nat} {g : Nat → Nat} (h : g j = p) : (.inl (t, w, .inr (.inr (.inr (.inr (va_up (fun i => if i < j then some (g i) else none) j (some p)))))) : AE) = rwE t w g (j + 1) := by
  have e : va_up (fun i => if i < j then some (g i) else none : Nat → Option Nat) j (some p) = fun i => if i < j + 1 then some (g i) else none := by
    funext i
    by_cases c : i = j
    · rw [c, va_up_self, if_pos (by omega), h]
    · rw [va_up_ne _ _ c]
      by_cases c2 : i < j
      · rw [if_pos c2, if_pos (by omega)]
      · rw [if_neg c2, if_neg (by omega)]
  unfold rwE
  rw [e]
theorem Wp.xaast {t w j ci p : Nat} {g : Nat → Nat} {fs : List Value} (hc : cdx X pc = some (.inr (.inl .aastore), len)) (hM : M k = rwE t w g j) (hv : M p = .inr (ci, fs)) (hg : g j = p) (ht : (Nat.ble 4 t && Nat.ble t 6 && Nat.beq ci (tag_cls t)) = true) (h2 : 2 ≤ k) (h32 : 32 ≤ p) (hj : j < w) (hw : w < 2 ^ 31) (h : Wp d X (pc + len) l st (cx (va_up M k (rwE t w g (j + 1))) n m) Q) : Wp d X pc l (.ref p :: .int (nI j) :: .ref k :: st) (cx M n m) Q := by
  refine Wp.of (fun _ => Ev.aast hc ((cx_o h2).trans hM) ((cx_o (by omega)).trans hv) ht h32 (vp_in_nI hj hw)) ?_
  rw [nI_clamp (by omega), cx_up h2, rwE_s hg]
  exact h
-- a block
theorem rsE_at {i : Nat} (h : i < e) : rsE M r e f (r + i) = f i := by
  unfold rsE
  rw [if_pos ⟨by omega, by omega⟩, show r + i - r = i by omega]
theorem rsE_up {i : Nat} {c : AE} (h : i < e) : va_up (rsE M r e f) (r + i) c = rsE M r e (va_up f i c) := by
  funext q
  by_cases h1 : q = r + i
  · rw [h1, va_up_self, rsE_at h, va_up_self]
  · rw [va_up_ne _ _ h1]
    unfold rsE
    by_cases h2 : r ≤ q ∧ q < r + e
    · rw [if_pos h2, if_pos h2, va_up_ne _ _ (by omega)]
    · rw [if_neg h2, if_neg h2]
theorem rsE_new {c : AE} : va_up (rsE M r e f) (r + e) c = rsE M r (e + 1) (va_up f e c) := by
  funext q
  by_cases h1 : q = r + e
  · rw [h1, va_up_self, rsE_at (Nat.lt_succ_self _), va_up_self]
  · rw [va_up_ne _ _ h1]
    unfold rsE
    by_cases h2 : r ≤ q ∧ q < r + e
    · rw [if_pos h2, if_pos ⟨h2.1, by omega⟩, va_up_ne _ _ (by omega)]
    · rw [if_neg h2, if_neg (by omega)]
theorem rsE_eq {e' : Nat} (he : e = e') (h : ∀ k, k < e → f k = g k) : rsE M r e f = rsE M r e' g := by
  subst he
  funext q
  unfold rsE
  by_cases h2 : r ≤ q ∧ q < r + e
  · rw [if_pos h2, if_pos h2, h _ (by omega)]
  · rw [if_neg h2, if_neg h2]
theorem rsE_1 {c : AE} : va_up M r c = rsE M r 1 (fun _ => c) := by
  funext q
  by_cases h1 : q = r
  · rw [h1, va_up_self]
    exact (rsE_at (M := M) (r := r) (f := fun _ => c) (e := 1) (i := 0) (by decide)).symm
  · rw [va_up_ne _ _ h1]
    unfold rsE
    rw [if_neg (by omega)]
theorem bgt {i : Nat} (h32 : 32 ≤ r) (h : i < e) : cx (rsE M r e f) n m (r + i) = f i := (cx_o (by omega)).trans (rsE_at h)
theorem Wp.bnew (hc : cdx X pc = some (.inr (.inr (2, a, b, v)), len)) (hq : 32 + n = r + e) (h : Wp d X (pc + len) l (.ref (r + e) :: st) (cx (rsE M r (e + 1) (va_up f e (.inr (a, nfs a)))) (n + 1) (m + fN a)) Q) : Wp d X pc l st (cx (rsE M r e f) n m) Q := Wp.xnew hc hq (by rw [rsE_new]; exact h)
theorem Wp.banew (hc : cdx X pc = some (.inr (.inr (3, a, b, v)), len)) (hk : k ≤ 100000) (hq : 32 + n = r + e) (g : Nat → Nat) (h : Wp d X (pc + len) l (.ref (r + e) :: st) (cx (rsE M r (e + 1) (va_up f e (rwE a k g 0))) (n + 1) (m + k)) Q) : Wp d X pc l (.int (nI k) :: st) (cx (rsE M r e f) n m) Q := Wp.xanew hc hk hq (by rw [rsE_new, rwE_0 (g := g)]; exact h)
theorem Wp.bna0 (hc : cdx X pc = some (.inr (.inl (.newarray .int)), len)) (hk : k ≤ 100000) (hq : 32 + n = r + e) (h : Wp d X (pc + len) l (.ref (r + e) :: st) (cx (rsE M r (e + 1) (va_up f e (.inl (0, k, .inl (fun _ => 0))))) (n + 1) (m + k)) Q) : Wp d X pc l (.int (nI k) :: st) (cx (rsE M r e f) n m) Q := Wp.xna0 hc hk hq (by rw [rsE_new]; exact h)
theorem Wp.bput {i : Nat} {fs : List Value} {w : Value} (hc : cdx X pc = some (.inr (.inr (1, a, b, v)), len)) (h32 : 32 ≤ r) (hi : i < e) (hM : f i = .inr (a, fs)) (hok : (Nat.blt b fs.length && pfit (fcode a b) w && (bif (fTX a b).2.2.2 then md_i X && Nat.beq (md_o X) a else true)) = true) (h : Wp d X (pc + len) l st (cx (rsE M r e (va_up f i (.inr (a, fs.set b w)))) n m) Q) : Wp d X pc l (w :: .ref (r + i) :: st) (cx (rsE M r e f) n m) Q := Wp.xput hc ((rsE_at hi).trans hM) (by omega) hok (by rw [rsE_up hi]; exact h)
theorem Wp.baast {t w j ci i i' : Nat} {g : Nat → Nat} {fs : List Value} (hc : cdx X pc = some (.inr (.inl .aastore), len)) (h32 : 32 ≤ r) (hi : i < e) (hi' : i' < e) (hM : f i = rwE t w g j) (hv : f i' = .inr (ci, fs)) (hg : g j = r + i') (ht : (Nat.ble 4 t && Nat.ble t 6 && Nat.beq ci (tag_cls t)) = true) (hj : j < w) (hw : w < 2 ^ 31) (h : Wp d X (pc + len) l st (cx (rsE M r e (va_up f i (rwE t w g (j + 1)))) n m) Q) : Wp d X pc l (.ref (r + i') :: .int (nI j) :: .ref (r + i) :: st) (cx (rsE M r e f) n m) Q := Wp.xaast hc ((rsE_at hi).trans hM) ((rsE_at hi').trans hv) hg ht (by omega) (by omega) hj hw (by rw [rsE_up hi]; exact h)
theorem va_uu {α : Type} {f : Nat → α} {k : Nat} {x y : α} : va_up (va_up f k x) k y = va_up f k y := by
  funext q
  by_cases c : q = k
  · rw [c, va_up_self, va_up_self]
  · rw [va_up_ne _ _ c, va_up_ne _ _ c, va_up_ne _ _ c]
theorem k_lawInit {y : Nat} : Ev (d + 8) md_0 0 [some (.ref y)] [] M (none, M) := by
  refine Wp.toEv ?_
  refine Wp.n (pc' := 1) 1 rfl ?_
  refine Wp.bi (len := 3) rfl (by decide) rfl (by omega) ?_
  refine Wp.retV (len := 1) rfl rfl ?_
  exact ⟨rfl, rfl⟩
theorem k_lawBegin2 {i : Nat} (h32 : 32 ≤ r) (hi : i < e) (hM : f i = .inr (0, nfs 0)) : Ev d md_1 0 [some (.ref (r + i))] [] (cx (rsE M r e f) n m) (none, cx (rsE M r e (va_up f i (.inr (0, [.int 0, .int 0, .int 0, .int 1, .int 0])))) n m) := by
  refine Wp.toEv ?_
  refine Wp.n (pc' := 2) 2 rfl ?_
  refine Wp.bput (i := i) (fs := nfs 0) (len := 3) rfl h32 hi (hM) rfl ?_
  refine Wp.n (pc' := 7) 2 rfl ?_
  refine Wp.bput (i := i) (fs := [.int 0, .int 0, .int 0, .int 0, .int 0]) (len := 3) rfl h32 hi (va_up_self _ _ _) rfl ?_
  refine Wp.n (pc' := 12) 2 rfl ?_
  refine Wp.bput (i := i) (fs := [.int 0, .int 0, .int 0, .int 0, .int 0]) (len := 3) rfl h32 hi (va_up_self _ _ _) rfl ?_
  refine Wp.n (pc' := 17) 2 rfl ?_
  refine Wp.bput (i := i) (fs := [.int 0, .int 0, .int 0, .int 0, .int 0]) (len := 3) rfl h32 hi (va_up_self _ _ _) rfl ?_
  refine Wp.n (pc' := 22) 2 rfl ?_
  refine Wp.bput (i := i) (fs := [.int 0, .int 0, .int 0, .int 1, .int 0]) (len := 3) rfl h32 hi (va_up_self _ _ _) rfl ?_
  refine Wp.retV (len := 1) rfl rfl ?_
  refine ⟨rfl, ?_⟩
  rw [va_uu, va_uu, va_uu, va_uu]
  rfl
theorem k_linkInit {i : Nat} {x : Int32} (h32 : 32 ≤ r) (hi : i < e) (hM : f i = .inr (1, nfs 1)) : Ev (d + 8) md_5 0 [some (.ref (r + i)), some (.int x)] [] (cx (rsE M r e f) n m) (none, cx (rsE M r e (va_up f i (.inr (1, (nfs 1).set 0 (.int x))))) n m) := by
  refine Wp.toEv ?_
  refine Wp.n (pc' := 1) 1 rfl ?_
  refine Wp.bi (len := 3) rfl (by decide) rfl (by omega) ?_
  refine Wp.n (pc' := 6) 2 rfl ?_
  refine Wp.bput (i := i) (fs := nfs 1) (len := 3) rfl h32 hi hM rfl ?_
  refine Wp.retV (len := 1) rfl rfl ?_
  exact ⟨rfl, rfl⟩
theorem k_walkInit {i : Nat} (h32 : 32 ≤ r) (hi : i < e) (hM : f i = .inr (7, nfs 7)) (hq : 32 + n = r + e) : Ev (d + 8) md_68 0 [some (.ref (r + i))] [] (cx (rsE M r e f) n m) (none, cx (rsE M r (e + 1) (va_up (va_up f e (.inl (0, 7, .inl (fun _ => 0)))) i (.inr (7, (nfs 7).set 4 (.ref (r + e)))))) (n + 1) (m + 7)) := by
  refine Wp.toEv ?_
  refine Wp.n (pc' := 1) 1 rfl ?_
  refine Wp.bi (len := 3) rfl (by decide) rfl (by omega) ?_
  refine Wp.n (pc' := 7) 2 rfl ?_
  refine Wp.bna0 (k := 7) (len := 2) rfl (by decide) hq ?_
  refine Wp.bput (i := i) (fs := nfs 7) (len := 3) rfl h32 (by omega) ((va_up_ne _ _ (by omega)).trans hM) rfl ?_
  refine Wp.retV (len := 1) rfl rfl ?_
  exact ⟨rfl, rfl⟩
end MKO
