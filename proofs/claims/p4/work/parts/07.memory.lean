/-! THE ABSTRACT MEMORY AND THE HEAP. G: where the made cells begin, where the places below 32 lie, the array classes, the object classes and slots. -/
abbrev SG : Type := Nat × (Nat → Nat) × (Nat → ClassId) × va_G
def slen : List Nat := [7, 6, 4, 4, 4, 4, 4, 2, 4, 7, 4, 4, 4, 5, 2, 4, 4, 2, 3, 6, 5]
def sbyt : List (List Int32) := [[107, 105, 110, 103, 100, 111, 109], [112, 108, 97, 99, 101, 115], [100, 97, 121, 115], [114, 97, 116, 101], [102, 114, 101, 101], [116, 105, 109, 101], [114, 111, 97, 100], [116, 111], [102, 114, 111, 109], [119, 97, 116, 99, 104, 101, 100], [108, 97, 110, 101], [102, 111, 114, 100], [98, 111, 97, 116], [102, 108, 111, 111, 100], [111, 110], [119, 97, 108, 107], [108, 111, 97, 100], [98, 121], [108, 97, 119], [115, 117, 110, 100, 97, 121], [108, 105, 103, 104, 116]]
def sidx : List Nat := [84, 90, 98, 106, 112, 116, 46, 130, 142, 150, 58, 60, 62, 64, 157, 69, 174, 185, 194, 195, 203]
def stx : List String := ["kingdom", "places", "days", "rate", "free", "time", "road", "to", "from", "watched", "lane", "ford", "boat", "flood", "on", "walk", "load", "by", "law", "sunday", "light"]
def ad (G : SG) (k : Nat) : Nat := if k < 32 then G.2.1 k else G.1 + (k - 32)
def cv (G : SG) (v : Value) : Value := match v with
  | .ref k => .ref (ad G k)
  | .int x => .int x
  | .long x => .long x
  | .float x => .float x
  | .double x => .double x
  | .null => .null
  | .retAddr x => .retAddr x
abbrev ADt : Type := (Nat → Int32) ⊕ (Nat → Int64) ⊕ (Nat → UInt32) ⊕ (Nat → UInt64) ⊕ (Nat → Option Nat)
def cdt (G : SG) (x : ADt) : ADt := match x with
  | .inr (.inr (.inr (.inr f))) => .inr (.inr (.inr (.inr (fun i => (f i).map (ad G)))))
  | .inl f => .inl f
  | .inr (.inl f) => .inr (.inl f)
  | .inr (.inr (.inl f)) => .inr (.inr (.inl f))
  | .inr (.inr (.inr (.inl f))) => .inr (.inr (.inr (.inl f)))
def ce (G : SG) (e : AE) : va_E := match e with
  | .inl (t, n, x) => .inl (G.2.2.1 t, n, cdt G x)
  | .inr (ci, fs) => .inr (ci, fs.map (cv G))
def lay (G : SG) (M : AM) : va_W := (List.range (cnt M 0)).map (fun k => (G.1 + k, ce G (M (32 + k))))
def tysA (G : SG) : List (ClassId × FieldType) := [(G.2.2.1 0, .int), (G.2.2.1 1, .long), (G.2.2.1 2, .byte), (G.2.2.1 3, .boolean), (G.2.2.1 4, .object RX1), (G.2.2.1 5, .object RX7), (G.2.2.1 6, .object RX3)]
theorem cv_cat (G : SG) (v : Value) : (cv G v).category = v.category := by cases v <;> rfl
theorem va_rf_cv (G : SG) (r : Option Nat) : cv G (va_rf r) = va_rf (r.map (ad G)) := by cases r <;> rfl
theorem lay_len (G : SG) (M : AM) : (lay G M).length = cnt M 0 := by simp [lay]
theorem lay_get {G : SG} {M : AM} {k : Nat} (h : k < cnt M 0) : (lay G M)[k]? = some (G.1 + k, ce G (M (32 + k))) := by
  simp [lay, List.getElem?_range h]
theorem lay_at {G : SG} {M : AM} {k : Nat} {q : Nat × va_E} (h : (lay G M)[k]? = some q) : k < cnt M 0 ∧ q = (G.1 + k, ce G (M (32 + k))) := by
  have hk : k < cnt M 0 := by rw [← lay_len G M]; exact (List.getElem?_eq_some_iff.mp h).1
  rw [lay_get hk] at h
  exact ⟨hk, (Option.some.inj h).symm⟩
theorem cnt_up {M : AM} {k i : Nat} {e : AE} (h : i ≠ k) : cnt (va_up M k e) i = cnt M i := by simp [cnt, va_up, h]
theorem lay_set {G : SG} {M : AM} {k : Nat} {e : AE} (h : k < cnt M 0) : (lay G M).set k (G.1 + k, ce G e) = lay G (va_up M (32 + k) e) := by
  have hc : cnt (va_up M (32 + k) e) 0 = cnt M 0 := cnt_up (by omega)
  refine List.ext_getElem? fun i => ?_
  by_cases hi : i = k
  · subst hi
    rw [List.getElem?_set_self (by rw [lay_len]; exact h), lay_get (by rw [hc]; exact h)]
    simp [va_up]
  · rw [List.getElem?_set_ne (fun z => hi z.symm)]
    by_cases hl : i < cnt M 0
    · rw [lay_get hl, lay_get (by rw [hc]; exact hl)]
      rw [va_up_ne _ _ (by omega)]
    · rw [List.getElem?_eq_none (by rw [lay_len]; omega), List.getElem?_eq_none (by rw [lay_len, hc]; omega)]
theorem cnt_new0 (M : AM) (e : AE) (sz : Nat) : cnt (mnew M e sz) 0 = cnt M 0 + 1 := by
  simp [mnew, cnt, va_up]
theorem cnt_new1 (M : AM) (e : AE) (sz : Nat) : cnt (mnew M e sz) 1 = cnt M 1 + sz := by
  simp [mnew, cnt, va_up]
theorem mnew_at (M : AM) (e : AE) (sz : Nat) : mnew M e sz (32 + cnt M 0) = e := by
  have h0 : (32 + cnt M 0) ≠ 0 := by omega
  have h1 : (32 + cnt M 0) ≠ 1 := by omega
  unfold mnew
  rw [va_up_ne _ _ h1, va_up_ne _ _ h0, va_up_self]
theorem mnew_ne {M : AM} {e : AE} {sz k : Nat} (h0 : k ≠ 0) (h1 : k ≠ 1) (h : k ≠ 32 + cnt M 0) : mnew M e sz k = M k := by
  unfold mnew
  rw [va_up_ne _ _ h1, va_up_ne _ _ h0, va_up_ne _ _ h]
theorem lay_push (G : SG) (M : AM) (e : AE) (sz : Nat) : lay G (mnew M e sz) = lay G M ++ [(G.1 + cnt M 0, ce G e)] := by
  unfold lay
  rw [cnt_new0, List.range_succ, List.map_append]
  congr 1
  · refine List.map_congr_left fun k hk => ?_
    have hk' := List.mem_range.mp hk
    rw [mnew_ne (by omega) (by omega) (by omega)]
  · simp only [List.map_cons, List.map_nil, mnew_at]
theorem lay_D (G : SG) (M : AM) : va_D (fun q => G.1 ≤ q) (lay G M) := by
  refine ⟨fun i j p q hi hj hpq => ?_, fun k q hk => ?_⟩
  · obtain ⟨-, rfl⟩ := lay_at hi
    obtain ⟨-, rfl⟩ := lay_at hj
    have : G.1 + i = G.1 + j := hpq
    omega
  · obtain ⟨-, rfl⟩ := lay_at hk
    exact Nat.le_add_right _ _
/-- the shape of the memory: the script, the Strings, holes elsewhere -/
def Wf (sc : Nat × (Nat → Int32)) (M : AM) : Prop := (∃ n, M 0 = .inr (n, [])) ∧ (∃ n, M 1 = .inr (n, [])) ∧ M 2 = .inl (7, sc.1, .inl sc.2) ∧ (∀ i, i < 21 → M (3 + i) = .inl (8, slen.getD i 0, .inl (fun j => (sbyt.getD i []).getD j 0))) ∧ (∀ k, 24 ≤ k → k < 32 → M k = .inr (99, [])) ∧ (∀ k, 32 + cnt M 0 ≤ k → M k = .inr (99, [])) ∧ (∀ k t n x, 32 ≤ k → M k = .inl (t, n, x) → t < 7)
theorem Wf.obj {sc : Nat × (Nat → Int32)} {M : AM} (h : Wf sc M) {k ci : Nat} {fs : List Value} (hk : M k = .inr (ci, fs)) (hf : fs ≠ []) : 32 ≤ k ∧ k - 32 < cnt M 0 := by
  obtain ⟨⟨n0, h0⟩, ⟨n1, h1⟩, h2, h3, h4, h5, -⟩ := h
  have e : ∀ c : Nat, M k = .inr (c, []) → False := fun c hc => by
    rw [hk] at hc
    exact hf (by injection hc with hc; exact congrArg Prod.snd hc)
  by_cases a : k < 32
  · exfalso
    by_cases a0 : k = 0
    · subst a0; exact e _ h0
    by_cases a1 : k = 1
    · subst a1; exact e _ h1
    by_cases a2 : k = 2
    · subst a2; rw [hk] at h2; cases h2
    by_cases a3 : k < 24
    · have := h3 (k - 3) (by omega)
      rw [show 3 + (k - 3) = k by omega, hk] at this
      cases this
    · exact e _ (h4 k (by omega) a)
  · by_cases b : 32 + cnt M 0 ≤ k
    · exact (e _ (h5 k b)).elim
    · omega
theorem Wf.arr {sc : Nat × (Nat → Int32)} {M : AM} (h : Wf sc M) {k t n : Nat} {x : ADt} (hk : M k = .inl (t, n, x)) (ht : t < 7) : 32 ≤ k ∧ k - 32 < cnt M 0 := by
  obtain ⟨⟨n0, h0⟩, ⟨n1, h1⟩, h2, h3, h4, h5, -⟩ := h
  by_cases a : k < 32
  · exfalso
    by_cases a0 : k = 0
    · subst a0; rw [hk] at h0; cases h0
    by_cases a1 : k = 1
    · subst a1; rw [hk] at h1; cases h1
    by_cases a2 : k = 2
    · subst a2
      rw [hk] at h2
      injection h2 with h2
      have : t = 7 := congrArg Prod.fst h2
      omega
    by_cases a3 : k < 24
    · have := h3 (k - 3) (by omega)
      rw [show 3 + (k - 3) = k by omega, hk] at this
      injection this with this
      have : t = 8 := congrArg Prod.fst this
      omega
    · have := h4 k (by omega) a
      rw [hk] at this; cases this
  · by_cases b : 32 + cnt M 0 ≤ k
    · have := h5 k b
      rw [hk] at this; cases this
    · omega
theorem Wf.up {sc : Nat × (Nat → Int32)} {M : AM} (h : Wf sc M) {k : Nat} {e : AE} (h32 : 32 ≤ k) (hk : k - 32 < cnt M 0) (he : ∀ t n x, e = .inl (t, n, x) → t < 7) : Wf sc (va_up M k e) := by
  obtain ⟨⟨n0, h0⟩, ⟨n1, h1⟩, h2, h3, h4, h5, h6⟩ := h
  have hc : cnt (va_up M k e) 0 = cnt M 0 := cnt_up (by omega)
  refine ⟨⟨n0, by rw [va_up_ne _ _ (by omega)]; exact h0⟩, ⟨n1, by rw [va_up_ne _ _ (by omega)]; exact h1⟩, by rw [va_up_ne _ _ (by omega)]; exact h2, fun i hi => by rw [va_up_ne _ _ (by omega)]; exact h3 i hi, fun j a b => by rw [va_up_ne _ _ (by omega)]; exact h4 j a b, fun j a => ?_, fun j t n x a b => ?_⟩
  · rw [hc] at a
    rw [va_up_ne _ _ (by omega)]
    exact h5 j a
  · by_cases hj : j = k
    · subst hj
      rw [va_up_self] at b
      exact he t n x b
    · rw [va_up_ne _ _ hj] at b
      exact h6 j t n x a b
theorem Wf.new {sc : Nat × (Nat → Int32)} {M : AM} (h : Wf sc M) {e : AE} {sz : Nat} (he : ∀ t n x, e = .inl (t, n, x) → t < 7) : Wf sc (mnew M e sz) := by
  obtain ⟨-, -, h2, h3, h4, h5, h6⟩ := h
  refine ⟨⟨cnt M 0 + 1, by simp [mnew, va_up]⟩, ⟨cnt M 1 + sz, by simp only [mnew, va_up, if_true, cnt]⟩, by rw [mnew_ne (by omega) (by omega) (by omega)]; exact h2, fun i hi => by rw [mnew_ne (by omega) (by omega) (by omega)]; exact h3 i hi, fun j a b => by rw [mnew_ne (by omega) (by omega) (by omega)]; exact h4 j a b, fun j a => ?_, fun j t n x a b => ?_⟩
  · rw [cnt_new0] at a
    rw [mnew_ne (by omega) (by omega) (by omega)]
    exact h5 j (by omega)
  · by_cases hj : j = 32 + cnt M 0
    · subst hj
      rw [mnew_at] at b
      exact he t n x b
    · rw [mnew_ne (by omega) (by omega) hj] at b
      exact h6 j t n x a b
theorem ad_ge {G : SG} {k : Nat} (h : 32 ≤ k) : ad G k = G.1 + (k - 32) := by
  unfold ad
  rw [if_neg (by omega)]
/-- what lay before the law began -/
def Old (G : SG) (sc : Nat × (Nat → Int32)) (adV : Nat → Nat) (U : State) (H : Heap) : Prop := va_X (G.2.1 2) sc.1 sc.2 U H ∧ G.2.1 2 < G.1 ∧ vk_S 21 slen sbyt (fun i => G.2.1 (3 + i)) adV (fun q => G.1 ≤ q) U H ∧ (∀ i, i < 21 → vk_R RX2 (sidx.getD i 0) (stx.getD i "") (G.2.1 (3 + i)) U) ∧ va_Z "java/lang/String" "COMPACT_STRINGS" "Z" (.int 1) (fun q => G.1 ≤ q) U H ∧ va_Zq "jdk/internal/util/Preconditions" "SIOOBE_FORMATTER" "Ljava/util/function/BiFunction;" (fun q => G.1 ≤ q) U H
theorem Old.go {G : SG} {sc : Nat × (Nat → Int32)} {adV : Nat → Nat} {s U : State} {H : Heap} {locs : List Loc} (h : Old G sc adV s s.heap) (hG : G.1 ≤ s.heap.size) (hS : va_S (fun q => G.1 ≤ q) s.heap H locs) (hU : U.heap = H) (hW : s.WarmedH U.vm) : Old G sc adV U U.heap := by
  subst hU
  obtain ⟨h1, h2, h3, h4, h5, h6⟩ := h
  have hk : ∀ a : Nat, a < s.heap.size → ¬ (fun q => G.1 ≤ q) a → U.heap[a]? = s.heap[a]? := hS.2.1
  refine ⟨(h1.moved hW.alike).kept (hk _ (by omega) (by show ¬ G.1 ≤ _; omega)), h2, (h3.moved hW.alike).kept hk, fun i hi => (h4 i hi).warm hW, (h5.moved hW.alike).kept hk, (h6.moved hW.alike).kept hk⟩
/-- locals -/
def LH (G : SG) (ls : Array Slot) (nL : Nat) (ll : AL) : Prop := ls.size = nL ∧ lv_wf ls ∧ ll.length = nL ∧ ∀ i v, gl ll i = some v → ls[i]? = some (.val (cv G v))
def prs (G : SG) (ll : AL) : List (Nat × Value) := (List.range ll.length).filterMap (fun i => (gl ll i).map (fun v => (i, cv G v)))
theorem gl_lt : ∀ {ll : AL} {i : Nat} {v : Value}, gl ll i = some v → i < ll.length
  | [], _, _, h => by cases h
  | _ :: t, 0, _, _ => Nat.zero_lt_succ _
  | _ :: t, i + 1, v, h => Nat.succ_lt_succ (gl_lt (ll := t) h)
theorem prs_mem {G : SG} {ll : AL} {i : Nat} {v : Value} (h : gl ll i = some v) : (i, cv G v) ∈ prs G ll :=
  List.mem_filterMap.mpr ⟨i, List.mem_range.mpr (gl_lt h), by rw [h]; rfl⟩
theorem LH.has {G : SG} {ls : Array Slot} {nL : Nat} {ll : AL} (h : LH G ls nL ll) : lv_has ls nL (prs G ll) := by
  refine ⟨h.1, h.2.1, fun q hq => ?_⟩
  obtain ⟨i, -, hi⟩ := List.mem_filterMap.mp hq
  cases hg : gl ll i with
  | none => rw [hg] at hi; cases hi
  | some v =>
    rw [hg] at hi
    cases hi
    exact h.2.2.2 i v hg
theorem st1_len : ∀ (ll : AL) (i : Nat) (v : Value), (st1 ll i v).length = ll.length
  | [], _, _ => rfl
  | _ :: _, 0, _ => rfl
  | _ :: t, n + 1, v => congrArg (· + 1) (st1_len t n v)
theorem st2_len : ∀ (ll : AL) (i : Nat) (v : Value), (st2 ll i v).length = ll.length
  | [], _, _ => rfl
  | [_], 0, _ => rfl
  | _ :: _ :: _, 0, _ => rfl
  | _ :: t, n + 1, v => congrArg (· + 1) (st2_len t n v)
theorem cl2_some {o : Option Value} {w : Value} (h : cl2 o = some w) : o = some w ∧ w.category = 1 := by
  cases o with
  | none => cases h
  | some x => cases x <;> first | (cases h; done) | (cases h; exact ⟨rfl, rfl⟩)
theorem gl_st1 : ∀ {ll : AL} {i j : Nat} {v w : Value}, gl (st1 ll i v) j = some w → (j = i ∧ w = v) ∨ (j ≠ i ∧ gl ll j = some w ∧ (j + 1 = i → w.category = 1))
  | [], _, _, _, _, h => by cases h
  | a :: t, 0, 0, v, w, h => Or.inl ⟨rfl, (Option.some.inj h).symm⟩
  | a :: t, 0, j + 1, v, w, h => Or.inr ⟨by omega, h, by omega⟩
  | a :: t, 1, 0, v, w, h => by
    obtain ⟨h1, h2⟩ := cl2_some (o := a) h
    exact Or.inr ⟨by omega, h1, fun _ => h2⟩
  | a :: t, n + 2, 0, v, w, h => Or.inr ⟨by omega, h, by omega⟩
  | a :: t, n + 1, j + 1, v, w, h => by
    rcases gl_st1 (ll := t) (i := n) (j := j) h with ⟨h1, h2⟩ | ⟨h1, h2, h3⟩
    · exact Or.inl ⟨by omega, h2⟩
    · exact Or.inr ⟨by omega, h2, fun q => h3 (by omega)⟩
theorem gl_st2 : ∀ {ll : AL} {i j : Nat} {v w : Value}, gl (st2 ll i v) j = some w → (j = i ∧ w = v) ∨ (j ≠ i ∧ j ≠ i + 1 ∧ gl ll j = some w ∧ (j + 1 = i → w.category = 1))
  | [], _, _, _, _, h => by cases h
  | a :: t, 0, 0, v, w, h => Or.inl ⟨rfl, (Option.some.inj h).symm⟩
  | [a], 0, j + 1, v, w, h => by cases h
  | a :: b :: u, 0, 1, v, w, h => by cases h
  | a :: b :: u, 0, j + 2, v, w, h => Or.inr ⟨by omega, by omega, h, by omega⟩
  | a :: t, 1, 0, v, w, h => by
    obtain ⟨h1, h2⟩ := cl2_some (o := a) h
    exact Or.inr ⟨by omega, by omega, h1, fun _ => h2⟩
  | a :: t, n + 2, 0, v, w, h => Or.inr ⟨by omega, by omega, h, by omega⟩
  | a :: t, n + 1, j + 1, v, w, h => by
    rcases gl_st2 (ll := t) (i := n) (j := j) h with ⟨h1, h2⟩ | ⟨h1, h2, h3, h4⟩
    · exact Or.inl ⟨by omega, h2⟩
    · exact Or.inr ⟨by omega, by omega, h3, fun q => h4 (by omega)⟩
theorem LH.st1 {G : SG} {ls ls' : Array Slot} {nL i : Nat} {ll : AL} {v : Value} (h : LH G ls nL ll) (h' : lv_has ls' nL ((i, cv G v) :: (prs G ll).filter (fun q => !(q.1 == i) && !(q.1 + 1 == i && q.2.category == 2)))) : LH G ls' nL (st1 ll i v) := by
  refine ⟨h'.1, h'.2.1, by rw [st1_len]; exact h.2.2.1, fun j w hw => ?_⟩
  refine h'.2.2 (j, cv G w) ?_
  rcases gl_st1 hw with ⟨rfl, rfl⟩ | ⟨h1, h2, h3⟩
  · exact List.mem_cons_self
  · refine List.mem_cons_of_mem _ (List.mem_filter.mpr ⟨prs_mem h2, ?_⟩)
    have e1 : (j == i) = false := by simpa using h1
    show (!(j == i) && !(j + 1 == i && (cv G w).category == 2)) = true
    rw [e1, cv_cat]
    by_cases hq : j + 1 = i
    · rw [h3 hq]; simp
    · have e2 : (j + 1 == i) = false := by simpa using hq
      rw [e2]; rfl
theorem LH.st2 {G : SG} {ls ls' : Array Slot} {nL i : Nat} {ll : AL} {v : Value} (h : LH G ls nL ll) (h' : lv_has ls' nL ((i, cv G v) :: (prs G ll).filter (fun q => !(q.1 == i) && (!(q.1 == i + 1) && !(q.1 + 1 == i && q.2.category == 2))))) : LH G ls' nL (st2 ll i v) := by
  refine ⟨h'.1, h'.2.1, by rw [st2_len]; exact h.2.2.1, fun j w hw => ?_⟩
  refine h'.2.2 (j, cv G w) ?_
  rcases gl_st2 hw with ⟨rfl, rfl⟩ | ⟨h1, h0, h2, h3⟩
  · exact List.mem_cons_self
  · refine List.mem_cons_of_mem _ (List.mem_filter.mpr ⟨prs_mem h2, ?_⟩)
    have e1 : (j == i) = false := by simpa using h1
    have e0 : (j == i + 1) = false := by simpa using h0
    show (!(j == i) && (!(j == i + 1) && !(j + 1 == i && (cv G w).category == 2))) = true
    rw [e1, e0, cv_cat]
    by_cases hq : j + 1 = i
    · rw [h3 hq]; simp
    · have e2 : (j + 1 == i) = false := by simpa using hq
      rw [e2]; rfl
theorem gl_none : ∀ (n i : Nat) (v : Value), ¬ gl (List.replicate n none) i = some v
  | 0, _, _, h => by cases h
  | n + 1, 0, _, h => by cases h
  | n + 1, i + 1, v, h => gl_none n i v h
theorem ent_len : ∀ (vs : List Value) (n : Nat), wsum vs ≤ n → (ent vs n).length = n
  | [], n, _ => List.length_replicate
  | v :: t, n, h => by
    have hs : wsum (v :: t) = v.category + wsum t := rfl
    cases v with
    | long x =>
      have hc : (Value.long x).category = 2 := rfl
      have := ent_len t (n - 2) (by omega)
      show (ent t (n - 2)).length + 1 + 1 = n
      omega
    | double x =>
      have hc : (Value.double x).category = 2 := rfl
      have := ent_len t (n - 2) (by omega)
      show (ent t (n - 2)).length + 1 + 1 = n
      omega
    | int x =>
      have hc : (Value.int x).category = 1 := rfl
      have := ent_len t (n - 1) (by omega)
      show (ent t (n - 1)).length + 1 = n
      omega
    | float x =>
      have hc : (Value.float x).category = 1 := rfl
      have := ent_len t (n - 1) (by omega)
      show (ent t (n - 1)).length + 1 = n
      omega
    | null =>
      have hc : (Value.null).category = 1 := rfl
      have := ent_len t (n - 1) (by omega)
      show (ent t (n - 1)).length + 1 = n
      omega
    | ref x =>
      have hc : (Value.ref x).category = 1 := rfl
      have := ent_len t (n - 1) (by omega)
      show (ent t (n - 1)).length + 1 = n
      omega
    | retAddr x =>
      have hc : (Value.retAddr x).category = 1 := rfl
      have := ent_len t (n - 1) (by omega)
      show (ent t (n - 1)).length + 1 = n
      omega
theorem ent_args (G : SG) : ∀ (vs : List Value) (n i0 i : Nat) (w : Value), gl (ent vs n) i = some w → (i0 + i, cv G w) ∈ lv_args i0 (vs.map (cv G))
  | [], n, i0, i, w, h => (gl_none n i w h).elim
  | v :: t, n, i0, i, w, h => by
    have one : ∀ (_ : ent (v :: t) n = some v :: ent t (n - 1)) (_ : v.category = 1), (i0 + i, cv G w) ∈ lv_args i0 ((v :: t).map (cv G)) := by
      intro he hc
      rw [he] at h
      show _ ∈ (i0, cv G v) :: lv_args (if (cv G v).category = 2 then i0 + 2 else i0 + 1) (t.map (cv G))
      rw [cv_cat, hc, if_neg (by decide)]
      cases i with
      | zero => cases h; exact List.mem_cons_self
      | succ i =>
        have := ent_args G t (n - 1) (i0 + 1) i w h
        rw [show i0 + (i + 1) = i0 + 1 + i by omega]
        exact List.mem_cons_of_mem _ this
    have two : ∀ (_ : ent (v :: t) n = some v :: none :: ent t (n - 2)) (_ : v.category = 2), (i0 + i, cv G w) ∈ lv_args i0 ((v :: t).map (cv G)) := by
      intro he hc
      rw [he] at h
      show _ ∈ (i0, cv G v) :: lv_args (if (cv G v).category = 2 then i0 + 2 else i0 + 1) (t.map (cv G))
      rw [cv_cat, hc, if_pos rfl]
      match i, h with
      | 0, h => cases h; exact List.mem_cons_self
      | 1, h => cases h
      | i + 2, h =>
        have := ent_args G t (n - 2) (i0 + 2) i w h
        rw [show i0 + (i + 2) = i0 + 2 + i by omega]
        exact List.mem_cons_of_mem _ this
    cases v <;> first | exact one rfl rfl | exact two rfl rfl
theorem lg_len : ∀ (vs : List Value), (lg_sl vs).length = wsum vs
  | [] => rfl
  | v :: t => by
    have := lg_len t
    show (List.flatMap _ (v :: t)).length = v.category + wsum t
    rw [List.flatMap_cons, List.length_append]
    show _ + (lg_sl t).length = _
    rw [this]
    rcases lv_cat v with h | h <;> rw [h] <;> rfl
theorem wsum_cv (G : SG) (vs : List Value) : wsum (vs.map (cv G)) = wsum vs := by
  unfold wsum
  rw [List.map_map]
  congr 1
  exact List.map_congr_left fun v _ => cv_cat G v
/-- at a method's entry -/
theorem LH.entry (G : SG) (vs : List Value) {n : Nat} (h : wsum vs ≤ n) : LH G ((lg_sl (vs.map (cv G)) ++ List.replicate (n - (lg_sl (vs.map (cv G))).length) Slot.unset).toArray) n (ent vs n) := by
  obtain ⟨h1, h2, h3⟩ := lv_entry (vs.map (cv G)) (n := n) (by rw [lg_len, wsum_cv]; exact h)
  refine ⟨h1, h2, ent_len vs n h, fun i w hw => ?_⟩
  have := ent_args G vs n 0 i w hw
  rw [Nat.zero_add] at this
  exact h3 _ this
/-- the tables' words hold on -/
def gword (w : Jvm.Cond) : Bool := goodWord w || (match w with | .fieldLinkNest .. => true | .methodLinkNest .. => true | .stringRef .. => true | .arrayOver (.object _) => true | _ => false)
theorem gword_go {w : Jvm.Cond} (hw : gword w = true) {s U : State} {args a' : Array Value} (hW : s.WarmedH U.vm) (h : w.before args s = true) : w.before a' U = true := by
  unfold gword at hw
  rcases Bool.or_eq_true_iff.mp hw with h1 | h1
  · exact word_at hW (good_of_word h1) h
  · split at h1
    · exact (va_Nw.warmF hW (va_Nw.of rfl h)).use rfl
    · exact (va_Nw.warmM hW (va_Nw.of rfl h)).use rfl
    · have h2 := Cond.stringRef_warmed hW h
      simp only [Cond.before, Cond.holds, Cond.value, State.names, State.poolOf?, State.resolvedAt?, State.vm_setVm] at h2 ⊢
      exact h2
    · exact va_AO.use (va_AO.moved hW.alike (va_AO.of h))
    · cases h1
/-- the words that hold on -/
def lw_t2 : List Jvm.Cond := lw_tbl.filter gword
theorem t2_in {w : Jvm.Cond} (h1 : w ∈ lw_tbl) (h2 : gword w = true) : w ∈ lw_t2 := List.mem_filter.mpr ⟨h1, h2⟩
theorem lw_go {s U : State} {args a' : Array Value} (hW : s.WarmedH U.vm) (hts : ∀ w ∈ lw_t2, w.before args s = true) : ∀ w ∈ lw_t2, w.before a' U = true := fun w hw => gword_go (List.mem_filter.mp hw).2 hW (hts w hw)
