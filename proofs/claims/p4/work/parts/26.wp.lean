/-! RUNS WITH A POSTCONDITION. -/
def Wp (d : Nat) (X : MD) (pc : Nat) (l : AL) (st : List Value) (M : AM) (Q : Option Value → AM → Prop) : Prop := ∃ v M', Ev d X pc l st M (v, M') ∧ Q v M'
/-- the memory M holds the realm ρ at r -/
def RA (M : AM) (r : Nat) (ρ : RC) : Prop := rset M r ρ = M
section WP
variable {d : Nat} {X : MD} {pc len : Nat} {l : AL} {st : List Value} {M : AM} {Q : Option Value → AM → Prop} {a b : Nat} {v : Value}
theorem Wp.of {d' : Nat} {X' : MD} {pc' : Nat} {l' : AL} {st' : List Value} {M' : AM} (f : ∀ r, Ev d' X' pc' l' st' M' r → Ev d X pc l st M r) (h : Wp d' X' pc' l' st' M' Q) : Wp d X pc l st M Q := by
  obtain ⟨v, M', h1, h2⟩ := h
  exact ⟨v, M', f _ h1, h2⟩
theorem Wp.ev {w : Option Value} {M' : AM} (h : Ev d X pc l st M (w, M')) (q : Q w M') : Wp d X pc l st M Q := ⟨w, M', h, q⟩
theorem Wp.mono {Q' : Option Value → AM → Prop} (h : Wp d X pc l st M Q') (q : ∀ w M', Q' w M' → Q w M') : Wp d X pc l st M Q := by
  obtain ⟨v, M', h1, h2⟩ := h
  exact ⟨v, M', h1, q _ _ h2⟩
theorem Wp.s {pc' : Nat} {l' : AL} {st' : List Value} {M' : AM} (hs : sstep swl X pc l st M = some (pc', l', st', M')) (k : Wp d X pc' l' st' M' Q) : Wp d X pc l st M Q := Wp.of (fun _ => Ev.s hs) k
theorem Wp.n (k : Nat) {pc' : Nat} {l' : AL} {st' : List Value} {M' : AM} (h : sn k X pc l st M = some (pc', l', st', M')) (e : Wp d X pc' l' st' M' Q) : Wp d X pc l st M Q := Wp.of (fun _ => Ev.n k h) e
theorem Wp.retI {x : Int32} (hc : cdx X pc = some (.inr (.inl .ireturn), len)) (ht : md_r X = 1) (h : Q (some (.int x)) M) : Wp d X pc l [.int x] M Q := ⟨_, _, Ev.retI hc ht rfl, h⟩
theorem Wp.retZ {x : Int32} {c : Bool} (hc : cdx X pc = some (.inr (.inl .ireturn), len)) (ht : md_r X = 2) (e : bI c = x) (h : Q (some (.int (bI c))) M) : Wp d X pc l [.int x] M Q := ⟨_, _, Ev.retZ hc ht e, h⟩
theorem Wp.retL {x : Int64} (hc : cdx X pc = some (.inr (.inl .lreturn), len)) (ht : md_r X = 3) (h : Q (some (.long x)) M) : Wp d X pc l [.long x] M Q := ⟨_, _, Ev.retL hc ht rfl, h⟩
theorem Wp.retV (hc : cdx X pc = some (.inr (.inl .return_), len)) (ht : md_r X = 0) (h : Q none M) : Wp d X pc l [] M Q := ⟨_, _, Ev.retV hc ht rfl, h⟩
theorem Wp.retR {x : Nat} (hc : cdx X pc = some (.inr (.inl .areturn), len)) (ht : md_r X = 4) (h : Q (some (.ref x)) M) : Wp d X pc l [.ref x] M Q := ⟨_, _, Ev.retR hc ht rfl, h⟩
theorem Wp.retN (hc : cdx X pc = some (.inr (.inl .areturn), len)) (ht : md_r X = 4) (h : Q (some .null) M) : Wp d X pc l [.null] M Q := ⟨_, _, Ev.retN hc ht, h⟩
-- calls
theorem Wp.callS {Y : MD} {Q' : Option Value → AM → Prop} (hc : cdx X pc = some (.inr (.inr (4, a, b, v)), len)) (hm : mt a = some Y) (hb : (Nat.ble b st.length && rok (st.drop b)) = true) (hw : Nat.ble (wsum ((st.take b).reverse)) (md_L Y) = true) (hr : Wp d Y 0 (ent ((st.take b).reverse) (md_L Y)) [] M Q') (k : ∀ rv M', Q' rv M' → Wp (d + 1) X (pc + len) l (rv.toList ++ st.drop b) M' Q) : Wp (d + 1) X pc l st M Q := by
  obtain ⟨w, M', h1, h2⟩ := hr
  exact Wp.of (fun _ => Ev.callS hc hm hb hw h1) (k w M' h2)
theorem Wp.callV {Y : MD} {Q' : Option Value → AM → Prop} {k ci : Nat} {fs rest : List Value} (hc : cdx X pc = some (.inr (.inr (5, a, b, v)), len)) (hm : mt a = some Y) (hd : st.drop b = .ref k :: rest) (hM : M k = .inr (ci, fs)) (hb : (Nat.beq ci (md_o Y) && rok rest) = true) (h32 : 32 ≤ k) (hw : Nat.ble (wsum (.ref k :: (st.take b).reverse)) (md_L Y) = true) (hr : Wp d Y 0 (ent (.ref k :: (st.take b).reverse) (md_L Y)) [] M Q') (k : ∀ rv M', Q' rv M' → Wp (d + 1) X (pc + len) l (rv.toList ++ rest) M' Q) : Wp (d + 1) X pc l st M Q := by
  obtain ⟨w, M', h1, h2⟩ := hr
  exact Wp.of (fun _ => Ev.callV hc hm hd hM hb h32 hw h1) (k w M' h2)
theorem Wp.callI {Y : MD} {Q' : Option Value → AM → Prop} {k : Nat} {rest : List Value} (hc : cdx X pc = some (.inr (.inr (6, a, b, v)), len)) (hm : mt a = some Y) (hd : st.drop b = .ref k :: rest) (hb : rok rest = true) (hw : Nat.ble (wsum (.ref k :: (st.take b).reverse)) (md_L Y) = true) (hr : Wp d Y 0 (ent (.ref k :: (st.take b).reverse) (md_L Y)) [] M Q') (k : ∀ rv M', Q' rv M' → Wp (d + 1) X (pc + len) l (rv.toList ++ rest) M' Q) : Wp (d + 1) X pc l st M Q := by
  obtain ⟨w, M', h1, h2⟩ := hr
  exact Wp.of (fun _ => Ev.callI hc hm hd hb hw h1) (k w M' h2)
theorem Wp.ecallS {Y : MD} {rv : Option Value} {M' : AM} (hc : cdx X pc = some (.inr (.inr (4, a, b, v)), len)) (hm : mt a = some Y) (hb : (Nat.ble b st.length && rok (st.drop b)) = true) (hw : Nat.ble (wsum ((st.take b).reverse)) (md_L Y) = true) (hr : Ev d Y 0 (ent ((st.take b).reverse) (md_L Y)) [] M (rv, M')) (k : Wp (d + 1) X (pc + len) l (rv.toList ++ st.drop b) M' Q) : Wp (d + 1) X pc l st M Q := Wp.of (fun _ => Ev.callS hc hm hb hw hr) k
theorem Wp.ecallV {Y : MD} {rv : Option Value} {M' : AM} {k ci : Nat} {fs rest : List Value} (hc : cdx X pc = some (.inr (.inr (5, a, b, v)), len)) (hm : mt a = some Y) (hd : st.drop b = .ref k :: rest) (hM : M k = .inr (ci, fs)) (hb : (Nat.beq ci (md_o Y) && rok rest) = true) (h32 : 32 ≤ k) (hw : Nat.ble (wsum (.ref k :: (st.take b).reverse)) (md_L Y) = true) (hr : Ev d Y 0 (ent (.ref k :: (st.take b).reverse) (md_L Y)) [] M (rv, M')) (k : Wp (d + 1) X (pc + len) l (rv.toList ++ rest) M' Q) : Wp (d + 1) X pc l st M Q := Wp.of (fun _ => Ev.callV hc hm hd hM hb h32 hw hr) k
theorem Wp.ecallI {Y : MD} {rv : Option Value} {M' : AM} {k : Nat} {rest : List Value} (hc : cdx X pc = some (.inr (.inr (6, a, b, v)), len)) (hm : mt a = some Y) (hd : st.drop b = .ref k :: rest) (hb : rok rest = true) (hw : Nat.ble (wsum (.ref k :: (st.take b).reverse)) (md_L Y) = true) (hr : Ev d Y 0 (ent (.ref k :: (st.take b).reverse) (md_L Y)) [] M (rv, M')) (k : Wp (d + 1) X (pc + len) l (rv.toList ++ rest) M' Q) : Wp (d + 1) X pc l st M Q := Wp.of (fun _ => Ev.callI hc hm hd hb hw hr) k
theorem Wp.bi {op : Nat} {st' : List Value} {M' : AM} (hc : cdx X pc = some (.inr (.inr (op, a, b, v)), len)) (ho : op = 7 ∨ op = 8 ∨ op = 9 ∨ op = 10 ∨ op = 11 ∨ op = 12) (hb : bstep op st M = some (st', M')) (hd : 8 ≤ d) (k : Wp d X (pc + len) l st' M' Q) : Wp d X pc l st M Q := Wp.of (fun _ => Ev.bi hc ho hb hd) k
-- memory
theorem Wp.get {k : Nat} {fs : List Value} {w : Value} (hc : cdx X pc = some (.inr (.inr (0, a, b, v)), len)) (hM : M k = .inr (a, fs)) (hv : gv fs b = some w) (h : Wp d X (pc + len) l (w :: st) M Q) : Wp d X pc l (.ref k :: st) M Q := Wp.of (fun _ => Ev.get hc hM hv) h
theorem Wp.put {k : Nat} {fs : List Value} {w : Value} (hc : cdx X pc = some (.inr (.inr (1, a, b, v)), len)) (hM : M k = .inr (a, fs)) (hok : (Nat.blt b fs.length && pfit (fcode a b) w && (bif (fTX a b).2.2.2 then md_i X && Nat.beq (md_o X) a else true)) = true) (h : Wp d X (pc + len) l st (va_up M k (.inr (a, fs.set b w))) Q) : Wp d X pc l (w :: .ref k :: st) M Q := Wp.of (fun _ => Ev.put hc hM hok) h
theorem Wp.iald {k n t : Nat} {f : Nat → Int32} {j : Int32} (hc : cdx X pc = some (.inr (.inl .iaload), len)) (hM : M k = .inl (t, n, .inl f)) (ht : (Nat.beq t 0 || Nat.beq t 7) = true) (hj : vp_in j n) (h : Wp d X (pc + len) l (.int (f j.toNatClampNeg) :: st) M Q) : Wp d X pc l (.int j :: .ref k :: st) M Q := Wp.of (fun _ => Ev.iald hc hM ht hj) h
theorem Wp.bald {k n t : Nat} {f : Nat → Int32} {j : Int32} (hc : cdx X pc = some (.inr (.inl .baload), len)) (hM : M k = .inl (t, n, .inl f)) (ht : (Nat.beq t 2 || Nat.beq t 3) = true) (hj : vp_in j n) (h : Wp d X (pc + len) l (.int (f j.toNatClampNeg) :: st) M Q) : Wp d X pc l (.int j :: .ref k :: st) M Q := Wp.of (fun _ => Ev.bald hc hM ht hj) h
theorem Wp.lald {k n : Nat} {f : Nat → Int64} {j : Int32} (hc : cdx X pc = some (.inr (.inl .laload), len)) (hM : M k = .inl (1, n, .inr (.inl f))) (hj : vp_in j n) (h : Wp d X (pc + len) l (.long (f j.toNatClampNeg) :: st) M Q) : Wp d X pc l (.int j :: .ref k :: st) M Q := Wp.of (fun _ => Ev.lald hc hM hj) h
theorem Wp.aald {k n t : Nat} {f : Nat → Option Nat} {j : Int32} (hc : cdx X pc = some (.inr (.inl .aaload), len)) (hM : M k = .inl (t, n, .inr (.inr (.inr (.inr f))))) (ht : (Nat.ble 4 t && Nat.ble t 6) = true) (hj : vp_in j n) (h : Wp d X (pc + len) l (va_rf (f j.toNatClampNeg) :: st) M Q) : Wp d X pc l (.int j :: .ref k :: st) M Q := Wp.of (fun _ => Ev.aald hc hM ht hj) h
theorem Wp.iast {k n : Nat} {f : Nat → Int32} {j x : Int32} (hc : cdx X pc = some (.inr (.inl .iastore), len)) (hM : M k = .inl (0, n, .inl f)) (hj : vp_in j n) (h : Wp d X (pc + len) l st (va_up M k (.inl (0, n, .inl (upd f j.toNatClampNeg x)))) Q) : Wp d X pc l (.int x :: .int j :: .ref k :: st) M Q := Wp.of (fun _ => Ev.iast hc hM hj) h
theorem Wp.bast {k n t : Nat} {f : Nat → Int32} {j x : Int32} (hc : cdx X pc = some (.inr (.inl .bastore), len)) (hM : M k = .inl (t, n, .inl f)) (ht : (Nat.beq t 2 || Nat.beq t 3) = true) (hj : vp_in j n) (h : Wp d X (pc + len) l st (va_up M k (.inl (t, n, .inl (upd f j.toNatClampNeg (anar t x))))) Q) : Wp d X pc l (.int x :: .int j :: .ref k :: st) M Q := Wp.of (fun _ => Ev.bast hc hM ht hj) h
theorem Wp.last {k n : Nat} {f : Nat → Int64} {j : Int32} {x : Int64} (hc : cdx X pc = some (.inr (.inl .lastore), len)) (hM : M k = .inl (1, n, .inr (.inl f))) (hj : vp_in j n) (h : Wp d X (pc + len) l st (va_up M k (.inl (1, n, .inr (.inl (vp_updL f j.toNatClampNeg x))))) Q) : Wp d X pc l (.long x :: .int j :: .ref k :: st) M Q := Wp.of (fun _ => Ev.last hc hM hj) h
-- branches
theorem Wp.br1 (c : Nat) {x : Int32} {tgt : Nat} (hc : cdx X pc = some (.inr (.inr (c + 20, tgt, b, v)), len)) (h5 : Nat.ble c 5 = true) (h : Wp d X (bif jb c x 0 then tgt else pc + len) l st M Q) : Wp d X pc l (.int x :: st) M Q := Wp.of (fun _ => Ev.br1 c hc h5) h
theorem Wp.br2 (c : Nat) {x y : Int32} {tgt : Nat} (hc : cdx X pc = some (.inr (.inr (c + 26, tgt, b, v)), len)) (h5 : Nat.ble c 5 = true) (h : Wp d X (bif jb c x y then tgt else pc + len) l st M Q) : Wp d X pc l (.int y :: .int x :: st) M Q := Wp.of (fun _ => Ev.br2 c hc h5) h
theorem Wp.cond {c : Bool} {p : Prop} {t f : Nat} (hp : c = true ↔ p) (kt : p → Wp d X t l st M Q) (kf : ¬ p → Wp d X f l st M Q) : Wp d X (bif c then t else f) l st M Q := by
  cases hq : c with
  | true => exact kt (hp.mp hq)
  | false => exact kf (fun q => by rw [hp.mpr q] at hq; cases hq)
theorem Wp.if0 {x : Int32} {tgt : Nat} (hc : cdx X pc = some (.inr (.inr (20, tgt, b, v)), len)) (kt : x = 0 → Wp d X tgt l st M Q) (kf : ¬ x = 0 → Wp d X (pc + len) l st M Q) : Wp d X pc l (.int x :: st) M Q := Wp.br1 0 hc rfl (Wp.cond (p := x = 0) (by simp [jb]) kt kf)
theorem Wp.if1 {x : Int32} {tgt : Nat} (hc : cdx X pc = some (.inr (.inr (21, tgt, b, v)), len)) (kt : ¬ x = 0 → Wp d X tgt l st M Q) (kf : x = 0 → Wp d X (pc + len) l st M Q) : Wp d X pc l (.int x :: st) M Q := Wp.br1 1 hc rfl (Wp.cond (p := ¬ x = 0) (by simp [jb]) kt (fun h => kf (Decidable.not_not.mp h)))
theorem Wp.if2 {x : Int32} {tgt : Nat} (hc : cdx X pc = some (.inr (.inr (22, tgt, b, v)), len)) (kt : x < 0 → Wp d X tgt l st M Q) (kf : ¬ x < 0 → Wp d X (pc + len) l st M Q) : Wp d X pc l (.int x :: st) M Q := Wp.br1 2 hc rfl (Wp.cond (p := x < 0) (by simp [jb]) kt kf)
theorem Wp.if3 {x : Int32} {tgt : Nat} (hc : cdx X pc = some (.inr (.inr (23, tgt, b, v)), len)) (kt : 0 ≤ x → Wp d X tgt l st M Q) (kf : ¬ 0 ≤ x → Wp d X (pc + len) l st M Q) : Wp d X pc l (.int x :: st) M Q := Wp.br1 3 hc rfl (Wp.cond (p := 0 ≤ x) (by simp [jb]) kt kf)
theorem Wp.if4 {x : Int32} {tgt : Nat} (hc : cdx X pc = some (.inr (.inr (24, tgt, b, v)), len)) (kt : 0 < x → Wp d X tgt l st M Q) (kf : ¬ 0 < x → Wp d X (pc + len) l st M Q) : Wp d X pc l (.int x :: st) M Q := Wp.br1 4 hc rfl (Wp.cond (p := 0 < x) (by simp [jb]) kt kf)
theorem Wp.if5 {x : Int32} {tgt : Nat} (hc : cdx X pc = some (.inr (.inr (25, tgt, b, v)), len)) (kt : x ≤ 0 → Wp d X tgt l st M Q) (kf : ¬ x ≤ 0 → Wp d X (pc + len) l st M Q) : Wp d X pc l (.int x :: st) M Q := Wp.br1 5 hc rfl (Wp.cond (p := x ≤ 0) (by simp [jb]) kt kf)
theorem Wp.ic0 {x y : Int32} {tgt : Nat} (hc : cdx X pc = some (.inr (.inr (26, tgt, b, v)), len)) (kt : x = y → Wp d X tgt l st M Q) (kf : ¬ x = y → Wp d X (pc + len) l st M Q) : Wp d X pc l (.int y :: .int x :: st) M Q := Wp.br2 0 hc rfl (Wp.cond (p := x = y) (by simp [jb]) kt kf)
theorem Wp.ic1 {x y : Int32} {tgt : Nat} (hc : cdx X pc = some (.inr (.inr (27, tgt, b, v)), len)) (kt : ¬ x = y → Wp d X tgt l st M Q) (kf : x = y → Wp d X (pc + len) l st M Q) : Wp d X pc l (.int y :: .int x :: st) M Q := Wp.br2 1 hc rfl (Wp.cond (p := ¬ x = y) (by simp [jb]) kt (fun h => kf (Decidable.not_not.mp h)))
theorem Wp.ic2 {x y : Int32} {tgt : Nat} (hc : cdx X pc = some (.inr (.inr (28, tgt, b, v)), len)) (kt : x < y → Wp d X tgt l st M Q) (kf : ¬ x < y → Wp d X (pc + len) l st M Q) : Wp d X pc l (.int y :: .int x :: st) M Q := Wp.br2 2 hc rfl (Wp.cond (p := x < y) (by simp [jb]) kt kf)
theorem Wp.ic3 {x y : Int32} {tgt : Nat} (hc : cdx X pc = some (.inr (.inr (29, tgt, b, v)), len)) (kt : y ≤ x → Wp d X tgt l st M Q) (kf : ¬ y ≤ x → Wp d X (pc + len) l st M Q) : Wp d X pc l (.int y :: .int x :: st) M Q := Wp.br2 3 hc rfl (Wp.cond (p := y ≤ x) (by simp [jb]) kt kf)
theorem Wp.ic4 {x y : Int32} {tgt : Nat} (hc : cdx X pc = some (.inr (.inr (30, tgt, b, v)), len)) (kt : y < x → Wp d X tgt l st M Q) (kf : ¬ y < x → Wp d X (pc + len) l st M Q) : Wp d X pc l (.int y :: .int x :: st) M Q := Wp.br2 4 hc rfl (Wp.cond (p := y < x) (by simp [jb]) kt kf)
theorem Wp.ic5 {x y : Int32} {tgt : Nat} (hc : cdx X pc = some (.inr (.inr (31, tgt, b, v)), len)) (kt : x ≤ y → Wp d X tgt l st M Q) (kf : ¬ x ≤ y → Wp d X (pc + len) l st M Q) : Wp d X pc l (.int y :: .int x :: st) M Q := Wp.br2 5 hc rfl (Wp.cond (p := x ≤ y) (by simp [jb]) kt kf)
theorem Wp.ifb0 {c : Bool} {tgt : Nat} (hc : cdx X pc = some (.inr (.inr (20, tgt, b, v)), len)) (kt : c = false → Wp d X tgt l st M Q) (kf : c = true → Wp d X (pc + len) l st M Q) : Wp d X pc l (.int (bI c) :: st) M Q := by
  refine Wp.if0 hc (fun h => kt ?_) (fun h => kf ?_)
  · cases c with
    | false => rfl
    | true => exact absurd h (by decide)
  · cases c with
    | true => rfl
    | false => exact absurd rfl h
theorem Wp.ifb1 {c : Bool} {tgt : Nat} (hc : cdx X pc = some (.inr (.inr (21, tgt, b, v)), len)) (kt : c = true → Wp d X tgt l st M Q) (kf : c = false → Wp d X (pc + len) l st M Q) : Wp d X pc l (.int (bI c) :: st) M Q := by
  refine Wp.if1 hc (fun h => kt ?_) (fun h => kf ?_)
  · cases c with
    | true => rfl
    | false => exact absurd rfl h
  · cases c with
    | false => rfl
    | true => exact absurd h (by decide)
-- the reference
variable {σ : MS}
theorem Wp.mput {j : Nat} {x : Int32} (hc : cdx X pc = some (.inr (.inr (1, 10, j, v)), len)) (hj : mint j = true) (h : Wp d X (pc + len) l st (mset M (fset σ j x)) Q) : Wp d X pc l (.int x :: .ref 287 :: st) (mset M σ) Q := Wp.of (fun _ => Ev.mput hc hj) h
theorem Wp.mputZ {j : Nat} {x : Int32} (hc : cdx X pc = some (.inr (.inr (1, 10, j, v)), len)) (hj : mboo j = true) (hx : (x == 0 || x == 1) = true) (h : Wp d X (pc + len) l st (mset M (fset σ j x)) Q) : Wp d X pc l (.int x :: .ref 287 :: st) (mset M σ) Q := Wp.of (fun _ => Ev.mputZ hc hj hx) h
theorem Wp.mputJ {x : Int64} (hc : cdx X pc = some (.inr (.inr (1, 10, 11, v)), len)) (h : Wp d X (pc + len) l st (mset M (jset σ x)) Q) : Wp d X pc l (.long x :: .ref 287 :: st) (mset M σ) Q := Wp.of (fun _ => Ev.mputJ hc) h
theorem Wp.mput0 (hc : cdx X pc = some (.inr (.inr (1, 10, 0, v)), len)) (h0 : σ.1 0 = 0) (h : Wp d X (pc + len) l st (mset M σ) Q) : Wp d X pc l (.int 0 :: .ref 287 :: st) (mset M σ) Q := Wp.of (fun _ => Ev.mput0 hc h0) h
theorem Wp.miald {k n : Nat} {i : Int32} (hc : cdx X pc = some (.inr (.inl .iaload), len)) (hk : mtl_ k = (0, n)) (hn : n ≠ 0) (hi : vp_in i n) (h : Wp d X (pc + len) l (.int (σ.2.2.1 k i.toNatClampNeg) :: st) (mset M σ) Q) : Wp d X pc l (.int i :: .ref (k + 288) :: st) (mset M σ) Q := Wp.of (fun _ => Ev.miald hc hk hn hi) h
theorem Wp.miast {k n : Nat} {i x : Int32} (hc : cdx X pc = some (.inr (.inl .iastore), len)) (hk : mtl_ k = (0, n)) (hn : n ≠ 0) (hi : vp_in i n) (h : Wp d X (pc + len) l st (mset M (aset σ k (upd (σ.2.2.1 k) i.toNatClampNeg x))) Q) : Wp d X pc l (.int x :: .int i :: .ref (k + 288) :: st) (mset M σ) Q := Wp.of (fun _ => Ev.miast hc hk hn hi) h
theorem Wp.mlald {k n : Nat} {i : Int32} (hc : cdx X pc = some (.inr (.inl .laload), len)) (hk : mtl_ k = (1, n)) (hi : vp_in i n) (h : Wp d X (pc + len) l (.long (σ.2.2.2 k i.toNatClampNeg) :: st) (mset M σ) Q) : Wp d X pc l (.int i :: .ref (k + 288) :: st) (mset M σ) Q := Wp.of (fun _ => Ev.mlald hc hk hi) h
theorem Wp.mlast {k n : Nat} {i : Int32} {x : Int64} (hc : cdx X pc = some (.inr (.inl .lastore), len)) (hk : mtl_ k = (1, n)) (hi : vp_in i n) (h : Wp d X (pc + len) l st (mset M (lset σ k (vp_updL (σ.2.2.2 k) i.toNatClampNeg x))) Q) : Wp d X pc l (.long x :: .int i :: .ref (k + 288) :: st) (mset M σ) Q := Wp.of (fun _ => Ev.mlast hc hk hi) h
end WP
