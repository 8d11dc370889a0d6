/-! THE REFERENCE as a state: its fields (ints by their slots, one long), its rows of ints and of longs. It lies at 287 .. 305. -/
abbrev MS : Type := (Nat → Int32) × Int64 × (Nat → Nat → Int32) × (Nat → Nat → Int64)
def mfs (σ : MS) : List Value := [.int (σ.1 0), .ref 288, .ref 289, .ref 290, .ref 291, .ref 292, .int (σ.1 6), .int (σ.1 7), .int (σ.1 8), .int (σ.1 9), .int (σ.1 10), .long σ.2.1, .int (σ.1 12), .int (σ.1 13), .int (σ.1 14), .int (σ.1 15), .ref 293, .ref 294, .ref 295, .ref 296, .ref 297, .ref 298, .ref 299, .ref 300, .ref 301, .int (σ.1 25), .ref 302, .int (σ.1 27), .int (σ.1 28), .int (σ.1 29), .int (σ.1 30), .ref 303, .int (σ.1 32), .int (σ.1 33), .int (σ.1 34), .int (σ.1 35), .int (σ.1 36), .int (σ.1 37), .int (σ.1 38), .int (σ.1 39), .int (σ.1 40), .int (σ.1 41), .int (σ.1 42), .ref 304, .ref 305]
def mtl_ (k : Nat) : Nat × Nat := match k with
  | 0 => (0, 4)
  | 1 => (0, 4)
  | 2 => (1, 240)
  | 3 => (1, 60)
  | 4 => (2, 2000)
  | 5 => (0, 5)
  | 6 => (0, 25)
  | 7 => (0, 25)
  | 8 => (1, 5)
  | 9 => (0, 180)
  | 10 => (0, 315)
  | 11 => (0, 550)
  | 12 => (3, 3)
  | 13 => (0, 7)
  | 14 => (0, 7)
  | 15 => (0, 6)
  | 16 => (0, 7)
  | 17 => (0, 10)
  | _ => (0, 0)
def marr (σ : MS) (k : Nat) : AE := match k with
  | 0 => .inl (0, 4, .inl (σ.2.2.1 0))
  | 1 => .inl (0, 4, .inl (σ.2.2.1 1))
  | 2 => .inl (1, 240, .inr (.inl (σ.2.2.2 2)))
  | 3 => .inl (1, 60, .inr (.inl (σ.2.2.2 3)))
  | 4 => .inl (2, 2000, .inl (σ.2.2.1 4))
  | 5 => .inl (0, 5, .inl (σ.2.2.1 5))
  | 6 => .inl (0, 25, .inl (σ.2.2.1 6))
  | 7 => .inl (0, 25, .inl (σ.2.2.1 7))
  | 8 => .inl (1, 5, .inr (.inl (σ.2.2.2 8)))
  | 9 => .inl (0, 180, .inl (σ.2.2.1 9))
  | 10 => .inl (0, 315, .inl (σ.2.2.1 10))
  | 11 => .inl (0, 550, .inl (σ.2.2.1 11))
  | 12 => .inl (3, 3, .inl (σ.2.2.1 12))
  | 13 => .inl (0, 7, .inl (σ.2.2.1 13))
  | 14 => .inl (0, 7, .inl (σ.2.2.1 14))
  | 15 => .inl (0, 6, .inl (σ.2.2.1 15))
  | 16 => .inl (0, 7, .inl (σ.2.2.1 16))
  | 17 => .inl (0, 10, .inl (σ.2.2.1 17))
  | _ => .inr (99, [])
def mset (M : AM) (σ : MS) : AM := fun k => if k < 287 then M k else if k = 287 then .inr (10, mfs σ) else if k < 306 then marr σ (k - 288) else M k
def fset (σ : MS) (j : Nat) (x : Int32) : MS := (upd σ.1 j x, σ.2)
def jset (σ : MS) (x : Int64) : MS := (σ.1, x, σ.2.2)
def aset (σ : MS) (k : Nat) (f : Nat → Int32) : MS := (σ.1, σ.2.1, va_up σ.2.2.1 k f, σ.2.2.2)
def lset (σ : MS) (k : Nat) (f : Nat → Int64) : MS := (σ.1, σ.2.1, σ.2.2.1, va_up σ.2.2.2 k f)
def mint (j : Nat) : Bool := List.elem j [0, 6, 7, 8, 9, 10, 12, 13, 14, 15, 27, 28, 29, 32, 33, 34, 35, 36, 37, 38, 39, 40, 41, 42]
def mboo (j : Nat) : Bool := List.elem j [25, 30]
theorem mset_up {M : AM} {σ σ' : MS} (ha : σ'.2.2 = σ.2.2) : va_up (mset M σ) 287 (.inr (10, mfs σ')) = mset M σ' := by
  funext k
  by_cases hk : k = 287
  · subst hk
    rw [va_up_self]
    rfl
  · rw [va_up_ne _ _ hk]
    unfold mset
    rw [if_neg hk, if_neg hk]
    have : ∀ j, marr σ j = marr σ' j := fun j => by unfold marr; rw [ha]
    rw [this]
theorem mset_arr {M : AM} {σ σ' : MS} {k : Nat} {e : AE} (hk : k < 18) (hf : mfs σ' = mfs σ) (he : marr σ' k = e) (ho : ∀ j, j ≠ k → marr σ' j = marr σ j) : va_up (mset M σ) (k + 288) e = mset M σ' := by
  funext q
  by_cases hq : q = k + 288
  · subst hq
    rw [va_up_self]
    unfold mset
    rw [if_neg (by omega), if_neg (by omega), if_pos (by omega), show k + 288 - 288 = k by omega, he]
  · rw [va_up_ne _ _ hq]
    unfold mset
    by_cases h1 : q < 287
    · rw [if_pos h1, if_pos h1]
    · rw [if_neg h1, if_neg h1]
      by_cases h2 : q = 287
      · rw [if_pos h2, if_pos h2, hf]
      · rw [if_neg h2, if_neg h2]
        by_cases h3 : q < 306
        · rw [if_pos h3, if_pos h3, ho (q - 288) (by omega)]
        · rw [if_neg h3, if_neg h3]
theorem marr_ne {σ : MS} {k j : Nat} {f : Nat → Int32} (h : j ≠ k) : marr (aset σ k f) j = marr σ j := by
  have e : ∀ i, i ≠ k → va_up σ.2.2.1 k f i = σ.2.2.1 i := fun i hi => va_up_ne _ _ hi
  unfold marr aset
  dsimp only
  split <;> first | rfl | (rw [e _ (by omega)])
theorem marr_neL {σ : MS} {k j : Nat} {f : Nat → Int64} (h : j ≠ k) : marr (lset σ k f) j = marr σ j := by
  have e : ∀ i, i ≠ k → va_up σ.2.2.2 k f i = σ.2.2.2 i := fun i hi => va_up_ne _ _ hi
  unfold marr lset
  dsimp only
  split <;> first | rfl | (rw [e _ (by omega)])
section MRULE
variable {d : Nat} {X : MD} {pc len : Nat} {l : AL} {st : List Value} {M : AM} {σ : MS} {r : AR} {j : Nat} {v : Value}
theorem mint_set {σ : MS} {x : Int32} (h : mint j = true) : (mfs σ).set j (.int x) = mfs (fset σ j x) := by
  have h1 := List.elem_iff.mp h
  simp only [List.mem_cons, List.not_mem_nil, or_false] at h1
  rcases h1 with rfl | rfl | rfl | rfl | rfl | rfl | rfl | rfl | rfl | rfl | rfl | rfl | rfl | rfl | rfl | rfl | rfl | rfl | rfl | rfl | rfl | rfl | rfl | rfl <;> rfl
theorem mboo_set {σ : MS} {x : Int32} (h : mboo j = true) : (mfs σ).set j (.int x) = mfs (fset σ j x) := by
  have h1 := List.elem_iff.mp h
  simp only [List.mem_cons, List.not_mem_nil, or_false] at h1
  rcases h1 with rfl | rfl <;> rfl
theorem Ev.mput {x : Int32} (hc : cdx X pc = some (.inr (.inr (1, 10, j, v)), len)) (hj : mint j = true) (h : Ev d X (pc + len) l st (mset M (fset σ j x)) r) : Ev d X pc l (.int x :: .ref 287 :: st) (mset M σ) r := by
  refine Ev.put (fs := mfs σ) hc rfl ?_ ?_
  · have h1 := List.elem_iff.mp hj
    simp only [List.mem_cons, List.not_mem_nil, or_false] at h1
    rcases h1 with rfl | rfl | rfl | rfl | rfl | rfl | rfl | rfl | rfl | rfl | rfl | rfl | rfl | rfl | rfl | rfl | rfl | rfl | rfl | rfl | rfl | rfl | rfl | rfl <;> rfl
  · rw [mint_set hj, mset_up (σ := σ) (σ' := fset σ j x) rfl]
    exact h
theorem Ev.mputZ {x : Int32} (hc : cdx X pc = some (.inr (.inr (1, 10, j, v)), len)) (hj : mboo j = true) (hx : (x == 0 || x == 1) = true) (h : Ev d X (pc + len) l st (mset M (fset σ j x)) r) : Ev d X pc l (.int x :: .ref 287 :: st) (mset M σ) r := by
  refine Ev.put (fs := mfs σ) hc rfl ?_ ?_
  · have h1 := List.elem_iff.mp hj
    simp only [List.mem_cons, List.not_mem_nil, or_false] at h1
    rcases h1 with rfl | rfl
    · show (true && (x == 0 || x == 1) && true) = true
      rw [hx]; rfl
    · show (true && (x == 0 || x == 1) && true) = true
      rw [hx]; rfl
  · rw [mboo_set hj, mset_up (σ := σ) (σ' := fset σ j x) rfl]
    exact h
theorem Ev.mputJ {x : Int64} (hc : cdx X pc = some (.inr (.inr (1, 10, 11, v)), len)) (h : Ev d X (pc + len) l st (mset M (jset σ x)) r) : Ev d X pc l (.long x :: .ref 287 :: st) (mset M σ) r := by
  refine Ev.put (fs := mfs σ) hc rfl rfl ?_
  rw [show (mfs σ).set 11 (.long x) = mfs (jset σ x) from rfl, mset_up (σ := σ) (σ' := jset σ x) rfl]
  exact h
theorem marr_i {k n : Nat} (h : mtl_ k = (0, n)) (hn : n ≠ 0) : k < 18 ∧ ∀ σ : MS, marr σ k = .inl (0, n, .inl (σ.2.2.1 k)) := by
  unfold mtl_ at h
  split at h <;> first | (cases h; done) | (cases h; exact ⟨by decide, fun _ => rfl⟩) | (cases h; exact absurd rfl hn)
theorem mset_at {k : Nat} (h : k < 18) : mset M σ (k + 288) = marr σ k := by
  unfold mset
  rw [if_neg (by omega), if_neg (by omega), if_pos (by omega), show k + 288 - 288 = k by omega]
theorem Ev.miald {k n : Nat} {i : Int32} (hc : cdx X pc = some (.inr (.inl .iaload), len)) (hk : mtl_ k = (0, n)) (hn : n ≠ 0) (hi : vp_in i n) (h : Ev d X (pc + len) l (.int (σ.2.2.1 k i.toNatClampNeg) :: st) (mset M σ) r) : Ev d X pc l (.int i :: .ref (k + 288) :: st) (mset M σ) r :=
  Ev.iald hc ((mset_at (marr_i hk hn).1).trans ((marr_i hk hn).2 σ)) rfl hi h
theorem Ev.miast {k n : Nat} {i x : Int32} (hc : cdx X pc = some (.inr (.inl .iastore), len)) (hk : mtl_ k = (0, n)) (hn : n ≠ 0) (hi : vp_in i n) (h : Ev d X (pc + len) l st (mset M (aset σ k (upd (σ.2.2.1 k) i.toNatClampNeg x))) r) : Ev d X pc l (.int x :: .int i :: .ref (k + 288) :: st) (mset M σ) r := by
  obtain ⟨h1, h2⟩ := marr_i hk hn
  refine Ev.iast hc ((mset_at h1).trans (h2 σ)) hi ?_
  rw [mset_arr (σ := σ) (σ' := aset σ k (upd (σ.2.2.1 k) i.toNatClampNeg x)) h1 rfl ?_ (fun j hj => marr_ne hj)]
  · exact h
  · rw [h2]
    show _ = _
    rw [show (aset σ k (upd (σ.2.2.1 k) i.toNatClampNeg x)).2.2.1 k = upd (σ.2.2.1 k) i.toNatClampNeg x from va_up_self _ _ _]
theorem marr_l {k n : Nat} (h : mtl_ k = (1, n)) : k < 18 ∧ ∀ σ : MS, marr σ k = .inl (1, n, .inr (.inl (σ.2.2.2 k))) := by
  unfold mtl_ at h
  split at h <;> first | (cases h; done) | (cases h; exact ⟨by decide, fun _ => rfl⟩)
theorem Ev.mlald {k n : Nat} {i : Int32} (hc : cdx X pc = some (.inr (.inl .laload), len)) (hk : mtl_ k = (1, n)) (hi : vp_in i n) (h : Ev d X (pc + len) l (.long (σ.2.2.2 k i.toNatClampNeg) :: st) (mset M σ) r) : Ev d X pc l (.int i :: .ref (k + 288) :: st) (mset M σ) r :=
  Ev.lald hc ((mset_at (marr_l hk).1).trans ((marr_l hk).2 σ)) hi h
theorem Ev.mlast {k n : Nat} {i : Int32} {x : Int64} (hc : cdx X pc = some (.inr (.inl .lastore), len)) (hk : mtl_ k = (1, n)) (hi : vp_in i n) (h : Ev d X (pc + len) l st (mset M (lset σ k (vp_updL (σ.2.2.2 k) i.toNatClampNeg x))) r) : Ev d X pc l (.long x :: .int i :: .ref (k + 288) :: st) (mset M σ) r := by
  obtain ⟨h1, h2⟩ := marr_l hk
  refine Ev.last hc ((mset_at h1).trans (h2 σ)) hi ?_
  rw [mset_arr (σ := σ) (σ' := lset σ k (vp_updL (σ.2.2.2 k) i.toNatClampNeg x)) h1 rfl ?_ (fun j hj => marr_neL hj)]
  · exact h
  · rw [h2]
    rw [show (lset σ k (vp_updL (σ.2.2.2 k) i.toNatClampNeg x)).2.2.2 k = vp_updL (σ.2.2.2 k) i.toNatClampNeg x from va_up_self _ _ _]
theorem Ev.eq {r' : AR} (h : r' = r) (k : Ev d X pc l st M r') : Ev d X pc l st M r := h ▸ k
end MRULE
/-- a boolean as an int -/
def bI (b : Bool) : Int32 := cond b 1 0
theorem bI_01 (b : Bool) : (bI b == 0 || bI b == 1) = true := by cases b <;> rfl
