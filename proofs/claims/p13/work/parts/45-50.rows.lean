section
/-! THE CLASS as a state: Tape (33), its bytes (34), Reader (35), kept (272), Ways (273 .. 279), Trip (280, 281), Slots (282 .. 285). The realms lie in M.
Slots of the state: 0 Tape, 1 bytes, 2 Reader, 3 kept, 4 Ways, 5 lengths, 6 laneBits, 7 sizes, 8 rows, 9 stepLengths, 10 stepLanes, 11 Trip, 12 watches, 13 Slots, 14 values, 15 sizes, 16 widths. -/
abbrev CS : Type := (Nat → Nat → Int32) × (Nat → Nat → Int32) × (Nat → Int64) × (Nat → Option Nat)
def ccell (κ : CS) (s : Nat) : AE := match s with
  | 0 => .inr (5, [.ref 34, .int (κ.1 0 1)])
  | 1 => .inl (2, 2000, .inl (κ.2.1 1))
  | 2 => .inr (2, [va_rf (κ.2.2.2 0), va_rf (κ.2.2.2 1), .int (κ.1 2 2), .int (κ.1 2 3), .int (κ.1 2 4), .int (κ.1 2 5), .int (κ.1 2 6), .int (κ.1 2 7)])
  | 3 => .inl (3, 3, .inl (κ.2.1 3))
  | 4 => .inr (8, [.ref 274, .ref 275, .ref 276, .ref 277, .int (κ.1 4 4), .ref 278, .ref 279, va_rf (κ.2.2.2 2), .int (κ.1 4 8), .int (κ.1 4 9), .int (κ.1 4 10), .int (κ.1 4 11), .int (κ.1 4 12)])
  | 5 => .inl (0, 326, .inl (κ.2.1 5))
  | 6 => .inl (0, 326, .inl (κ.2.1 6))
  | 7 => .inl (0, 326, .inl (κ.2.1 7))
  | 8 => .inl (0, 326, .inl (κ.2.1 8))
  | 9 => .inl (0, 49, .inl (κ.2.1 9))
  | 10 => .inl (0, 49, .inl (κ.2.1 10))
  | 11 => .inr (6, [.int (κ.1 11 0), .int (κ.1 11 1), .int (κ.1 11 2), .int (κ.1 11 3), .int (κ.1 11 4), .int (κ.1 11 5), .ref 281, .int (κ.1 11 7)])
  | 12 => .inl (0, 6, .inl (κ.2.1 12))
  | 13 => .inr (4, [.ref 283, .ref 284, .ref 285])
  | 14 => .inl (1, 240, .inr (.inl κ.2.2.1))
  | 15 => .inl (0, 4, .inl (κ.2.1 15))
  | 16 => .inl (0, 4, .inl (κ.2.1 16))
  | _ => .inr (99, [])
def cset (M : AM) (κ : CS) : AM := fun k => if k < 33 then M k else if k < 36 then ccell κ (k - 33) else if k < 272 then M k else if k < 286 then ccell κ (k - 269) else M k
def cad (s : Nat) : Nat := if s < 3 then 33 + s else 269 + s
def cf (κ : CS) (s j : Nat) (x : Int32) : CS := (va_up κ.1 s (upd (κ.1 s) j x), κ.2)
def ca (κ : CS) (s : Nat) (f : Nat → Int32) : CS := (κ.1, va_up κ.2.1 s f, κ.2.2)
def cq (κ : CS) (f : Nat → Int64) : CS := (κ.1, κ.2.1, f, κ.2.2.2)
def cr (κ : CS) (i : Nat) (o : Option Nat) : CS := (κ.1, κ.2.1, κ.2.2.1, va_up κ.2.2.2 i o)
section CSS
variable {M M' : AM} {κ κ' : CS} {r : Nat} {ρ : RC}
theorem cset_o {k : Nat} (h : k < 33 ∨ (36 ≤ k ∧ k < 272) ∨ 286 ≤ k) : cset M κ k = M k := by
  unfold cset
  by_cases h1 : k < 33
  · rw [if_pos h1]
  rw [if_neg h1, if_neg (by omega)]
  by_cases h2 : k < 272
  · rw [if_pos h2]
  rw [if_neg h2, if_neg (by omega)]
theorem cset_at {s : Nat} (h : s < 17) : cset M κ (cad s) = ccell κ s := by
  unfold cset cad
  by_cases h1 : s < 3
  · rw [if_pos h1, if_neg (by omega), if_pos (by omega), show 33 + s - 33 = s by omega]
  · rw [if_neg h1, if_neg (by omega), if_neg (by omega), if_neg (by omega), if_pos (by omega), show 269 + s - 269 = s by omega]
theorem cset_up {s : Nat} {e : AE} (hs : s < 17) (he : ccell κ' s = e) (ho : ∀ j, j ≠ s → ccell κ' j = ccell κ j) : va_up (cset M κ) (cad s) e = cset M κ' := by
  funext k
  by_cases hk : k = cad s
  · rw [hk, va_up_self, cset_at hs, he]
  · rw [va_up_ne _ _ hk]
    unfold cad at hk
    unfold cset
    by_cases h1 : k < 33
    · rw [if_pos h1, if_pos h1]
    rw [if_neg h1, if_neg h1]
    by_cases h2 : k < 36
    · rw [if_pos h2, if_pos h2, ho]
      by_cases c : s < 3
      · rw [if_pos c] at hk; omega
      · omega
    rw [if_neg h2, if_neg h2]
    by_cases h3 : k < 272
    · rw [if_pos h3, if_pos h3]
    rw [if_neg h3, if_neg h3]
    by_cases h4 : k < 286
    · rw [if_pos h4, if_pos h4, ho]
      by_cases c : s < 3
      · omega
      · rw [if_neg c] at hk; omega
    rw [if_neg h4, if_neg h4]
theorem cc_cf {s i j : Nat} {x : Int32} (h : i ≠ s) : ccell (cf κ s j x) i = ccell κ i := by
  have e : ∀ q, q ≠ s → va_up κ.1 s (upd (κ.1 s) j x) q = κ.1 q := fun q hq => va_up_ne _ _ hq
  unfold ccell cf
  dsimp only
  split <;> first | rfl | (rw [e _ h])
theorem cc_ca {s i : Nat} {f : Nat → Int32} (h : i ≠ s) : ccell (ca κ s f) i = ccell κ i := by
  have e : ∀ q, q ≠ s → va_up κ.2.1 s f q = κ.2.1 q := fun q hq => va_up_ne _ _ hq
  unfold ccell ca
  dsimp only
  split <;> first | rfl | (rw [e _ h])
theorem cc_cq {i : Nat} {f : Nat → Int64} (h : i ≠ 14) : ccell (cq κ f) i = ccell κ i := by
  unfold ccell cq
  dsimp only
  split <;> first | rfl | exact absurd rfl h
end CSS
section CRULE
variable {d : Nat} {X : MD} {pc len : Nat} {l : AL} {st : List Value} {M : AM} {Q : Option Value → AM → Prop} {κ : CS} {v : Value}
theorem cset_upf {s j : Nat} {x : Int32} {e : AE} (hs : s < 17) (he : ccell (cf κ s j x) s = e) : va_up (cset M κ) (cad s) e = cset M (cf κ s j x) := cset_up hs he (fun _ h => cc_cf h)
theorem cset_upa {s : Nat} {f : Nat → Int32} {e : AE} (hs : s < 17) (he : ccell (ca κ s f) s = e) : va_up (cset M κ) (cad s) e = cset M (ca κ s f) := cset_up hs he (fun _ h => cc_ca h)
theorem Wp.cput0 {x : Int32} (hc : cdx X pc = some (.inr (.inr (1, 5, 1, v)), len)) (h : Wp d X (pc + len) l st (cset M (cf κ 0 1 x)) Q) : Wp d X pc l (.int x :: .ref 33 :: st) (cset M κ) Q := by
  refine Wp.put hc rfl rfl ?_
  have e := cset_upf (M := M) (κ := κ) (s := 0) (j := 1) (x := x) (by decide) rfl
  rw [← e] at h
  exact h
theorem Wp.cput2 {x : Int32} (j : Nat) (hj : (Nat.ble 2 j && Nat.ble j 7) = true) (hc : cdx X pc = some (.inr (.inr (1, 2, j, v)), len)) (h : Wp d X (pc + len) l st (cset M (cf κ 2 j x)) Q) : Wp d X pc l (.int x :: .ref 35 :: st) (cset M κ) Q := by
  have hj' : j = 2 ∨ j = 3 ∨ j = 4 ∨ j = 5 ∨ j = 6 ∨ j = 7 := by
    rw [Bool.and_eq_true] at hj
    have h1 := Nat.le_of_ble_eq_true hj.1
    have h2 := Nat.le_of_ble_eq_true hj.2
    omega
  rcases hj' with rfl | rfl | rfl | rfl | rfl | rfl
  · exact Wp.put hc rfl rfl (by have e := cset_upf (M := M) (κ := κ) (s := 2) (j := 2) (x := x) (by decide) rfl; rw [← e] at h; exact h)
  · exact Wp.put hc rfl rfl (by have e := cset_upf (M := M) (κ := κ) (s := 2) (j := 3) (x := x) (by decide) rfl; rw [← e] at h; exact h)
  · exact Wp.put hc rfl rfl (by have e := cset_upf (M := M) (κ := κ) (s := 2) (j := 4) (x := x) (by decide) rfl; rw [← e] at h; exact h)
  · exact Wp.put hc rfl rfl (by have e := cset_upf (M := M) (κ := κ) (s := 2) (j := 5) (x := x) (by decide) rfl; rw [← e] at h; exact h)
  · exact Wp.put hc rfl rfl (by have e := cset_upf (M := M) (κ := κ) (s := 2) (j := 6) (x := x) (by decide) rfl; rw [← e] at h; exact h)
  · exact Wp.put hc rfl rfl (by have e := cset_upf (M := M) (κ := κ) (s := 2) (j := 7) (x := x) (by decide) rfl; rw [← e] at h; exact h)
theorem Wp.cput4 {x : Int32} (j : Nat) (hj : (Nat.beq j 4 || (Nat.ble 8 j && Nat.ble j 12)) = true) (hc : cdx X pc = some (.inr (.inr (1, 8, j, v)), len)) (h : Wp d X (pc + len) l st (cset M (cf κ 4 j x)) Q) : Wp d X pc l (.int x :: .ref 273 :: st) (cset M κ) Q := by
  have hj' : j = 4 ∨ j = 8 ∨ j = 9 ∨ j = 10 ∨ j = 11 ∨ j = 12 := by
    rw [Bool.or_eq_true, Bool.and_eq_true] at hj
    rcases hj with q | q
    · exact Or.inl (Nat.eq_of_beq_eq_true q)
    · have h1 := Nat.le_of_ble_eq_true q.1
      have h2 := Nat.le_of_ble_eq_true q.2
      omega
  rcases hj' with rfl | rfl | rfl | rfl | rfl | rfl
  · exact Wp.put hc rfl rfl (by have e := cset_upf (M := M) (κ := κ) (s := 4) (j := 4) (x := x) (by decide) rfl; rw [← e] at h; exact h)
  · exact Wp.put hc rfl rfl (by have e := cset_upf (M := M) (κ := κ) (s := 4) (j := 8) (x := x) (by decide) rfl; rw [← e] at h; exact h)
  · exact Wp.put hc rfl rfl (by have e := cset_upf (M := M) (κ := κ) (s := 4) (j := 9) (x := x) (by decide) rfl; rw [← e] at h; exact h)
  · exact Wp.put hc rfl rfl (by have e := cset_upf (M := M) (κ := κ) (s := 4) (j := 10) (x := x) (by decide) rfl; rw [← e] at h; exact h)
  · exact Wp.put hc rfl rfl (by have e := cset_upf (M := M) (κ := κ) (s := 4) (j := 11) (x := x) (by decide) rfl; rw [← e] at h; exact h)
  · exact Wp.put hc rfl rfl (by have e := cset_upf (M := M) (κ := κ) (s := 4) (j := 12) (x := x) (by decide) rfl; rw [← e] at h; exact h)
theorem Wp.cput11 {x : Int32} (j : Nat) (hj : (Nat.ble j 5 && !(Nat.beq j 1) || Nat.beq j 7) = true) (hc : cdx X pc = some (.inr (.inr (1, 6, j, v)), len)) (h : Wp d X (pc + len) l st (cset M (cf κ 11 j x)) Q) : Wp d X pc l (.int x :: .ref 280 :: st) (cset M κ) Q := by
  have hj' : j = 0 ∨ j = 2 ∨ j = 3 ∨ j = 4 ∨ j = 5 ∨ j = 7 := by
    rw [Bool.or_eq_true, Bool.and_eq_true] at hj
    rcases hj with q | q
    · have h1 := Nat.le_of_ble_eq_true q.1
      have h2 : j ≠ 1 := fun e => by rw [e] at q; exact absurd q.2 (by decide)
      omega
    · have := Nat.eq_of_beq_eq_true q; omega
  rcases hj' with rfl | rfl | rfl | rfl | rfl | rfl
  · exact Wp.put hc rfl rfl (by have e := cset_upf (M := M) (κ := κ) (s := 11) (j := 0) (x := x) (by decide) rfl; rw [← e] at h; exact h)
  · exact Wp.put hc rfl rfl (by have e := cset_upf (M := M) (κ := κ) (s := 11) (j := 2) (x := x) (by decide) rfl; rw [← e] at h; exact h)
  · exact Wp.put hc rfl rfl (by have e := cset_upf (M := M) (κ := κ) (s := 11) (j := 3) (x := x) (by decide) rfl; rw [← e] at h; exact h)
  · exact Wp.put hc rfl rfl (by have e := cset_upf (M := M) (κ := κ) (s := 11) (j := 4) (x := x) (by decide) rfl; rw [← e] at h; exact h)
  · exact Wp.put hc rfl rfl (by have e := cset_upf (M := M) (κ := κ) (s := 11) (j := 5) (x := x) (by decide) rfl; rw [← e] at h; exact h)
  · exact Wp.put hc rfl rfl (by have e := cset_upf (M := M) (κ := κ) (s := 11) (j := 7) (x := x) (by decide) rfl; rw [← e] at h; exact h)
theorem Wp.cput11Z {x : Int32} (hc : cdx X pc = some (.inr (.inr (1, 6, 1, v)), len)) (hx : (x == 0 || x == 1) = true) (h : Wp d X (pc + len) l st (cset M (cf κ 11 1 x)) Q) : Wp d X pc l (.int x :: .ref 280 :: st) (cset M κ) Q := by
  refine Wp.put hc rfl ?_ ?_
  · show (true && (x == 0 || x == 1) && true) = true
    rw [hx]; rfl
  · have e := cset_upf (M := M) (κ := κ) (s := 11) (j := 1) (x := x) (by decide) rfl
    rw [← e] at h
    exact h
/-- the realm of the ways -/
theorem Wp.cputR {k : Nat} (hc : cdx X pc = some (.inr (.inr (1, 8, 7, v)), len)) (h : Wp d X (pc + len) l st (cset M (cr κ 2 (some k))) Q) : Wp d X pc l (.ref k :: .ref 273 :: st) (cset M κ) Q := by
  refine Wp.put hc rfl rfl ?_
  have e := cset_up (M := M) (κ := κ) (κ' := cr κ 2 (some k)) (s := 4) (by decide) rfl (fun j hj => by
    unfold ccell cr
    dsimp only
    split <;> first | rfl | exact absurd rfl hj)
  rw [← e] at h
  exact h
theorem Wp.cputS {k : Nat} (hc : cdx X pc = some (.inr (.inr (1, 2, 0, v)), len)) (h : Wp d X (pc + len) l st (cset M (cr κ 0 (some k))) Q) : Wp d X pc l (.ref k :: .ref 35 :: st) (cset M κ) Q := by
  refine Wp.put hc rfl rfl ?_
  have e := cset_up (M := M) (κ := κ) (κ' := cr κ 0 (some k)) (s := 2) (by decide) rfl (fun j hj => by
    unfold ccell cr
    dsimp only
    split <;> first | rfl | exact absurd rfl hj)
  rw [← e] at h
  exact h
theorem Wp.cputT {k : Nat} (hc : cdx X pc = some (.inr (.inr (1, 2, 1, v)), len)) (h : Wp d X (pc + len) l st (cset M (cr κ 1 (some k))) Q) : Wp d X pc l (.ref k :: .ref 35 :: st) (cset M κ) Q := by
  refine Wp.put hc rfl rfl ?_
  have e := cset_up (M := M) (κ := κ) (κ' := cr κ 1 (some k)) (s := 2) (by decide) rfl (fun j hj => by
    unfold ccell cr
    dsimp only
    split <;> first | rfl | exact absurd rfl hj)
  rw [← e] at h
  exact h
/-- rows of ints -/
def cai (s : Nat) : Nat := match s with
  | 5 => 326 | 6 => 326 | 7 => 326 | 8 => 326 | 9 => 49 | 10 => 49 | 12 => 6 | 15 => 4 | 16 => 4 | _ => 0
theorem cai_c {s n : Nat} (h : cai s = n) (hn : Nat.blt 0 n = true) : s < 17 ∧ n < 2 ^ 31 ∧ ∀ κ : CS, ccell κ s = .inl (0, n, .inl (κ.2.1 s)) := by
  unfold cai at h
  split at h <;> first | (subst h; exact ⟨by decide, by decide, fun _ => rfl⟩) | (subst h; cases hn)
theorem Wp.ciastN {s k n j : Nat} {x : Int32} (hc : cdx X pc = some (.inr (.inl .iastore), len)) (hk : cad s = k) (hs : cai s = n) (hn : Nat.blt 0 n = true) (hj : j < n) (h : Wp d X (pc + len) l st (cset M (ca κ s (upd (κ.2.1 s) j x))) Q) : Wp d X pc l (.int x :: .int (nI j) :: .ref k :: st) (cset M κ) Q := by
  subst hk
  obtain ⟨h1, h2, h3⟩ := cai_c hs hn
  refine Wp.iastN hc ((cset_at h1).trans (h3 κ)) hj h2 ?_
  rw [cset_upa (κ := κ) (s := s) (f := upd (κ.2.1 s) j x) h1 ?_]
  · exact h
  · rw [h3]
    rw [show (ca κ s (upd (κ.2.1 s) j x)).2.1 s = upd (κ.2.1 s) j x from va_up_self _ _ _]
end CRULE
theorem ca_get {κ : CS} {s : Nat} {f : Nat → Int32} : (ca κ s f).2.1 s = f := va_up_self _ _ _
theorem ca_ne {κ : CS} {s i : Nat} {f : Nat → Int32} (h : i ≠ s) : (ca κ s f).2.1 i = κ.2.1 i := va_up_ne _ _ h
theorem cf_get {κ : CS} {s j : Nat} {x : Int32} : (cf κ s j x).1 s = upd (κ.1 s) j x := va_up_self _ _ _
theorem cf_ne {κ : CS} {s i j : Nat} {x : Int32} (h : i ≠ s) : (cf κ s j x).1 i = κ.1 i := va_up_ne _ _ h
/-- only slots of F (fields) and A (rows) may differ; G: references -/
def Fc (F A G : List Nat) (κ κ' : CS) : Prop := (∀ s, List.elem s F = false → κ'.1 s = κ.1 s) ∧ (∀ s, List.elem s A = false → κ'.2.1 s = κ.2.1 s) ∧ (∀ s, List.elem s G = false → κ'.2.2.2 s = κ.2.2.2 s) ∧ κ'.2.2.1 = κ.2.2.1
section FC
variable {F A G : List Nat} {κ κ' κ'' : CS}
theorem Fc.r : Fc F A G κ κ := ⟨fun _ _ => rfl, fun _ _ => rfl, fun _ _ => rfl, rfl⟩
theorem Fc.t (h : Fc F A G κ κ') (h' : Fc F A G κ' κ'') : Fc F A G κ κ'' := ⟨fun j hj => (h'.1 j hj).trans (h.1 j hj), fun j hj => (h'.2.1 j hj).trans (h.2.1 j hj), fun j hj => (h'.2.2.1 j hj).trans (h.2.2.1 j hj), h'.2.2.2.trans h.2.2.2⟩
theorem Fc.f {s j : Nat} {x : Int32} (h : Fc F A G κ κ') (hs : List.elem s F = true) : Fc F A G κ (cf κ' s j x) := ⟨fun i hi => (va_up_ne _ _ (fun e => by rw [e, hs] at hi; cases hi)).trans (h.1 i hi), h.2⟩
theorem Fc.a {s : Nat} {f : Nat → Int32} (h : Fc F A G κ κ') (hs : List.elem s A = true) : Fc F A G κ (ca κ' s f) := ⟨h.1, fun i hi => (va_up_ne _ _ (fun e => by rw [e, hs] at hi; cases hi)).trans (h.2.1 i hi), h.2.2⟩
theorem Fc.g {s : Nat} {o : Option Nat} (h : Fc F A G κ κ') (hs : List.elem s G = true) : Fc F A G κ (cr κ' s o) := ⟨h.1, h.2.1, fun i hi => (va_up_ne _ _ (fun e => by rw [e, hs] at hi; cases hi)).trans (h.2.2.1 i hi), h.2.2.2⟩
theorem elem_sub {F F' : List Nat} (hF : F.all (fun j => List.elem j F') = true) {j : Nat} (hj : List.elem j F' = false) : List.elem j F = false := by
  cases e : List.elem j F with
  | false => rfl
  | true =>
    have h1 := List.all_eq_true.mp hF j (List.elem_iff.mp e)
    rw [hj] at h1
    cases h1
theorem Fc.mono {F' A' G' : List Nat} (h : Fc F A G κ κ') (hF : F.all (fun j => List.elem j F') = true) (hA : A.all (fun j => List.elem j A') = true) (hG : G.all (fun j => List.elem j G') = true) : Fc F' A' G' κ κ' := ⟨fun j hj => h.1 j (elem_sub hF hj), fun j hj => h.2.1 j (elem_sub hA hj), fun j hj => h.2.2.1 j (elem_sub hG hj), h.2.2.2⟩
end FC
/-- two memories agree off lo .. hi -/
def Of (lo hi : Nat) (M M' : AM) : Prop := ∀ k, k < lo ∨ hi ≤ k → M' k = M k
theorem RA_of {M M' : AM} {r : Nat} {ρ : RC} (h : RA M r ρ) (e : ∀ k, r ≤ k → k < r + 47 → M' k = M k) : RA M' r ρ := by
  show rset M' r ρ = M'
  funext k
  by_cases hk : r ≤ k ∧ k < r + 47
  · rw [e k hk.1 hk.2]
    have h1 := congrFun (show rset M r ρ = M from h) k
    rw [← h1]
    unfold rset
    rw [if_pos hk, if_pos hk]
  · exact rset_ne (by omega)
theorem RA_c {M : AM} {κ : CS} {r : Nat} {ρ : RC} (h : RA M r ρ) (h1 : 36 ≤ r) (h2 : r + 47 ≤ 272) : RA (cset M κ) r ρ := RA_of h (fun k a b => cset_o (by omega))
theorem rset_c {M : AM} {κ : CS} {r : Nat} {ρ : RC} (h1 : 36 ≤ r) (h2 : r + 47 ≤ 272) : rset (cset M κ) r ρ = cset (rset M r ρ) κ := by
  funext k
  by_cases hk : r ≤ k ∧ k < r + 47
  · rw [cset_o (by omega)]
    unfold rset
    rw [if_pos hk, if_pos hk]
  · rw [rset_ne (by omega)]
    unfold cset
    rw [rset_ne (M := M) (r := r) (ρ := ρ) (q := k) (by omega)]
/-- a realm of the class holds K, with its lengths by road -/
def RK (M : AM) (r : Nat) (K : KD) : Prop := ∃ ρ, RA M r ρ ∧ RepC ρ K ∧ DC (rds ρ) K (distK K) ∧ KOK K ∧ 36 ≤ r ∧ r + 47 ≤ 272
theorem RK_c {M : AM} {κ : CS} {r : Nat} {K : KD} (h : RK M r K) : RK (cset M κ) r K := by
  obtain ⟨ρ, h1, h2, h3, h4, h5, h6⟩ := h
  exact ⟨ρ, RA_c h1 h5 h6, h2, h3, h4, h5, h6⟩
theorem RK_of {M M' : AM} {r : Nat} {K : KD} (h : RK M r K) (e : ∀ k, r ≤ k → k < r + 47 → M' k = M k) : RK M' r K := by
  obtain ⟨ρ, h1, h2, h3, h4, h5, h6⟩ := h
  exact ⟨ρ, RA_of h1 e, h2, h3, h4, h5, h6⟩
end
section
/-! BITS OF LANES in the class, boats, watched lanes, laneBit; what is spared and owed. -/
def bitsC (K : KD) (ls : List Nat) : Nat := bitsM (ls.map (phL K))
def pbits (p : Nat → Bool) (n : Nat) : Nat := fld (fun b i => if p i = true then b ||| 2 ^ i else b) n 0 0
theorem pbits_tb (p : Nat → Bool) (i : Nat) : ∀ n, (pbits p n).testBit i = (decide (i < n) && p i)
  | 0 => by simp [pbits, fld]
  | n + 1 => by
    have ih := pbits_tb p i n
    unfold pbits at ih ⊢
    rw [fld_s, Nat.zero_add]
    by_cases hp : p n = true
    · rw [if_pos hp, Nat.testBit_or, ih, Nat.testBit_two_pow]
      by_cases e : n = i
      · subst e; simp [hp]
      · by_cases c : i < n
        · simp [e, c, show i < n + 1 by omega]
        · simp [e, c, show ¬ i < n + 1 by omega]
    · rw [if_neg hp, ih]
      by_cases e : n = i
      · subst e; simp [hp]
      · by_cases c : i < n
        · simp [c, show i < n + 1 by omega]
        · simp [c, show ¬ i < n + 1 by omega]
theorem pbits_lt (p : Nat → Bool) {n : Nat} (h : n ≤ 9) : pbits p n < 2 ^ 9 := by
  apply Nat.lt_pow_two_of_testBit
  intro i hi
  rw [pbits_tb]
  simp [show ¬ i < n by omega]
theorem and_zero_iff (a b : Nat) : a &&& b = 0 ↔ ∀ i, ¬ (a.testBit i = true ∧ b.testBit i = true) := by
  constructor
  · intro h i ⟨h1, h2⟩
    have e := congrArg (fun x => x.testBit i) h
    simp only [Nat.testBit_and, Nat.zero_testBit, h1, h2] at e
    cases e
  · intro h
    apply Nat.eq_of_testBit_eq
    intro i
    rw [Nat.testBit_and, Nat.zero_testBit]
    have := h i
    cases h1 : a.testBit i <;> cases h2 : b.testBit i <;> simp_all
theorem ph_lgl {K : KD} (ok : KOK K) {l : Nat} (hl : LV K l) : lgl K (phL K l) = l := by
  have b3 := (ok_h ok).2.2.2.1
  unfold LV at hl
  unfold lgl phL
  by_cases h : l = 8
  · rw [if_pos h, if_neg (by omega)]; exact h.symm
  · rw [if_neg h, if_pos (by omega)]
theorem bitsC_app (K : KD) (ls : List Nat) (l : Nat) : bitsC K (ls ++ [l]) = bitsC K ls ||| 2 ^ phL K l := by
  unfold bitsC
  rw [List.map_append, List.map_cons, List.map_nil, bitsM_app]
theorem bitsC_lt {K : KD} (ok : KOK K) {ls : List Nat} (h : ∀ l, l ∈ ls → LV K l) : bitsC K ls < 2 ^ 9 := by
  refine bits_lt (fun l hl => ?_)
  obtain ⟨x, hx, rfl⟩ := List.mem_map.mp hl
  exact (LV_ph ok (h x hx)).1
theorem bitsC_tb {K : KD} {ls : List Nat} {i : Nat} : (bitsC K ls).testBit i = true ↔ ∃ l, l ∈ ls ∧ phL K l = i := by
  unfold bitsC
  rw [bits_tb, List.contains_iff_mem, List.mem_map]
/-- the class's test of lanes with p, and the mathematical one -/
theorem bitsC_and {K : KD} (ok : KOK K) {ls : List Nat} (h : ∀ l, l ∈ ls → LV K l) (p : Nat → Bool) : bitsC K ls &&& pbits (fun i => p (lgl K i)) (kh K 3 + kh K 11) = 0 ↔ ls.any p = false := by
  rw [and_zero_iff]
  constructor
  · intro q
    cases e : ls.any p with
    | false => rfl
    | true =>
      obtain ⟨l, hl, hp⟩ := List.any_eq_true.mp e
      refine absurd ⟨bitsC_tb.mpr ⟨l, hl, rfl⟩, ?_⟩ (q (phL K l))
      rw [pbits_tb, ph_lgl ok (h l hl), hp, decide_eq_true (LV_ph ok (h l hl)).2]
      rfl
  · intro q i ⟨h1, h2⟩
    obtain ⟨l, hl, rfl⟩ := bitsC_tb.mp h1
    rw [pbits_tb, ph_lgl ok (h l hl), Bool.and_eq_true] at h2
    have : ls.any p = true := List.any_eq_true.mpr ⟨l, hl, h2.2⟩
    rw [q] at this
    cases this
def boatP (K : KD) (l : Nat) : Bool := decide (kl K l 5 = 2)
def watP (K : KD) (l : Nat) : Bool := decide (0 < kl K l 6)
def boatC (K : KD) : Nat := pbits (fun i => boatP K (lgl K i)) (kh K 3 + kh K 11)
def watC (K : KD) : Nat := pbits (fun i => watP K (lgl K i)) (kh K 3 + kh K 11)
theorem boatC_and {K : KD} (ok : KOK K) {ls : List Nat} (h : ∀ l, l ∈ ls → LV K l) : bitsC K ls &&& boatC K = 0 ↔ boatK K ls = false := bitsC_and ok h (boatP K)
theorem watC_and {K : KD} (ok : KOK K) {ls : List Nat} (h : ∀ l, l ∈ ls → LV K l) : bitsC K ls &&& watC K = 0 ↔ ls.any (watP K) = false := bitsC_and ok h (watP K)
section TRIP
variable {d : Nat} {M : AM} {r : Nat} {ρ : RC} {K : KD} {κ κ' : CS} {Q : Option Value → AM → Prop}

theorem k_boatLanes_l (hR : RA M r ρ) (hK : RepC ρ K) (ok : KOK K) : ∀ (n i b : Nat), i + n = kh K 3 + kh K 11 → Wp d md_44 4 [some (.ref r), some (.int (nI b)), some (.int (nI i))] [] M (IsR (some (.int (nI (fld (fun b i => if boatP K (lgl K i) = true then b ||| 2 ^ i else b) n i b)))) M) := by
  intro n
  obtain ⟨b0, b1, b2, b3, b4, b5, b6, b7, b8, b9, b10, b11, b12⟩ := ok_h ok
  induction n with
  | zero =>
    intro i b hi
    refine Wp.n (pc' := 6) 2 rfl ?_
    refine Wp.get (len := 3) rfl (ra_obj hR) rfl ?_
    refine Wp.top (rc_la hK) ?_
    refine Wp.nc3 (x := i) (y := kh K 3 + kh K 11) (tgt := 41) (len := 3) rfl (by omega) (by omega) (fun h9 => ?_) (fun h9 => ?_)
    · skip
      refine Wp.n (pc' := 42) 1 rfl ?_
      refine Wp.retI (len := 1) rfl rfl ?_
      exact ⟨rfl, rfl⟩
    · omega
  | succ n ih =>
    intro i b hi
    obtain ⟨hl, hph⟩ := lgl_v ok (i := i) (by omega)
    have q := rc_lane hK hl
    rw [hph] at q
    have t := ok_lane ok hl
    show Wp _ _ _ _ _ _ (IsR (some (.int (nI (fld (fun b i => if boatP K (lgl K i) = true then b ||| 2 ^ i else b) n (i + 1) (if boatP K (lgl K i) = true then b ||| 2 ^ i else b))))) M)
    refine Wp.n (pc' := 6) 2 rfl ?_
    refine Wp.get (len := 3) rfl (ra_obj hR) rfl ?_
    refine Wp.top (rc_la hK) ?_
    refine Wp.nc3 (x := i) (y := kh K 3 + kh K 11) (tgt := 41) (len := 3) rfl (by omega) (by omega) (fun h9 => ?_) (fun h9 => ?_)
    · omega
    · skip
      refine Wp.n (pc' := 14) 2 rfl ?_
      refine Wp.get (len := 3) rfl (ra_obj hR) rfl ?_
      refine Wp.n (pc' := 18) 1 rfl ?_
      refine Wp.aaldN (j := i) (len := 1) rfl (ra_lanes hR) rfl (by omega) (by decide) (if_pos (by omega)) ?_
      refine Wp.get (len := 3) rfl (ra_lane hR (by omega)) rfl ?_
      refine Wp.top q.1 ?_
      refine Wp.n (pc' := 23) 1 rfl ?_
      refine Wp.nc1 (x := kl K (lgl K i) 5 + 1) (y := 3) (tgt := 32) (len := 3) rfl (by omega) (by omega) (fun h23 => ?_) (fun h23 => ?_)
      · skip
        refine Wp.n (pc' := 34) 2 rfl ?_
        refine Wp.top (n_or _ _) ?_
        refine Wp.n (pc' := 35) 1 rfl ?_
        refine Wp.incN (x := i) (len := 3) rfl rfl ?_
        refine Wp.n (pc' := 4) 1 rfl ?_
        first
          | (have e : boatP K (lgl K i) = true := decide_eq_true (by omega)
             rw [if_pos e]
             exact ih (i + 1) _ (by omega))
          | (have e : ¬ boatP K (lgl K i) = true := fun e => by have := of_decide_eq_true e; omega
             rw [if_neg e]
             have w := ih (i + 1) (b ||| 0) (by omega)
             rw [Nat.or_zero] at w ⊢
             exact w)
      · skip
        refine Wp.n (pc' := 29) 3 rfl ?_
        refine Wp.top (n_sh1 i (by omega)) ?_
        refine Wp.n (pc' := 34) 2 rfl ?_
        refine Wp.top (n_or _ _) ?_
        refine Wp.n (pc' := 35) 1 rfl ?_
        refine Wp.incN (x := i) (len := 3) rfl rfl ?_
        refine Wp.n (pc' := 4) 1 rfl ?_
        first
          | (have e : boatP K (lgl K i) = true := decide_eq_true (by omega)
             rw [if_pos e]
             exact ih (i + 1) _ (by omega))
          | (have e : ¬ boatP K (lgl K i) = true := fun e => by have := of_decide_eq_true e; omega
             rw [if_neg e]
             have w := ih (i + 1) (b ||| 0) (by omega)
             rw [Nat.or_zero] at w ⊢
             exact w)

theorem k_boatLanes (hR : RA M r ρ) (hK : RepC ρ K) (ok : KOK K) : Ev d md_44 0 [some (.ref r), none, none] [] M (some (.int (nI (boatC K))), M) := by
  refine Wp.toEv ?_
  refine Wp.n (pc' := 4) 4 rfl ?_
  exact k_boatLanes_l hR hK ok _ 0 0 (by omega)

theorem k_watchedLanes_l (hR : RA M r ρ) (hK : RepC ρ K) (ok : KOK K) : ∀ (n i b : Nat), i + n = kh K 3 + kh K 11 → Wp d md_45 4 [some (.ref r), some (.int (nI b)), some (.int (nI i))] [] M (IsR (some (.int (nI (fld (fun b i => if watP K (lgl K i) = true then b ||| 2 ^ i else b) n i b)))) M) := by
  intro n
  obtain ⟨b0, b1, b2, b3, b4, b5, b6, b7, b8, b9, b10, b11, b12⟩ := ok_h ok
  induction n with
  | zero =>
    intro i b hi
    refine Wp.n (pc' := 6) 2 rfl ?_
    refine Wp.get (len := 3) rfl (ra_obj hR) rfl ?_
    refine Wp.top (rc_la hK) ?_
    refine Wp.nc3 (x := i) (y := kh K 3 + kh K 11) (tgt := 40) (len := 3) rfl (by omega) (by omega) (fun h9 => ?_) (fun h9 => ?_)
    · skip
      refine Wp.n (pc' := 41) 1 rfl ?_
      refine Wp.retI (len := 1) rfl rfl ?_
      exact ⟨rfl, rfl⟩
    · omega
  | succ n ih =>
    intro i b hi
    obtain ⟨hl, hph⟩ := lgl_v ok (i := i) (by omega)
    have q := rc_lane hK hl
    rw [hph] at q
    have t := ok_lane ok hl
    show Wp _ _ _ _ _ _ (IsR (some (.int (nI (fld (fun b i => if watP K (lgl K i) = true then b ||| 2 ^ i else b) n (i + 1) (if watP K (lgl K i) = true then b ||| 2 ^ i else b))))) M)
    refine Wp.n (pc' := 6) 2 rfl ?_
    refine Wp.get (len := 3) rfl (ra_obj hR) rfl ?_
    refine Wp.top (rc_la hK) ?_
    refine Wp.nc3 (x := i) (y := kh K 3 + kh K 11) (tgt := 40) (len := 3) rfl (by omega) (by omega) (fun h9 => ?_) (fun h9 => ?_)
    · omega
    · skip
      refine Wp.n (pc' := 14) 2 rfl ?_
      refine Wp.get (len := 3) rfl (ra_obj hR) rfl ?_
      refine Wp.n (pc' := 18) 1 rfl ?_
      refine Wp.aaldN (j := i) (len := 1) rfl (ra_lanes hR) rfl (by omega) (by decide) (if_pos (by omega)) ?_
      refine Wp.get (len := 3) rfl (ra_lane hR (by omega)) rfl ?_
      refine Wp.top q.2.2.2.2.2 ?_
      refine Wp.nz5 (x := kl K (lgl K i) 6) (tgt := 31) (len := 3) rfl (by omega) (fun h22 => ?_) (fun h22 => ?_)
      · skip
        refine Wp.n (pc' := 33) 2 rfl ?_
        refine Wp.top (n_or _ _) ?_
        refine Wp.n (pc' := 34) 1 rfl ?_
        refine Wp.incN (x := i) (len := 3) rfl rfl ?_
        refine Wp.n (pc' := 4) 1 rfl ?_
        first
          | (have e : watP K (lgl K i) = true := decide_eq_true (by omega)
             rw [if_pos e]
             exact ih (i + 1) _ (by omega))
          | (have e : ¬ watP K (lgl K i) = true := fun e => by have := of_decide_eq_true e; omega
             rw [if_neg e]
             have w := ih (i + 1) (b ||| 0) (by omega)
             rw [Nat.or_zero] at w ⊢
             exact w)
      · skip
        refine Wp.n (pc' := 28) 3 rfl ?_
        refine Wp.top (n_sh1 i (by omega)) ?_
        refine Wp.n (pc' := 33) 2 rfl ?_
        refine Wp.top (n_or _ _) ?_
        refine Wp.n (pc' := 34) 1 rfl ?_
        refine Wp.incN (x := i) (len := 3) rfl rfl ?_
        refine Wp.n (pc' := 4) 1 rfl ?_
        first
          | (have e : watP K (lgl K i) = true := decide_eq_true (by omega)
             rw [if_pos e]
             exact ih (i + 1) _ (by omega))
          | (have e : ¬ watP K (lgl K i) = true := fun e => by have := of_decide_eq_true e; omega
             rw [if_neg e]
             have w := ih (i + 1) (b ||| 0) (by omega)
             rw [Nat.or_zero] at w ⊢
             exact w)

theorem k_watchedLanes (hR : RA M r ρ) (hK : RepC ρ K) (ok : KOK K) : Ev d md_45 0 [some (.ref r), none, none] [] M (some (.int (nI (watC K))), M) := by
  refine Wp.toEv ?_
  refine Wp.n (pc' := 4) 4 rfl ?_
  exact k_watchedLanes_l hR hK ok _ 0 0 (by omega)

/-- the lane's bit of what joins -/
def bitJ (K : KD) (j : Nat) : Nat := if j < 20 then 0 else 2 ^ phL K (j - 20)
theorem k_laneBit (hR : RA M r ρ) (hK : RepC ρ K) (ok : KOK K) {j : Nat} (hj : JV K j) : Ev d md_8 0 [some (.ref (jad K r j))] [] M (some (.int (nI (bitJ K j))), M) := by
  obtain ⟨b0, b1, b2, b3, b4, b5, b6, b7, b8, b9, b10, b11, b12⟩ := ok_h ok
  unfold jad bitJ
  rcases hj with h | ⟨h, h2⟩
  · have q := rc_road hK h
    rw [if_pos (by omega), if_pos (by omega)]
    have w := ra_ev hR (c_laneBit_road (d := d) (M := M) (ρ := ρ) (r := r) (i := j) (by omega))
    rw [if_pos q.1] at w
    exact w
  · have q := rc_lane hK h2
    have p := LV_ph ok h2
    have t := ok_lane ok h2
    rw [if_neg (by omega), if_neg (by omega)]
    have w := ra_ev hR (c_laneBit_lane (d := d) (M := M) (ρ := ρ) (r := r) (i := phL K (j - 20)) (by omega))
    rw [if_neg (by rw [q.1]; exact fun e => by have := (nI_eq (a := kl K (j - 20) 5 + 1) (b := 0) (by omega) (by decide)).mp e; omega), n_sh1 _ (by omega)] at w
    exact w
theorem jad_32 (h32 : 32 ≤ r) {j : Nat} : 32 ≤ jad K r j := by
  unfold jad
  by_cases h : j < 20
  · rw [if_pos h]; omega
  · rw [if_neg h]; omega
theorem k_first (hR : RA M r ρ) (hK : RepC ρ K) (ok : KOK K) (h32 : 32 ≤ r) {w : Nat} (hw : w < kh K 4) : Ev (d + 1) md_71 0 [some (.ref (r + 26 + 2 * w))] [] M (some (.int (nI (kw K w 4))), M) := by
  obtain ⟨b0, b1, b2, b3, b4, b5, b6, b7, b8, b9, b10, b11, b12⟩ := ok_h ok
  have t := ok_walk ok hw
  have e := ra_ev hR (c_first (d := d) (M := M) (ρ := ρ) (r := r) (i := w) h32 (by omega))
  rw [(rc_walk hK hw).2.2.2.2 0 (by omega)] at e
  exact e
theorem k_last (hR : RA M r ρ) (hK : RepC ρ K) (ok : KOK K) (h32 : 32 ≤ r) {w : Nat} (hw : w < kh K 4) : Ev (d + 1) md_72 0 [some (.ref (r + 26 + 2 * w))] [] M (some (.int (nI (kw K w (3 + kw K w 3)))), M) := by
  obtain ⟨b0, b1, b2, b3, b4, b5, b6, b7, b8, b9, b10, b11, b12⟩ := ok_h ok
  have t := ok_walk ok hw
  have q := rc_walk hK hw
  have e := ra_ev hR (c_last (d := d) (M := M) (ρ := ρ) (r := r) (i := w) h32 (by omega))
  rw [q.2.2.2.1, nI_toInt (by omega), if_pos (by omega), nI_clamp (by omega), q.2.2.2.2 _ (by omega), show 4 + (kw K w 3 - 1) = 3 + kw K w 3 by omega] at e
  exact e
theorem k_stopAt (hR : RA M r ρ) (hK : RepC ρ K) (ok : KOK K) {w i : Nat} (hw : w < kh K 4) (hi : i < kw K w 3) : Ev d md_69 0 [some (.ref (r + 26 + 2 * w)), some (.int (nI i))] [] M (some (.int (nI (kw K w (4 + i)))), M) := by
  obtain ⟨b0, b1, b2, b3, b4, b5, b6, b7, b8, b9, b10, b11, b12⟩ := ok_h ok
  have t := ok_walk ok hw
  have q := rc_walk hK hw
  have e := ra_ev hR (c_stopAt (d := d) (M := M) (ρ := ρ) (r := r) (i := w) (by omega) (nI i))
  rw [nI_toInt (by omega), if_pos (by omega), nI_clamp (by omega), q.2.2.2.2 _ hi] at e
  exact e
theorem k_sparedOf (ok : KOK K) {a b len : Nat} (ha : a < kh K 0) (hlen : len ≤ 2000) : Ev (d + 8) md_43 0 [some (.int (dI (distK K a b))), some (.int (nI len))] [] M (some (.int (nI (savK K a b len))), M) := by
  have e := c_sparedOf (d := d) (M := M) (dI (distK K a b)) (nI len)
  have hx : (if dI (distK K a b) = -1 then (0 : Int32) else if (0 : Int32) < dI (distK K a b) - nI len then dI (distK K a b) - nI len else 0) = nI (savK K a b len) := by
    unfold savK dI
    by_cases h : distK K a b < 1000000
    · have h7 := dist_774 ok ha h
      rw [if_pos h, if_neg (oI_ne (by omega)), if_pos h]
      by_cases c : len < distK K a b
      · rw [n_sub (by omega), if_pos (show (0 : Int32) < nI (distK K a b - len) from (nI_ltI (a := 0) (b := distK K a b - len) (by decide) (by omega)).mpr (by omega))]
      · rw [if_neg (n_subneg (by omega) (by omega) (by omega)), show distK K a b - len = 0 by omega]
        rfl
    · rw [if_neg h, if_pos rfl, if_neg h]
      rfl
  rw [hx] at e
  exact e
theorem k_dutyOn (hR : RA M r ρ) (hK : RepC ρ K) (ok : KOK K) (h0 : 0 < kh K 0) {s load y : Nat} (hs : s ≤ 774) (hl : load ≤ 9) (hy : y < 31) : Ev d md_3 0 [some (.ref (r + 1)), some (.int (nI s)), some (.int (nI load)), some (.int (nI y)), none] [] M (some (.int (nI (dutyS K false s y load))), M) := by
  obtain ⟨b0, b1, b2, b3, b4, b5, b6, b7, b8, b9, b10, b11, b12⟩ := ok_h ok
  have e := ra_ev hR (c_dutyOn (d := d) (M := M) (ρ := ρ) (r := r) (nI s) (nI load) (nI y))
  have l0 : rlw ρ 0 = nI (kh K 6) := rc_law hK h0 (j := 0) (by decide)
  have l1 : rlw ρ 1 = nI (kh K 7) := rc_law hK h0 (j := 1) (by decide)
  have l3 : rlw ρ 3 = nI (kh K 9) := rc_law hK h0 (j := 3) (by decide)
  have l4 : rlw ρ 4 = nI (kh K 10) := rc_law hK h0 (j := 4) (by decide)
  have hr : nI y - nI y / 7 * 7 = nI (y % 7) := pk_rem (by omega) (by decide) (by decide)
  rw [l0, l1, l3, l4, hr, nI_toInt (by omega), nI_toInt (by omega)] at e
  have hx : (if (s : Int) ≤ (kh K 7 : Int) ∨ (nI (y % 7) = 6 ∧ nI (kh K 9) = 0) then (0 : Int32) else (nI s - nI (kh K 7)) * nI (kh K 6) * (if nI (kh K 10) = 1 then nI load else 1)) = nI (dutyS K false s y load) := by
    have e6 : nI (y % 7) = 6 ↔ y % 7 = 6 := nI_eq (b := 6) (by omega) (by decide)
    have e9 : nI (kh K 9) = 0 ↔ kh K 9 = 0 := nI_eq (b := 0) (by omega) (by decide)
    have e10 : nI (kh K 10) = 1 ↔ kh K 10 = 1 := nI_eq (b := 1) (by omega) (by decide)
    simp only [e6, e9]
    unfold dutyS
    by_cases c1 : kh K 9 = 0 ∧ y % 7 = 6
    · rw [if_pos (Or.inr ⟨c1.2, c1.1⟩), if_pos (Or.inr c1)]
      rfl
    · rw [if_neg (c := false = true ∨ _) (by rintro (q | q); cases q; exact c1 q)]
      by_cases c2 : s ≤ kh K 7
      · rw [if_pos (Or.inl (by omega)), show s - kh K 7 = 0 by omega, Nat.zero_mul, Nat.zero_mul]
        rfl
      · rw [if_neg (by rintro (q | q); omega; exact c1 ⟨q.2, q.1⟩), n_sub (by omega)]
        by_cases c3 : kh K 10 = 1
        · rw [if_pos (e10.mpr c3), if_pos c3, pk_mul, pk_mul]
        · rw [if_neg (fun q => c3 (e10.mp q)), if_neg c3, pk_mul, show (1 : Int32) = nI 1 from rfl, pk_mul]
  rw [hx] at e
  exact e
end TRIP
end
section
/-! A TRIP: a told walk, followed by the class. -/
def TS (κ : CS) (K : KD) (i : Nat) (s : Nat × List Nat) : Prop := κ.1 11 0 = nI i ∧ κ.1 11 2 = nI s.1 ∧ κ.1 11 3 = nI (bitsC K s.2) ∧ κ.1 11 7 = nI (wat K s.2).length ∧ (∀ i, i < (wat K s.2).length → κ.2.1 12 i = nI ((wat K s.2).getD i 0))
theorem bitsC_add {K : KD} {s : Nat × List Nat} {j : Nat} : bitsC K (addJ K s j).2 = bitsC K s.2 ||| bitJ K j := by
  unfold addJ bitJ
  by_cases c : j < 20
  · show bitsC K (if j < 20 then s.2 else s.2 ++ [j - 20]) = _
    rw [if_pos c, if_pos c, Nat.or_zero]
  · show bitsC K (if j < 20 then s.2 else s.2 ++ [j - 20]) = _
    rw [if_neg c, if_neg c, bitsC_app]
/-- by how much what joins is watched -/
def watJ (K : KD) (j : Nat) : Nat := if j < 20 then 0 else kl K (j - 20) 6
theorem wat_add {K : KD} {s : Nat × List Nat} {j : Nat} : wat K (addJ K s j).2 = if 0 < watJ K j then wat K s.2 ++ [watJ K j] else wat K s.2 := by
  unfold addJ watJ
  by_cases c : j < 20
  · show wat K (if j < 20 then s.2 else s.2 ++ [j - 20]) = _
    rw [if_pos c, if_pos c, if_neg (by omega)]
  · show wat K (if j < 20 then s.2 else s.2 ++ [j - 20]) = _
    rw [if_neg c, if_neg c, wat_app]
    by_cases q : 0 < kl K (j - 20) 6
    · rw [if_pos q, if_pos q]
    · rw [if_neg q, if_neg q, List.append_nil]
section TRIP
variable {d : Nat} {M : AM} {r : Nat} {ρ : RC} {K : KD} {κ κ' : CS} {Q : Option Value → AM → Prop}
theorem j_objW (hR : RA M r ρ) (hK : RepC ρ K) (ok : KOK K) {j : Nat} (hj : JV K j) : ∃ n f, M (jad K r j) = .inr (1, kfs n f) ∧ f 3 = nI (spanJ K j) ∧ f 6 = nI (watJ K j) ∧ watJ K j ≤ 100 := by
  obtain ⟨b0, b1, b2, b3, b4, b5, b6, b7, b8, b9, b10, b11, b12⟩ := ok_h ok
  obtain ⟨n, f, h1, h2, h3, h4⟩ := j_obj hR hK ok hj
  refine ⟨n, f, h1, h2, ?_⟩
  unfold watJ
  rcases hj with h | ⟨h, h5⟩
  · rw [if_pos (by omega)]
    exact ⟨(h3 (by omega)).2.2, by omega⟩
  · rw [if_neg (by omega)]
    have t := ok_lane ok h5
    exact ⟨(h4 h).2.2, by omega⟩
theorem t_goBy (hR : RA M r ρ) (hK : RepC ρ K) (ok : KOK K) (h1 : 36 ≤ r) (h2 : r + 47 ≤ 272) {i j : Nat} {s : Nat × List Nat} (hT : TS κ K i s) (hS : SB K i s) (hi : i < 6) (hj : JV K j) : Wp (d + 1) md_64 0 [some (.ref 280), some (.ref (jad K r j))] [] (cset M κ) (fun v M' => v = none ∧ ∃ κ', M' = cset M κ' ∧ Fc [11] [12] [] κ κ' ∧ κ'.1 11 1 = κ.1 11 1 ∧ TS κ' K (i + 1) (addJ K s j)) := by
  obtain ⟨b0, b1, b2, b3, b4, b5, b6, b7, b8, b9, b10, b11, b12⟩ := ok_h ok
  have hRc : ∀ κ : CS, RA (cset M κ) r ρ := fun κ => RA_c hR h1 h2
  have hob : ∃ f n, f 3 = nI (spanJ K j) ∧ f 6 = nI (watJ K j) ∧ watJ K j ≤ 100 ∧ ∀ κ : CS, cset M κ (jad K r j) = .inr (1, kfs n f) := by
    obtain ⟨n, f, q1, q2, q3, q4⟩ := j_objW hR hK ok hj
    refine ⟨f, n, q2, q3, q4, fun κ => ?_⟩
    rw [← q1]
    refine cset_o (Or.inr (Or.inl ?_))
    unfold jad
    rcases hj with h | ⟨h, h5⟩
    · rw [if_pos (by omega)]; omega
    · have := LV_ph ok h5
      rw [if_neg (by omega)]; omega
  obtain ⟨f, n0, hf3, hf6, hw, hM⟩ := hob
  have hwl : (wat K s.2).length ≤ i := Nat.le_trans (wat_len s.2) hS.2.1
  have hbl := bitsC_lt ok hS.2.2
  obtain ⟨t0, t2, t3, t7, ta⟩ := hT
  refine Wp.n (pc' := 2) 2 rfl ?_
  refine Wp.get (len := 3) rfl (rfl) rfl ?_
  refine Wp.top t0 ?_
  refine Wp.n (pc' := 6) 1 rfl ?_
  refine Wp.iaddN (x := i) (y := 1) (len := 1) rfl ?_
  refine Wp.cput11 0 rfl (len := 3) rfl ?_
  refine Wp.n (pc' := 12) 2 rfl ?_
  refine Wp.get (len := 3) rfl (rfl) rfl ?_
  refine Wp.top t2 ?_
  refine Wp.n (pc' := 16) 1 rfl ?_
  refine Wp.get (len := 3) rfl (hM _) rfl ?_
  refine Wp.top hf3 ?_
  refine Wp.iaddN (x := s.1) (y := spanJ K j) (len := 1) rfl ?_
  refine Wp.cput11 2 rfl (len := 3) rfl ?_
  refine Wp.n (pc' := 25) 2 rfl ?_
  refine Wp.get (len := 3) rfl (rfl) rfl ?_
  refine Wp.top t3 ?_
  refine Wp.n (pc' := 29) 1 rfl ?_
  refine Wp.ecallV (len := 3) rfl rfl rfl (hM _) rfl (jad_32 (by omega)) rfl (k_laneBit (hRc _) hK ok hj) ?_
  refine Wp.n (pc' := 33) 1 rfl ?_
  refine Wp.top (n_or _ _) ?_
  refine Wp.cput11 3 rfl (len := 3) rfl ?_
  refine Wp.n (pc' := 37) 1 rfl ?_
  refine Wp.get (len := 3) rfl (hM _) rfl ?_
  refine Wp.top hf6 ?_
  refine Wp.nz5 (x := watJ K j) (tgt := 75) (len := 3) rfl (by omega) (fun h40 => ?_) (fun h40 => ?_)
  · skip
    refine Wp.retV (len := 1) rfl rfl ?_
    first
      | (have e : wat K (addJ K s j).2 = wat K s.2 := by rw [wat_add, if_neg (by omega)]
         refine ⟨rfl, _, rfl, ((Fc.r.f rfl).f rfl).f rfl, rfl, rfl, rfl, ?_, ?_, ?_⟩
         · rw [bitsC_add]; rfl
         · rw [e]; exact t7
         · rw [e]; exact ta)
      | (have e : wat K (addJ K s j).2 = wat K s.2 ++ [watJ K j] := by rw [wat_add, if_pos (by omega)]
         refine ⟨rfl, _, rfl, ((((Fc.r.f rfl).f rfl).f rfl).a rfl).f rfl, rfl, rfl, rfl, ?_, ?_, ?_⟩
         · rw [bitsC_add]; rfl
         · rw [e, List.length_append]; rfl
         · rw [e, List.length_append]
           intro q hq
           have hq' : q < (wat K s.2).length + 1 := hq
           show upd (κ.2.1 12) (wat K s.2).length (nI (watJ K j)) q = _
           by_cases c : q = (wat K s.2).length
           · rw [c, pk_us, getD_end]
           · rw [pk_un c, getD_app (by omega)]
             exact ta q (by omega))
  · skip
    refine Wp.n (pc' := 44) 1 rfl ?_
    refine Wp.get (len := 3) rfl (rfl) rfl ?_
    refine Wp.top t7 ?_
    refine Wp.n (pc' := 49) 1 rfl ?_
    refine Wp.nc3 (x := (wat K s.2).length) (y := 6) (tgt := 75) (len := 3) rfl (by omega) (by omega) (fun h49 => ?_) (fun h49 => ?_)
    · omega
    · skip
      refine Wp.n (pc' := 53) 1 rfl ?_
      refine Wp.get (len := 3) rfl (rfl) rfl ?_
      refine Wp.n (pc' := 57) 1 rfl ?_
      refine Wp.get (len := 3) rfl (rfl) rfl ?_
      refine Wp.top t7 ?_
      refine Wp.n (pc' := 61) 1 rfl ?_
      refine Wp.get (len := 3) rfl (hM _) rfl ?_
      refine Wp.top hf6 ?_
      refine Wp.ciastN (s := 12) (n := 6) (j := (wat K s.2).length) (len := 1) rfl rfl rfl rfl (by omega) ?_
      refine Wp.n (pc' := 67) 2 rfl ?_
      refine Wp.get (len := 3) rfl (rfl) rfl ?_
      refine Wp.top t7 ?_
      refine Wp.n (pc' := 71) 1 rfl ?_
      refine Wp.iaddN (x := (wat K s.2).length) (y := 1) (len := 1) rfl ?_
      refine Wp.cput11 7 rfl (len := 3) rfl ?_
      refine Wp.retV (len := 1) rfl rfl ?_
      first
        | (have e : wat K (addJ K s j).2 = wat K s.2 := by rw [wat_add, if_neg (by omega)]
           refine ⟨rfl, _, rfl, ((Fc.r.f rfl).f rfl).f rfl, rfl, rfl, rfl, ?_, ?_, ?_⟩
           · rw [bitsC_add]; rfl
           · rw [e]; exact t7
           · rw [e]; exact ta)
        | (have e : wat K (addJ K s j).2 = wat K s.2 ++ [watJ K j] := by rw [wat_add, if_pos (by omega)]
           refine ⟨rfl, _, rfl, ((((Fc.r.f rfl).f rfl).f rfl).a rfl).f rfl, rfl, rfl, rfl, ?_, ?_, ?_⟩
           · rw [bitsC_add]; rfl
           · rw [e, List.length_append]; rfl
           · rw [e, List.length_append]
             intro q hq
             have hq' : q < (wat K s.2).length + 1 := hq
             show upd (κ.2.1 12) (wat K s.2).length (nI (watJ K j)) q = _
             by_cases c : q = (wat K s.2).length
             · rw [c, pk_us, getD_end]
             · rw [pk_un c, getD_app (by omega)]
               exact ta q (by omega))


theorem t_follow_l (hR : RA M r ρ) (hK : RepC ρ K) (ok : KOK K) (h1 : 36 ≤ r) (h2 : r + 47 ≤ 272) {w : Nat} (hw : w < kh K 4) : ∀ (n i : Nat) (s : Nat × List Nat) (κ1 : CS) (z5 : Option Value), i + n = kw K w 3 - 1 → Fc [11] [12] [] κ κ1 → κ1.1 11 1 = 1 → TS κ1 K i s → SB K i s → (∀ κ2 z4' z5', Fc [11] [12] [] κ κ2 → κ2.1 11 1 = bI (decide ((lookK K (kw K w 2) (fun i => kw K w (4 + i)) n i s).1 = kw K w 3 - 1)) → TS κ2 K (lookK K (kw K w 2) (fun i => kw K w (4 + i)) n i s).1 (lookK K (kw K w 2) (fun i => kw K w (4 + i)) n i s).2 → Wp (d + 9) md_63 106 [some (.ref 280), some (.ref r), some (.int (nI w)), some (.ref (r + 26 + 2 * w)), z4', z5'] [] (cset M κ2) Q) → Wp (d + 9) md_63 35 [some (.ref 280), some (.ref r), some (.int (nI w)), some (.ref (r + 26 + 2 * w)), some (.int (nI i)), z5] [] (cset M κ1) Q := by
  intro n
  obtain ⟨b0, b1, b2, b3, b4, b5, b6, b7, b8, b9, b10, b11, b12⟩ := ok_h ok
  have t := ok_walk ok hw
  have q := rc_walk hK hw
  have hRc : ∀ κ : CS, RA (cset M κ) r ρ := fun κ => RA_c hR h1 h2
  have hwk : ∀ κ : CS, cset M κ (r + 26 + 2 * w) = .inr (7, wfs (rwk ρ w) (r + 27 + 2 * w)) := fun κ => ra_walk (hRc κ) (by omega)
  induction n with
  | zero =>
    intro i s κ1 z5 hi hF hl hT hS k
    refine Wp.n (pc' := 38) 2 rfl ?_
    refine Wp.get (len := 3) rfl (hwk _) rfl ?_
    refine Wp.top q.2.2.2.1 ?_
    refine Wp.nc3 (x := i) (y := kw K w 3 - 1) (tgt := 106) (len := 3) rfl (by omega) (by omega) (fun h41 => ?_) (fun h41 => ?_)
    · skip
      refine k κ1 _ _ hF ?_ hT
      rw [hl, decide_eq_true (by show i = _; omega)]
      rfl
    · omega
  | succ n ih =>
    intro i s κ1 z5 hi hF hl hT hS k
    have p0 := t.2.2.2.2.2.2.1 i (by omega)
    have p1 := t.2.2.2.2.2.2.1 (i + 1) (by omega)
    unfold lookK at k
    refine Wp.n (pc' := 38) 2 rfl ?_
    refine Wp.get (len := 3) rfl (hwk _) rfl ?_
    refine Wp.top q.2.2.2.1 ?_
    refine Wp.nc3 (x := i) (y := kw K w 3 - 1) (tgt := 106) (len := 3) rfl (by omega) (by omega) (fun h41 => ?_) (fun h41 => ?_)
    · omega
    · skip
      refine Wp.n (pc' := 45) 1 rfl ?_
      refine Wp.get (len := 3) rfl (rfl) rfl ?_
      refine Wp.top (show _ = nI 1 from hl) ?_
      refine Wp.nz0 (x := 1) (tgt := 106) (len := 3) rfl (by omega) (fun h48 => ?_) (fun h48 => ?_)
      · omega
      · skip
        refine Wp.n (pc' := 55) 3 rfl ?_
        refine Wp.ecallV (len := 3) rfl rfl rfl (hwk _) rfl (by omega) rfl (k_stopAt (hRc _) hK ok hw (i := i) (by omega)) ?_
        refine Wp.n (pc' := 62) 3 rfl ?_
        refine Wp.iaddN (x := i) (y := 1) (len := 1) rfl ?_
        refine Wp.ecallV (len := 3) rfl rfl rfl (hwk _) rfl (by omega) rfl (k_stopAt (hRc _) hK ok hw (i := i + 1) (by omega)) ?_
        refine Wp.n (pc' := 67) 1 rfl ?_
        refine Wp.get (len := 3) rfl (hwk _) rfl ?_
        refine Wp.top q.2.2.1 ?_
        refine Wp.ecallV (len := 3) rfl rfl rfl (ra_obj (hRc _)) rfl (by omega) rfl (k_linkOf (hRc _) hK ok (by omega) (by omega) (by omega) (by omega)) ?_
        rcases hj : joinK K (kw K w (4 + i)) (kw K w (4 + (i + 1))) (kw K w 2) with _ | j
        · rw [show joinK K (kw K w (4 + i)) (kw K w (4 + (i + 1))) (kw K w 2) = none from hj] at k
          refine Wp.n (pc' := 78) 3 rfl ?_
          refine Wp.s (pc' := 85) rfl ?_
          refine Wp.n (pc' := 86) 1 rfl ?_
          refine Wp.cput11Z (len := 3) rfl rfl ?_
          refine Wp.n (pc' := 91) 1 rfl ?_
          refine Wp.s (pc' := 100) rfl ?_
          refine Wp.incN (x := i) (len := 3) rfl rfl ?_
          refine Wp.n (pc' := 35) 1 rfl ?_
          refine Wp.n (pc' := 38) 2 rfl ?_
          refine Wp.get (len := 3) rfl (hwk _) rfl ?_
          refine Wp.top q.2.2.2.1 ?_
          refine Wp.nc3 (x := i + 1) (y := kw K w 3 - 1) (tgt := 106) (len := 3) rfl (by omega) (by omega) (fun h41 => ?_) (fun h41 => ?_)
          · skip
            refine k (cf κ1 11 1 0) _ _ (hF.f rfl) ?_ hT
            rw [decide_eq_false (by show ¬ i = _; omega)]
            rfl
          · skip
            refine Wp.n (pc' := 45) 1 rfl ?_
            refine Wp.get (len := 3) rfl (rfl) rfl ?_
            refine Wp.top (show _ = nI 0 from rfl) ?_
            refine Wp.nz0 (x := 0) (tgt := 106) (len := 3) rfl (by omega) (fun h48 => ?_) (fun h48 => ?_)
            · skip
              refine k (cf κ1 11 1 0) _ _ (hF.f rfl) ?_ hT
              rw [decide_eq_false (by show ¬ i = _; omega)]
              rfl
            · omega
        · rw [show joinK K (kw K w (4 + i)) (kw K w (4 + (i + 1))) (kw K w 2) = some j from hj] at k
          refine Wp.n (pc' := 78) 3 rfl ?_
          refine Wp.s (pc' := 81) rfl ?_
          refine Wp.n (pc' := 86) 2 rfl ?_
          refine Wp.cput11Z (len := 3) rfl rfl ?_
          refine Wp.n (pc' := 91) 1 rfl ?_
          refine Wp.s (pc' := 94) rfl ?_
          refine Wp.n (pc' := 97) 2 rfl ?_
          refine Wp.callV (len := 3) rfl rfl rfl (rfl) rfl (by omega) rfl (t_goBy (d := d + 7) hR hK ok h1 h2 (κ := cf κ1 11 1 1) hT hS (by omega) (joinK_v ok hj)) ?_
          rintro _ _ ⟨rfl, κ2, rfl, hF2, hl2, hT2⟩
          refine Wp.incN (x := i) (len := 3) rfl rfl ?_
          refine Wp.n (pc' := 35) 1 rfl ?_
          exact ih (i + 1) (addJ K s j) κ2 _ (by omega) ((hF.f rfl).t hF2) hl2 hT2 (SB_s ok hS (joinK_v ok hj)) k

/-- the trip's fields after a walk was followed -/
def TW (κ : CS) (K : KD) (w : Nat) : Prop := TS κ K (TRr K w).1 (TRr K w).2 ∧ κ.1 11 1 = bI (lawK K w) ∧ κ.1 11 4 = nI (savW K w) ∧ κ.1 11 5 = nI (dutW K w)
theorem t_follow (hk : RK M r K) {w : Nat} (hw : w < kh K 4) : Wp (d + 9) md_63 0 [some (.ref 280), some (.ref r), some (.int (nI w)), none, none, none] [] (cset M κ) (fun v M' => v = none ∧ ∃ κ', M' = cset M κ' ∧ Fc [11] [12] [] κ κ' ∧ TW κ' K w) := by
  obtain ⟨ρ, hR, hK, hD, ok, h1, h2⟩ := hk
  obtain ⟨b0, b1, b2, b3, b4, b5, b6, b7, b8, b9, b10, b11, b12⟩ := ok_h ok
  have t := ok_walk ok hw
  have q := rc_walk hK hw
  have hRc : ∀ κ : CS, RA (cset M κ) r ρ := fun κ => RA_c hR h1 h2
  have hwk : ∀ κ : CS, cset M κ (r + 26 + 2 * w) = .inr (7, wfs (rwk ρ w) (r + 27 + 2 * w)) := fun κ => ra_walk (hRc κ) (by omega)
  have p0 := t.2.2.2.2.2.2.1 0 (by omega)
  have p1 := t.2.2.2.2.2.2.1 (kw K w 3 - 1) (by omega)
  rw [show 4 + (kw K w 3 - 1) = 3 + kw K w 3 by omega] at p1
  have tb := (TRr_b ok hw).1
  have tl : (TRr K w).2.1 ≤ 774 := tb.1
  have hbl := bitsC_lt ok tb.2.2
  have hsb : savW K w ≤ 774 := savK_b ok p0
  refine Wp.n (pc' := 1) 1 rfl ?_
  refine Wp.get (len := 3) rfl (ra_obj (hRc _)) rfl ?_
  refine Wp.n (pc' := 5) 1 rfl ?_
  refine Wp.aaldN (j := w) (len := 1) rfl (ra_walks (hRc _)) rfl (by omega) (by decide) (if_pos (by omega)) ?_
  refine Wp.n (pc' := 9) 3 rfl ?_
  refine Wp.cput11 0 rfl (len := 3) rfl ?_
  refine Wp.n (pc' := 14) 2 rfl ?_
  refine Wp.cput11Z (len := 3) rfl rfl ?_
  refine Wp.n (pc' := 19) 2 rfl ?_
  refine Wp.cput11 2 rfl (len := 3) rfl ?_
  refine Wp.n (pc' := 24) 2 rfl ?_
  refine Wp.cput11 3 rfl (len := 3) rfl ?_
  refine Wp.n (pc' := 29) 2 rfl ?_
  refine Wp.cput11 7 rfl (len := 3) rfl ?_
  refine Wp.n (pc' := 35) 2 rfl ?_
  refine t_follow_l (d := d) (κ := κ) hR hK ok h1 h2 hw (kw K w 3 - 1) 0 (0, []) _ _ (by omega) (((((Fc.r.f rfl).f rfl).f rfl).f rfl).f rfl) rfl ⟨rfl, rfl, rfl, rfl, fun i hi => absurd hi (Nat.not_lt_zero i)⟩ ⟨Nat.le_refl _, Nat.le_refl _, fun l hl => absurd hl List.not_mem_nil⟩ (fun κ2 z4 z5 hF2 hl2 hT2 => ?_)
  obtain ⟨t0, t2, t3, t7, ta⟩ := id hT2
  refine Wp.n (pc' := 109) 3 rfl ?_
  refine Wp.ecallV (len := 3) rfl rfl rfl (hwk _) rfl (by omega) rfl (k_first (hRc _) hK ok (by omega) hw) ?_
  refine Wp.n (pc' := 113) 1 rfl ?_
  refine Wp.ecallV (len := 3) rfl rfl rfl (hwk _) rfl (by omega) rfl (k_last (hRc _) hK ok (by omega) hw) ?_
  refine Wp.ecallV (len := 3) rfl rfl rfl (ra_obj (hRc _)) rfl (by omega) rfl (k_byRoad (hRc _) hD ok p0 p1) ?_
  refine Wp.n (pc' := 120) 1 rfl ?_
  refine Wp.get (len := 3) rfl (rfl) rfl ?_
  refine Wp.top t2 ?_
  refine Wp.ecallS (len := 3) rfl rfl rfl rfl (k_sparedOf ok p0 (show (TRr K w).2.1 ≤ 2000 by omega)) ?_
  refine Wp.cput11 4 rfl (len := 3) rfl ?_
  refine Wp.n (pc' := 130) 1 rfl ?_
  refine Wp.get (len := 3) rfl (rfl) rfl ?_
  refine Wp.top t3 ?_
  refine Wp.n (pc' := 134) 1 rfl ?_
  refine Wp.ecallV (len := 3) rfl rfl rfl (ra_obj (hRc _)) rfl (by omega) rfl (k_boatLanes (hRc _) hK ok) ?_
  refine Wp.n (pc' := 138) 1 rfl ?_
  refine Wp.top (n_and _ _) ?_
  refine Wp.nz0 (x := bitsC K (TRr K w).2.2 &&& boatC K) (tgt := 145) (len := 3) rfl (Nat.lt_of_le_of_lt Nat.and_le_left (by omega)) (fun h138 => ?_) (fun h138 => ?_)
  · have hbt : boatK K (TRr K w).2.2 = false := (boatC_and ok tb.2.2).mp h138
    refine Wp.n (pc' := 151) 4 rfl ?_
    refine Wp.nz0 (x := 0) (tgt := 158) (len := 3) rfl (by omega) (fun h151 => ?_) (fun h151 => ?_)
    · skip
      refine Wp.n (pc' := 159) 1 rfl ?_
      refine Wp.get (len := 3) rfl (ra_obj (hRc _)) rfl ?_
      refine Wp.n (pc' := 163) 1 rfl ?_
      refine Wp.get (len := 3) rfl (rfl) rfl ?_
      refine Wp.top (show _ = nI (savW K w) from rfl) ?_
      refine Wp.n (pc' := 167) 1 rfl ?_
      refine Wp.get (len := 3) rfl (hwk _) rfl ?_
      refine Wp.top q.2.1 ?_
      refine Wp.n (pc' := 171) 1 rfl ?_
      refine Wp.get (len := 3) rfl (hwk _) rfl ?_
      refine Wp.top q.2.2.1 ?_
      refine Wp.ecallV (len := 3) rfl rfl rfl (ra_law (hRc _)) rfl (by omega) rfl (k_dutyOn (hRc _) hK ok (by omega) hsb (by omega) (by omega)) ?_
      refine Wp.cput11 5 rfl (len := 3) rfl ?_
      refine Wp.retV (len := 1) rfl rfl ?_
      refine ⟨rfl, _, rfl, (hF2.f rfl).f rfl, hT2, hl2, rfl, ?_⟩
      show _ = nI (dutyS K (boatK K (TRr K w).2.2) (savW K w) (kw K w 2) (kw K w 1))
      rw [hbt]
      first
        | rfl
        | (unfold dutyS; rw [if_pos (Or.inl rfl)]; rfl)
    · omega
  · have hbt : boatK K (TRr K w).2.2 = true := by
      cases e : boatK K (TRr K w).2.2 with
      | true => rfl
      | false => exact absurd ((boatC_and ok tb.2.2).mpr e) h138
    refine Wp.n (pc' := 151) 5 rfl ?_
    refine Wp.nz0 (x := 1) (tgt := 158) (len := 3) rfl (by omega) (fun h151 => ?_) (fun h151 => ?_)
    · omega
    · skip
      refine Wp.n (pc' := 177) 2 rfl ?_
      refine Wp.cput11 5 rfl (len := 3) rfl ?_
      refine Wp.retV (len := 1) rfl rfl ?_
      refine ⟨rfl, _, rfl, (hF2.f rfl).f rfl, hT2, hl2, rfl, ?_⟩
      show _ = nI (dutyS K (boatK K (TRr K w).2.2) (savW K w) (kw K w 2) (kw K w 1))
      rw [hbt]
      first
        | rfl
        | (unfold dutyS; rw [if_pos (Or.inl rfl)]; rfl)

end TRIP
end
section
/-! ALL WAYS: what each is, how many there are at most; what the best is. -/
theorem loopL_mem {α : Type} {g : Nat → List α} {w : α} : ∀ {n p : Nat}, w ∈ loopL g n p → ∃ q, p ≤ q ∧ q < p + n ∧ w ∈ g q
  | 0, _, h => by cases h
  | n + 1, p, h => by
    unfold loopL at h
    rcases List.mem_append.mp h with h | h
    · exact ⟨p, Nat.le_refl _, by omega, h⟩
    · obtain ⟨q, h1, h2, h3⟩ := loopL_mem h
      exact ⟨q, by omega, by omega, h3⟩
theorem dfs_pv {K : KD} {y t : Nat} : ∀ (f : Nat) (ps : List Nat) (q : Nat) (s : Nat × List Nat), PV K y ps q s → ∀ w, w ∈ dfs K y t f ps q s → PV K y w.1 t w.2 ∧ w.1.getD 0 0 = ps.getD 0 0
  | 0, _, _, _, _, _, hw => by cases hw
  | f + 1, ps, q, s, hP, w, hw => by
    unfold dfs at hw
    by_cases hq : q = t
    · rw [if_pos hq, List.mem_singleton] at hw
      subst hw
      subst hq
      exact ⟨hP, rfl⟩
    · rw [if_neg hq] at hw
      obtain ⟨p, h1, h2, h3⟩ := loopL_mem hw
      by_cases hc : ps.contains p = true
      · rw [if_pos hc] at h3
        cases h3
      · rw [if_neg hc] at h3
        cases hj : joinK K q p y with
        | none => rw [hj] at h3; cases h3
        | some j =>
          rw [hj] at h3
          obtain ⟨a1, a2⟩ := dfs_pv f (ps ++ [p]) p (addJ K s j) (PV_s hP (by omega) (by cases e : ps.contains p with | false => rfl | true => exact absurd e hc) hj) w h3
          refine ⟨a1, a2.trans (getD_app ?_)⟩
          have := hP.1
          omega
theorem allW_pv {K : KD} {y t a : Nat} (ha : a < kh K 0) {w : List Nat × Nat × List Nat} (hw : w ∈ allW K y a t) : PV K y w.1 t w.2 ∧ w.1.getD 0 0 = a := by
  have h := dfs_pv 7 [a] a (0, []) (PV_1 ha) w hw
  exact ⟨h.1, h.2⟩
def nb : Nat → Nat
  | 0 => 1
  | m + 1 => 1 + (m + 1) * nb m
theorem loopL_len {α : Type} {g : Nat → List α} {P Q : Nat → Bool} {B : Nat} : ∀ (n p : Nat), (∀ q, p ≤ q → q < p + n → (g q).length ≤ (bif P q then 1 else 0) + (bif Q q then B else 0)) → (loopL g n p).length ≤ fld (fun c q => c + (bif P q then 1 else 0)) n p 0 + fld (fun c q => c + (bif Q q then 1 else 0)) n p 0 * B
  | 0, p, _ => by show 0 ≤ _; omega
  | n + 1, p, h => by
    have ih := loopL_len (g := g) (P := P) (Q := Q) (B := B) n (p + 1) (fun q h1 h2 => h q (by omega) (by omega))
    have hp := h p (Nat.le_refl _) (by omega)
    have sh : ∀ (R : Nat → Bool) (m i c : Nat), fld (fun c q => c + (bif R q then 1 else 0)) m i c = c + fld (fun c q => c + (bif R q then 1 else 0)) m i 0 := by
      intro R m
      induction m with
      | zero => intro i c; rfl
      | succ m ihm =>
        intro i c
        show fld _ m (i + 1) (c + _) = c + fld _ m (i + 1) (0 + _)
        rw [ihm (i + 1) (c + _), ihm (i + 1) (0 + _)]
        omega
    show (g p ++ loopL g n (p + 1)).length ≤ fld _ n (p + 1) (0 + (bif P p then 1 else 0)) + fld _ n (p + 1) (0 + (bif Q p then 1 else 0)) * B
    rw [List.length_append, sh P n (p + 1) (0 + _), sh Q n (p + 1) (0 + _), Nat.add_mul]
    have e : (0 + (bif Q p then 1 else 0)) * B = bif Q p then B else 0 := by cases Q p <;> simp
    rw [e]
    omega
theorem fld_cn (P : Nat → Bool) : ∀ n, fld (fun c q => c + (bif P q then 1 else 0)) n 0 0 = cn P n
  | 0 => rfl
  | n + 1 => by
    rw [fld_s, fld_cn P n, Nat.zero_add]
    show cn P n + _ = cn P n + (P n).toNat
    cases h : P n <;> rfl
theorem nb_mono : ∀ {a b : Nat}, a ≤ b → nb a ≤ nb b
  | a, 0, h => by rw [Nat.le_zero.mp h]; exact Nat.le_refl _
  | a, b + 1, h => by
    by_cases e : a = b + 1
    · rw [e]; exact Nat.le_refl _
    · have h1 := nb_mono (a := a) (b := b) (by omega)
      have h2 : nb b ≤ nb (b + 1) := by
        show nb b ≤ 1 + (b + 1) * nb b
        rw [Nat.add_mul]
        omega
      exact Nat.le_trans h1 h2
/-- places that are not yet met, the goal aside -/
def lft (K : KD) (ps : List Nat) (t : Nat) : Nat := cn (fun p => !(ps.contains p) && !(decide (p = t))) (kh K 0)
theorem dfs_len {K : KD} {y t : Nat} : ∀ (f : Nat) (ps : List Nat) (q : Nat) (s : Nat × List Nat), (dfs K y t f ps q s).length ≤ nb (lft K ps t)
  | 0, _, _, _ => Nat.zero_le _
  | f + 1, ps, q, s => by
    unfold dfs
    by_cases hq : q = t
    · rw [if_pos hq]
      exact nb_mono (a := 0) (Nat.zero_le _)
    · rw [if_neg hq]
      have hl : ∀ p, p < kh K 0 → ps.contains p = false → p ≠ t → lft K (ps ++ [p]) t + 1 ≤ lft K ps t := by
        intro p hp hc ht
        refine cn_lt (kh K 0) (fun r hr h => ?_) ⟨p, hp, ?_, ?_⟩
        · simp only [List.contains_append, Bool.not_or, Bool.and_eq_true] at h ⊢
          exact ⟨h.1.1, h.2⟩
        · simp
        · rw [hc]; simp [ht]
      obtain ⟨m, hm⟩ : ∃ m, lft K ps t = m := ⟨_, rfl⟩
      refine Nat.le_trans (loopL_len (P := fun p => decide (p = t)) (Q := fun p => !(ps.contains p) && !(decide (p = t))) (B := nb (m - 1)) (kh K 0) 0 (fun p h1 h2 => ?_)) ?_
      · skip
        by_cases hc : ps.contains p = true
        · rw [if_pos hc]; exact Nat.zero_le _
        · rw [if_neg hc]
          have hc' : ps.contains p = false := by cases e : ps.contains p with | false => rfl | true => exact absurd e hc
          cases hj : joinK K q p y with
          | none => exact Nat.zero_le _
          | some j =>
            dsimp only
            by_cases ht : p = t
            · rw [decide_eq_true ht]
              have : (dfs K y t f (ps ++ [p]) p (addJ K s j)).length ≤ 1 := by
                cases f with
                | zero => exact Nat.zero_le _
                | succ f => unfold dfs; rw [if_pos ht]; exact Nat.le_refl _
              show _ ≤ 1 + _
              omega
            · rw [decide_eq_false ht, hc']
              have := dfs_len (K := K) (y := y) (t := t) f (ps ++ [p]) p (addJ K s j)
              have := hl p (by omega) hc' ht
              have := nb_mono (a := lft K (ps ++ [p]) t) (b := m - 1) (by omega)
              show _ ≤ 0 + nb (m - 1)
              omega
      rw [fld_cn, fld_cn]
      have e1 : cn (fun p => decide (p = t)) (kh K 0) ≤ 1 := by
        rw [cn_one]
        split <;> omega
      have e2 : cn (fun p => !(ps.contains p) && !(decide (p = t))) (kh K 0) = m := hm
      rw [e2, hm]
      cases m with
      | zero =>
        rw [Nat.zero_mul]
        show _ ≤ 1
        omega
      | succ m =>
        show _ ≤ 1 + (m + 1) * nb m
        rw [show m + 1 - 1 = m from rfl]
        omega
theorem allW_len {K : KD} (ok : KOK K) {y t a : Nat} (ha : a < kh K 0) (ht : t < kh K 0) : (allW K y a t).length ≤ 326 := by
  by_cases e : a = t
  · unfold allW dfs
    rw [if_pos e]
    show 1 ≤ 326
    decide
  · refine Nat.le_trans (dfs_len 7 [a] a (0, [])) ?_
    have h0 := (ok_h ok).1
    have h1 : lft K [a] t + 2 ≤ kh K 0 := by
      have c1 := cn_or (P := fun p => !([a].contains p) && !(decide (p = t))) (Q := fun p => decide (p = a) || decide (p = t)) (kh K 0) (fun q h => by
        obtain ⟨h2, h3⟩ := h
        simp at h2 h3
        omega)
      have c2 := cn_or (P := fun p => decide (p = a)) (Q := fun p => decide (p = t)) (kh K 0) (fun q h => by
        obtain ⟨h2, h3⟩ := h
        simp at h2 h3
        omega)
      rw [cn_one, cn_one, if_pos ha, if_pos ht] at c2
      have c3 := cn_le (P := fun q => (!([a].contains q) && !(decide (q = t))) || (decide (q = a) || decide (q = t))) (Q := fun _ => true) (kh K 0) (fun _ _ _ => rfl)
      rw [cn_all] at c3
      have c4 : lft K [a] t = cn (fun p => !([a].contains p) && !(decide (p = t))) (kh K 0) := rfl
      omega
    exact nb_mono (a := lft K [a] t) (b := 5) (by omega)
section FIN
variable {K : KD}
/-- what a run of meets keeps -/
def FI (aim k : Nat) (st : MT) : Prop := MB st ∧ st.1 ≤ k ∧ (aim ≤ 2 → 0 < st.1 → st.2.1 ≤ 766260 ∧ st.2.2.1 ≤ 774 ∧ ∃ dq pq, st.2.2.2.2 = some (dq, pq) ∧ dq ≤ 689634 ∧ 1 ≤ pq.length ∧ pq.length ≤ 7 ∧ ∀ p, p ∈ pq → p < kh K 0)
theorem cW_b2 (ok : KOK K) {aim dd : Nat} {s : Nat × List Nat} (hs : s.1 ≤ 774) (hd : dd ≤ 689634) : cW K aim dd s ≤ 766260 := by
  unfold cW
  have b8 := (ok_h ok).2.2.2.2.2.2.2.2.1
  split
  · have := Nat.mul_le_mul b8 hs
    omega
  · omega
theorem FI_s (ok : KOK K) {aim a b y load dn k : Nat} {st : MT} {w : List Nat × Nat × List Nat} (ha : a < kh K 0) (hl : load ≤ 9) (hw : PV K y w.1 b w.2) (h : FI (K := K) aim k st) (hb : st.1 = 0 → st = st0) : FI (K := K) aim (k + 1) (meet K aim a b y load dn st w) ∧ ((meet K aim a b y load dn st w).1 = 0 → meet K aim a b y load dn st w = st0) := by
  have hs : w.2.1 ≤ 774 := (PV_sb ok hw).1
  have hlen := PV_len ok hw
  have h0 := (ok_h ok).1
  have hd : dW K a b y load w.2 ≤ 689634 := dutyS_b ok (savK_b ok ha) hl
  have hc := cW_b2 (aim := aim) ok hs hd
  have hm := meet_b (aim := aim) (b := b) (y := y) (dn := dn) (w := w) ok hs ha hl h.1
  obtain ⟨h1, h2, h3⟩ := h
  refine ⟨⟨hm, ?_, ?_⟩, ?_⟩
  · unfold meet
    split
    · omega
    · split
      · split
        · show st.1 + 1 ≤ _; omega
        · omega
      · split
        · show st.1 + 1 ≤ _; omega
        · show st.1 + 1 ≤ _; omega
  · intro haim
    unfold meet
    split
    · exact h3 haim
    · rw [if_neg (by omega)]
      split
      · rename_i hcc
        intro _
        by_cases e : 0 < st.1
        · exact h3 haim e
        · exfalso
          rw [hb (by omega)] at hcc
          unfold st0 at hcc
          rcases hcc with q | q
          · have q' : 100000000 < cW K aim (dW K a b y load w.2) w.2 := q
            omega
          · have q' : cW K aim (dW K a b y load w.2) w.2 = 100000000 := q.1
            omega
      · intro _
        refine ⟨hc, hs, _, _, rfl, ?_, hw.1, by omega, hw.2.2.2.1⟩
        split
        · exact hd
        · omega
  · unfold meet
    split
    · exact hb
    · split
      · split
        · intro q; exact absurd q (Nat.succ_ne_zero _)
        · exact hb
      · split
        · intro q; exact absurd q (Nat.succ_ne_zero _)
        · intro q; exact absurd q (Nat.succ_ne_zero _)
theorem FI_all (ok : KOK K) {aim a b y load dn : Nat} (ha : a < kh K 0) (hl : load ≤ 9) : ∀ (ws : List (List Nat × Nat × List Nat)) (st : MT) (k : Nat), (∀ w, w ∈ ws → PV K y w.1 b w.2) → FI (K := K) aim k st → (st.1 = 0 → st = st0) → FI (K := K) aim (k + ws.length) (List.foldl (meet K aim a b y load dn) st ws)
  | [], st, k, _, h, _ => h
  | w :: ws, st, k, hw, h, hb => by
    obtain ⟨h1, h2⟩ := FI_s (dn := dn) ok ha hl (hw w List.mem_cons_self) h hb
    have := FI_all ok (dn := dn) ha hl ws _ (k + 1) (fun v hv => hw v (List.mem_cons_of_mem _ hv)) h1 h2
    rw [show k + 1 + ws.length = k + (w :: ws).length by rw [List.length_cons]; omega] at this
    exact this
theorem fin_i (ok : KOK K) {aim a t y load dn : Nat} (ha : a < kh K 0) (ht : t < kh K 0) (hl : load ≤ 9) : FI (K := K) aim 326 (fin K aim a t y load dn) := by
  have h := FI_all ok (aim := aim) (b := t) (y := y) (dn := dn) ha hl (allW K y a t) st0 0 (fun w hw => (allW_pv ha hw).1) ⟨⟨Nat.le_refl _, Nat.le_refl _⟩, Nat.le_refl _, fun _ q => absurd q (Nat.lt_irrefl 0)⟩ (fun _ => rfl)
  have := allW_len ok (y := y) ha ht
  exact ⟨h.1, Nat.le_trans h.2.1 (by omega), h.2.2⟩
end FIN
def bD (f : MT) : Nat := match f.2.2.2.2 with | none => 0 | some b => b.1
def bP (f : MT) : List Nat := match f.2.2.2.2 with | none => [] | some b => b.2
end
section
/-! THE REFERENCE'S QUESTIONS: roads, lanes, what joins, a walk's facts; all that seeks. -/
theorem isT_of {K : KD} {x y z : Int32} (h : isT K x y z = true) : ∃ a t v : Nat, a < kh K 0 ∧ t < kh K 0 ∧ v < kh K 1 ∧ a ≠ t ∧ x = nI a ∧ y = nI t ∧ z = nI v := by
  unfold isT areT at h
  simp only [Bool.and_eq_true, Bool.not_eq_true', decide_eq_false_iff_not] at h
  obtain ⟨⟨⟨h1, h2⟩, h3⟩, h4⟩ := h
  obtain ⟨a, ha, rfl⟩ := isN_of h1
  obtain ⟨t, ht, rfl⟩ := isN_of h2
  obtain ⟨v, hv, rfl⟩ := isN_of h4
  exact ⟨a, t, v, ha, ht, hv, fun e => h3 (by rw [e]), rfl, rfl, rfl⟩
theorem areT_of {K : KD} {x y : Int32} (h : areT K x y = true) : ∃ a t : Nat, a < kh K 0 ∧ t < kh K 0 ∧ a ≠ t ∧ x = nI a ∧ y = nI t := by
  unfold areT at h
  simp only [Bool.and_eq_true, Bool.not_eq_true', decide_eq_false_iff_not] at h
  obtain ⟨⟨h1, h2⟩, h3⟩ := h
  obtain ⟨a, ha, rfl⟩ := isN_of h1
  obtain ⟨t, ht, rfl⟩ := isN_of h2
  exact ⟨a, t, ha, ht, fun e => h3 (by rw [e]), rfl, rfl⟩
/-- a number from lo to hi -/
def isR (lo hi : Nat) (x : Int32) : Bool := decide ((lo : Int) ≤ x.toInt ∧ x.toInt ≤ (hi : Int))
theorem isR_of {lo hi : Nat} {x : Int32} (h : isR lo hi x = true) : ∃ m : Nat, lo ≤ m ∧ m ≤ hi ∧ m < 2 ^ 31 ∧ x = nI m := by
  have h1 := of_decide_eq_true h
  obtain ⟨a, ha, rfl⟩ := nI_of (x := x) (by rw [i_lt]; intro q; have : x.toInt < 0 := q; omega)
  rw [nI_toInt ha] at h1
  exact ⟨a, by omega, by omega, ha, rfl⟩
def roadA (K : KD) (x y : Int32) : Int32 := if (isN (kh K 0) x && isN (kh K 0) y) = true then dI (distK K x.toNatClampNeg y.toNatClampNeg) else -2
def wayQ (K : KD) (x y i : Int32) : Int32 := if (isN (kh K 0) x && isN (kh K 0) y) = true then wayA K x.toNatClampNeg y.toNatClampNeg i else -2
def openA (K : KD) (x y : Int32) : Int32 := if isN (kh K 3) x = true ∧ isN (kh K 1) y = true then bI (openK K x.toNatClampNeg y.toNatClampNeg) else -2
def joinsA (K : KD) (x y z : Int32) : Int32 := if isT K x y z = true then oI (joinK K x.toNatClampNeg y.toNatClampNeg z.toNatClampNeg) else -2
def walkQ (K : KD) (w k : Nat) : Nat := if k < 3 then kw K w k else if k = 3 then kw K w 4 else if k = 4 then kw K w (3 + kw K w 3) else kw K w 3 - 1
def walkA (K : KD) (x y : Int32) : Int32 := if isN (kh K 4) x = true ∧ isN 6 y = true then nI (walkQ K x.toNatClampNeg y.toNatClampNeg) else -2
def shortW (f : MT) : Int32 := if f.1 = 0 then -1 else nI f.2.2.1
def bestW (f : MT) (k : Nat) : Int32 := if f.1 = 0 then -1 else if k = 0 then nI f.2.1 else if k = 1 then nI f.2.2.1 else if k = 2 then nI (bD f) else nI (bP f).length
def goesW (f : MT) (i : Int32) : Int32 := if 0 < f.1 ∧ isN (bP f).length i = true then nI ((bP f).getD i.toNatClampNeg 0) else -1
def shortestA (K : KD) (x y z : Int32) : Int32 := if isT K x y z = true then shortW (fin K 0 x.toNatClampNeg y.toNatClampNeg z.toNatClampNeg 1 0) else -2
def hiddenA (K : KD) (x y z : Int32) : Int32 := if isT K x y z = true then shortW (fin K 1 x.toNatClampNeg y.toNatClampNeg z.toNatClampNeg 1 0) else -2
def waysA (K : KD) (x y z : Int32) : Int32 := if isT K x y z = true then nI (fin K 0 x.toNatClampNeg y.toNatClampNeg z.toNatClampNeg 1 0).1 else -2
def bestA (K : KD) (x y z l k : Int32) : Int32 := if isT K x y z = true ∧ isR 1 9 l = true ∧ isN 4 k = true then bestW (fin K 2 x.toNatClampNeg y.toNatClampNeg z.toNatClampNeg l.toNatClampNeg 0) k.toNatClampNeg else -2
def goesA (K : KD) (x y z l i : Int32) : Int32 := if isT K x y z = true ∧ isR 1 9 l = true then goesW (fin K 2 x.toNatClampNeg y.toNatClampNeg z.toNatClampNeg l.toNatClampNeg 0) i else -2
section RQ2
variable {d : Nat} {M : AM} {σ σ' : MS} {K : KD} {Q : Option Value → AM → Prop}

theorem m_road (hM : MK σ K) (x y : Int32) : Wp (d + 2) md_186 0 [some (.ref 287), some (.int x), some (.int y)] [] (mset M σ) (RI M σ (roadA K x y)) := by
  have ok := hM.2.1
  have hσ0 := hM.2.2.2
  obtain ⟨b0, b1, b2, b3, b4, b5, b6, b7, b8, b9, b10, b11, b12⟩ := ok_h ok
  unfold roadA
  refine Wp.n (pc' := 2) 2 rfl ?_
  refine Wp.mput0 (len := 3) rfl hσ0 ?_
  refine Wp.n (pc' := 7) 2 rfl ?_
  refine Wp.ecallV (len := 3) rfl rfl rfl (rfl) rfl (by decide) rfl (m_isPlaceK hM.1 ok _) ?_
  refine Wp.ifb0 (tgt := 30) (len := 3) rfl (fun h10 => ?_) (fun h10 => ?_)
  · skip
    refine Wp.n (pc' := 32) 1 rfl ?_
    refine Wp.retI (len := 1) rfl rfl ?_
    first
      | exact RI_s (Scr_13 Scr_r) rfl
      | (rw [if_neg (by rw [h10, Bool.false_and]; decide)]; exact RI_r rfl)
      | (rw [if_neg (by rw [h18, Bool.and_false]; decide)]; exact RI_r rfl)
  · skip
    refine Wp.n (pc' := 15) 2 rfl ?_
    refine Wp.ecallV (len := 3) rfl rfl rfl (rfl) rfl (by decide) rfl (m_isPlaceK hM.1 ok _) ?_
    refine Wp.ifb0 (tgt := 30) (len := 3) rfl (fun h18 => ?_) (fun h18 => ?_)
    · skip
      refine Wp.n (pc' := 32) 1 rfl ?_
      refine Wp.retI (len := 1) rfl rfl ?_
      first
        | exact RI_s (Scr_13 Scr_r) rfl
        | (rw [if_neg (by rw [h10, Bool.false_and]; decide)]; exact RI_r rfl)
        | (rw [if_neg (by rw [h18, Bool.and_false]; decide)]; exact RI_r rfl)
    · skip
      obtain ⟨a, ha, rfl⟩ := isN_of h10
      obtain ⟨t, ht, rfl⟩ := isN_of h18
      rw [if_pos (by rw [h10, h18]; rfl), nI_clamp (by omega), nI_clamp (by omega)]
      refine Wp.n (pc' := 24) 3 rfl ?_
      refine Wp.callV (len := 3) rfl rfl rfl (rfl) rfl (by decide) rfl (m_byRoad hM.1 ok ha (by omega)) ?_
      rintro _ _ ⟨rfl, h, rfl, hh⟩
      refine Wp.n (pc' := 32) 1 rfl ?_
      refine Wp.retI (len := 1) rfl rfl ?_
      first
        | exact RI_s (Scr_13 Scr_r) rfl
        | (rw [if_neg (by rw [h10, Bool.false_and]; decide)]; exact RI_r rfl)
        | (rw [if_neg (by rw [h18, Bool.and_false]; decide)]; exact RI_r rfl)

theorem m_wayQ (hM : MK σ K) (x y i : Int32) : Wp (d + 3) md_190 0 [some (.ref 287), some (.int x), some (.int y), some (.int i), none, none, none, none] [] (mset M σ) (RI M σ (wayQ K x y i)) := by
  refine Wp.mono (m_way hM.1 hM.2.1 hM.2.2.2 x y i) ?_
  rintro _ _ ⟨rfl, h, rfl⟩
  exact RI_s (Scr_13 Scr_r) rfl
theorem m_open (hM : MK σ K) (x y : Int32) : Wp (d + 2) md_192 0 [some (.ref 287), some (.int x), some (.int y)] [] (mset M σ) (RI M σ (openA K x y)) := by
  have ok := hM.2.1
  have hσ0 := hM.2.2.2
  obtain ⟨b0, b1, b2, b3, b4, b5, b6, b7, b8, b9, b10, b11, b12⟩ := ok_h ok
  unfold openA
  refine Wp.n (pc' := 2) 2 rfl ?_
  refine Wp.mput0 (len := 3) rfl hσ0 ?_
  refine Wp.n (pc' := 13) 6 rfl ?_
  refine Wp.mialdN (j := 3) (len := 1) rfl rfl rfl (by omega) ?_
  refine Wp.n (pc' := 17) 3 rfl ?_
  refine Wp.ecallS (len := 3) rfl rfl rfl rfl (m_in _ _ _) ?_
  refine Wp.ifb0 (tgt := 48) (len := 3) rfl (fun h20 => ?_) (fun h20 => ?_)
  · rw [show (0 : Int64).toInt = 0 from rfl, il_toInt, il_toInt, isN_le (n := kh K 3) (by omega) (r0_has hM.1 (by decide))] at h20
    refine Wp.n (pc' := 50) 1 rfl ?_
    refine Wp.retI (len := 1) rfl rfl ?_
    first
      | exact RI_s Scr_r (by rw [h37]; rfl)
      | (rw [if_neg (fun q => by rw [h20] at q; exact absurd q.1 (by decide))]; exact RI_r rfl)
      | (rw [if_neg (fun q => by rw [h28] at q; exact absurd q.2 (by decide))]; exact RI_r rfl)
  · rw [show (0 : Int64).toInt = 0 from rfl, il_toInt, il_toInt, isN_le (n := kh K 3) (by omega) (r0_has hM.1 (by decide))] at h20
    refine Wp.n (pc' := 25) 2 rfl ?_
    refine Wp.ecallV (len := 3) rfl rfl rfl (rfl) rfl (by decide) rfl (m_isDayK hM.1 ok _) ?_
    refine Wp.ifb0 (tgt := 48) (len := 3) rfl (fun h28 => ?_) (fun h28 => ?_)
    · skip
      refine Wp.n (pc' := 50) 1 rfl ?_
      refine Wp.retI (len := 1) rfl rfl ?_
      first
        | exact RI_s Scr_r (by rw [h37]; rfl)
        | (rw [if_neg (fun q => by rw [h20] at q; exact absurd q.1 (by decide))]; exact RI_r rfl)
        | (rw [if_neg (fun q => by rw [h28] at q; exact absurd q.2 (by decide))]; exact RI_r rfl)
    · skip
      obtain ⟨l, hl, rfl⟩ := isN_of h20
      obtain ⟨v, hv, rfl⟩ := isN_of h28
      rw [if_pos ⟨h20, h28⟩, nI_clamp (by omega), nI_clamp (by omega)]
      refine Wp.n (pc' := 34) 3 rfl ?_
      refine Wp.ecallV (len := 3) rfl rfl rfl (rfl) rfl (by decide) rfl (m_isOpen hM.1 ok (l := l) (y := v) (Or.inl hl) (by omega)) ?_
      refine Wp.ifb0 (tgt := 44) (len := 3) rfl (fun h37 => ?_) (fun h37 => ?_)
      · skip
        refine Wp.n (pc' := 50) 2 rfl ?_
        refine Wp.retI (len := 1) rfl rfl ?_
        first
          | exact RI_s Scr_r (by rw [h37]; rfl)
          | (rw [if_neg (fun q => by rw [h20] at q; exact absurd q.1 (by decide))]; exact RI_r rfl)
          | (rw [if_neg (fun q => by rw [h28] at q; exact absurd q.2 (by decide))]; exact RI_r rfl)
      · skip
        refine Wp.n (pc' := 50) 2 rfl ?_
        refine Wp.retI (len := 1) rfl rfl ?_
        first
          | exact RI_s Scr_r (by rw [h37]; rfl)
          | (rw [if_neg (fun q => by rw [h20] at q; exact absurd q.1 (by decide))]; exact RI_r rfl)
          | (rw [if_neg (fun q => by rw [h28] at q; exact absurd q.2 (by decide))]; exact RI_r rfl)

theorem m_joins (hM : MK σ K) (x y z : Int32) : Wp (d + 3) md_195 0 [some (.ref 287), some (.int x), some (.int y), some (.int z)] [] (mset M σ) (RI M σ (joinsA K x y z)) := by
  have ok := hM.2.1
  have hσ0 := hM.2.2.2
  obtain ⟨b0, b1, b2, b3, b4, b5, b6, b7, b8, b9, b10, b11, b12⟩ := ok_h ok
  unfold joinsA
  refine Wp.n (pc' := 2) 2 rfl ?_
  refine Wp.mput0 (len := 3) rfl hσ0 ?_
  refine Wp.n (pc' := 8) 3 rfl ?_
  refine Wp.ecallV (len := 3) rfl rfl rfl (rfl) rfl (by decide) rfl (m_areTwo hM.1 ok _ _) ?_
  refine Wp.ifb0 (tgt := 32) (len := 3) rfl (fun h11 => ?_) (fun h11 => ?_)
  · skip
    refine Wp.n (pc' := 34) 1 rfl ?_
    refine Wp.retI (len := 1) rfl rfl ?_
    first
      | exact RI_s Scr_r rfl
      | (rw [if_neg (by unfold isT; rw [h11, Bool.false_and]; decide)]; exact RI_r rfl)
      | (rw [if_neg (by unfold isT; rw [h19, Bool.and_false]; decide)]; exact RI_r rfl)
  · skip
    refine Wp.n (pc' := 16) 2 rfl ?_
    refine Wp.ecallV (len := 3) rfl rfl rfl (rfl) rfl (by decide) rfl (m_isDayK hM.1 ok _) ?_
    refine Wp.ifb0 (tgt := 32) (len := 3) rfl (fun h19 => ?_) (fun h19 => ?_)
    · skip
      refine Wp.n (pc' := 34) 1 rfl ?_
      refine Wp.retI (len := 1) rfl rfl ?_
      first
        | exact RI_s Scr_r rfl
        | (rw [if_neg (by unfold isT; rw [h11, Bool.false_and]; decide)]; exact RI_r rfl)
        | (rw [if_neg (by unfold isT; rw [h19, Bool.and_false]; decide)]; exact RI_r rfl)
    · skip
      have hT : isT K x y z = true := by unfold isT; rw [h11, h19]; rfl
      obtain ⟨a, t, v, ha, ht, hv, hat, rfl, rfl, rfl⟩ := isT_of hT
      rw [if_pos hT, nI_clamp (by omega), nI_clamp (by omega), nI_clamp (by omega)]
      refine Wp.n (pc' := 26) 4 rfl ?_
      refine Wp.ecallV (len := 3) rfl rfl rfl (rfl) rfl (by decide) rfl (m_joined hM.1 hM.2.2.1 ok (a := a) (b := t) (y := v) (by omega) (by omega) (by omega)) ?_
      refine Wp.n (pc' := 34) 1 rfl ?_
      refine Wp.retI (len := 1) rfl rfl ?_
      first
        | exact RI_s Scr_r rfl
        | (rw [if_neg (by unfold isT; rw [h11, Bool.false_and]; decide)]; exact RI_r rfl)
        | (rw [if_neg (by unfold isT; rw [h19, Bool.and_false]; decide)]; exact RI_r rfl)

theorem m_walk (hM : MK σ K) (x y : Int32) : Wp (d + 3) md_198 0 [some (.ref 287), some (.int x), some (.int y)] [] (mset M σ) (RI M σ (walkA K x y)) := by
  have ok := hM.2.1
  have hσ0 := hM.2.2.2
  obtain ⟨b0, b1, b2, b3, b4, b5, b6, b7, b8, b9, b10, b11, b12⟩ := ok_h ok
  unfold walkA
  refine Wp.n (pc' := 2) 2 rfl ?_
  refine Wp.mput0 (len := 3) rfl hσ0 ?_
  refine Wp.n (pc' := 7) 2 rfl ?_
  refine Wp.ecallV (len := 3) rfl rfl rfl (rfl) rfl (by decide) rfl (m_isWalkK hM.1 ok _) ?_
  refine Wp.ifb0 (tgt := 25) (len := 3) rfl (fun h10 => ?_) (fun h10 => ?_)
  · skip
    refine Wp.n (pc' := 27) 1 rfl ?_
    refine Wp.retI (len := 1) rfl rfl ?_
    first
      | exact RI_s Scr_r (by rw [if_pos h30])
      | exact RI_s Scr_r (by rw [if_neg (by omega), if_pos h44])
      | exact RI_s Scr_r (by rw [if_neg (by omega), if_neg (by omega), if_pos h57])
      | exact RI_s Scr_r (by rw [if_neg (by omega), if_neg (by omega), if_neg (by omega)])
      | (rw [if_neg (fun q => by rw [h10] at q; exact absurd q.1 (by decide))]; exact RI_r rfl)
      | (rw [if_neg (fun q => by rw [h22] at q; exact absurd q.2 (by decide))]; exact RI_r rfl)
  · skip
    refine Wp.n (pc' := 19) 4 rfl ?_
    refine Wp.ecallS (len := 3) rfl rfl rfl rfl (m_in _ _ _) ?_
    refine Wp.ifb1 (tgt := 28) (len := 3) rfl (fun h22 => ?_) (fun h22 => ?_)
    · rw [in_isN (k := 6) (by decide)] at h22
      obtain ⟨w, hw, rfl⟩ := isN_of h10
      obtain ⟨k, hk, rfl⟩ := isN_of h22
      have tw := ok_walk ok hw
      rw [if_pos ⟨h10, h22⟩, nI_clamp (by omega), nI_clamp (by omega)]
      unfold walkQ
      refine Wp.n (pc' := 30) 2 rfl ?_
      refine Wp.nc3 (x := k) (y := 3) (tgt := 42) (len := 3) rfl (by omega) (by omega) (fun h30 => ?_) (fun h30 => ?_)
      · skip
        refine Wp.n (pc' := 44) 2 rfl ?_
        refine Wp.nc1 (x := k) (y := 3) (tgt := 55) (len := 3) rfl (by omega) (by omega) (fun h44 => ?_) (fun h44 => ?_)
        · skip
          refine Wp.n (pc' := 57) 2 rfl ?_
          refine Wp.nc1 (x := k) (y := 4) (tgt := 68) (len := 3) rfl (by omega) (by omega) (fun h57 => ?_) (fun h57 => ?_)
          · skip
            refine Wp.n (pc' := 70) 2 rfl ?_
            refine Wp.ecallV (len := 3) rfl rfl rfl (rfl) rfl (by decide) rfl (m_many0 hM.1 ok hw) ?_
            refine Wp.n (pc' := 74) 1 rfl ?_
            refine Wp.isubN (x := kw K w 3) (y := 1) (len := 1) rfl (by omega) ?_
            refine Wp.retI (len := 1) rfl rfl ?_
            first
              | exact RI_s Scr_r (by rw [if_pos h30])
              | exact RI_s Scr_r (by rw [if_neg (by omega), if_pos h44])
              | exact RI_s Scr_r (by rw [if_neg (by omega), if_neg (by omega), if_pos h57])
              | exact RI_s Scr_r (by rw [if_neg (by omega), if_neg (by omega), if_neg (by omega)])
              | (rw [if_neg (fun q => by rw [h10] at q; exact absurd q.1 (by decide))]; exact RI_r rfl)
              | (rw [if_neg (fun q => by rw [h22] at q; exact absurd q.2 (by decide))]; exact RI_r rfl)
          · skip
            refine Wp.n (pc' := 62) 2 rfl ?_
            refine Wp.ecallV (len := 3) rfl rfl rfl (rfl) rfl (by decide) rfl (m_to hM.1 ok hw) ?_
            refine Wp.n (pc' := 75) 1 rfl ?_
            refine Wp.retI (len := 1) rfl rfl ?_
            first
              | exact RI_s Scr_r (by rw [if_pos h30])
              | exact RI_s Scr_r (by rw [if_neg (by omega), if_pos h44])
              | exact RI_s Scr_r (by rw [if_neg (by omega), if_neg (by omega), if_pos h57])
              | exact RI_s Scr_r (by rw [if_neg (by omega), if_neg (by omega), if_neg (by omega)])
              | (rw [if_neg (fun q => by rw [h10] at q; exact absurd q.1 (by decide))]; exact RI_r rfl)
              | (rw [if_neg (fun q => by rw [h22] at q; exact absurd q.2 (by decide))]; exact RI_r rfl)
        · skip
          refine Wp.n (pc' := 49) 2 rfl ?_
          refine Wp.ecallV (len := 3) rfl rfl rfl (rfl) rfl (by decide) rfl (m_from hM.1 ok hw) ?_
          refine Wp.n (pc' := 75) 1 rfl ?_
          refine Wp.retI (len := 1) rfl rfl ?_
          first
            | exact RI_s Scr_r (by rw [if_pos h30])
            | exact RI_s Scr_r (by rw [if_neg (by omega), if_pos h44])
            | exact RI_s Scr_r (by rw [if_neg (by omega), if_neg (by omega), if_pos h57])
            | exact RI_s Scr_r (by rw [if_neg (by omega), if_neg (by omega), if_neg (by omega)])
            | (rw [if_neg (fun q => by rw [h10] at q; exact absurd q.1 (by decide))]; exact RI_r rfl)
            | (rw [if_neg (fun q => by rw [h22] at q; exact absurd q.2 (by decide))]; exact RI_r rfl)
      · skip
        refine Wp.n (pc' := 36) 3 rfl ?_
        refine Wp.ecallV (len := 3) rfl rfl rfl (rfl) rfl (by decide) rfl (m_of σ w k (by omega)) ?_
        refine Wp.top (r0_walk hM.1 hw (by omega) rfl) ?_
        refine Wp.n (pc' := 75) 1 rfl ?_
        refine Wp.retI (len := 1) rfl rfl ?_
        first
          | exact RI_s Scr_r (by rw [if_pos h30])
          | exact RI_s Scr_r (by rw [if_neg (by omega), if_pos h44])
          | exact RI_s Scr_r (by rw [if_neg (by omega), if_neg (by omega), if_pos h57])
          | exact RI_s Scr_r (by rw [if_neg (by omega), if_neg (by omega), if_neg (by omega)])
          | (rw [if_neg (fun q => by rw [h10] at q; exact absurd q.1 (by decide))]; exact RI_r rfl)
          | (rw [if_neg (fun q => by rw [h22] at q; exact absurd q.2 (by decide))]; exact RI_r rfl)
    · rw [in_isN (k := 6) (by decide)] at h22
      refine Wp.n (pc' := 27) 1 rfl ?_
      refine Wp.retI (len := 1) rfl rfl ?_
      first
        | exact RI_s Scr_r (by rw [if_pos h30])
        | exact RI_s Scr_r (by rw [if_neg (by omega), if_pos h44])
        | exact RI_s Scr_r (by rw [if_neg (by omega), if_neg (by omega), if_pos h57])
        | exact RI_s Scr_r (by rw [if_neg (by omega), if_neg (by omega), if_neg (by omega)])
        | (rw [if_neg (fun q => by rw [h10] at q; exact absurd q.1 (by decide))]; exact RI_r rfl)
        | (rw [if_neg (fun q => by rw [h22] at q; exact absurd q.2 (by decide))]; exact RI_r rfl)


theorem m_shortest (hM : MK σ K) (x y z : Int32) : Wp (d + 14) md_225 0 [some (.ref 287), some (.int x), some (.int y), some (.int z)] [] (mset M σ) (RI M σ (shortestA K x y z)) := by
  have ok := hM.2.1
  have hσ0 := hM.2.2.2
  obtain ⟨b0, b1, b2, b3, b4, b5, b6, b7, b8, b9, b10, b11, b12⟩ := ok_h ok
  unfold shortestA
  refine Wp.n (pc' := 2) 2 rfl ?_
  refine Wp.mput0 (len := 3) rfl hσ0 ?_
  refine Wp.n (pc' := 9) 4 rfl ?_
  refine Wp.ecallV (len := 3) rfl rfl rfl (rfl) rfl (by decide) rfl (m_isTrip hM.1 ok _ _ _) ?_
  refine Wp.ifb1 (tgt := 18) (len := 3) rfl (fun h12 => ?_) (fun h12 => ?_)
  · skip
    obtain ⟨a, t, v, ha, ht, hv, hat, rfl, rfl, rfl⟩ := isT_of h12
    rw [if_pos h12, nI_clamp (by omega), nI_clamp (by omega), nI_clamp (by omega)]
    obtain ⟨hf1, hf2, hf3⟩ := fin_i ok (aim := 0) (y := v) (load := 1) (dn := 0) ha ht (by omega)
    refine Wp.n (pc' := 24) 6 rfl ?_
    refine Wp.callV (len := 3) rfl rfl rfl (rfl) rfl (by decide) rfl (m_seeks (aim := 0) (load := 1) (dn := 0) (by omega) ht (by omega) (by omega) (by omega) ha hM (fun q => by omega)) ?_
    rintro _ _ ⟨rfl, τ, rfl, hS, hR⟩
    refine Wp.n (pc' := 31) 2 rfl ?_
    refine Wp.top hR.1 ?_
    refine Wp.nz1 (x := (fin K 0 a t v 1 0).1) (tgt := 38) (len := 3) rfl (by omega) (fun h31 => ?_) (fun h31 => ?_)
    · skip
      refine Wp.n (pc' := 42) 2 rfl ?_
      refine Wp.top hR.2.2.1 ?_
      refine Wp.retI (len := 1) rfl rfl ?_
      first
        | exact RI_s hS rfl
        | exact RI_s hS (by unfold shortW; rw [if_pos h31])
        | exact RI_s hS (by unfold shortW; rw [if_neg h31])
        | (rw [if_neg (by rw [h12]; decide)]; exact RI_r rfl)
    · skip
      refine Wp.n (pc' := 42) 2 rfl ?_
      refine Wp.retI (len := 1) rfl rfl ?_
      first
        | exact RI_s hS rfl
        | exact RI_s hS (by unfold shortW; rw [if_pos h31])
        | exact RI_s hS (by unfold shortW; rw [if_neg h31])
        | (rw [if_neg (by rw [h12]; decide)]; exact RI_r rfl)
  · skip
    refine Wp.n (pc' := 17) 1 rfl ?_
    refine Wp.retI (len := 1) rfl rfl ?_
    first
      | exact RI_s hS rfl
      | exact RI_s hS (by unfold shortW; rw [if_pos h31])
      | exact RI_s hS (by unfold shortW; rw [if_neg h31])
      | (rw [if_neg (by rw [h12]; decide)]; exact RI_r rfl)


theorem m_hidden (hM : MK σ K) (x y z : Int32) : Wp (d + 14) md_230 0 [some (.ref 287), some (.int x), some (.int y), some (.int z)] [] (mset M σ) (RI M σ (hiddenA K x y z)) := by
  have ok := hM.2.1
  have hσ0 := hM.2.2.2
  obtain ⟨b0, b1, b2, b3, b4, b5, b6, b7, b8, b9, b10, b11, b12⟩ := ok_h ok
  unfold hiddenA
  refine Wp.n (pc' := 2) 2 rfl ?_
  refine Wp.mput0 (len := 3) rfl hσ0 ?_
  refine Wp.n (pc' := 9) 4 rfl ?_
  refine Wp.ecallV (len := 3) rfl rfl rfl (rfl) rfl (by decide) rfl (m_isTrip hM.1 ok _ _ _) ?_
  refine Wp.ifb1 (tgt := 18) (len := 3) rfl (fun h12 => ?_) (fun h12 => ?_)
  · skip
    obtain ⟨a, t, v, ha, ht, hv, hat, rfl, rfl, rfl⟩ := isT_of h12
    rw [if_pos h12, nI_clamp (by omega), nI_clamp (by omega), nI_clamp (by omega)]
    obtain ⟨hf1, hf2, hf3⟩ := fin_i ok (aim := 1) (y := v) (load := 1) (dn := 0) ha ht (by omega)
    refine Wp.n (pc' := 24) 6 rfl ?_
    refine Wp.callV (len := 3) rfl rfl rfl (rfl) rfl (by decide) rfl (m_seeks (aim := 1) (load := 1) (dn := 0) (by omega) ht (by omega) (by omega) (by omega) ha hM (fun q => by omega)) ?_
    rintro _ _ ⟨rfl, τ, rfl, hS, hR⟩
    refine Wp.n (pc' := 31) 2 rfl ?_
    refine Wp.top hR.1 ?_
    refine Wp.nz1 (x := (fin K 1 a t v 1 0).1) (tgt := 38) (len := 3) rfl (by omega) (fun h31 => ?_) (fun h31 => ?_)
    · skip
      refine Wp.n (pc' := 42) 2 rfl ?_
      refine Wp.top hR.2.2.1 ?_
      refine Wp.retI (len := 1) rfl rfl ?_
      first
        | exact RI_s hS rfl
        | exact RI_s hS (by unfold shortW; rw [if_pos h31])
        | exact RI_s hS (by unfold shortW; rw [if_neg h31])
        | (rw [if_neg (by rw [h12]; decide)]; exact RI_r rfl)
    · skip
      refine Wp.n (pc' := 42) 2 rfl ?_
      refine Wp.retI (len := 1) rfl rfl ?_
      first
        | exact RI_s hS rfl
        | exact RI_s hS (by unfold shortW; rw [if_pos h31])
        | exact RI_s hS (by unfold shortW; rw [if_neg h31])
        | (rw [if_neg (by rw [h12]; decide)]; exact RI_r rfl)
  · skip
    refine Wp.n (pc' := 17) 1 rfl ?_
    refine Wp.retI (len := 1) rfl rfl ?_
    first
      | exact RI_s hS rfl
      | exact RI_s hS (by unfold shortW; rw [if_pos h31])
      | exact RI_s hS (by unfold shortW; rw [if_neg h31])
      | (rw [if_neg (by rw [h12]; decide)]; exact RI_r rfl)


theorem m_ways (hM : MK σ K) (x y z : Int32) : Wp (d + 14) md_234 0 [some (.ref 287), some (.int x), some (.int y), some (.int z)] [] (mset M σ) (RI M σ (waysA K x y z)) := by
  have ok := hM.2.1
  have hσ0 := hM.2.2.2
  obtain ⟨b0, b1, b2, b3, b4, b5, b6, b7, b8, b9, b10, b11, b12⟩ := ok_h ok
  unfold waysA
  refine Wp.n (pc' := 2) 2 rfl ?_
  refine Wp.mput0 (len := 3) rfl hσ0 ?_
  refine Wp.n (pc' := 9) 4 rfl ?_
  refine Wp.ecallV (len := 3) rfl rfl rfl (rfl) rfl (by decide) rfl (m_isTrip hM.1 ok _ _ _) ?_
  refine Wp.ifb1 (tgt := 18) (len := 3) rfl (fun h12 => ?_) (fun h12 => ?_)
  · skip
    obtain ⟨a, t, v, ha, ht, hv, hat, rfl, rfl, rfl⟩ := isT_of h12
    rw [if_pos h12, nI_clamp (by omega), nI_clamp (by omega), nI_clamp (by omega)]
    obtain ⟨hf1, hf2, hf3⟩ := fin_i ok (aim := 0) (y := v) (load := 1) (dn := 0) ha ht (by omega)
    refine Wp.n (pc' := 24) 6 rfl ?_
    refine Wp.callV (len := 3) rfl rfl rfl (rfl) rfl (by decide) rfl (m_seeks (aim := 0) (load := 1) (dn := 0) (by omega) ht (by omega) (by omega) (by omega) ha hM (fun q => by omega)) ?_
    rintro _ _ ⟨rfl, τ, rfl, hS, hR⟩
    refine Wp.n (pc' := 31) 2 rfl ?_
    refine Wp.top hR.1 ?_
    refine Wp.retI (len := 1) rfl rfl ?_
    first
      | exact RI_s hS rfl
      | exact RI_s hS (by unfold shortW; rw [if_pos h31])
      | exact RI_s hS (by unfold shortW; rw [if_neg h31])
      | (rw [if_neg (by rw [h12]; decide)]; exact RI_r rfl)
  · skip
    refine Wp.n (pc' := 17) 1 rfl ?_
    refine Wp.retI (len := 1) rfl rfl ?_
    first
      | exact RI_s hS rfl
      | exact RI_s hS (by unfold shortW; rw [if_pos h31])
      | exact RI_s hS (by unfold shortW; rw [if_neg h31])
      | (rw [if_neg (by rw [h12]; decide)]; exact RI_r rfl)


theorem m_best (hM : MK σ K) (x y z l k : Int32) : Wp (d + 14) md_231 0 [some (.ref 287), some (.int x), some (.int y), some (.int z), some (.int l), some (.int k)] [] (mset M σ) (RI M σ (bestA K x y z l k)) := by
  have ok := hM.2.1
  have hσ0 := hM.2.2.2
  obtain ⟨b0, b1, b2, b3, b4, b5, b6, b7, b8, b9, b10, b11, b12⟩ := ok_h ok
  unfold bestA
  refine Wp.n (pc' := 2) 2 rfl ?_
  refine Wp.mput0 (len := 3) rfl hσ0 ?_
  refine Wp.n (pc' := 9) 4 rfl ?_
  refine Wp.ecallV (len := 3) rfl rfl rfl (rfl) rfl (by decide) rfl (m_isTrip hM.1 ok _ _ _) ?_
  refine Wp.ifb0 (tgt := 36) (len := 3) rfl (fun h12 => ?_) (fun h12 => ?_)
  · skip
    refine Wp.n (pc' := 38) 1 rfl ?_
    refine Wp.retI (len := 1) rfl rfl ?_
    first
      | exact RI_s hS (by rw [if_pos h53])
      | exact RI_s hS (by rw [if_pos h60])
      | exact RI_s hS (by rw [if_neg h60, if_pos h73])
      | exact RI_s hS (by rw [if_neg h60, if_neg h73, if_pos h86])
      | exact RI_s hS (by rw [if_neg h60, if_neg h73, if_neg h86])
      | (rw [if_neg (fun q => by rw [h12] at q; exact absurd q.1 (by decide))]; exact RI_r rfl)
      | (rw [if_neg (fun q => by rw [show isR 1 9 l = false from h20] at q; exact absurd q.2.1 (by decide))]; exact RI_r rfl)
      | (rw [if_neg (fun q => by rw [h33] at q; exact absurd q.2.2 (by decide))]; exact RI_r rfl)
  · skip
    refine Wp.n (pc' := 17) 1 rfl ?_
    refine Wp.ecallS (len := 3) rfl rfl rfl rfl (m_isLoad _) ?_
    refine Wp.ifb0 (tgt := 36) (len := 3) rfl (fun h20 => ?_) (fun h20 => ?_)
    · skip
      refine Wp.n (pc' := 38) 1 rfl ?_
      refine Wp.retI (len := 1) rfl rfl ?_
      first
        | exact RI_s hS (by rw [if_pos h53])
        | exact RI_s hS (by rw [if_pos h60])
        | exact RI_s hS (by rw [if_neg h60, if_pos h73])
        | exact RI_s hS (by rw [if_neg h60, if_neg h73, if_pos h86])
        | exact RI_s hS (by rw [if_neg h60, if_neg h73, if_neg h86])
        | (rw [if_neg (fun q => by rw [h12] at q; exact absurd q.1 (by decide))]; exact RI_r rfl)
        | (rw [if_neg (fun q => by rw [show isR 1 9 l = false from h20] at q; exact absurd q.2.1 (by decide))]; exact RI_r rfl)
        | (rw [if_neg (fun q => by rw [h33] at q; exact absurd q.2.2 (by decide))]; exact RI_r rfl)
    · skip
      refine Wp.n (pc' := 30) 4 rfl ?_
      refine Wp.ecallS (len := 3) rfl rfl rfl rfl (m_in _ _ _) ?_
      refine Wp.ifb1 (tgt := 39) (len := 3) rfl (fun h33 => ?_) (fun h33 => ?_)
      · rw [in_isN (k := 4) (by decide)] at h33
        obtain ⟨a, t, v, ha, ht, hv, hat, rfl, rfl, rfl⟩ := isT_of h12
        obtain ⟨l, hl1, hl9, hl, rfl⟩ := isR_of (lo := 1) (hi := 9) h20
        obtain ⟨hf1, hf2, hf3⟩ := fin_i ok (aim := 2) (y := v) (load := l) (dn := 0) ha ht (by omega)
        obtain ⟨k, hk, rfl⟩ := isN_of h33
        rw [if_pos ⟨h12, h20, h33⟩, nI_clamp (by omega), nI_clamp (by omega), nI_clamp (by omega), nI_clamp hl, nI_clamp (by omega)]
        unfold bestW
        refine Wp.n (pc' := 46) 6 rfl ?_
        refine Wp.callV (len := 3) rfl rfl rfl (rfl) rfl (by decide) rfl (m_seeks (aim := 2) (dn := 0) (by omega) ht (by omega) (by omega) (by omega) ha hM (fun q => by omega)) ?_
        rintro _ _ ⟨rfl, τ, rfl, hS, hR⟩
        refine Wp.n (pc' := 53) 2 rfl ?_
        refine Wp.top hR.1 ?_
        refine Wp.nz1 (x := (fin K 2 a t v l 0).1) (tgt := 58) (len := 3) rfl (by omega) (fun h53 => ?_) (fun h53 => ?_)
        · skip
          obtain ⟨hc1, hc2, dq, pq, he, hdq, hp1, hp7, hpb⟩ := hf3 (by decide) (by omega)
          obtain ⟨q1, q2, q3⟩ := hR.2.2.2.2 dq pq he
          have eD : bD (fin K 2 a t v l 0) = dq := by unfold bD; rw [he]
          have eP : bP (fin K 2 a t v l 0) = pq := by unfold bP; rw [he]
          rw [if_neg h53, eD, eP]
          refine Wp.n (pc' := 60) 1 rfl ?_
          refine Wp.nz1 (x := k) (tgt := 70) (len := 3) rfl (by omega) (fun h60 => ?_) (fun h60 => ?_)
          · skip
            refine Wp.n (pc' := 73) 2 rfl ?_
            refine Wp.nc1 (x := k) (y := 1) (tgt := 83) (len := 3) rfl (by omega) (by omega) (fun h73 => ?_) (fun h73 => ?_)
            · skip
              refine Wp.n (pc' := 86) 2 rfl ?_
              refine Wp.nc1 (x := k) (y := 2) (tgt := 96) (len := 3) rfl (by omega) (by omega) (fun h86 => ?_) (fun h86 => ?_)
              · skip
                refine Wp.n (pc' := 100) 2 rfl ?_
                refine Wp.top q2 ?_
                refine Wp.retI (len := 1) rfl rfl ?_
                first
                  | exact RI_s hS (by rw [if_pos h53])
                  | exact RI_s hS (by rw [if_pos h60])
                  | exact RI_s hS (by rw [if_neg h60, if_pos h73])
                  | exact RI_s hS (by rw [if_neg h60, if_neg h73, if_pos h86])
                  | exact RI_s hS (by rw [if_neg h60, if_neg h73, if_neg h86])
                  | (rw [if_neg (fun q => by rw [h12] at q; exact absurd q.1 (by decide))]; exact RI_r rfl)
                  | (rw [if_neg (fun q => by rw [show isR 1 9 l = false from h20] at q; exact absurd q.2.1 (by decide))]; exact RI_r rfl)
                  | (rw [if_neg (fun q => by rw [h33] at q; exact absurd q.2.2 (by decide))]; exact RI_r rfl)
              · skip
                refine Wp.n (pc' := 93) 2 rfl ?_
                refine Wp.top q1 ?_
                refine Wp.n (pc' := 100) 1 rfl ?_
                refine Wp.retI (len := 1) rfl rfl ?_
                first
                  | exact RI_s hS (by rw [if_pos h53])
                  | exact RI_s hS (by rw [if_pos h60])
                  | exact RI_s hS (by rw [if_neg h60, if_pos h73])
                  | exact RI_s hS (by rw [if_neg h60, if_neg h73, if_pos h86])
                  | exact RI_s hS (by rw [if_neg h60, if_neg h73, if_neg h86])
                  | (rw [if_neg (fun q => by rw [h12] at q; exact absurd q.1 (by decide))]; exact RI_r rfl)
                  | (rw [if_neg (fun q => by rw [show isR 1 9 l = false from h20] at q; exact absurd q.2.1 (by decide))]; exact RI_r rfl)
                  | (rw [if_neg (fun q => by rw [h33] at q; exact absurd q.2.2 (by decide))]; exact RI_r rfl)
            · skip
              refine Wp.n (pc' := 80) 2 rfl ?_
              refine Wp.top hR.2.2.1 ?_
              refine Wp.n (pc' := 100) 1 rfl ?_
              refine Wp.retI (len := 1) rfl rfl ?_
              first
                | exact RI_s hS (by rw [if_pos h53])
                | exact RI_s hS (by rw [if_pos h60])
                | exact RI_s hS (by rw [if_neg h60, if_pos h73])
                | exact RI_s hS (by rw [if_neg h60, if_neg h73, if_pos h86])
                | exact RI_s hS (by rw [if_neg h60, if_neg h73, if_neg h86])
                | (rw [if_neg (fun q => by rw [h12] at q; exact absurd q.1 (by decide))]; exact RI_r rfl)
                | (rw [if_neg (fun q => by rw [show isR 1 9 l = false from h20] at q; exact absurd q.2.1 (by decide))]; exact RI_r rfl)
                | (rw [if_neg (fun q => by rw [h33] at q; exact absurd q.2.2 (by decide))]; exact RI_r rfl)
          · skip
            refine Wp.n (pc' := 67) 2 rfl ?_
            refine Wp.top hR.2.1 ?_
            refine Wp.n (pc' := 100) 1 rfl ?_
            refine Wp.retI (len := 1) rfl rfl ?_
            first
              | exact RI_s hS (by rw [if_pos h53])
              | exact RI_s hS (by rw [if_pos h60])
              | exact RI_s hS (by rw [if_neg h60, if_pos h73])
              | exact RI_s hS (by rw [if_neg h60, if_neg h73, if_pos h86])
              | exact RI_s hS (by rw [if_neg h60, if_neg h73, if_neg h86])
              | (rw [if_neg (fun q => by rw [h12] at q; exact absurd q.1 (by decide))]; exact RI_r rfl)
              | (rw [if_neg (fun q => by rw [show isR 1 9 l = false from h20] at q; exact absurd q.2.1 (by decide))]; exact RI_r rfl)
              | (rw [if_neg (fun q => by rw [h33] at q; exact absurd q.2.2 (by decide))]; exact RI_r rfl)
        · skip
          refine Wp.n (pc' := 57) 1 rfl ?_
          refine Wp.retI (len := 1) rfl rfl ?_
          first
            | exact RI_s hS (by rw [if_pos h53])
            | exact RI_s hS (by rw [if_pos h60])
            | exact RI_s hS (by rw [if_neg h60, if_pos h73])
            | exact RI_s hS (by rw [if_neg h60, if_neg h73, if_pos h86])
            | exact RI_s hS (by rw [if_neg h60, if_neg h73, if_neg h86])
            | (rw [if_neg (fun q => by rw [h12] at q; exact absurd q.1 (by decide))]; exact RI_r rfl)
            | (rw [if_neg (fun q => by rw [show isR 1 9 l = false from h20] at q; exact absurd q.2.1 (by decide))]; exact RI_r rfl)
            | (rw [if_neg (fun q => by rw [h33] at q; exact absurd q.2.2 (by decide))]; exact RI_r rfl)
      · rw [in_isN (k := 4) (by decide)] at h33
        refine Wp.n (pc' := 38) 1 rfl ?_
        refine Wp.retI (len := 1) rfl rfl ?_
        first
          | exact RI_s hS (by rw [if_pos h53])
          | exact RI_s hS (by rw [if_pos h60])
          | exact RI_s hS (by rw [if_neg h60, if_pos h73])
          | exact RI_s hS (by rw [if_neg h60, if_neg h73, if_pos h86])
          | exact RI_s hS (by rw [if_neg h60, if_neg h73, if_neg h86])
          | (rw [if_neg (fun q => by rw [h12] at q; exact absurd q.1 (by decide))]; exact RI_r rfl)
          | (rw [if_neg (fun q => by rw [show isR 1 9 l = false from h20] at q; exact absurd q.2.1 (by decide))]; exact RI_r rfl)
          | (rw [if_neg (fun q => by rw [h33] at q; exact absurd q.2.2 (by decide))]; exact RI_r rfl)

theorem m_goes (hM : MK σ K) (x y z l i : Int32) : Wp (d + 14) md_233 0 [some (.ref 287), some (.int x), some (.int y), some (.int z), some (.int l), some (.int i)] [] (mset M σ) (RI M σ (goesA K x y z l i)) := by
  have ok := hM.2.1
  have hσ0 := hM.2.2.2
  obtain ⟨b0, b1, b2, b3, b4, b5, b6, b7, b8, b9, b10, b11, b12⟩ := ok_h ok
  unfold goesA
  refine Wp.n (pc' := 2) 2 rfl ?_
  refine Wp.mput0 (len := 3) rfl hσ0 ?_
  refine Wp.n (pc' := 9) 4 rfl ?_
  refine Wp.ecallV (len := 3) rfl rfl rfl (rfl) rfl (by decide) rfl (m_isTrip hM.1 ok _ _ _) ?_
  refine Wp.ifb0 (tgt := 23) (len := 3) rfl (fun h12 => ?_) (fun h12 => ?_)
  · skip
    refine Wp.n (pc' := 25) 1 rfl ?_
    refine Wp.retI (len := 1) rfl rfl ?_
    first
      | exact RI_s hS rfl
      | exact RI_s hS (by rw [if_neg (fun q => by omega)])
      | exact RI_s hS (by rw [if_neg (fun q => by rw [h57] at q; exact absurd q.2 (by decide))])
      | (rw [if_neg (fun q => by rw [h12] at q; exact absurd q.1 (by decide))]; exact RI_r rfl)
      | (rw [if_neg (fun q => by rw [show isR 1 9 l = false from h20] at q; exact absurd q.2 (by decide))]; exact RI_r rfl)
  · skip
    refine Wp.n (pc' := 17) 1 rfl ?_
    refine Wp.ecallS (len := 3) rfl rfl rfl rfl (m_isLoad _) ?_
    refine Wp.ifb1 (tgt := 26) (len := 3) rfl (fun h20 => ?_) (fun h20 => ?_)
    · skip
      obtain ⟨a, t, v, ha, ht, hv, hat, rfl, rfl, rfl⟩ := isT_of h12
      obtain ⟨l, hl1, hl9, hl, rfl⟩ := isR_of (lo := 1) (hi := 9) h20
      obtain ⟨hf1, hf2, hf3⟩ := fin_i ok (aim := 2) (y := v) (load := l) (dn := 0) ha ht (by omega)
      rw [if_pos ⟨h12, h20⟩, nI_clamp (by omega), nI_clamp (by omega), nI_clamp (by omega), nI_clamp hl]
      unfold goesW
      refine Wp.n (pc' := 33) 6 rfl ?_
      refine Wp.callV (len := 3) rfl rfl rfl (rfl) rfl (by decide) rfl (m_seeks (aim := 2) (dn := 0) (by omega) ht (by omega) (by omega) (by omega) ha hM (fun q => by omega)) ?_
      rintro _ _ ⟨rfl, τ, rfl, hS, hR⟩
      refine Wp.n (pc' := 40) 2 rfl ?_
      refine Wp.top hR.1 ?_
      refine Wp.nz5 (x := (fin K 2 a t v l 0).1) (tgt := 70) (len := 3) rfl (by omega) (fun h40 => ?_) (fun h40 => ?_)
      · skip
        refine Wp.n (pc' := 71) 1 rfl ?_
        refine Wp.retI (len := 1) rfl rfl ?_
        first
          | exact RI_s hS rfl
          | exact RI_s hS (by rw [if_neg (fun q => by omega)])
          | exact RI_s hS (by rw [if_neg (fun q => by rw [h57] at q; exact absurd q.2 (by decide))])
          | (rw [if_neg (fun q => by rw [h12] at q; exact absurd q.1 (by decide))]; exact RI_r rfl)
          | (rw [if_neg (fun q => by rw [show isR 1 9 l = false from h20] at q; exact absurd q.2 (by decide))]; exact RI_r rfl)
      · skip
        obtain ⟨hc1, hc2, dq, pq, he, hdq, hp1, hp7, hpb⟩ := hf3 (by decide) (by omega)
        obtain ⟨q1, q2, q3⟩ := hR.2.2.2.2 dq pq he
        have eD : bD (fin K 2 a t v l 0) = dq := by unfold bD; rw [he]
        have eP : bP (fin K 2 a t v l 0) = pq := by unfold bP; rw [he]
        rw [eP]
        refine Wp.n (pc' := 51) 5 rfl ?_
        refine Wp.top q2 ?_
        refine Wp.n (pc' := 52) 1 rfl ?_
        refine Wp.isubN (x := pq.length) (y := 1) (len := 1) rfl (by omega) ?_
        refine Wp.i2lM (x := (pq.length) - 1) (len := 1) rfl (by omega) ?_
        refine Wp.ecallS (len := 3) rfl rfl rfl rfl (m_in _ _ _) ?_
        refine Wp.ifb0 (tgt := 70) (len := 3) rfl (fun h57 => ?_) (fun h57 => ?_)
        · rw [in_isN (k := pq.length) (by rw [l_toInt (by omega)]; omega)] at h57
          refine Wp.n (pc' := 71) 1 rfl ?_
          refine Wp.retI (len := 1) rfl rfl ?_
          first
            | exact RI_s hS rfl
            | exact RI_s hS (by rw [if_neg (fun q => by omega)])
            | exact RI_s hS (by rw [if_neg (fun q => by rw [h57] at q; exact absurd q.2 (by decide))])
            | (rw [if_neg (fun q => by rw [h12] at q; exact absurd q.1 (by decide))]; exact RI_r rfl)
            | (rw [if_neg (fun q => by rw [show isR 1 9 l = false from h20] at q; exact absurd q.2 (by decide))]; exact RI_r rfl)
        · rw [in_isN (k := pq.length) (by rw [l_toInt (by omega)]; omega)] at h57
          obtain ⟨j, hj, rfl⟩ := isN_of h57
          rw [if_pos ⟨h40, h57⟩, nI_clamp (by omega)]
          refine Wp.n (pc' := 66) 3 rfl ?_
          refine Wp.mialdN (j := j) (len := 1) rfl rfl rfl (by omega) ?_
          refine Wp.top (q3 j hj) ?_
          refine Wp.n (pc' := 71) 1 rfl ?_
          refine Wp.retI (len := 1) rfl rfl ?_
          first
            | exact RI_s hS rfl
            | exact RI_s hS (by rw [if_neg (fun q => by omega)])
            | exact RI_s hS (by rw [if_neg (fun q => by rw [h57] at q; exact absurd q.2 (by decide))])
            | (rw [if_neg (fun q => by rw [h12] at q; exact absurd q.1 (by decide))]; exact RI_r rfl)
            | (rw [if_neg (fun q => by rw [show isR 1 9 l = false from h20] at q; exact absurd q.2 (by decide))]; exact RI_r rfl)
    · skip
      refine Wp.n (pc' := 25) 1 rfl ?_
      refine Wp.retI (len := 1) rfl rfl ?_
      first
        | exact RI_s hS rfl
        | exact RI_s hS (by rw [if_neg (fun q => by omega)])
        | exact RI_s hS (by rw [if_neg (fun q => by rw [h57] at q; exact absurd q.2 (by decide))])
        | (rw [if_neg (fun q => by rw [h12] at q; exact absurd q.1 (by decide))]; exact RI_r rfl)
        | (rw [if_neg (fun q => by rw [show isR 1 9 l = false from h20] at q; exact absurd q.2 (by decide))]; exact RI_r rfl)


def finW (K : KD) (w : Nat) : MT := fin K 2 (kw K w 4) (kw K w (3 + kw K w 3)) (kw K w 2) (kw K w 1) 0
def shareK (K : KD) (k w : Nat) : Nat := if (finW K w).1 = 0 then (if k = 3 then 1 else 0) else if k = 0 then bD (finW K w) else if k = 1 then (finW K w).2.1 else if k = 2 then (finW K w).2.2.1 else 0
def allK (K : KD) (k : Nat) : Nat := fld (fun s w => s + shareK K k w) (kh K 4) 0 0
theorem m_allOf_l (hM : MK σ K) {k : Nat} (hk : k < 4) : ∀ (n w s : Nat) (τ : MS), w + n = kh K 4 → Scr σ τ → Wp (d + 14) md_236 4 [some (.ref 287), some (.int (nI k)), some (.int (nI s)), some (.int (nI w))] [] (mset M τ) (RI M σ (nI (fld (fun s w => s + shareK K k w) n w s))) := by
  have ok := hM.2.1
  have hσ0 := hM.2.2.2
  obtain ⟨b0, b1, b2, b3, b4, b5, b6, b7, b8, b9, b10, b11, b12⟩ := ok_h ok
  intro n
  induction n with
  | zero =>
    intro w s τ hw hS
    have hK := MK_scr hM hS
    refine Wp.n (pc' := 10) 4 rfl ?_
    refine Wp.mialdN (j := 4) (len := 1) rfl rfl rfl (by omega) ?_
    refine Wp.top (r0_has hK.1 (by decide)) ?_
    refine Wp.nc3 (x := w) (y := kh K 4) (tgt := 109) (len := 3) rfl (by omega) (by omega) (fun h11 => ?_) (fun h11 => ?_)
    · skip
      refine Wp.n (pc' := 110) 1 rfl ?_
      refine Wp.retI (len := 1) rfl rfl ?_
      exact RI_s hS rfl
    · omega
  | succ n ih =>
    intro w s τ hw hS
    have hK := MK_scr hM hS
    have tw := ok_walk ok (i := w) (by omega)
    have p0 := tw.2.2.2.2.2.2.1 0 (by omega)
    have p1 := tw.2.2.2.2.2.2.1 (kw K w 3 - 1) (by omega)
    rw [show 4 + (kw K w 3 - 1) = 3 + kw K w 3 by omega] at p1
    obtain ⟨hf1, hf2, hf3⟩ := fin_i ok (aim := 2) (y := kw K w 2) (load := kw K w 1) (dn := 0) p0 p1 (by omega)
    replace hf2 : (finW K w).1 ≤ 326 := hf2
    rw [show fld (fun s w => s + shareK K k w) (n + 1) w s = fld (fun s w => s + shareK K k w) n (w + 1) (s + shareK K k w) from rfl]
    refine Wp.n (pc' := 10) 4 rfl ?_
    refine Wp.mialdN (j := 4) (len := 1) rfl rfl rfl (by omega) ?_
    refine Wp.top (r0_has hK.1 (by decide)) ?_
    refine Wp.nc3 (x := w) (y := kh K 4) (tgt := 109) (len := 3) rfl (by omega) (by omega) (fun h11 => ?_) (fun h11 => ?_)
    · omega
    · skip
      refine Wp.n (pc' := 18) 4 rfl ?_
      refine Wp.ecallV (len := 3) rfl rfl rfl (rfl) rfl (by decide) rfl (m_from hK.1 ok (w := w) (by omega)) ?_
      refine Wp.n (pc' := 23) 2 rfl ?_
      refine Wp.ecallV (len := 3) rfl rfl rfl (rfl) rfl (by decide) rfl (m_to hK.1 ok (w := w) (by omega)) ?_
      refine Wp.n (pc' := 29) 3 rfl ?_
      refine Wp.ecallV (len := 3) rfl rfl rfl (rfl) rfl (by decide) rfl (m_of τ w 2 (by omega)) ?_
      refine Wp.top (r0_walk hK.1 (i := w) (by omega) (by decide) rfl) ?_
      refine Wp.n (pc' := 35) 3 rfl ?_
      refine Wp.ecallV (len := 3) rfl rfl rfl (rfl) rfl (by decide) rfl (m_of τ w 1 (by omega)) ?_
      refine Wp.top (r0_walk hK.1 (i := w) (by omega) (by decide) rfl) ?_
      refine Wp.callV (len := 3) rfl rfl rfl (rfl) rfl (by decide) rfl (m_seeks (aim := 2) (dn := 0) (by omega) p1 (by omega) (by omega) (by omega) p0 hK (fun q => by omega)) ?_
      rintro _ _ ⟨rfl, τ2, rfl, hS2, hR⟩
      replace hR : MR τ2 (finW K w) := hR
      refine Wp.n (pc' := 45) 2 rfl ?_
      refine Wp.top hR.1 ?_
      refine Wp.nz1 (x := (finW K w).1) (tgt := 64) (len := 3) rfl (by omega) (fun h45 => ?_) (fun h45 => ?_)
      · skip
        obtain ⟨hc1, hc2, dq, pq, he, hdq, hp1, hp7, hpb⟩ := hf3 (by decide) (Nat.pos_of_ne_zero h45)
        obtain ⟨q1, q2, q3⟩ := hR.2.2.2.2 dq pq he
        have eD : bD (finW K w) = dq := by unfold bD; rw [show (finW K w).2.2.2.2 = some (dq, pq) from he]
        refine Wp.n (pc' := 66) 2 rfl ?_
        refine Wp.nz1 (x := k) (tgt := 76) (len := 3) rfl (by omega) (fun h66 => ?_) (fun h66 => ?_)
        · skip
          refine Wp.n (pc' := 78) 2 rfl ?_
          refine Wp.nc1 (x := k) (y := 1) (tgt := 88) (len := 3) rfl (by omega) (by omega) (fun h78 => ?_) (fun h78 => ?_)
          · skip
            refine Wp.n (pc' := 90) 2 rfl ?_
            refine Wp.nc1 (x := k) (y := 2) (tgt := 100) (len := 3) rfl (by omega) (by omega) (fun h90 => ?_) (fun h90 => ?_)
            · skip
              refine Wp.n (pc' := 101) 1 rfl ?_
              refine Wp.iaddN (x := s) (y := 0) (len := 1) rfl ?_
              refine Wp.n (pc' := 103) 1 rfl ?_
              refine Wp.incN (x := w) (len := 3) rfl rfl ?_
              refine Wp.n (pc' := 4) 1 rfl ?_
              have ih2 := ih (w + 1) (s + shareK K k w) τ2 (by omega) (Scr_t hS hS2)
              unfold shareK at ih2 ⊢
              first
                | (rw [if_pos h45, if_pos h51] at ih2 ⊢; exact ih2)
                | (rw [if_pos h45, if_neg h51] at ih2 ⊢; exact ih2)
                | (rw [if_neg h45, if_pos h66, eD] at ih2 ⊢; exact ih2)
                | (rw [if_neg h45, if_neg h66, if_pos h78] at ih2 ⊢; exact ih2)
                | (rw [if_neg h45, if_neg h66, if_neg h78, if_pos h90] at ih2 ⊢; exact ih2)
                | (rw [if_neg h45, if_neg h66, if_neg h78, if_neg h90] at ih2 ⊢; exact ih2)
            · skip
              refine Wp.n (pc' := 97) 2 rfl ?_
              refine Wp.top hR.2.2.1 ?_
              refine Wp.n (pc' := 101) 1 rfl ?_
              refine Wp.iaddN (x := s) (y := (finW K w).2.2.1) (len := 1) rfl ?_
              refine Wp.n (pc' := 103) 1 rfl ?_
              refine Wp.incN (x := w) (len := 3) rfl rfl ?_
              refine Wp.n (pc' := 4) 1 rfl ?_
              have ih2 := ih (w + 1) (s + shareK K k w) τ2 (by omega) (Scr_t hS hS2)
              unfold shareK at ih2 ⊢
              first
                | (rw [if_pos h45, if_pos h51] at ih2 ⊢; exact ih2)
                | (rw [if_pos h45, if_neg h51] at ih2 ⊢; exact ih2)
                | (rw [if_neg h45, if_pos h66, eD] at ih2 ⊢; exact ih2)
                | (rw [if_neg h45, if_neg h66, if_pos h78] at ih2 ⊢; exact ih2)
                | (rw [if_neg h45, if_neg h66, if_neg h78, if_pos h90] at ih2 ⊢; exact ih2)
                | (rw [if_neg h45, if_neg h66, if_neg h78, if_neg h90] at ih2 ⊢; exact ih2)
          · skip
            refine Wp.n (pc' := 85) 2 rfl ?_
            refine Wp.top hR.2.1 ?_
            refine Wp.n (pc' := 101) 1 rfl ?_
            refine Wp.iaddN (x := s) (y := (finW K w).2.1) (len := 1) rfl ?_
            refine Wp.n (pc' := 103) 1 rfl ?_
            refine Wp.incN (x := w) (len := 3) rfl rfl ?_
            refine Wp.n (pc' := 4) 1 rfl ?_
            have ih2 := ih (w + 1) (s + shareK K k w) τ2 (by omega) (Scr_t hS hS2)
            unfold shareK at ih2 ⊢
            first
              | (rw [if_pos h45, if_pos h51] at ih2 ⊢; exact ih2)
              | (rw [if_pos h45, if_neg h51] at ih2 ⊢; exact ih2)
              | (rw [if_neg h45, if_pos h66, eD] at ih2 ⊢; exact ih2)
              | (rw [if_neg h45, if_neg h66, if_pos h78] at ih2 ⊢; exact ih2)
              | (rw [if_neg h45, if_neg h66, if_neg h78, if_pos h90] at ih2 ⊢; exact ih2)
              | (rw [if_neg h45, if_neg h66, if_neg h78, if_neg h90] at ih2 ⊢; exact ih2)
        · skip
          refine Wp.n (pc' := 73) 2 rfl ?_
          refine Wp.top q1 ?_
          refine Wp.n (pc' := 101) 1 rfl ?_
          refine Wp.iaddN (x := s) (y := dq) (len := 1) rfl ?_
          refine Wp.n (pc' := 103) 1 rfl ?_
          refine Wp.incN (x := w) (len := 3) rfl rfl ?_
          refine Wp.n (pc' := 4) 1 rfl ?_
          have ih2 := ih (w + 1) (s + shareK K k w) τ2 (by omega) (Scr_t hS hS2)
          unfold shareK at ih2 ⊢
          first
            | (rw [if_pos h45, if_pos h51] at ih2 ⊢; exact ih2)
            | (rw [if_pos h45, if_neg h51] at ih2 ⊢; exact ih2)
            | (rw [if_neg h45, if_pos h66, eD] at ih2 ⊢; exact ih2)
            | (rw [if_neg h45, if_neg h66, if_pos h78] at ih2 ⊢; exact ih2)
            | (rw [if_neg h45, if_neg h66, if_neg h78, if_pos h90] at ih2 ⊢; exact ih2)
            | (rw [if_neg h45, if_neg h66, if_neg h78, if_neg h90] at ih2 ⊢; exact ih2)
      · skip
        refine Wp.n (pc' := 51) 3 rfl ?_
        refine Wp.nc1 (x := k) (y := 3) (tgt := 58) (len := 3) rfl (by omega) (by omega) (fun h51 => ?_) (fun h51 => ?_)
        · skip
          refine Wp.n (pc' := 59) 1 rfl ?_
          refine Wp.iaddN (x := s) (y := 0) (len := 1) rfl ?_
          refine Wp.n (pc' := 103) 2 rfl ?_
          refine Wp.incN (x := w) (len := 3) rfl rfl ?_
          refine Wp.n (pc' := 4) 1 rfl ?_
          have ih2 := ih (w + 1) (s + shareK K k w) τ2 (by omega) (Scr_t hS hS2)
          unfold shareK at ih2 ⊢
          first
            | (rw [if_pos h45, if_pos h51] at ih2 ⊢; exact ih2)
            | (rw [if_pos h45, if_neg h51] at ih2 ⊢; exact ih2)
            | (rw [if_neg h45, if_pos h66, eD] at ih2 ⊢; exact ih2)
            | (rw [if_neg h45, if_neg h66, if_pos h78] at ih2 ⊢; exact ih2)
            | (rw [if_neg h45, if_neg h66, if_neg h78, if_pos h90] at ih2 ⊢; exact ih2)
            | (rw [if_neg h45, if_neg h66, if_neg h78, if_neg h90] at ih2 ⊢; exact ih2)
        · skip
          refine Wp.n (pc' := 59) 2 rfl ?_
          refine Wp.iaddN (x := s) (y := 1) (len := 1) rfl ?_
          refine Wp.n (pc' := 103) 2 rfl ?_
          refine Wp.incN (x := w) (len := 3) rfl rfl ?_
          refine Wp.n (pc' := 4) 1 rfl ?_
          have ih2 := ih (w + 1) (s + shareK K k w) τ2 (by omega) (Scr_t hS hS2)
          unfold shareK at ih2 ⊢
          first
            | (rw [if_pos h45, if_pos h51] at ih2 ⊢; exact ih2)
            | (rw [if_pos h45, if_neg h51] at ih2 ⊢; exact ih2)
            | (rw [if_neg h45, if_pos h66, eD] at ih2 ⊢; exact ih2)
            | (rw [if_neg h45, if_neg h66, if_pos h78] at ih2 ⊢; exact ih2)
            | (rw [if_neg h45, if_neg h66, if_neg h78, if_pos h90] at ih2 ⊢; exact ih2)
            | (rw [if_neg h45, if_neg h66, if_neg h78, if_neg h90] at ih2 ⊢; exact ih2)

theorem m_allOf (hM : MK σ K) {k : Nat} (hk : k < 4) : Wp (d + 14) md_236 0 [some (.ref 287), some (.int (nI k)), none, none] [] (mset M σ) (RI M σ (nI (allK K k))) := by
  refine Wp.n (pc' := 4) 4 rfl ?_
  exact m_allOf_l hM hk (kh K 4) 0 0 σ (by omega) Scr_r
def allA (K : KD) (x : Int32) : Int32 := if 0 < kh K 0 ∧ isN 4 x = true then nI (allK K x.toNatClampNeg) else -2
theorem m_all (hM : MK σ K) (x : Int32) : Wp (d + 15) md_235 0 [some (.ref 287), some (.int x)] [] (mset M σ) (RI M σ (allA K x)) := by
  have ok := hM.2.1
  have hσ0 := hM.2.2.2
  obtain ⟨b0, b1, b2, b3, b4, b5, b6, b7, b8, b9, b10, b11, b12⟩ := ok_h ok
  unfold allA
  refine Wp.n (pc' := 2) 2 rfl ?_
  refine Wp.mput0 (len := 3) rfl hσ0 ?_
  refine Wp.n (pc' := 6) 1 rfl ?_
  refine Wp.ecallV (len := 3) rfl rfl rfl (rfl) rfl (by decide) rfl (m_isKingdom hM.1 ok) ?_
  refine Wp.ifb0 (tgt := 32) (len := 3) rfl (fun h9 => ?_) (fun h9 => ?_)
  · skip
    refine Wp.n (pc' := 34) 1 rfl ?_
    refine Wp.retI (len := 1) rfl rfl ?_
    first
      | exact RI_s hS rfl
      | (rw [if_neg (fun q => of_decide_eq_false h9 q.1)]; exact RI_r rfl)
      | (rw [if_neg (fun q => by rw [h21] at q; exact absurd q.2 (by decide))]; exact RI_r rfl)
  · skip
    refine Wp.n (pc' := 18) 4 rfl ?_
    refine Wp.ecallS (len := 3) rfl rfl rfl rfl (m_in _ _ _) ?_
    refine Wp.ifb0 (tgt := 32) (len := 3) rfl (fun h21 => ?_) (fun h21 => ?_)
    · rw [in_isN (k := 4) (by decide)] at h21
      refine Wp.n (pc' := 34) 1 rfl ?_
      refine Wp.retI (len := 1) rfl rfl ?_
      first
        | exact RI_s hS rfl
        | (rw [if_neg (fun q => of_decide_eq_false h9 q.1)]; exact RI_r rfl)
        | (rw [if_neg (fun q => by rw [h21] at q; exact absurd q.2 (by decide))]; exact RI_r rfl)
    · rw [in_isN (k := 4) (by decide)] at h21
      obtain ⟨k, hk, rfl⟩ := isN_of h21
      rw [if_pos ⟨of_decide_eq_true h9, h21⟩, nI_clamp (by omega)]
      refine Wp.n (pc' := 26) 2 rfl ?_
      refine Wp.callV (len := 3) rfl rfl rfl (rfl) rfl (by decide) rfl (m_allOf hM hk) ?_
      rintro _ _ ⟨rfl, τ, rfl, hS⟩
      refine Wp.n (pc' := 34) 1 rfl ?_
      refine Wp.retI (len := 1) rfl rfl ?_
      first
        | exact RI_s hS rfl
        | (rw [if_neg (fun q => of_decide_eq_false h9 q.1)]; exact RI_r rfl)
        | (rw [if_neg (fun q => by rw [h21] at q; exact absurd q.2 (by decide))]; exact RI_r rfl)

end RQ2
end
section
/-! WHAT IS THOUGHT OF: a new lane, a bent road, another law; the reference. -/
def laneK (K : KD) (a b n e : Nat) : KD := (fun i => if i = 11 then 1 else kh K i, kr K, fun i => if i = 8 then (fun j => if j = 0 then a else if j = 1 then b else if j = 2 then n else if j = 4 then e else 0) else kl K i, kw K)
def bentK (K : KD) (k n : Nat) : KD := (kh K, fun i => if i = k then (fun j => if j = 2 then kr K k 2 + n else kr K k j) else kr K i, kl K, kw K)
def lawsK (K : KD) (r f : Nat) : KD := (fun i => if i = 6 then r else if i = 7 then f else kh K i, kr K, kl K, kw K)
theorem laneK_ok {K : KD} (ok : KOK K) {a b n e : Nat} (ha : a < kh K 0) (hb : b < kh K 0) (hab : a ≠ b) (h1 : 1 ≤ n) (h2 : n ≤ 99) (he : e ≤ 30) : KOK (laneK K a b n e) := by
  obtain ⟨c0, c1, c2, c3, c4, c5, c6, c7, c8, c9, c10, c11, c12, c13, c14, c15, c16, c17⟩ := id ok
  refine ⟨c0, c1, c2, c3, c4, c5, c6, c7, c8, c9, c10, Nat.le_refl 1, c12, c13, c14, fun i hi => ?_, c16, c17⟩
  by_cases e8 : i = 8
  · subst e8
    exact ⟨ha, hb, hab, h1, h2, Nat.zero_le _, he, Nat.zero_le _, Nat.zero_le _⟩
  · have hk : kl (laneK K a b n e) i = kl K i := if_neg e8
    rw [hk]
    refine c15 i (Or.inl ?_)
    rcases hi with q | q
    · exact q
    · exact absurd q.1 e8
theorem bentK_ok {K : KD} (ok : KOK K) {k n : Nat} (hk : k < kh K 2) (h30 : ∀ i, i < kh K 2 → kr K i 2 ≤ 30) (h2 : n ≤ 99) : KOK (bentK K k n) := by
  obtain ⟨c0, c1, c2, c3, c4, c5, c6, c7, c8, c9, c10, c11, c12, c13, c14, c15, c16, c17⟩ := id ok
  have e : ∀ i j, j ≠ 2 → kr (bentK K k n) i j = kr K i j := fun i j hj => by
    show (if i = k then (fun j => if j = 2 then kr K k 2 + n else kr K k j) else kr K i) j = kr K i j
    by_cases c : i = k
    · rw [if_pos c, c]
      exact if_neg hj
    · rw [if_neg c]
  have e2 : ∀ i, i < kh K 2 → 1 ≤ kr (bentK K k n) i 2 ∧ kr (bentK K k n) i 2 ≤ 129 := fun i hi => by
    show 1 ≤ (if i = k then (fun j => if j = 2 then kr K k 2 + n else kr K k j) else kr K i) 2 ∧ (if i = k then (fun j => if j = 2 then kr K k 2 + n else kr K k j) else kr K i) 2 ≤ 129
    have h3 := h30 i hi
    have h4 := (c14 i hi).2.2.2.1
    by_cases c : i = k
    · rw [if_pos c]
      show 1 ≤ kr K k 2 + n ∧ kr K k 2 + n ≤ 129
      rw [c] at h3 h4
      omega
    · rw [if_neg c]
      omega
  refine ⟨c0, c1, c2, c3, c4, c5, c6, c7, c8, c9, c10, c11, c12, c13, fun i hi => ?_, c15, c16, fun i j hi hj hb => ?_⟩
  · obtain ⟨p1, p2⟩ := e2 i hi
    obtain ⟨q1, q2, q3, q4, q5⟩ := c14 i hi
    rw [e i 0 (by decide), e i 1 (by decide)]
    exact ⟨q1, q2, q3, p1, p2⟩
  · rw [e i 0 (by decide), e i 1 (by decide), e j 0 (by decide), e j 1 (by decide)] at hb
    exact c17 i j hi hj hb
theorem lawsK_ok {K : KD} (ok : KOK K) {r f : Nat} (hr : r ≤ 99) (hf : f ≤ 99) : KOK (lawsK K r f) := by
  obtain ⟨c0, c1, c2, c3, c4, c5, c6, c7, c8, c9, c10, c11, c12, c13, c14, c15, c16, c17⟩ := id ok
  exact ⟨c0, c1, c2, c3, c4, c5, hr, hf, c8, c9, c10, c11, c12, c13, c14, c15, c16, c17⟩
/-- scratch, and the lane that is thought of -/
def Scl (σ σ' : MS) : Prop := ∃ g, (∀ q, q < 56 ∨ 63 ≤ q → g q = σ.2.2.1 10 q) ∧ Scr (aset σ 10 g) σ'
section SCL
variable {M : AM} {σ σ' σ'' : MS} {K : KD}
theorem Scl_of (h : Scr σ σ') : Scl σ σ' := ⟨σ.2.2.1 10, fun _ _ => rfl, by rw [aset_same]; exact h⟩
theorem Scl_r : Scl σ σ := Scl_of Scr_r
theorem Scl_t (h : Scl σ σ') (h' : Scl σ' σ'') : Scl σ σ'' := by
  obtain ⟨g, hg, hs⟩ := h
  obtain ⟨g', hg', hs'⟩ := h'
  have e : σ'.2.2.1 10 = g := (hs.2.1 10 rfl).trans aset_get
  refine ⟨g', fun q hq => (hg' q hq).trans (by rw [e]; exact hg q hq), ?_⟩
  refine Scr_t (σ' := aset σ' 10 g') ⟨hs.1, fun k hk => ?_, hs.2.2.1, hs.2.2.2⟩ hs'
  by_cases c : k = 10
  · subst c; rw [aset_get, aset_get]
  · show va_up σ'.2.2.1 10 g' k = va_up σ.2.2.1 10 g' k
    rw [va_up_ne _ _ c, va_up_ne _ _ c]
    exact (hs.2.1 k hk).trans (va_up_ne _ _ c)
theorem RepM_scl {s : Nat} (h : RepM σ s K) (h11 : s = 0 → kh K 11 = 0) (h3 : kh K 3 ≤ 8) (e : Scl σ σ') : RepM σ' s K := by
  obtain ⟨g, hg, hs⟩ := e
  refine RepM_scr (σ := aset σ 10 g) ?_ hs
  refine ⟨h.1, h.2.1, h.2.2.1, h.2.2.2.1, h.2.2.2.2.1, fun i hi j hj => ?_, h.2.2.2.2.2.2⟩
  rw [← h.2.2.2.2.2.1 i hi j hj, aset_get]
  refine hg _ ?_
  by_cases c : s = 0
  · have := h11 c
    subst c
    omega
  · omega
theorem MK_scl (h : MK σ K) (h11 : kh K 11 = 0) (e : Scl σ σ') : MK σ' K := by
  refine ⟨RepM_scl h.1 (fun _ => h11) (ok_h h.2.1).2.2.2.1 e, h.2.1, ?_, ?_⟩
  · obtain ⟨g, hg, hs⟩ := e
    exact (hs.1 25 rfl).trans h.2.2.1
  · obtain ⟨g, hg, hs⟩ := e
    exact (hs.1 0 rfl).trans h.2.2.2
theorem Scr_25 {x y : Int32} (h : Scr (fset σ 25 x) σ') (e : σ.1 25 = y) : Scr σ (fset σ' 25 y) := by
  refine ⟨fun j hj => ?_, h.2.1, h.2.2.1, h.2.2.2⟩
  show upd σ'.1 25 y j = σ.1 j
  by_cases c : j = 25
  · rw [c, pk_us, e]
  · rw [pk_un c, h.1 j hj]
    exact pk_un c
def RI2 (M : AM) (σ : MS) (a : Int32) : Option Value → AM → Prop := fun v M' => v = some (.int a) ∧ ∃ σ', M' = mset M σ' ∧ Scl σ σ'
theorem RI2_s {a b : Int32} (e : Scl σ σ') (h : a = b) : RI2 M σ b (some (.int a)) (mset M σ') := ⟨by rw [h], σ', rfl, e⟩
theorem RI2_of {a : Int32} {v : Option Value} {M' : AM} (h : RI M σ a v M') : RI2 M σ a v M' := by
  obtain ⟨h1, σ', h2, h3⟩ := h
  exact ⟨h1, σ', h2, Scl_of h3⟩
theorem laneK_rep (h : RepM σ 0 K) {a b n e : Nat} {g : Nat → Int32} (h3 : kh K 3 ≤ 8) (hg : ∀ q, q < 56 ∨ 63 ≤ q → g q = σ.2.2.1 10 q) (g0 : g 56 = nI a) (g1 : g 57 = nI b) (g2 : g 58 = nI n) (g3 : g 59 = 0) (g4 : g 60 = nI e) (g5 : g 61 = 0) (g6 : g 62 = 0) {x : Int32} : RepM (fset (aset σ 10 g) 25 x) 0 (laneK K a b n e) := by
  refine ⟨fun j hj => ?_, fun h0 j hj => ?_, h.2.2.1, h.2.2.2.1, h.2.2.2.2.1, fun i hi j hj => ?_, h.2.2.2.2.2.2⟩
  · rw [show kh (laneK K a b n e) j = kh K j from if_neg (by omega)]
    exact h.1 j hj
  · rw [show kh (laneK K a b n e) (6 + j) = kh K (6 + j) from if_neg (by omega)]
    exact h.2.1 h0 j hj
  · show (aset σ 10 g).2.2.1 10 (63 * 0 + 7 * i + j) = _
    rw [aset_get]
    by_cases c : i = 8
    · subst c
      match j, hj with
      | 0, _ => exact g0
      | 1, _ => exact g1
      | 2, _ => exact g2
      | 3, _ => exact g3
      | 4, _ => exact g4
      | 5, _ => exact g5
      | 6, _ => exact g6
    · rw [show kl (laneK K a b n e) i = kl K i from if_neg c]
      have hi' : i < kh K 3 := by
        rcases hi with q | q
        · exact q
        · exact absurd q.1 c
      rw [hg _ (by omega)]
      exact h.2.2.2.2.2.1 i (Or.inl hi') j hj
theorem shareK_b (ok : KOK K) {k w : Nat} (hw : w < kh K 4) : shareK K k w ≤ 766260 := by
  have tw := ok_walk ok hw
  have p0 := tw.2.2.2.2.2.2.1 0 (by omega)
  have p1 := tw.2.2.2.2.2.2.1 (kw K w 3 - 1) (by omega)
  rw [show 4 + (kw K w 3 - 1) = 3 + kw K w 3 by omega] at p1
  obtain ⟨hf1, hf2, hf3⟩ := fin_i ok (aim := 2) (y := kw K w 2) (load := kw K w 1) (dn := 0) p0 p1 (by omega)
  unfold shareK
  by_cases c : (finW K w).1 = 0
  · rw [if_pos c]
    split <;> omega
  · rw [if_neg c]
    obtain ⟨hc1, hc2, dq, pq, he, hdq, hp1, hp7, hpb⟩ := hf3 (by decide) (Nat.pos_of_ne_zero c)
    have eD : bD (finW K w) = dq := by unfold bD; rw [show (finW K w).2.2.2.2 = some (dq, pq) from he]
    split
    · omega
    · split
      · exact hc1
      · split
        · exact Nat.le_trans hc2 (by decide)
        · omega
theorem sum_b {f : Nat → Nat} {B : Nat} : ∀ (n i s : Nat), (∀ j, i ≤ j → j < i + n → f j ≤ B) → fld (fun s w => s + f w) n i s ≤ s + n * B
  | 0, _, _, _ => by show _ ≤ _; rw [Nat.zero_mul]; exact Nat.le_refl _
  | n + 1, i, s, h => by
    have := sum_b n (i + 1) (s + f i) (fun j h1 h2 => h j (by omega) (by omega))
    have h0 := h i (Nat.le_refl _) (by omega)
    show fld (fun s w => s + f w) n (i + 1) (s + f i) ≤ _
    rw [Nat.add_mul]
    omega
theorem allK_b (ok : KOK K) {k : Nat} : allK K k ≤ 7662600 := by
  have h := sum_b (f := shareK K k) (B := 766260) (kh K 4) 0 0 (fun j _ h2 => shareK_b ok (by omega))
  have b4 := (ok_h ok).2.2.2.2.1
  have := Nat.mul_le_mul_right 766260 b4
  unfold allK
  omega
end SCL
section THINK
variable {d : Nat} {M : AM} {σ σ' : MS} {K : KD} {Q : Option Value → AM → Prop}
theorem m_thinks {a b m : Nat} : Wp d md_240 0 [some (.ref 287), some (.int (nI a)), some (.int (nI b)), some (.int (nI m)), none] [] (mset M σ) (fun v M' => v = none ∧ ∃ g, M' = mset M (fset (aset σ 10 g) 25 1) ∧ (∀ q, q < 56 ∨ 63 ≤ q → g q = σ.2.2.1 10 q) ∧ g 56 = nI a ∧ g 57 = nI b ∧ g 58 = nI m ∧ g 59 = 0 ∧ g 60 = nI 30 ∧ g 61 = 0 ∧ g 62 = 0) := by
  refine Wp.n (pc' := 11) 6 rfl ?_
  refine Wp.miastN (j := 56) (len := 1) rfl rfl rfl (by omega) ?_
  refine Wp.n (pc' := 19) 4 rfl ?_
  refine Wp.iaddN (x := 56) (y := 1) (len := 1) rfl ?_
  refine Wp.n (pc' := 21) 1 rfl ?_
  refine Wp.miastN (j := 56 + 1) (len := 1) rfl rfl rfl (by omega) ?_
  refine Wp.n (pc' := 29) 4 rfl ?_
  refine Wp.iaddN (x := 56) (y := 2) (len := 1) rfl ?_
  refine Wp.n (pc' := 31) 1 rfl ?_
  refine Wp.miastN (j := 56 + 2) (len := 1) rfl rfl rfl (by omega) ?_
  refine Wp.n (pc' := 39) 4 rfl ?_
  refine Wp.iaddN (x := 56) (y := 3) (len := 1) rfl ?_
  refine Wp.n (pc' := 41) 1 rfl ?_
  refine Wp.miastN (j := 56 + 3) (len := 1) rfl rfl rfl (by omega) ?_
  refine Wp.n (pc' := 49) 4 rfl ?_
  refine Wp.iaddN (x := 56) (y := 4) (len := 1) rfl ?_
  refine Wp.n (pc' := 52) 1 rfl ?_
  refine Wp.miastN (j := 56 + 4) (len := 1) rfl rfl rfl (by omega) ?_
  refine Wp.n (pc' := 60) 4 rfl ?_
  refine Wp.iaddN (x := 56) (y := 5) (len := 1) rfl ?_
  refine Wp.n (pc' := 62) 1 rfl ?_
  refine Wp.miastN (j := 56 + 5) (len := 1) rfl rfl rfl (by omega) ?_
  refine Wp.n (pc' := 71) 4 rfl ?_
  refine Wp.iaddN (x := 56) (y := 6) (len := 1) rfl ?_
  refine Wp.n (pc' := 73) 1 rfl ?_
  refine Wp.miastN (j := 56 + 6) (len := 1) rfl rfl rfl (by omega) ?_
  refine Wp.n (pc' := 76) 2 rfl ?_
  refine Wp.mputZ (len := 3) rfl rfl rfl ?_
  refine Wp.retV (len := 1) rfl rfl ?_
  refine ⟨rfl, upd (upd (upd (upd (upd (upd (upd (σ.2.2.1 10) 56 (nI a)) 57 (nI b)) 58 (nI m)) 59 0) 60 30) 61 0) 62 0, ?_, fun q hq => ?_, rfl, rfl, rfl, rfl, rfl, rfl, rfl⟩
  · simp only [aset_get, aset_aset]
  · rw [pk_un (by omega), pk_un (by omega), pk_un (by omega), pk_un (by omega), pk_un (by omega), pk_un (by omega), pk_un (by omega)]

theorem m_allWith (hM : MK σ K) (h11 : kh K 11 = 0) {a b m k : Nat} (ha : a < kh K 0) (hb : b < kh K 0) (hab : a ≠ b) (h1 : 1 ≤ m) (h2 : m ≤ 99) (hk : k < 4) : Wp (d + 15) md_239 0 [some (.ref 287), some (.int (nI a)), some (.int (nI b)), some (.int (nI m)), some (.int (nI k)), none] [] (mset M σ) (RI2 M σ (nI (allK (laneK K a b m 30) k))) := by
  have ok := hM.2.1
  have hσ0 := hM.2.2.2
  obtain ⟨b0, b1, b2, b3, b4, b5, b6, b7, b8, b9, b10, b11, b12⟩ := ok_h ok
  refine Wp.n (pc' := 4) 4 rfl ?_
  refine Wp.callV (len := 3) rfl rfl rfl (rfl) rfl (by decide) rfl (m_thinks (d := d + 14) (M := M) (σ := σ) (a := a) (b := b) (m := m)) ?_
  rintro _ _ ⟨rfl, g, rfl, hg, g0, g1, g2, g3, g4, g5, g6⟩
  have hM2 : MK (fset (aset σ 10 g) 25 1) (laneK K a b m 30) := ⟨laneK_rep hM.1 b3 hg g0 g1 g2 g3 g4 g5 g6, laneK_ok ok ha hb hab h1 h2 (Nat.le_refl _), rfl, hσ0⟩
  refine Wp.n (pc' := 10) 2 rfl ?_
  refine Wp.callV (len := 3) rfl rfl rfl (rfl) rfl (by decide) rfl (m_allOf hM2 hk) ?_
  rintro _ _ ⟨rfl, τ, rfl, hS⟩
  refine Wp.n (pc' := 17) 3 rfl ?_
  refine Wp.mputZ (len := 3) rfl rfl rfl ?_
  refine Wp.n (pc' := 22) 1 rfl ?_
  refine Wp.retI (len := 1) rfl rfl ?_
  exact RI2_s ⟨g, hg, Scr_25 hS (show σ.1 25 = 0 from by rw [hM.2.2.1, h11]; rfl)⟩ rfl

def laneA (K : KD) (x y m k : Int32) : Int32 := if areT K x y = true ∧ isR 1 99 m = true ∧ isN 4 k = true then nI (allK (laneK K x.toNatClampNeg y.toNatClampNeg m.toNatClampNeg 30) k.toNatClampNeg) - nI (allK K k.toNatClampNeg) else -2000000
theorem m_lane (hM : MK σ K) (h11 : kh K 11 = 0) (x y m k : Int32) : Wp (d + 16) md_237 0 [some (.ref 287), some (.int x), some (.int y), some (.int m), some (.int k)] [] (mset M σ) (RI2 M σ (laneA K x y m k)) := by
  have ok := hM.2.1
  have hσ0 := hM.2.2.2
  obtain ⟨b0, b1, b2, b3, b4, b5, b6, b7, b8, b9, b10, b11, b12⟩ := ok_h ok
  unfold laneA
  refine Wp.n (pc' := 2) 2 rfl ?_
  refine Wp.mput0 (len := 3) rfl hσ0 ?_
  refine Wp.n (pc' := 8) 3 rfl ?_
  refine Wp.ecallV (len := 3) rfl rfl rfl (rfl) rfl (by decide) rfl (m_areTwo hM.1 ok _ _) ?_
  refine Wp.ifb0 (tgt := 53) (len := 3) rfl (fun h11_ => ?_) (fun h11_ => ?_)
  · skip
    refine Wp.n (pc' := 56) 1 rfl ?_
    refine Wp.retI (len := 1) rfl rfl ?_
    first
      | exact RI2_s (Scl_t hS (Scl_of hS2)) rfl
      | (rw [if_neg (fun q => by rw [h11_] at q; exact absurd q.1 (by decide))]; exact RI2_s Scl_r rfl)
      | (rw [if_neg (fun q => by rw [show isR 1 99 m = false from h18] at q; exact absurd q.2.1 (by decide))]; exact RI2_s Scl_r rfl)
      | (rw [if_neg (fun q => by rw [h31] at q; exact absurd q.2.2 (by decide))]; exact RI2_s Scl_r rfl)
  · skip
    refine Wp.n (pc' := 15) 1 rfl ?_
    refine Wp.ecallS (len := 3) rfl rfl rfl rfl (m_isMore _) ?_
    refine Wp.ifb0 (tgt := 53) (len := 3) rfl (fun h18 => ?_) (fun h18 => ?_)
    · skip
      refine Wp.n (pc' := 56) 1 rfl ?_
      refine Wp.retI (len := 1) rfl rfl ?_
      first
        | exact RI2_s (Scl_t hS (Scl_of hS2)) rfl
        | (rw [if_neg (fun q => by rw [h11_] at q; exact absurd q.1 (by decide))]; exact RI2_s Scl_r rfl)
        | (rw [if_neg (fun q => by rw [show isR 1 99 m = false from h18] at q; exact absurd q.2.1 (by decide))]; exact RI2_s Scl_r rfl)
        | (rw [if_neg (fun q => by rw [h31] at q; exact absurd q.2.2 (by decide))]; exact RI2_s Scl_r rfl)
    · skip
      refine Wp.n (pc' := 28) 4 rfl ?_
      refine Wp.ecallS (len := 3) rfl rfl rfl rfl (m_in _ _ _) ?_
      refine Wp.ifb0 (tgt := 53) (len := 3) rfl (fun h31 => ?_) (fun h31 => ?_)
      · rw [in_isN (k := 4) (by decide)] at h31
        refine Wp.n (pc' := 56) 1 rfl ?_
        refine Wp.retI (len := 1) rfl rfl ?_
        first
          | exact RI2_s (Scl_t hS (Scl_of hS2)) rfl
          | (rw [if_neg (fun q => by rw [h11_] at q; exact absurd q.1 (by decide))]; exact RI2_s Scl_r rfl)
          | (rw [if_neg (fun q => by rw [show isR 1 99 m = false from h18] at q; exact absurd q.2.1 (by decide))]; exact RI2_s Scl_r rfl)
          | (rw [if_neg (fun q => by rw [h31] at q; exact absurd q.2.2 (by decide))]; exact RI2_s Scl_r rfl)
      · rw [in_isN (k := 4) (by decide)] at h31
        obtain ⟨a, t, ha, ht, hat, rfl, rfl⟩ := areT_of h11_
        obtain ⟨m, hm1, hm9, hm, rfl⟩ := isR_of (lo := 1) (hi := 99) h18
        obtain ⟨k, hk, rfl⟩ := isN_of h31
        rw [if_pos ⟨h11_, h18, h31⟩, nI_clamp (by omega), nI_clamp (by omega), nI_clamp hm, nI_clamp (by omega)]
        refine Wp.n (pc' := 40) 5 rfl ?_
        refine Wp.callV (len := 3) rfl rfl rfl (rfl) rfl (by decide) rfl (m_allWith hM h11 ha ht hat hm1 hm9 hk) ?_
        rintro _ _ ⟨rfl, τ, rfl, hS⟩
        refine Wp.n (pc' := 46) 2 rfl ?_
        refine Wp.callV (len := 3) rfl rfl rfl (rfl) rfl (by decide) rfl (m_allOf (MK_scl hM h11 hS) hk) ?_
        rintro _ _ ⟨rfl, τ2, rfl, hS2⟩
        refine Wp.n (pc' := 56) 2 rfl ?_
        refine Wp.retI (len := 1) rfl rfl ?_
        first
          | exact RI2_s (Scl_t hS (Scl_of hS2)) rfl
          | (rw [if_neg (fun q => by rw [h11_] at q; exact absurd q.1 (by decide))]; exact RI2_s Scl_r rfl)
          | (rw [if_neg (fun q => by rw [show isR 1 99 m = false from h18] at q; exact absurd q.2.1 (by decide))]; exact RI2_s Scl_r rfl)
          | (rw [if_neg (fun q => by rw [h31] at q; exact absurd q.2.2 (by decide))]; exact RI2_s Scl_r rfl)

/-- the search for the best new lane -/
def hst (K : KD) (m a : Nat) (st : Nat × Option Nat) (b : Nat) : Nat × Option Nat := if allK (laneK K a b m 30) 1 < st.1 then (allK (laneK K a b m 30) 1, some (10 * a + b)) else st
def hstA (K : KD) (m : Nat) (st : Nat × Option Nat) (a : Nat) : Nat × Option Nat := fld (hst K m a) (kh K 0 - (a + 1)) (a + 1) st
def helpK (K : KD) (m : Nat) : Option Nat := (fld (hstA K m) (kh K 0) 0 (allK K 1, none)).2
def helpA (K : KD) (x : Int32) : Int32 := if 0 < kh K 0 ∧ isR 1 99 x = true then oI (helpK K x.toNatClampNeg) else -2
theorem hst_b {m a b : Nat} {st : Nat × Option Nat} (h : st.1 ≤ 7662600) : (hst K m a st b).1 ≤ 7662600 := by
  unfold hst
  split
  · rename_i q
    show allK _ 1 ≤ _
    omega
  · exact h
theorem m_help_b (hM : MK σ K) (h11 : kh K 11 = 0) {m a : Nat} (h1 : 1 ≤ m) (h2 : m ≤ 99) (ha : a < kh K 0) : ∀ (n b : Nat) (st : Nat × Option Nat) (τ : MS) (z6 : Option Value), b + n = kh K 0 → a < b → Scl σ τ → st.1 ≤ 7662600 → (∀ τ' z6' st', st' = fld (hst K m a) n b st → st'.1 ≤ 7662600 → Scl σ τ' → Wp (d + 16) md_241 100 [some (.ref 287), some (.int (nI m)), some (.int (nI (st'.1))), some (.int (oI st'.2)), some (.int (nI a)), some (.int (nI (kh K 0))), z6'] [] (mset M τ') Q) → Wp (d + 16) md_241 50 [some (.ref 287), some (.int (nI m)), some (.int (nI (st.1))), some (.int (oI st.2)), some (.int (nI a)), some (.int (nI b)), z6] [] (mset M τ) Q := by
  have ok := hM.2.1
  have hσ0 := hM.2.2.2
  obtain ⟨b0, b1, b2, b3, b4, b5, b6, b7, b8, b9, b10, b11, b12⟩ := ok_h ok
  intro n
  induction n with
  | zero =>
    intro b st τ z6 hb hab hS hs7 kk
    have hK := MK_scl hM h11 hS
    refine Wp.n (pc' := 57) 4 rfl ?_
    refine Wp.mialdN (j := 0) (len := 1) rfl rfl rfl (by omega) ?_
    refine Wp.top (r0_has hK.1 (by decide)) ?_
    refine Wp.nc3 (x := b) (y := kh K 0) (tgt := 100) (len := 3) rfl (by omega) (by omega) (fun h58 => ?_) (fun h58 => ?_)
    · skip
      rw [show b = kh K 0 by omega]
      exact kk τ _ st rfl hs7 hS
    · omega
  | succ n ih =>
    intro b st τ z6 hb hab hS hs7 kk
    have hK := MK_scl hM h11 hS
    have hab2 := allK_b (K := laneK K a b m 30) (k := 1) (laneK_ok ok ha (by omega) (by omega) h1 h2 (Nat.le_refl _))
    have hb2 := hst_b (K := K) (m := m) (a := a) (b := b) hs7
    refine Wp.n (pc' := 57) 4 rfl ?_
    refine Wp.mialdN (j := 0) (len := 1) rfl rfl rfl (by omega) ?_
    refine Wp.top (r0_has hK.1 (by decide)) ?_
    refine Wp.nc3 (x := b) (y := kh K 0) (tgt := 100) (len := 3) rfl (by omega) (by omega) (fun h58 => ?_) (fun h58 => ?_)
    · omega
    · skip
      refine Wp.n (pc' := 68) 5 rfl ?_
      refine Wp.callV (len := 3) rfl rfl rfl (rfl) rfl (by decide) rfl (m_allWith hK h11 ha (by omega) (by omega) h1 h2 (by decide)) ?_
      rintro _ _ ⟨rfl, τ2, rfl, hS2⟩
      refine Wp.n (pc' := 76) 3 rfl ?_
      refine Wp.nc2 (x := allK (laneK K a b m 30) 1) (y := st.1) (tgt := 82) (len := 3) rfl (by omega) (by omega) (fun h76 => ?_) (fun h76 => ?_)
      · skip
        refine Wp.n (pc' := 89) 4 rfl ?_
        refine Wp.imulN (x := 10) (y := a) (len := 1) rfl ?_
        refine Wp.n (pc' := 92) 1 rfl ?_
        refine Wp.iaddN (x := 10 * a) (y := b) (len := 1) rfl ?_
        refine Wp.n (pc' := 94) 1 rfl ?_
        refine Wp.incN (x := b) (len := 3) rfl rfl ?_
        refine Wp.n (pc' := 50) 1 rfl ?_
        have ihh := ih (b + 1) (hst K m a st b) τ2
        first
          | (have e : hst K m a st b = (allK (laneK K a b m 30) 1, some (10 * a + b)) := if_pos (by omega)
             rw [e] at ihh
             exact ihh _ (by omega) (by omega) (Scl_t hS hS2) hab2 (fun τ3 z3 st3 e3 => kk τ3 z3 st3 (by rw [e3, ← e]; rfl)))
          | (have e : hst K m a st b = st := if_neg (by omega)
             rw [e] at ihh
             exact ihh _ (by omega) (by omega) (Scl_t hS hS2) hs7 (fun τ3 z3 st3 e3 => kk τ3 z3 st3 (e3.trans (congrArg (fld (hst K m a) n (b + 1)) e.symm))))
      · skip
        refine Wp.n (pc' := 94) 1 rfl ?_
        refine Wp.incN (x := b) (len := 3) rfl rfl ?_
        refine Wp.n (pc' := 50) 1 rfl ?_
        have ihh := ih (b + 1) (hst K m a st b) τ2
        first
          | (have e : hst K m a st b = (allK (laneK K a b m 30) 1, some (10 * a + b)) := if_pos (by omega)
             rw [e] at ihh
             exact ihh _ (by omega) (by omega) (Scl_t hS hS2) hab2 (fun τ3 z3 st3 e3 => kk τ3 z3 st3 (by rw [e3, ← e]; rfl)))
          | (have e : hst K m a st b = st := if_neg (by omega)
             rw [e] at ihh
             exact ihh _ (by omega) (by omega) (Scl_t hS hS2) hs7 (fun τ3 z3 st3 e3 => kk τ3 z3 st3 (e3.trans (congrArg (fld (hst K m a) n (b + 1)) e.symm))))

theorem m_help_a (hM : MK σ K) (h11 : kh K 11 = 0) {m : Nat} (h1 : 1 ≤ m) (h2 : m ≤ 99) : ∀ (n a : Nat) (st : Nat × Option Nat) (τ : MS) (z5 z6 : Option Value), a + n = kh K 0 → Scl σ τ → st.1 ≤ 7662600 → Wp (d + 16) md_241 33 [some (.ref 287), some (.int (nI m)), some (.int (nI (st.1))), some (.int (oI st.2)), some (.int (nI a)), z5, z6] [] (mset M τ) (RI2 M σ (oI (fld (hstA K m) n a st).2)) := by
  have ok := hM.2.1
  have hσ0 := hM.2.2.2
  obtain ⟨b0, b1, b2, b3, b4, b5, b6, b7, b8, b9, b10, b11, b12⟩ := ok_h ok
  intro n
  induction n with
  | zero =>
    intro a st τ z5 z6 ha hS hs7
    have hK := MK_scl hM h11 hS
    refine Wp.n (pc' := 40) 4 rfl ?_
    refine Wp.mialdN (j := 0) (len := 1) rfl rfl rfl (by omega) ?_
    refine Wp.top (r0_has hK.1 (by decide)) ?_
    refine Wp.nc3 (x := a) (y := kh K 0) (tgt := 106) (len := 3) rfl (by omega) (by omega) (fun h41 => ?_) (fun h41 => ?_)
    · skip
      refine Wp.n (pc' := 107) 1 rfl ?_
      refine Wp.retI (len := 1) rfl rfl ?_
      exact RI2_s hS rfl
    · omega
  | succ n ih =>
    intro a st τ z5 z6 ha hS hs7
    have hK := MK_scl hM h11 hS
    refine Wp.n (pc' := 40) 4 rfl ?_
    refine Wp.mialdN (j := 0) (len := 1) rfl rfl rfl (by omega) ?_
    refine Wp.top (r0_has hK.1 (by decide)) ?_
    refine Wp.nc3 (x := a) (y := kh K 0) (tgt := 106) (len := 3) rfl (by omega) (by omega) (fun h41 => ?_) (fun h41 => ?_)
    · omega
    · skip
      refine Wp.n (pc' := 47) 2 rfl ?_
      refine Wp.iaddN (x := a) (y := 1) (len := 1) rfl ?_
      refine Wp.n (pc' := 50) 1 rfl ?_
      refine m_help_b hM h11 h1 h2 (by omega) (kh K 0 - (a + 1)) (a + 1) st τ _ (by omega) (by omega) hS hs7 (fun τ2 z2 st2 e2 hs2 hS2 => ?_)
      refine Wp.incN (x := a) (len := 3) rfl rfl ?_
      refine Wp.n (pc' := 33) 1 rfl ?_
      subst e2
      exact ih (a + 1) _ τ2 _ _ (by omega) hS2 hs2
      

theorem m_help (hM : MK σ K) (h11 : kh K 11 = 0) (x : Int32) : Wp (d + 16) md_241 0 [some (.ref 287), some (.int x), none, none, none, none, none] [] (mset M σ) (RI2 M σ (helpA K x)) := by
  have ok := hM.2.1
  have hσ0 := hM.2.2.2
  obtain ⟨b0, b1, b2, b3, b4, b5, b6, b7, b8, b9, b10, b11, b12⟩ := ok_h ok
  unfold helpA
  refine Wp.n (pc' := 2) 2 rfl ?_
  refine Wp.mput0 (len := 3) rfl hσ0 ?_
  refine Wp.n (pc' := 6) 1 rfl ?_
  refine Wp.ecallV (len := 3) rfl rfl rfl (rfl) rfl (by decide) rfl (m_isKingdom hM.1 ok) ?_
  refine Wp.ifb0 (tgt := 19) (len := 3) rfl (fun h9 => ?_) (fun h9 => ?_)
  · skip
    refine Wp.n (pc' := 21) 1 rfl ?_
    refine Wp.retI (len := 1) rfl rfl ?_
    first
      | (rw [if_neg (fun q => of_decide_eq_false h9 q.1)]; exact RI2_s Scl_r rfl)
      | (rw [if_neg (fun q => by rw [show isR 1 99 x = false from h16] at q; exact absurd q.2 (by decide))]; exact RI2_s Scl_r rfl)
  · skip
    refine Wp.n (pc' := 13) 1 rfl ?_
    refine Wp.ecallS (len := 3) rfl rfl rfl rfl (m_isMore _) ?_
    refine Wp.ifb1 (tgt := 22) (len := 3) rfl (fun h16 => ?_) (fun h16 => ?_)
    · skip
      obtain ⟨m, hm1, hm9, hm, rfl⟩ := isR_of (lo := 1) (hi := 99) h16
      rw [if_pos ⟨of_decide_eq_true h9, h16⟩, nI_clamp hm]
      refine Wp.n (pc' := 24) 2 rfl ?_
      refine Wp.callV (len := 3) rfl rfl rfl (rfl) rfl (by decide) rfl (m_allOf hM (by decide)) ?_
      rintro _ _ ⟨rfl, τ, rfl, hS⟩
      refine Wp.n (pc' := 33) 5 rfl ?_
      exact m_help_a hM h11 hm1 hm9 (kh K 0) 0 (allK K 1, none) τ _ _ (by omega) (Scl_of hS) (allK_b ok)
    · skip
      refine Wp.n (pc' := 21) 1 rfl ?_
      refine Wp.retI (len := 1) rfl rfl ?_
      first
        | (rw [if_neg (fun q => of_decide_eq_false h9 q.1)]; exact RI2_s Scl_r rfl)
        | (rw [if_neg (fun q => by rw [show isR 1 99 x = false from h16] at q; exact absurd q.2 (by decide))]; exact RI2_s Scl_r rfl)

/-- roads as they were told: none is bent -/
def R30 (K : KD) : Prop := ∀ i, i < kh K 2 → kr K i 2 ≤ 30
theorem bent_rep (h : RepM σ 0 K) {k m : Nat} (h2 : kh K 2 ≤ 12) : RepM (aset σ 9 (upd (σ.2.2.1 9) (3 * k + 2) (nI (kr K k 2 + m)))) 0 (bentK K k m) := by
  refine ⟨h.1, h.2.1, h.2.2.1, h.2.2.2.1, fun i hi j hj => ?_, h.2.2.2.2.2.1, h.2.2.2.2.2.2⟩
  rw [aset_get]
  show upd (σ.2.2.1 9) (3 * k + 2) _ (36 * 0 + 3 * i + j) = nI ((if i = k then (fun j => if j = 2 then kr K k 2 + m else kr K k j) else kr K i) j)
  by_cases c : i = k
  · subst c
    rw [if_pos rfl]
    by_cases c2 : j = 2
    · subst c2
      rw [show 36 * 0 + 3 * i + 2 = 3 * i + 2 by omega, pk_us]
      rfl
    · rw [pk_un (by omega), h.2.2.2.2.1 i hi j hj]
      exact congrArg nI (if_neg c2).symm
  · rw [if_neg c, pk_un (by omega)]
    exact h.2.2.2.2.1 i hi j hj
theorem Scr_9 {g : Nat → Int32} (h : Scr (aset σ 9 g) σ') : Scr σ (aset σ' 9 (σ.2.2.1 9)) := by
  refine ⟨h.1, fun k hk => ?_, h.2.2.1, h.2.2.2⟩
  by_cases c : k = 9
  · subst c; rw [aset_get]
  · show va_up σ'.2.2.1 9 _ k = _
    rw [va_up_ne _ _ c, h.2.1 k hk]
    exact va_up_ne _ _ c
theorem m_allBent (hM : MK σ K) (h30 : R30 K) {k m q : Nat} (hk : k < kh K 2) (h2 : m ≤ 99) (hq : q < 4) : Wp (d + 15) md_243 0 [some (.ref 287), some (.int (nI k)), some (.int (nI m)), some (.int (nI q)), none] [] (mset M σ) (RI M σ (nI (allK (bentK K k m) q))) := by
  have ok := hM.2.1
  have hσ0 := hM.2.2.2
  obtain ⟨b0, b1, b2, b3, b4, b5, b6, b7, b8, b9, b10, b11, b12⟩ := ok_h ok
  have h30k := h30 k hk
  refine Wp.n (pc' := 6) 4 rfl ?_
  refine Wp.imulN (x := 3) (y := k) (len := 1) rfl ?_
  refine Wp.n (pc' := 8) 1 rfl ?_
  refine Wp.iaddN (x := 3 * k) (y := 2) (len := 1) rfl ?_
  refine Wp.n (pc' := 10) 1 rfl ?_
  refine Wp.mialdN (j := (3 * k) + 2) (len := 1) rfl rfl rfl (by omega) ?_
  refine Wp.top (r0_road hM.1 hk (by decide) rfl) ?_
  refine Wp.n (pc' := 12) 1 rfl ?_
  refine Wp.iaddN (x := kr K k 2) (y := m) (len := 1) rfl ?_
  refine Wp.miastN (j := (3 * k) + 2) (len := 1) rfl rfl rfl (by omega) ?_
  refine Wp.n (pc' := 16) 2 rfl ?_
  refine Wp.callV (len := 3) rfl rfl rfl (rfl) rfl (by decide) rfl (m_allOf (σ := aset σ 9 (upd (σ.2.2.1 9) (3 * k + 2) (nI (kr K k 2 + m)))) (K := bentK K k m) ⟨bent_rep hM.1 b2, bentK_ok ok hk h30 h2, hM.2.2.1, hσ0⟩ hq) ?_
  rintro _ _ ⟨rfl, τ, rfl, hS⟩
  refine Wp.n (pc' := 27) 5 rfl ?_
  refine Wp.imulN (x := 3) (y := k) (len := 1) rfl ?_
  refine Wp.n (pc' := 29) 1 rfl ?_
  refine Wp.iaddN (x := 3 * k) (y := 2) (len := 1) rfl ?_
  refine Wp.n (pc' := 31) 1 rfl ?_
  refine Wp.mialdN (j := (3 * k) + 2) (len := 1) rfl rfl rfl (by omega) ?_
  refine Wp.top (show _ = nI (kr K k 2 + m) from by rw [hS.2.1 9 rfl, aset_get, pk_us]) ?_
  refine Wp.n (pc' := 33) 1 rfl ?_
  refine Wp.isubN (x := kr K k 2 + m) (y := m) (len := 1) rfl (by omega) ?_
  refine Wp.miastN (j := (3 * k) + 2) (len := 1) rfl rfl rfl (by omega) ?_
  refine Wp.n (pc' := 37) 1 rfl ?_
  refine Wp.retI (len := 1) rfl rfl ?_
  have e : upd (τ.2.2.1 9) (3 * k + 2) (nI (kr K k 2 + m - m)) = σ.2.2.1 9 := by
    rw [hS.2.1 9 rfl, aset_get, Nat.add_sub_cancel]
    funext j
    by_cases c : j = 3 * k + 2
    · rw [c, pk_us, r0_road hM.1 hk (by decide) rfl]
    · rw [pk_un c, pk_un c]
  exact RI_s (by rw [e]; exact Scr_9 hS) rfl

def bendA (K : KD) (x m k : Int32) : Int32 := if isN (kh K 2) x = true ∧ isR 1 99 m = true ∧ isN 4 k = true then nI (allK (bentK K x.toNatClampNeg m.toNatClampNeg) k.toNatClampNeg) - nI (allK K k.toNatClampNeg) else -2000000
theorem m_bend (hM : MK σ K) (h30 : R30 K) (x m k : Int32) : Wp (d + 16) md_242 0 [some (.ref 287), some (.int x), some (.int m), some (.int k)] [] (mset M σ) (RI M σ (bendA K x m k)) := by
  have ok := hM.2.1
  have hσ0 := hM.2.2.2
  obtain ⟨b0, b1, b2, b3, b4, b5, b6, b7, b8, b9, b10, b11, b12⟩ := ok_h ok
  unfold bendA
  refine Wp.n (pc' := 2) 2 rfl ?_
  refine Wp.mput0 (len := 3) rfl hσ0 ?_
  refine Wp.n (pc' := 13) 6 rfl ?_
  refine Wp.mialdN (j := 2) (len := 1) rfl rfl rfl (by omega) ?_
  refine Wp.n (pc' := 17) 3 rfl ?_
  refine Wp.ecallS (len := 3) rfl rfl rfl rfl (m_in _ _ _) ?_
  refine Wp.ifb0 (tgt := 58) (len := 3) rfl (fun h20 => ?_) (fun h20 => ?_)
  · rw [show (0 : Int64).toInt = 0 from rfl, il_toInt, il_toInt, isN_le (n := kh K 2) (by omega) (r0_has hM.1 (by decide))] at h20
    refine Wp.n (pc' := 61) 1 rfl ?_
    refine Wp.retI (len := 1) rfl rfl ?_
    first
      | exact RI_s (Scr_t hS hS2) rfl
      | (rw [if_neg (fun q => by rw [h20] at q; exact absurd q.1 (by decide))]; exact RI_r rfl)
      | (rw [if_neg (fun q => by rw [show isR 1 99 m = false from h27] at q; exact absurd q.2.1 (by decide))]; exact RI_r rfl)
      | (rw [if_neg (fun q => by rw [h39] at q; exact absurd q.2.2 (by decide))]; exact RI_r rfl)
  · rw [show (0 : Int64).toInt = 0 from rfl, il_toInt, il_toInt, isN_le (n := kh K 2) (by omega) (r0_has hM.1 (by decide))] at h20
    refine Wp.n (pc' := 24) 1 rfl ?_
    refine Wp.ecallS (len := 3) rfl rfl rfl rfl (m_isMore _) ?_
    refine Wp.ifb0 (tgt := 58) (len := 3) rfl (fun h27 => ?_) (fun h27 => ?_)
    · skip
      refine Wp.n (pc' := 61) 1 rfl ?_
      refine Wp.retI (len := 1) rfl rfl ?_
      first
        | exact RI_s (Scr_t hS hS2) rfl
        | (rw [if_neg (fun q => by rw [h20] at q; exact absurd q.1 (by decide))]; exact RI_r rfl)
        | (rw [if_neg (fun q => by rw [show isR 1 99 m = false from h27] at q; exact absurd q.2.1 (by decide))]; exact RI_r rfl)
        | (rw [if_neg (fun q => by rw [h39] at q; exact absurd q.2.2 (by decide))]; exact RI_r rfl)
    · skip
      refine Wp.n (pc' := 36) 4 rfl ?_
      refine Wp.ecallS (len := 3) rfl rfl rfl rfl (m_in _ _ _) ?_
      refine Wp.ifb0 (tgt := 58) (len := 3) rfl (fun h39 => ?_) (fun h39 => ?_)
      · rw [in_isN (k := 4) (by decide)] at h39
        refine Wp.n (pc' := 61) 1 rfl ?_
        refine Wp.retI (len := 1) rfl rfl ?_
        first
          | exact RI_s (Scr_t hS hS2) rfl
          | (rw [if_neg (fun q => by rw [h20] at q; exact absurd q.1 (by decide))]; exact RI_r rfl)
          | (rw [if_neg (fun q => by rw [show isR 1 99 m = false from h27] at q; exact absurd q.2.1 (by decide))]; exact RI_r rfl)
          | (rw [if_neg (fun q => by rw [h39] at q; exact absurd q.2.2 (by decide))]; exact RI_r rfl)
      · rw [in_isN (k := 4) (by decide)] at h39
        obtain ⟨r, hr, rfl⟩ := isN_of h20
        obtain ⟨m, hm1, hm9, hm, rfl⟩ := isR_of (lo := 1) (hi := 99) h27
        obtain ⟨k, hk, rfl⟩ := isN_of h39
        rw [if_pos ⟨h20, h27, h39⟩, nI_clamp (by omega), nI_clamp hm, nI_clamp (by omega)]
        refine Wp.n (pc' := 46) 4 rfl ?_
        refine Wp.callV (len := 3) rfl rfl rfl (rfl) rfl (by decide) rfl (m_allBent hM h30 hr hm9 hk) ?_
        rintro _ _ ⟨rfl, τ, rfl, hS⟩
        refine Wp.n (pc' := 51) 2 rfl ?_
        refine Wp.callV (len := 3) rfl rfl rfl (rfl) rfl (by decide) rfl (m_allOf (MK_scr hM hS) hk) ?_
        rintro _ _ ⟨rfl, τ2, rfl, hS2⟩
        refine Wp.n (pc' := 61) 2 rfl ?_
        refine Wp.retI (len := 1) rfl rfl ?_
        first
          | exact RI_s (Scr_t hS hS2) rfl
          | (rw [if_neg (fun q => by rw [h20] at q; exact absurd q.1 (by decide))]; exact RI_r rfl)
          | (rw [if_neg (fun q => by rw [show isR 1 99 m = false from h27] at q; exact absurd q.2.1 (by decide))]; exact RI_r rfl)
          | (rw [if_neg (fun q => by rw [h39] at q; exact absurd q.2.2 (by decide))]; exact RI_r rfl)

def dst (K : KD) (m : Nat) (st : Nat × Option Nat) (k : Nat) : Nat × Option Nat := if st.1 < allK (bentK K k m) 0 then (allK (bentK K k m) 0, some k) else st
def dukeK (K : KD) (m : Nat) : Option Nat := (fld (dst K m) (kh K 2) 0 (allK K 0, none)).2
def dukeA (K : KD) (x : Int32) : Int32 := if 0 < kh K 0 ∧ isR 1 99 x = true then oI (dukeK K x.toNatClampNeg) else -2
theorem m_duke_l (hM : MK σ K) (h30 : R30 K) {m : Nat} (h2 : m ≤ 99) : ∀ (n k : Nat) (st : Nat × Option Nat) (τ : MS) (z5 : Option Value), k + n = kh K 2 → Scr σ τ → st.1 ≤ 7662600 → Wp (d + 16) md_244 33 [some (.ref 287), some (.int (nI m)), some (.int (nI (st.1))), some (.int (oI st.2)), some (.int (nI k)), z5] [] (mset M τ) (RI M σ (oI (fld (dst K m) n k st).2)) := by
  have ok := hM.2.1
  have hσ0 := hM.2.2.2
  obtain ⟨b0, b1, b2, b3, b4, b5, b6, b7, b8, b9, b10, b11, b12⟩ := ok_h ok
  intro n
  induction n with
  | zero =>
    intro k st τ z5 hk hS hs7
    have hK := MK_scr hM hS
    refine Wp.n (pc' := 40) 4 rfl ?_
    refine Wp.mialdN (j := 2) (len := 1) rfl rfl rfl (by omega) ?_
    refine Wp.top (r0_has hK.1 (by decide)) ?_
    refine Wp.nc3 (x := k) (y := kh K 2) (tgt := 75) (len := 3) rfl (by omega) (by omega) (fun h41 => ?_) (fun h41 => ?_)
    · skip
      refine Wp.n (pc' := 76) 1 rfl ?_
      refine Wp.retI (len := 1) rfl rfl ?_
      exact RI_s hS rfl
    · omega
  | succ n ih =>
    intro k st τ z5 hk hS hs7
    have hK := MK_scr hM hS
    have hab2 := allK_b (K := bentK K k m) (k := 0) (bentK_ok ok (by omega) h30 h2)
    refine Wp.n (pc' := 40) 4 rfl ?_
    refine Wp.mialdN (j := 2) (len := 1) rfl rfl rfl (by omega) ?_
    refine Wp.top (r0_has hK.1 (by decide)) ?_
    refine Wp.nc3 (x := k) (y := kh K 2) (tgt := 75) (len := 3) rfl (by omega) (by omega) (fun h41 => ?_) (fun h41 => ?_)
    · omega
    · skip
      refine Wp.n (pc' := 49) 4 rfl ?_
      refine Wp.callV (len := 3) rfl rfl rfl (rfl) rfl (by decide) rfl (m_allBent hK h30 (by omega) h2 (by decide)) ?_
      rintro _ _ ⟨rfl, τ2, rfl, hS2⟩
      refine Wp.n (pc' := 57) 3 rfl ?_
      refine Wp.nc4 (x := allK (bentK K k m) 0) (y := st.1) (tgt := 63) (len := 3) rfl (by omega) (by omega) (fun h57 => ?_) (fun h57 => ?_)
      · skip
        refine Wp.n (pc' := 69) 4 rfl ?_
        refine Wp.incN (x := k) (len := 3) rfl rfl ?_
        refine Wp.n (pc' := 33) 1 rfl ?_
        rw [show fld (dst K m) (n + 1) k st = fld (dst K m) n (k + 1) (dst K m st k) from rfl]
        first
          | (have e : dst K m st k = (allK (bentK K k m) 0, some k) := if_pos (by omega)
             rw [e]
             exact ih (k + 1) (allK (bentK K k m) 0, some k) τ2 _ (by omega) (Scr_t hS hS2) hab2)
          | (have e : dst K m st k = st := if_neg (by omega)
             rw [e]
             exact ih (k + 1) st τ2 _ (by omega) (Scr_t hS hS2) hs7)
      · skip
        refine Wp.n (pc' := 69) 1 rfl ?_
        refine Wp.incN (x := k) (len := 3) rfl rfl ?_
        refine Wp.n (pc' := 33) 1 rfl ?_
        rw [show fld (dst K m) (n + 1) k st = fld (dst K m) n (k + 1) (dst K m st k) from rfl]
        first
          | (have e : dst K m st k = (allK (bentK K k m) 0, some k) := if_pos (by omega)
             rw [e]
             exact ih (k + 1) (allK (bentK K k m) 0, some k) τ2 _ (by omega) (Scr_t hS hS2) hab2)
          | (have e : dst K m st k = st := if_neg (by omega)
             rw [e]
             exact ih (k + 1) st τ2 _ (by omega) (Scr_t hS hS2) hs7)

theorem m_duke (hM : MK σ K) (h30 : R30 K) (x : Int32) : Wp (d + 16) md_244 0 [some (.ref 287), some (.int x), none, none, none, none] [] (mset M σ) (RI M σ (dukeA K x)) := by
  have ok := hM.2.1
  have hσ0 := hM.2.2.2
  obtain ⟨b0, b1, b2, b3, b4, b5, b6, b7, b8, b9, b10, b11, b12⟩ := ok_h ok
  unfold dukeA
  refine Wp.n (pc' := 2) 2 rfl ?_
  refine Wp.mput0 (len := 3) rfl hσ0 ?_
  refine Wp.n (pc' := 6) 1 rfl ?_
  refine Wp.ecallV (len := 3) rfl rfl rfl (rfl) rfl (by decide) rfl (m_isKingdom hM.1 ok) ?_
  refine Wp.ifb0 (tgt := 19) (len := 3) rfl (fun h9 => ?_) (fun h9 => ?_)
  · skip
    refine Wp.n (pc' := 21) 1 rfl ?_
    refine Wp.retI (len := 1) rfl rfl ?_
    first
      | (rw [if_neg (fun q => of_decide_eq_false h9 q.1)]; exact RI_s Scr_r rfl)
      | (rw [if_neg (fun q => by rw [show isR 1 99 x = false from h16] at q; exact absurd q.2 (by decide))]; exact RI_s Scr_r rfl)
  · skip
    refine Wp.n (pc' := 13) 1 rfl ?_
    refine Wp.ecallS (len := 3) rfl rfl rfl rfl (m_isMore _) ?_
    refine Wp.ifb1 (tgt := 22) (len := 3) rfl (fun h16 => ?_) (fun h16 => ?_)
    · skip
      obtain ⟨m, hm1, hm9, hm, rfl⟩ := isR_of (lo := 1) (hi := 99) h16
      rw [if_pos ⟨of_decide_eq_true h9, h16⟩, nI_clamp hm]
      refine Wp.n (pc' := 24) 2 rfl ?_
      refine Wp.callV (len := 3) rfl rfl rfl (rfl) rfl (by decide) rfl (m_allOf hM (by decide)) ?_
      rintro _ _ ⟨rfl, τ, rfl, hS⟩
      refine Wp.n (pc' := 33) 5 rfl ?_
      exact m_duke_l hM h30 hm9 (kh K 2) 0 (allK K 0, none) τ _ (by omega) hS (allK_b ok)
    · skip
      refine Wp.n (pc' := 21) 1 rfl ?_
      refine Wp.retI (len := 1) rfl rfl ?_
      first
        | (rw [if_neg (fun q => of_decide_eq_false h9 q.1)]; exact RI_s Scr_r rfl)
        | (rw [if_neg (fun q => by rw [show isR 1 99 x = false from h16] at q; exact absurd q.2 (by decide))]; exact RI_s Scr_r rfl)

end THINK
end
