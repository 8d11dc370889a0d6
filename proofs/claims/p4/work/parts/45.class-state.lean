/-! THE CLASS as a state: Tape (33), its bytes (34), Reader (35), kept (272), Ways (273 .. 279), Trip (280, 281), Slots (282 .. 285). The realms lie in M.
Slots of the state: 0 Tape, 1 bytes, 2 Reader, 3 kept, 4 Ways, 5 lengths, 6 laneBits, 7 sizes, 8 rows, 9 stepLengths, 10 stepLanes, 11 Trip, 12 watches, 13 Slots, 14 values, 15 sizes, 16 widths. -/
abbrev CS : Type := (Nat → Nat → Int32) × (Nat → Nat → Int32) × (Nat → Int64) × (Nat → Option Nat)
def ccell (κ : CS) (s : Nat) : AE := match s with
  | 0 => .inr (5, [.ref 34, .int (κ.1 0 1)])
  | 1 => .inl (2, 2000, .inl (κ.2.1 1))
  | 2 => .inr (2, [va_rf (κ.2.2.2 0), va_rf (κ.2.2.2 1), .int (κ.1 2 2), .int (κ.1 2 3), .int (κ.1 2 4), .int (κ.1 2 5), .int (κ.1 2 6), .int (κ.1 2 7)])
  | 3 => .inl (3, 3, .inl (κ.2.1 3))
  | 4 => .inr (8, [.ref 274, .ref 275, .ref 276, .ref 277, .int (κ.1 4 4), .ref 278, .ref 279, va_rf (κ.2.2.2 2), .int (κ.1 4 8), .int (κ.1 4 9), .int (κ.1 4 10), .int (κ.1 4 11), .int (κ.1 4 12)])
  | 5 => .inl (0, 326, .inl (κ.2.1 5))
  | 6 => .inl (0, 326, .inl (κ.2.1 6))
  | 7 => .inl (0, 326, .inl (κ.2.1 7))
  | 8 => .inl (0, 326, .inl (κ.2.1 8))
  | 9 => .inl (0, 49, .inl (κ.2.1 9))
  | 10 => .inl (0, 49, .inl (κ.2.1 10))
  | 11 => .inr (6, [.int (κ.1 11 0), .int (κ.1 11 1), .int (κ.1 11 2), .int (κ.1 11 3), .int (κ.1 11 4), .int (κ.1 11 5), .ref 281, .int (κ.1 11 7)])
  | 12 => .inl (0, 6, .inl (κ.2.1 12))
  | 13 => .inr (4, [.ref 283, .ref 284, .ref 285])
  | 14 => .inl (1, 240, .inr (.inl κ.2.2.1))
  | 15 => .inl (0, 4, .inl (κ.2.1 15))
  | 16 => .inl (0, 4, .inl (κ.2.1 16))
  | _ => .inr (99, [])
def cset (M : AM) (κ : CS) : AM := fun k => if k < 33 then M k else if k < 36 then ccell κ (k - 33) else if k < 272 then M k else if k < 286 then ccell κ (k - 269) else M k
def cad (s : Nat) : Nat := if s < 3 then 33 + s else 269 + s
def cf (κ : CS) (s j : Nat) (x : Int32) : CS := (va_up κ.1 s (upd (κ.1 s) j x), κ.2)
def ca (κ : CS) (s : Nat) (f : Nat → Int32) : CS := (κ.1, va_up κ.2.1 s f, κ.2.2)
def cq (κ : CS) (f : Nat → Int64) : CS := (κ.1, κ.2.1, f, κ.2.2.2)
def cr (κ : CS) (i : Nat) (o : Option Nat) : CS := (κ.1, κ.2.1, κ.2.2.1, va_up κ.2.2.2 i o)
section CSS
variable {M M' : AM} {κ κ' : CS} {r : Nat} {ρ : RC}
theorem cset_o {k : Nat} (h : k < 33 ∨ (36 ≤ k ∧ k < 272) ∨ 286 ≤ k) : cset M κ k = M k := by
  unfold cset
  by_cases h1 : k < 33
  · rw [if_pos h1]
  rw [if_neg h1, if_neg (by omega)]
  by_cases h2 : k < 272
  · rw [if_pos h2]
  rw [if_neg h2, if_neg (by omega)]
theorem cset_at {s : Nat} (h : s < 17) : cset M κ (cad s) = ccell κ s := by
  unfold cset cad
  by_cases h1 : s < 3
  · rw [if_pos h1, if_neg (by omega), if_pos (by omega), show 33 + s - 33 = s by omega]
  · rw [if_neg h1, if_neg (by omega), if_neg (by omega), if_neg (by omega), if_pos (by omega), show 269 + s - 269 = s by omega]
theorem cset_up {s : Nat} {e : AE} (hs : s < 17) (he : ccell κ' s = e) (ho : ∀ j, j ≠ s → ccell κ' j = ccell κ j) : va_up (cset M κ) (cad s) e = cset M κ' := by
  funext k
  by_cases hk : k = cad s
  · rw [hk, va_up_self, cset_at hs, he]
  · rw [va_up_ne _ _ hk]
    unfold cad at hk
    unfold cset
    by_cases h1 : k < 33
    · rw [if_pos h1, if_pos h1]
    rw [if_neg h1, if_neg h1]
    by_cases h2 : k < 36
    · rw [if_pos h2, if_pos h2, ho]
      by_cases c : s < 3
      · rw [if_pos c] at hk; omega
      · omega
    rw [if_neg h2, if_neg h2]
    by_cases h3 : k < 272
    · rw [if_pos h3, if_pos h3]
    rw [if_neg h3, if_neg h3]
    by_cases h4 : k < 286
    · rw [if_pos h4, if_pos h4, ho]
      by_cases c : s < 3
      · omega
      · rw [if_neg c] at hk; omega
    rw [if_neg h4, if_neg h4]
theorem cc_cf {s i j : Nat} {x : Int32} (h : i ≠ s) : ccell (cf κ s j x) i = ccell κ i := by
  have e : ∀ q, q ≠ s → va_up κ.1 s (upd (κ.1 s) j x) q = κ.1 q := fun q hq => va_up_ne _ _ hq
  unfold ccell cf
  dsimp only
  split <;> first | rfl | (rw [e _ h])
theorem cc_ca {s i : Nat} {f : Nat → Int32} (h : i ≠ s) : ccell (ca κ s f) i = ccell κ i := by
  have e : ∀ q, q ≠ s → va_up κ.2.1 s f q = κ.2.1 q := fun q hq => va_up_ne _ _ hq
  unfold ccell ca
  dsimp only
  split <;> first | rfl | (rw [e _ h])
theorem cc_cq {i : Nat} {f : Nat → Int64} (h : i ≠ 14) : ccell (cq κ f) i = ccell κ i := by
  unfold ccell cq
  dsimp only
  split <;> first | rfl | exact absurd rfl h
end CSS
section CRULE
variable {d : Nat} {X : MD} {pc len : Nat} {l : AL} {st : List Value} {M : AM} {Q : Option Value → AM → Prop} {κ : CS} {v : Value}
theorem cset_upf {s j : Nat} {x : Int32} {e : AE} (hs : s < 17) (he : ccell (cf κ s j x) s = e) : va_up (cset M κ) (cad s) e = cset M (cf κ s j x) := cset_up hs he (fun _ h => cc_cf h)
theorem cset_upa {s : Nat} {f : Nat → Int32} {e : AE} (hs : s < 17) (he : ccell (ca κ s f) s = e) : va_up (cset M κ) (cad s) e = cset M (ca κ s f) := cset_up hs he (fun _ h => cc_ca h)
theorem Wp.cput0 {x : Int32} (hc : cdx X pc = some (.inr (.inr (1, 5, 1, v)), len)) (h : Wp d X (pc + len) l st (cset M (cf κ 0 1 x)) Q) : Wp d X pc l (.int x :: .ref 33 :: st) (cset M κ) Q := by
  refine Wp.put hc rfl rfl ?_
  have e := cset_upf (M := M) (κ := κ) (s := 0) (j := 1) (x := x) (by decide) rfl
  rw [← e] at h
  exact h
theorem Wp.cput2 {x : Int32} (j : Nat) (hj : (Nat.ble 2 j && Nat.ble j 7) = true) (hc : cdx X pc = some (.inr (.inr (1, 2, j, v)), len)) (h : Wp d X (pc + len) l st (cset M (cf κ 2 j x)) Q) : Wp d X pc l (.int x :: .ref 35 :: st) (cset M κ) Q := by
  have hj' : j = 2 ∨ j = 3 ∨ j = 4 ∨ j = 5 ∨ j = 6 ∨ j = 7 := by
    rw [Bool.and_eq_true] at hj
    have h1 := Nat.le_of_ble_eq_true hj.1
    have h2 := Nat.le_of_ble_eq_true hj.2
    omega
  rcases hj' with rfl | rfl | rfl | rfl | rfl | rfl
  · exact Wp.put hc rfl rfl (by have e := cset_upf (M := M) (κ := κ) (s := 2) (j := 2) (x := x) (by decide) rfl; rw [← e] at h; exact h)
  · exact Wp.put hc rfl rfl (by have e := cset_upf (M := M) (κ := κ) (s := 2) (j := 3) (x := x) (by decide) rfl; rw [← e] at h; exact h)
  · exact Wp.put hc rfl rfl (by have e := cset_upf (M := M) (κ := κ) (s := 2) (j := 4) (x := x) (by decide) rfl; rw [← e] at h; exact h)
  · exact Wp.put hc rfl rfl (by have e := cset_upf (M := M) (κ := κ) (s := 2) (j := 5) (x := x) (by decide) rfl; rw [← e] at h; exact h)
  · exact Wp.put hc rfl rfl (by have e := cset_upf (M := M) (κ := κ) (s := 2) (j := 6) (x := x) (by decide) rfl; rw [← e] at h; exact h)
  · exact Wp.put hc rfl rfl (by have e := cset_upf (M := M) (κ := κ) (s := 2) (j := 7) (x := x) (by decide) rfl; rw [← e] at h; exact h)
theorem Wp.cput4 {x : Int32} (j : Nat) (hj : (Nat.beq j 4 || (Nat.ble 8 j && Nat.ble j 12)) = true) (hc : cdx X pc = some (.inr (.inr (1, 8, j, v)), len)) (h : Wp d X (pc + len) l st (cset M (cf κ 4 j x)) Q) : Wp d X pc l (.int x :: .ref 273 :: st) (cset M κ) Q := by
  have hj' : j = 4 ∨ j = 8 ∨ j = 9 ∨ j = 10 ∨ j = 11 ∨ j = 12 := by
    rw [Bool.or_eq_true, Bool.and_eq_true] at hj
    rcases hj with q | q
    · exact Or.inl (Nat.eq_of_beq_eq_true q)
    · have h1 := Nat.le_of_ble_eq_true q.1
      have h2 := Nat.le_of_ble_eq_true q.2
      omega
  rcases hj' with rfl | rfl | rfl | rfl | rfl | rfl
  · exact Wp.put hc rfl rfl (by have e := cset_upf (M := M) (κ := κ) (s := 4) (j := 4) (x := x) (by decide) rfl; rw [← e] at h; exact h)
  · exact Wp.put hc rfl rfl (by have e := cset_upf (M := M) (κ := κ) (s := 4) (j := 8) (x := x) (by decide) rfl; rw [← e] at h; exact h)
  · exact Wp.put hc rfl rfl (by have e := cset_upf (M := M) (κ := κ) (s := 4) (j := 9) (x := x) (by decide) rfl; rw [← e] at h; exact h)
  · exact Wp.put hc rfl rfl (by have e := cset_upf (M := M) (κ := κ) (s := 4) (j := 10) (x := x) (by decide) rfl; rw [← e] at h; exact h)
  · exact Wp.put hc rfl rfl (by have e := cset_upf (M := M) (κ := κ) (s := 4) (j := 11) (x := x) (by decide) rfl; rw [← e] at h; exact h)
  · exact Wp.put hc rfl rfl (by have e := cset_upf (M := M) (κ := κ) (s := 4) (j := 12) (x := x) (by decide) rfl; rw [← e] at h; exact h)
theorem Wp.cput11 {x : Int32} (j : Nat) (hj : (Nat.ble j 5 && !(Nat.beq j 1) || Nat.beq j 7) = true) (hc : cdx X pc = some (.inr (.inr (1, 6, j, v)), len)) (h : Wp d X (pc + len) l st (cset M (cf κ 11 j x)) Q) : Wp d X pc l (.int x :: .ref 280 :: st) (cset M κ) Q := by
  have hj' : j = 0 ∨ j = 2 ∨ j = 3 ∨ j = 4 ∨ j = 5 ∨ j = 7 := by
    rw [Bool.or_eq_true, Bool.and_eq_true] at hj
    rcases hj with q | q
    · have h1 := Nat.le_of_ble_eq_true q.1
      have h2 : j ≠ 1 := fun e => by rw [e] at q; exact absurd q.2 (by decide)
      omega
    · have := Nat.eq_of_beq_eq_true q; omega
  rcases hj' with rfl | rfl | rfl | rfl | rfl | rfl
  · exact Wp.put hc rfl rfl (by have e := cset_upf (M := M) (κ := κ) (s := 11) (j := 0) (x := x) (by decide) rfl; rw [← e] at h; exact h)
  · exact Wp.put hc rfl rfl (by have e := cset_upf (M := M) (κ := κ) (s := 11) (j := 2) (x := x) (by decide) rfl; rw [← e] at h; exact h)
  · exact Wp.put hc rfl rfl (by have e := cset_upf (M := M) (κ := κ) (s := 11) (j := 3) (x := x) (by decide) rfl; rw [← e] at h; exact h)
  · exact Wp.put hc rfl rfl (by have e := cset_upf (M := M) (κ := κ) (s := 11) (j := 4) (x := x) (by decide) rfl; rw [← e] at h; exact h)
  · exact Wp.put hc rfl rfl (by have e := cset_upf (M := M) (κ := κ) (s := 11) (j := 5) (x := x) (by decide) rfl; rw [← e] at h; exact h)
  · exact Wp.put hc rfl rfl (by have e := cset_upf (M := M) (κ := κ) (s := 11) (j := 7) (x := x) (by decide) rfl; rw [← e] at h; exact h)
theorem Wp.cput11Z {x : Int32} (hc : cdx X pc = some (.inr (.inr (1, 6, 1, v)), len)) (hx : (x == 0 || x == 1) = true) (h : Wp d X (pc + len) l st (cset M (cf κ 11 1 x)) Q) : Wp d X pc l (.int x :: .ref 280 :: st) (cset M κ) Q := by
  refine Wp.put hc rfl ?_ ?_
  · show (true && (x == 0 || x == 1) && true) = true
    rw [hx]; rfl
  · have e := cset_upf (M := M) (κ := κ) (s := 11) (j := 1) (x := x) (by decide) rfl
    rw [← e] at h
    exact h
/-- the realm of the ways -/
theorem Wp.cputR {k : Nat} (hc : cdx X pc = some (.inr (.inr (1, 8, 7, v)), len)) (h : Wp d X (pc + len) l st (cset M (cr κ 2 (some k))) Q) : Wp d X pc l (.ref k :: .ref 273 :: st) (cset M κ) Q := by
  refine Wp.put hc rfl rfl ?_
  have e := cset_up (M := M) (κ := κ) (κ' := cr κ 2 (some k)) (s := 4) (by decide) rfl (fun j hj => by
    unfold ccell cr
    dsimp only
    split <;> first | rfl | exact absurd rfl hj)
  rw [← e] at h
  exact h
theorem Wp.cputS {k : Nat} (hc : cdx X pc = some (.inr (.inr (1, 2, 0, v)), len)) (h : Wp d X (pc + len) l st (cset M (cr κ 0 (some k))) Q) : Wp d X pc l (.ref k :: .ref 35 :: st) (cset M κ) Q := by
  refine Wp.put hc rfl rfl ?_
  have e := cset_up (M := M) (κ := κ) (κ' := cr κ 0 (some k)) (s := 2) (by decide) rfl (fun j hj => by
    unfold ccell cr
    dsimp only
    split <;> first | rfl | exact absurd rfl hj)
  rw [← e] at h
  exact h
theorem Wp.cputT {k : Nat} (hc : cdx X pc = some (.inr (.inr (1, 2, 1, v)), len)) (h : Wp d X (pc + len) l st (cset M (cr κ 1 (some k))) Q) : Wp d X pc l (.ref k :: .ref 35 :: st) (cset M κ) Q := by
  refine Wp.put hc rfl rfl ?_
  have e := cset_up (M := M) (κ := κ) (κ' := cr κ 1 (some k)) (s := 2) (by decide) rfl (fun j hj => by
    unfold ccell cr
    dsimp only
    split <;> first | rfl | exact absurd rfl hj)
  rw [← e] at h
  exact h
/-- rows of ints -/
def cai (s : Nat) : Nat := match s with
  | 5 => 326 | 6 => 326 | 7 => 326 | 8 => 326 | 9 => 49 | 10 => 49 | 12 => 6 | 15 => 4 | 16 => 4 | _ => 0
theorem cai_c {s n : Nat} (h : cai s = n) (hn : Nat.blt 0 n = true) : s < 17 ∧ n < 2 ^ 31 ∧ ∀ κ : CS, ccell κ s = .inl (0, n, .inl (κ.2.1 s)) := by
  unfold cai at h
  split at h <;> first | (subst h; exact ⟨by decide, by decide, fun _ => rfl⟩) | (subst h; cases hn)
theorem Wp.ciastN {s k n j : Nat} {x : Int32} (hc : cdx X pc = some (.inr (.inl .iastore), len)) (hk : cad s = k) (hs : cai s = n) (hn : Nat.blt 0 n = true) (hj : j < n) (h : Wp d X (pc + len) l st (cset M (ca κ s (upd (κ.2.1 s) j x))) Q) : Wp d X pc l (.int x :: .int (nI j) :: .ref k :: st) (cset M κ) Q := by
  subst hk
  obtain ⟨h1, h2, h3⟩ := cai_c hs hn
  refine Wp.iastN hc ((cset_at h1).trans (h3 κ)) hj h2 ?_
  rw [cset_upa (κ := κ) (s := s) (f := upd (κ.2.1 s) j x) h1 ?_]
  · exact h
  · rw [h3]
    rw [show (ca κ s (upd (κ.2.1 s) j x)).2.1 s = upd (κ.2.1 s) j x from va_up_self _ _ _]
end CRULE
theorem ca_get {κ : CS} {s : Nat} {f : Nat → Int32} : (ca κ s f).2.1 s = f := va_up_self _ _ _
theorem ca_ne {κ : CS} {s i : Nat} {f : Nat → Int32} (h : i ≠ s) : (ca κ s f).2.1 i = κ.2.1 i := va_up_ne _ _ h
theorem cf_get {κ : CS} {s j : Nat} {x : Int32} : (cf κ s j x).1 s = upd (κ.1 s) j x := va_up_self _ _ _
theorem cf_ne {κ : CS} {s i j : Nat} {x : Int32} (h : i ≠ s) : (cf κ s j x).1 i = κ.1 i := va_up_ne _ _ h
/-- only slots of F (fields) and A (rows) may differ; G: references -/
def Fc (F A G : List Nat) (κ κ' : CS) : Prop := (∀ s, List.elem s F = false → κ'.1 s = κ.1 s) ∧ (∀ s, List.elem s A = false → κ'.2.1 s = κ.2.1 s) ∧ (∀ s, List.elem s G = false → κ'.2.2.2 s = κ.2.2.2 s) ∧ κ'.2.2.1 = κ.2.2.1
section FC
variable {F A G : List Nat} {κ κ' κ'' : CS}
theorem Fc.r : Fc F A G κ κ := ⟨fun _ _ => rfl, fun _ _ => rfl, fun _ _ => rfl, rfl⟩
theorem Fc.t (h : Fc F A G κ κ') (h' : Fc F A G κ' κ'') : Fc F A G κ κ'' := ⟨fun j hj => (h'.1 j hj).trans (h.1 j hj), fun j hj => (h'.2.1 j hj).trans (h.2.1 j hj), fun j hj => (h'.2.2.1 j hj).trans (h.2.2.1 j hj), h'.2.2.2.trans h.2.2.2⟩
theorem Fc.f {s j : Nat} {x : Int32} (h : Fc F A G κ κ') (hs : List.elem s F = true) : Fc F A G κ (cf κ' s j x) := ⟨fun i hi => (va_up_ne _ _ (fun e => by rw [e, hs] at hi; cases hi)).trans (h.1 i hi), h.2⟩
theorem Fc.a {s : Nat} {f : Nat → Int32} (h : Fc F A G κ κ') (hs : List.elem s A = true) : Fc F A G κ (ca κ' s f) := ⟨h.1, fun i hi => (va_up_ne _ _ (fun e => by rw [e, hs] at hi; cases hi)).trans (h.2.1 i hi), h.2.2⟩
theorem Fc.g {s : Nat} {o : Option Nat} (h : Fc F A G κ κ') (hs : List.elem s G = true) : Fc F A G κ (cr κ' s o) := ⟨h.1, h.2.1, fun i hi => (va_up_ne _ _ (fun e => by rw [e, hs] at hi; cases hi)).trans (h.2.2.1 i hi), h.2.2.2⟩
theorem elem_sub {F F' : List Nat} (hF : F.all (fun j => List.elem j F') = true) {j : Nat} (hj : List.elem j F' = false) : List.elem j F = false := by
  cases e : List.elem j F with
  | false => rfl
  | true =>
    have h1 := List.all_eq_true.mp hF j (List.elem_iff.mp e)
    rw [hj] at h1
    cases h1
theorem Fc.mono {F' A' G' : List Nat} (h : Fc F A G κ κ') (hF : F.all (fun j => List.elem j F') = true) (hA : A.all (fun j => List.elem j A') = true) (hG : G.all (fun j => List.elem j G') = true) : Fc F' A' G' κ κ' := ⟨fun j hj => h.1 j (elem_sub hF hj), fun j hj => h.2.1 j (elem_sub hA hj), fun j hj => h.2.2.1 j (elem_sub hG hj), h.2.2.2⟩
end FC
/-- two memories agree off lo .. hi -/
def Of (lo hi : Nat) (M M' : AM) : Prop := ∀ k, k < lo ∨ hi ≤ k → M' k = M k
theorem RA_of {M M' : AM} {r : Nat} {ρ : RC} (h : RA M r ρ) (e : ∀ k, r ≤ k → k < r + 47 → M' k = M k) : RA M' r ρ := by
  show rset M' r ρ = M'
  funext k
  by_cases hk : r ≤ k ∧ k < r + 47
  · rw [e k hk.1 hk.2]
    have h1 := congrFun (show rset M r ρ = M from h) k
    rw [← h1]
    unfold rset
    rw [if_pos hk, if_pos hk]
  · exact rset_ne (by omega)
theorem RA_c {M : AM} {κ : CS} {r : Nat} {ρ : RC} (h : RA M r ρ) (h1 : 36 ≤ r) (h2 : r + 47 ≤ 272) : RA (cset M κ) r ρ := RA_of h (fun k a b => cset_o (by omega))
theorem rset_c {M : AM} {κ : CS} {r : Nat} {ρ : RC} (h1 : 36 ≤ r) (h2 : r + 47 ≤ 272) : rset (cset M κ) r ρ = cset (rset M r ρ) κ := by
  funext k
  by_cases hk : r ≤ k ∧ k < r + 47
  · rw [cset_o (by omega)]
    unfold rset
    rw [if_pos hk, if_pos hk]
  · rw [rset_ne (by omega)]
    unfold cset
    rw [rset_ne (M := M) (r := r) (ρ := ρ) (q := k) (by omega)]
/-- a realm of the class holds K, with its lengths by road -/
def RK (M : AM) (r : Nat) (K : KD) : Prop := ∃ ρ, RA M r ρ ∧ RepC ρ K ∧ DC (rds ρ) K (distK K) ∧ KOK K ∧ 36 ≤ r ∧ r + 47 ≤ 272
theorem RK_c {M : AM} {κ : CS} {r : Nat} {K : KD} (h : RK M r K) : RK (cset M κ) r K := by
  obtain ⟨ρ, h1, h2, h3, h4, h5, h6⟩ := h
  exact ⟨ρ, RA_c h1 h5 h6, h2, h3, h4, h5, h6⟩
theorem RK_of {M M' : AM} {r : Nat} {K : KD} (h : RK M r K) (e : ∀ k, r ≤ k → k < r + 47 → M' k = M k) : RK M' r K := by
  obtain ⟨ρ, h1, h2, h3, h4, h5, h6⟩ := h
  exact ⟨ρ, RA_of h1 e, h2, h3, h4, h5, h6⟩
