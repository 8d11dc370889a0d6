/-! THE KINGDOM as a mathematical value, and how a realm of the class and a slot of the reference hold it.
kh: 0 places, 1 days, 2 roads, 3 lanes, 4 walks, 5 lines, 6 rate, 7 free, 8 time, 9 sunday, 10 load, 11 one more lane is thought of, 12 floods as bits.
kr i: 0 a, 1 b, 2 length. kl i: 0 a, 1 b, 2 length, 3 first, 4 last, 5 sort, 6 watched (lane 8 is the one thought of). kw i: 0 walker, 1 load, 2 day, 3 how many places, 4 + j the places. -/
abbrev KD : Type := (Nat → Nat) × (Nat → Nat → Nat) × (Nat → Nat → Nat) × (Nat → Nat → Nat)
def kh (K : KD) : Nat → Nat := K.1
def kr (K : KD) : Nat → Nat → Nat := K.2.1
def kl (K : KD) : Nat → Nat → Nat := K.2.2.1
def kw (K : KD) : Nat → Nat → Nat := K.2.2.2
/-- the first i from i0 on, of n, with p -/
def fnd (p : Nat → Bool) : Nat → Nat → Option Nat
  | 0, _ => none
  | n + 1, i => if p i = true then some i else fnd p n (i + 1)
def fld {α : Type} (f : α → Nat → α) : Nat → Nat → α → α
  | 0, _, x => x
  | n + 1, i, x => fld f n (i + 1) (f x i)
theorem fnd_lt {p : Nat → Bool} : ∀ {n i j : Nat}, fnd p n i = some j → i ≤ j ∧ j < i + n ∧ p j = true
  | 0, _, _, h => by cases h
  | n + 1, i, j, h => by
    unfold fnd at h
    by_cases hp : p i = true
    · rw [if_pos hp] at h
      cases h
      exact ⟨Nat.le_refl _, by omega, hp⟩
    · rw [if_neg hp] at h
      obtain ⟨h1, h2, h3⟩ := fnd_lt h
      exact ⟨by omega, by omega, h3⟩
/-- a and b are the two places x and y -/
def btw (x y a b : Nat) : Bool := (decide (x = a) && decide (y = b)) || (decide (x = b) && decide (y = a))
def roadK (K : KD) (a b : Nat) : Option Nat := fnd (fun i => btw (kr K i 0) (kr K i 1) a b) (kh K 2) 0
def openK (K : KD) (l d : Nat) : Bool := if kl K l 5 = 2 then true else if kl K l 5 = 1 then !(Nat.testBit (kh K 12) d) else decide (kl K l 3 ≤ d ∧ d ≤ kl K l 4)
/-- what joins: a road's number, or 20 and a lane's -/
def spanJ (K : KD) (j : Nat) : Nat := if j < 20 then kr K j 2 else kl K (j - 20) 2
def shr (K : KD) (cur : Option Nat) (l : Nat) : Bool := match cur with | none => true | some j => decide (kl K l 2 < spanJ K j)
def joinStep (K : KD) (a b d : Nat) (cur : Option Nat) (l : Nat) : Option Nat := if shr K cur l = true ∧ btw (kl K l 0) (kl K l 1) a b = true ∧ openK K l d = true then some (20 + l) else cur
def joinK (K : KD) (a b d : Nat) : Option Nat := (fun c => if kh K 11 = 1 then joinStep K a b d c 8 else c) (fld (joinStep K a b d) (kh K 3) 0 (roadK K a b))
/-- bounds and sense of a kingdom -/
def KOK (K : KD) : Prop := kh K 0 ≤ 7 ∧ kh K 1 ≤ 30 ∧ kh K 2 ≤ 12 ∧ kh K 3 ≤ 8 ∧ kh K 4 ≤ 10 ∧ kh K 5 ≤ 2000 ∧ kh K 6 ≤ 99 ∧ kh K 7 ≤ 99 ∧ kh K 8 ≤ 99 ∧ kh K 9 ≤ 1 ∧ kh K 10 ≤ 1 ∧ kh K 11 ≤ 1 ∧ kh K 12 < 2 ^ 30 ∧ (0 < kh K 5 ↔ 0 < kh K 0)
  ∧ (∀ i, i < kh K 2 → kr K i 0 < kh K 0 ∧ kr K i 1 < kh K 0 ∧ kr K i 0 ≠ kr K i 1 ∧ 1 ≤ kr K i 2 ∧ kr K i 2 ≤ 129)
  ∧ (∀ i, i < kh K 3 ∨ (i = 8 ∧ kh K 11 = 1) → kl K i 0 < kh K 0 ∧ kl K i 1 < kh K 0 ∧ kl K i 0 ≠ kl K i 1 ∧ 1 ≤ kl K i 2 ∧ kl K i 2 ≤ 99 ∧ kl K i 3 ≤ 30 ∧ kl K i 4 ≤ 30 ∧ kl K i 5 ≤ 2 ∧ kl K i 6 ≤ 100)
  ∧ (∀ i, i < kh K 4 → kw K i 0 ≤ 4 ∧ 1 ≤ kw K i 1 ∧ kw K i 1 ≤ 9 ∧ kw K i 2 < kh K 1 ∧ 2 ≤ kw K i 3 ∧ kw K i 3 ≤ 7 ∧ (∀ j, j < kw K i 3 → kw K i (4 + j) < kh K 0) ∧ (∀ j, j + 1 < kw K i 3 → kw K i (4 + j) ≠ kw K i (4 + j + 1)))
  ∧ (∀ i j, i < kh K 2 → j < kh K 2 → btw (kr K i 0) (kr K i 1) (kr K j 0) (kr K j 1) = true → i = j)
def bitsE (a b : Nat) : Int32 := ((1 : Int32) <<< (nI a &&& 31)) ||| ((1 : Int32) <<< (nI b &&& 31))
/-- where the class keeps a lane -/
def phL (K : KD) (l : Nat) : Nat := if l = 8 then kh K 3 else l
def RepC (ρ : RC) (K : KD) : Prop := rhd ρ 0 = nI (kh K 0) ∧ rhd ρ 1 = nI (kh K 1) ∧ rhd ρ 2 = nI (kh K 5) ∧ rhd ρ 3 = nI (kh K 12) ∧ rhd ρ 6 = nI (kh K 2) ∧ rhd ρ 8 = nI (kh K 3 + kh K 11) ∧ rhd ρ 10 = nI (kh K 4)
  ∧ (0 < kh K 0 → ∀ j, j < 5 → rlw ρ j = nI (kh K (6 + j)))
  ∧ (∀ i, i < kh K 2 → rlk ρ i 1 = 0 ∧ rlk ρ i 2 = bitsE (kr K i 0) (kr K i 1) ∧ rlk ρ i 3 = nI (kr K i 2) ∧ rlk ρ i 6 = 0)
  ∧ (∀ l, l < kh K 3 ∨ (l = 8 ∧ kh K 11 = 1) → rlk ρ (12 + phL K l) 1 = nI (kl K l 5 + 1) ∧ rlk ρ (12 + phL K l) 2 = bitsE (kl K l 0) (kl K l 1) ∧ rlk ρ (12 + phL K l) 3 = nI (kl K l 2) ∧ rlk ρ (12 + phL K l) 4 = nI (kl K l 3) ∧ rlk ρ (12 + phL K l) 5 = nI (kl K l 4) ∧ rlk ρ (12 + phL K l) 6 = nI (kl K l 6))
  ∧ (∀ i, i < kh K 4 → rwk ρ i 0 = nI (kw K i 0) ∧ rwk ρ i 1 = nI (kw K i 1) ∧ rwk ρ i 2 = nI (kw K i 2) ∧ rwk ρ i 3 = nI (kw K i 3 - 1) ∧ ∀ j, j < kw K i 3 → rst ρ i j = nI (kw K i (4 + j)))
/-- slot s of the reference holds K (lane 8 only in slot 0, where it may be thought of) -/
def RepM (σ : MS) (s : Nat) (K : KD) : Prop := (∀ j, j < 5 → σ.2.2.1 6 (5 * s + j) = nI (kh K j)) ∧ (0 < kh K 0 → ∀ j, j < 5 → σ.2.2.1 7 (5 * s + j) = nI (kh K (6 + j))) ∧ σ.2.2.1 5 s = nI (kh K 5) ∧ σ.2.2.2 8 s = lN (kh K 12)
  ∧ (∀ i, i < kh K 2 → ∀ j, j < 3 → σ.2.2.1 9 (36 * s + 3 * i + j) = nI (kr K i j))
  ∧ (∀ i, i < kh K 3 ∨ (i = 8 ∧ kh K 11 = 1) → ∀ j, j < 7 → σ.2.2.1 10 (63 * s + 7 * i + j) = nI (kl K i j))
  ∧ (∀ i, i < kh K 4 → (∀ j, j < 4 → σ.2.2.1 11 (110 * s + 11 * i + j) = nI (kw K i j)) ∧ ∀ j, j < kw K i 3 → σ.2.2.1 11 (110 * s + 11 * i + 4 + j) = nI (kw K i (4 + j)))
theorem bitsE_tab : (List.range 7).all (fun a => (List.range 7).all fun b => (List.range 7).all fun c => (List.range 7).all fun d => (a == b) || (decide (bitsE a b = bitsE c d) == btw a b c d)) = true := by decide +kernel
theorem bitsE_eq {a b c d : Nat} (ha : a < 7) (hb : b < 7) (hc : c < 7) (hd : d < 7) (hab : a ≠ b) : bitsE a b = bitsE c d ↔ btw a b c d = true := by
  have h := List.all_eq_true.mp (List.all_eq_true.mp (List.all_eq_true.mp (List.all_eq_true.mp bitsE_tab a (List.mem_range.mpr ha)) b (List.mem_range.mpr hb)) c (List.mem_range.mpr hc)) d (List.mem_range.mpr hd)
  rw [Bool.or_eq_true] at h
  rcases h with h | h
  · exact absurd (by simpa using h) hab
  · have h2 : decide (bitsE a b = bitsE c d) = btw a b c d := by simpa using h
    rw [← h2]
    exact (decide_eq_true_iff).symm
