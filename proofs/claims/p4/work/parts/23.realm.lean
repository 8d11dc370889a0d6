/-! A REALM of the class as a state: header (by slots), law, links (0..11 roads, 12..20 lanes), walks, their stops, distances. It lies at r .. r + 46. -/
abbrev RC : Type := (Nat → Int32) × (Nat → Int32) × (Nat → Nat → Int32) × (Nat → Nat → Int32) × (Nat → Nat → Int32) × (Nat → Int32)
def rhd (ρ : RC) : Nat → Int32 := ρ.1
def rlw (ρ : RC) : Nat → Int32 := ρ.2.1
def rlk (ρ : RC) : Nat → Nat → Int32 := ρ.2.2.1
def rwk (ρ : RC) : Nat → Nat → Int32 := ρ.2.2.2.1
def rst (ρ : RC) : Nat → Nat → Int32 := ρ.2.2.2.2.1
def rds (ρ : RC) : Nat → Int32 := ρ.2.2.2.2.2
def rfs (r : Nat) (ρ : RC) : List Value := [.int (rhd ρ 0), .int (rhd ρ 1), .int (rhd ρ 2), .int (rhd ρ 3), .ref (r + 1), .ref (r + 2), .int (rhd ρ 6), .ref (r + 15), .int (rhd ρ 8), .ref (r + 25), .int (rhd ρ 10), .ref (r + 46)]
def lfs (f : Nat → Int32) : List Value := [.int (f 0), .int (f 1), .int (f 2), .int (f 3), .int (f 4)]
def kfs (n : Nat) (f : Nat → Int32) : List Value := [.int (nI n), .int (f 1), .int (f 2), .int (f 3), .int (f 4), .int (f 5), .int (f 6)]
def wfs (f : Nat → Int32) (q : Nat) : List Value := [.int (f 0), .int (f 1), .int (f 2), .int (f 3), .ref q]
def rcell (r : Nat) (ρ : RC) (k : Nat) : AE :=
  if k = 0 then .inr (3, rfs r ρ)
  else if k = 1 then .inr (0, lfs (rlw ρ))
  else if k = 2 then .inl (4, 12, .inr (.inr (.inr (.inr (fun i => if i < 12 then some (r + 3 + i) else none)))))
  else if k < 15 then .inr (1, kfs (k - 3) (rlk ρ (k - 3)))
  else if k = 15 then .inl (4, 9, .inr (.inr (.inr (.inr (fun i => if i < 9 then some (r + 16 + i) else none)))))
  else if k < 25 then .inr (1, kfs (k - 16) (rlk ρ (k - 4)))
  else if k = 25 then .inl (5, 10, .inr (.inr (.inr (.inr (fun i => if i < 10 then some (r + 26 + 2 * i) else none)))))
  else if k < 46 then (if (k - 26) % 2 = 0 then .inr (7, wfs (rwk ρ ((k - 26) / 2)) (r + k + 1)) else .inl (0, 7, .inl (rst ρ ((k - 26) / 2))))
  else .inl (0, 49, .inl (rds ρ))
def rset (M : AM) (r : Nat) (ρ : RC) : AM := fun q => if r ≤ q ∧ q < r + 47 then rcell r ρ (q - r) else M q
section RS
variable {M : AM} {r : Nat} {ρ ρ' : RC}
theorem rset_at {k : Nat} (h : k < 47) : rset M r ρ (r + k) = rcell r ρ k := by
  unfold rset
  rw [if_pos ⟨by omega, by omega⟩, show r + k - r = k by omega]
theorem rset_ne {q : Nat} (h : q < r ∨ r + 47 ≤ q) : rset M r ρ q = M q := by
  unfold rset
  rw [if_neg (by omega)]
theorem rs_obj : rset M r ρ r = .inr (3, rfs r ρ) := rset_at (k := 0) (by decide)
theorem rs_law : rset M r ρ (r + 1) = .inr (0, lfs (rlw ρ)) := rset_at (k := 1) (by decide)
theorem rs_roads : rset M r ρ (r + 2) = .inl (4, 12, .inr (.inr (.inr (.inr (fun i => if i < 12 then some (r + 3 + i) else none))))) := rset_at (k := 2) (by decide)
theorem rs_road {i : Nat} (h : i < 12) : rset M r ρ (r + 3 + i) = .inr (1, kfs i (rlk ρ i)) := by
  rw [show r + 3 + i = r + (3 + i) by omega, rset_at (by omega)]
  unfold rcell
  rw [if_neg (by omega), if_neg (by omega), if_neg (by omega), if_pos (by omega), show 3 + i - 3 = i by omega]
theorem rs_lanes : rset M r ρ (r + 15) = .inl (4, 9, .inr (.inr (.inr (.inr (fun i => if i < 9 then some (r + 16 + i) else none))))) := rset_at (k := 15) (by decide)
theorem rs_lane {i : Nat} (h : i < 9) : rset M r ρ (r + 16 + i) = .inr (1, kfs i (rlk ρ (12 + i))) := by
  rw [show r + 16 + i = r + (16 + i) by omega, rset_at (by omega)]
  unfold rcell
  rw [if_neg (by omega), if_neg (by omega), if_neg (by omega), if_neg (by omega), if_neg (by omega), if_pos (by omega), show 16 + i - 16 = i by omega, show 16 + i - 4 = 12 + i by omega]
theorem rs_walks : rset M r ρ (r + 25) = .inl (5, 10, .inr (.inr (.inr (.inr (fun i => if i < 10 then some (r + 26 + 2 * i) else none))))) := rset_at (k := 25) (by decide)
theorem rs_walk {i : Nat} (h : i < 10) : rset M r ρ (r + 26 + 2 * i) = .inr (7, wfs (rwk ρ i) (r + 27 + 2 * i)) := by
  rw [show r + 26 + 2 * i = r + (26 + 2 * i) by omega, rset_at (by omega)]
  unfold rcell
  rw [if_neg (by omega), if_neg (by omega), if_neg (by omega), if_neg (by omega), if_neg (by omega), if_neg (by omega), if_neg (by omega), if_pos (by omega), if_pos (by omega), show (26 + 2 * i - 26) / 2 = i by omega, show r + (26 + 2 * i) + 1 = r + 27 + 2 * i by omega]
theorem rs_stops {i : Nat} (h : i < 10) : rset M r ρ (r + 27 + 2 * i) = .inl (0, 7, .inl (rst ρ i)) := by
  rw [show r + 27 + 2 * i = r + (27 + 2 * i) by omega, rset_at (by omega)]
  unfold rcell
  rw [if_neg (by omega), if_neg (by omega), if_neg (by omega), if_neg (by omega), if_neg (by omega), if_neg (by omega), if_neg (by omega), if_pos (by omega), if_neg (by omega), show (27 + 2 * i - 26) / 2 = i by omega]
theorem rs_dist : rset M r ρ (r + 46) = .inl (0, 49, .inl (rds ρ)) := rset_at (k := 46) (by decide)
theorem rset_up {k : Nat} {e : AE} (hk : k < 47) (he : rcell r ρ' k = e) (ho : ∀ j, j < 47 → j ≠ k → rcell r ρ' j = rcell r ρ j) : va_up (rset M r ρ) (r + k) e = rset M r ρ' := by
  funext q
  by_cases hq : q = r + k
  · subst hq
    rw [va_up_self, rset_at hk, he]
  · rw [va_up_ne _ _ hq]
    by_cases h1 : r ≤ q ∧ q < r + 47
    · obtain ⟨j, rfl⟩ : ∃ j, q = r + j := ⟨q - r, by omega⟩
      rw [rset_at (by omega), rset_at (by omega), ho j (by omega) (by omega)]
    · rw [rset_ne (by omega), rset_ne (by omega)]
def hset (ρ : RC) (j : Nat) (x : Int32) : RC := (upd (rhd ρ) j x, ρ.2)
def wset (ρ : RC) (j : Nat) (x : Int32) : RC := (ρ.1, upd (rlw ρ) j x, ρ.2.2)
def kset (ρ : RC) (i j : Nat) (x : Int32) : RC := (ρ.1, ρ.2.1, va_up (rlk ρ) i (upd (rlk ρ i) j x), ρ.2.2.2)
def gset (ρ : RC) (i j : Nat) (x : Int32) : RC := (ρ.1, ρ.2.1, ρ.2.2.1, va_up (rwk ρ) i (upd (rwk ρ i) j x), ρ.2.2.2.2)
def tset (ρ : RC) (i : Nat) (f : Nat → Int32) : RC := (ρ.1, ρ.2.1, ρ.2.2.1, ρ.2.2.2.1, va_up (rst ρ) i f, ρ.2.2.2.2.2)
def dset (ρ : RC) (f : Nat → Int32) : RC := (ρ.1, ρ.2.1, ρ.2.2.1, ρ.2.2.2.1, ρ.2.2.2.2.1, f)
theorem rc_hset {j k : Nat} {x : Int32} (hk : k ≠ 0) : rcell r (hset ρ j x) k = rcell r ρ k := by
  unfold rcell
  rw [if_neg hk, if_neg hk]
  rfl
theorem rc_wset {j k : Nat} {x : Int32} (hk : k ≠ 1) : rcell r (wset ρ j x) k = rcell r ρ k := by
  unfold rcell
  rw [if_neg hk, if_neg hk]
  rfl
theorem rc_dset {f : Nat → Int32} {k : Nat} (h : k < 46) : rcell r (dset ρ f) k = rcell r ρ k := by
  unfold rcell
  by_cases h0 : k = 0
  · rw [if_pos h0, if_pos h0]; rfl
  by_cases h1 : k = 1
  · rw [if_neg h0, if_neg h0, if_pos h1, if_pos h1]; rfl
  rw [if_neg h0, if_neg h0, if_neg h1, if_neg h1, if_pos h, if_pos h]
  rfl
theorem rc_kset {i j k : Nat} {x : Int32} (h1 : k < 15 → k ≠ 3 + i) (h2 : 15 < k → k ≠ 4 + i) : rcell r (kset ρ i j x) k = rcell r ρ k := by
  have e : ∀ q, q ≠ i → rlk (kset ρ i j x) q = rlk ρ q := fun q hq => va_up_ne _ _ hq
  unfold rcell
  by_cases a0 : k = 0
  · rw [if_pos a0, if_pos a0]; rfl
  rw [if_neg a0, if_neg a0]
  by_cases a1 : k = 1
  · rw [if_pos a1, if_pos a1]; rfl
  rw [if_neg a1, if_neg a1]
  by_cases a2 : k = 2
  · rw [if_pos a2, if_pos a2]
  rw [if_neg a2, if_neg a2]
  by_cases a3 : k < 15
  · have := h1 a3
    rw [if_pos a3, if_pos a3, e _ (by omega)]
  rw [if_neg a3, if_neg a3]
  by_cases a4 : k = 15
  · rw [if_pos a4, if_pos a4]
  rw [if_neg a4, if_neg a4]
  by_cases a5 : k < 25
  · have := h2 (by omega)
    rw [if_pos a5, if_pos a5, e _ (by omega)]
  rw [if_neg a5, if_neg a5]
  rfl
theorem rc_gset {i j k : Nat} {x : Int32} (h1 : k ≠ 26 + 2 * i) : rcell r (gset ρ i j x) k = rcell r ρ k := by
  have e : ∀ q, q ≠ i → rwk (gset ρ i j x) q = rwk ρ q := fun q hq => va_up_ne _ _ hq
  unfold rcell
  by_cases a0 : k = 0
  · rw [if_pos a0, if_pos a0]; rfl
  rw [if_neg a0, if_neg a0]
  by_cases a1 : k = 1
  · rw [if_pos a1, if_pos a1]; rfl
  rw [if_neg a1, if_neg a1]
  by_cases a2 : k = 2
  · rw [if_pos a2, if_pos a2]
  rw [if_neg a2, if_neg a2]
  by_cases a3 : k < 15
  · rw [if_pos a3, if_pos a3]; rfl
  rw [if_neg a3, if_neg a3]
  by_cases a4 : k = 15
  · rw [if_pos a4, if_pos a4]
  rw [if_neg a4, if_neg a4]
  by_cases a5 : k < 25
  · rw [if_pos a5, if_pos a5]; rfl
  rw [if_neg a5, if_neg a5]
  by_cases a6 : k = 25
  · rw [if_pos a6, if_pos a6]
  rw [if_neg a6, if_neg a6]
  by_cases a7 : k < 46
  · rw [if_pos a7, if_pos a7]
    by_cases a8 : (k - 26) % 2 = 0
    · rw [if_pos a8, if_pos a8, e _ (by omega)]
    · rw [if_neg a8, if_neg a8]; rfl
  · rw [if_neg a7, if_neg a7]; rfl
theorem rc_tset {i k : Nat} {f : Nat → Int32} (h1 : k ≠ 27 + 2 * i) : rcell r (tset ρ i f) k = rcell r ρ k := by
  have e : ∀ q, q ≠ i → rst (tset ρ i f) q = rst ρ q := fun q hq => va_up_ne _ _ hq
  unfold rcell
  by_cases a0 : k = 0
  · rw [if_pos a0, if_pos a0]; rfl
  rw [if_neg a0, if_neg a0]
  by_cases a1 : k = 1
  · rw [if_pos a1, if_pos a1]; rfl
  rw [if_neg a1, if_neg a1]
  by_cases a2 : k = 2
  · rw [if_pos a2, if_pos a2]
  rw [if_neg a2, if_neg a2]
  by_cases a3 : k < 15
  · rw [if_pos a3, if_pos a3]; rfl
  rw [if_neg a3, if_neg a3]
  by_cases a4 : k = 15
  · rw [if_pos a4, if_pos a4]
  rw [if_neg a4, if_neg a4]
  by_cases a5 : k < 25
  · rw [if_pos a5, if_pos a5]; rfl
  rw [if_neg a5, if_neg a5]
  by_cases a6 : k = 25
  · rw [if_pos a6, if_pos a6]
  rw [if_neg a6, if_neg a6]
  by_cases a7 : k < 46
  · rw [if_pos a7, if_pos a7]
    by_cases a8 : (k - 26) % 2 = 0
    · rw [if_pos a8, if_pos a8]; rfl
    · rw [if_neg a8, if_neg a8, e _ (by omega)]
  · rw [if_neg a7, if_neg a7]; rfl
/-- a field of the realm itself is written -/
theorem ru_hd {j : Nat} {x : Int32} (hj : j = 0 ∨ j = 1 ∨ j = 2 ∨ j = 3 ∨ j = 6 ∨ j = 8 ∨ j = 10) : va_up (rset M r ρ) r (.inr (3, (rfs r ρ).set j (.int x))) = rset M r (hset ρ j x) := by
  refine rset_up (k := 0) (by decide) ?_ (fun q _ hq => rc_hset hq)
  rcases hj with rfl | rfl | rfl | rfl | rfl | rfl | rfl <;> rfl
theorem ru_lw {j : Nat} {x : Int32} (hj : j < 5) : va_up (rset M r ρ) (r + 1) (.inr (0, (lfs (rlw ρ)).set j (.int x))) = rset M r (wset ρ j x) := by
  refine rset_up (k := 1) (by decide) ?_ (fun q _ hq => rc_wset hq)
  match j, hj with
  | 0, _ => rfl | 1, _ => rfl | 2, _ => rfl | 3, _ => rfl | 4, _ => rfl
theorem kfs_set {n j : Nat} {f : Nat → Int32} {x : Int32} (h1 : 1 ≤ j) (h2 : j ≤ 6) : (kfs n f).set j (.int x) = kfs n (upd f j x) := by
  match j, h1, h2 with
  | 1, _, _ => rfl | 2, _, _ => rfl | 3, _, _ => rfl | 4, _, _ => rfl | 5, _, _ => rfl | 6, _, _ => rfl
theorem ru_road {i j : Nat} {x : Int32} (hi : i < 12) (h1 : 1 ≤ j) (h2 : j ≤ 6) : va_up (rset M r ρ) (r + 3 + i) (.inr (1, (kfs i (rlk ρ i)).set j (.int x))) = rset M r (kset ρ i j x) := by
  rw [show r + 3 + i = r + (3 + i) by omega, kfs_set h1 h2]
  refine rset_up (k := 3 + i) (by omega) ?_ (fun q hq hne => rc_kset (by omega) (by omega))
  unfold rcell
  rw [if_neg (by omega), if_neg (by omega), if_neg (by omega), if_pos (by omega), show 3 + i - 3 = i by omega]
  show _ = _
  rw [show rlk (kset ρ i j x) i = upd (rlk ρ i) j x from va_up_self _ _ _]
theorem ru_lane {i j : Nat} {x : Int32} (hi : i < 9) (h1 : 1 ≤ j) (h2 : j ≤ 6) : va_up (rset M r ρ) (r + 16 + i) (.inr (1, (kfs i (rlk ρ (12 + i))).set j (.int x))) = rset M r (kset ρ (12 + i) j x) := by
  rw [show r + 16 + i = r + (16 + i) by omega, kfs_set h1 h2]
  refine rset_up (k := 16 + i) (by omega) ?_ (fun q hq hne => rc_kset (by omega) (by omega))
  unfold rcell
  rw [if_neg (by omega), if_neg (by omega), if_neg (by omega), if_neg (by omega), if_neg (by omega), if_pos (by omega), show 16 + i - 16 = i by omega, show 16 + i - 4 = 12 + i by omega]
  rw [show rlk (kset ρ (12 + i) j x) (12 + i) = upd (rlk ρ (12 + i)) j x from va_up_self _ _ _]
theorem ru_walk {i j : Nat} {x : Int32} (hi : i < 10) (h2 : j ≤ 3) : va_up (rset M r ρ) (r + 26 + 2 * i) (.inr (7, (wfs (rwk ρ i) (r + 27 + 2 * i)).set j (.int x))) = rset M r (gset ρ i j x) := by
  have e : (wfs (rwk ρ i) (r + 27 + 2 * i)).set j (.int x) = wfs (upd (rwk ρ i) j x) (r + 27 + 2 * i) := by
    match j, h2 with
    | 0, _ => rfl | 1, _ => rfl | 2, _ => rfl | 3, _ => rfl
  rw [show r + 26 + 2 * i = r + (26 + 2 * i) by omega, e]
  refine rset_up (k := 26 + 2 * i) (by omega) ?_ (fun q hq hne => rc_gset hne)
  unfold rcell
  rw [if_neg (by omega), if_neg (by omega), if_neg (by omega), if_neg (by omega), if_neg (by omega), if_neg (by omega), if_neg (by omega), if_pos (by omega), if_pos (by omega), show (26 + 2 * i - 26) / 2 = i by omega, show r + (26 + 2 * i) + 1 = r + 27 + 2 * i by omega]
  rw [show rwk (gset ρ i j x) i = upd (rwk ρ i) j x from va_up_self _ _ _]
theorem ru_stops {i : Nat} {f : Nat → Int32} (hi : i < 10) : va_up (rset M r ρ) (r + 27 + 2 * i) (.inl (0, 7, .inl f)) = rset M r (tset ρ i f) := by
  rw [show r + 27 + 2 * i = r + (27 + 2 * i) by omega]
  refine rset_up (k := 27 + 2 * i) (by omega) ?_ (fun q hq hne => rc_tset hne)
  unfold rcell
  rw [if_neg (by omega), if_neg (by omega), if_neg (by omega), if_neg (by omega), if_neg (by omega), if_neg (by omega), if_neg (by omega), if_pos (by omega), if_neg (by omega), show (27 + 2 * i - 26) / 2 = i by omega]
  rw [show rst (tset ρ i f) i = f from va_up_self _ _ _]
theorem ru_dist {f : Nat → Int32} : va_up (rset M r ρ) (r + 46) (.inl (0, 49, .inl f)) = rset M r (dset ρ f) := by
  refine rset_up (k := 46) (by decide) rfl (fun q hq hne => rc_dset (by omega))
end RS
