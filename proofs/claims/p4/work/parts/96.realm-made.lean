/-! MAKING A REALM. -/
def rzr : RC := (fun _ => 0, fun j => if j = 3 then 1 else 0, fun _ _ => 0, fun _ _ => 0, fun _ _ => 0, fun _ => 0)
def Fz (r : Nat) (A : AE) (p : Nat) (R : AE) : Nat → AE := va_up (va_up (rcell r rzr) 0 A) p R
def zA1 (r : Nat) : List Value := [.int 0, .int 0, .int 0, .int 0, .ref (r + 1), .ref (r + 2), .int 0, .null, .int 0, .null, .int 0, .null]
def zA2 (r : Nat) : List Value := [.int 0, .int 0, .int 0, .int 0, .ref (r + 1), .ref (r + 2), .int 0, .ref (r + 15), .int 0, .null, .int 0, .null]
def zA3 (r : Nat) : List Value := [.int 0, .int 0, .int 0, .int 0, .ref (r + 1), .ref (r + 2), .int 0, .ref (r + 15), .int 0, .ref (r + 25), .int 0, .null]
section MKR
variable {d : Nat} {M : AM} {Q : Option Value → AM → Prop} {n m r : Nat} {A R : AE} {p k : Nat}
theorem Fz_0 (h : p ≠ 0) : Fz r A p R 0 = A := (va_up_ne _ _ (fun q => h q.symm)).trans (va_up_self _ _ _)
theorem Fz_p : Fz r A p R p = R := va_up_self _ _ _
theorem Fz_k (h0 : k ≠ 0) (hp : k ≠ p) : Fz r A p R k = rcell r rzr k := (va_up_ne _ _ hp).trans (va_up_ne _ _ h0)
theorem rz_road {i : Nat} (h : i < 12) : rcell r rzr (3 + i) = .inr (1, (nfs 1).set 0 (.int (nI i))) := by
  unfold rcell
  rw [if_neg (by omega), if_neg (by omega), if_neg (by omega), if_pos (by omega), show 3 + i - 3 = i by omega]
  rfl
theorem rz_lane {i : Nat} (h : i < 9) : rcell r rzr (16 + i) = .inr (1, (nfs 1).set 0 (.int (nI i))) := by
  unfold rcell
  rw [if_neg (by omega), if_neg (by omega), if_neg (by omega), if_neg (by omega), if_neg (by omega), if_pos (by omega), show 16 + i - 16 = i by omega]
  rfl
theorem rz_walk {i : Nat} (h : i < 10) : rcell r rzr (26 + 2 * i) = .inr (7, (nfs 7).set 4 (.ref (r + (26 + 2 * i + 1)))) := by
  unfold rcell
  rw [if_neg (by omega), if_neg (by omega), if_neg (by omega), if_neg (by omega), if_neg (by omega), if_neg (by omega), if_neg (by omega), if_pos (by omega), if_pos (by omega)]
  rfl
theorem rz_stops {i : Nat} (h : i < 10) : rcell r rzr (26 + 2 * i + 1) = .inl (0, 7, .inl (fun _ => 0)) := by
  unfold rcell
  rw [if_neg (by omega), if_neg (by omega), if_neg (by omega), if_neg (by omega), if_neg (by omega), if_neg (by omega), if_neg (by omega), if_pos (by omega), if_neg (by omega)]
  rfl
theorem k_ri_1 (h32 : 32 ≤ r) (kk : Wp (d + 9) md_26 59 [some (.ref r), some (.int (nI 12))] [] (cx (rsE M r (3 + 12) (Fz r (.inr (3, zA1 r)) 2 (rwE 4 12 (fun i => r + (3 + i)) 12))) (r - 32 + (3 + 12)) (m + 7 * 12)) Q) : ∀ (k i : Nat), i + k = 12 → Wp (d + 9) md_26 33 [some (.ref r), some (.int (nI i))] [] (cx (rsE M r (3 + i) (Fz r (.inr (3, zA1 r)) 2 (rwE 4 12 (fun i => r + (3 + i)) i))) (r - 32 + (3 + i)) (m + 7 * i)) Q := by
  intro k
  induction k with
  | zero =>
    intro i hi
    obtain rfl : i = 12 := by omega
    refine Wp.n (pc' := 36) 2 rfl ?_
    refine Wp.nc3 (x := 12) (y := 12) (tgt := 59) (len := 3) rfl (by omega) (by omega) (fun h36 => ?_) (fun h36 => ?_)
    · skip
      exact kk
    · omega
  | succ k ih =>
    intro i hi
    refine Wp.n (pc' := 36) 2 rfl ?_
    refine Wp.nc3 (x := i) (y := 12) (tgt := 59) (len := 3) rfl (by omega) (by omega) (fun h36 => ?_) (fun h36 => ?_)
    · omega
    · skip
      refine Wp.n (pc' := 40) 1 rfl ?_
      refine Wp.get (len := 3) rfl ((bgt (i := 0) h32 (by omega)).trans (Fz_0 (by decide))) rfl ?_
      refine Wp.n (pc' := 44) 1 rfl ?_
      refine Wp.bnew (e := 3 + i) (len := 3) rfl (by omega) ?_
      refine Wp.n (pc' := 49) 2 rfl ?_
      refine Wp.ecallI (len := 3) rfl rfl rfl rfl rfl (k_linkInit (d := d) (i := 3 + i) h32 (by omega) (va_up_self _ _ _)) ?_
      refine Wp.baast (i := 2) (i' := 3 + i) (len := 1) rfl h32 (by omega) (by omega) ((va_up_ne _ _ (by omega)).trans ((va_up_ne _ _ (by omega)).trans Fz_p)) (va_up_self _ _ _) rfl rfl (by omega) (by decide) ?_
      refine Wp.incN (x := i) (len := 3) rfl rfl ?_
      refine Wp.n (pc' := 33) 1 rfl ?_
      refine Wp.cong (cx_eq (rsE_eq (by omega) (fun q hq => ?_)) (by omega) (show m + 7 * i + 7 = m + 7 * (i + 1) by omega)) (ih (i + 1) (by omega))
      by_cases c1 : q = 2
      · rw [c1, va_up_self, Fz_p]
      · rw [va_up_ne _ _ c1]
        by_cases c2 : q = 3 + i
        · rw [c2, va_up_self, Fz_k (by omega) (by omega), rz_road (by omega)]
        · rw [va_up_ne _ _ c2, va_up_ne _ _ c2]
          by_cases c0 : q = 0
          · rw [c0, Fz_0 (by decide), Fz_0 (by decide)]
          · rw [Fz_k c0 c1, Fz_k c0 c1]
theorem k_ri_2 (h32 : 32 ≤ r) (kk : Wp (d + 9) md_26 96 [some (.ref r), some (.int (nI 9))] [] (cx (rsE M r (16 + 9) (Fz r (.inr (3, zA2 r)) 15 (rwE 4 9 (fun i => r + (16 + i)) 9))) (r - 32 + (16 + 9)) (m + 7 * 9)) Q) : ∀ (k i : Nat), i + k = 9 → Wp (d + 9) md_26 70 [some (.ref r), some (.int (nI i))] [] (cx (rsE M r (16 + i) (Fz r (.inr (3, zA2 r)) 15 (rwE 4 9 (fun i => r + (16 + i)) i))) (r - 32 + (16 + i)) (m + 7 * i)) Q := by
  intro k
  induction k with
  | zero =>
    intro i hi
    obtain rfl : i = 9 := by omega
    refine Wp.n (pc' := 73) 2 rfl ?_
    refine Wp.nc4 (x := 9) (y := 8) (tgt := 96) (len := 3) rfl (by omega) (by omega) (fun h73 => ?_) (fun h73 => ?_)
    · skip
      exact kk
    · omega
  | succ k ih =>
    intro i hi
    refine Wp.n (pc' := 73) 2 rfl ?_
    refine Wp.nc4 (x := i) (y := 8) (tgt := 96) (len := 3) rfl (by omega) (by omega) (fun h73 => ?_) (fun h73 => ?_)
    · omega
    · skip
      refine Wp.n (pc' := 77) 1 rfl ?_
      refine Wp.get (len := 3) rfl ((bgt (i := 0) h32 (by omega)).trans (Fz_0 (by decide))) rfl ?_
      refine Wp.n (pc' := 81) 1 rfl ?_
      refine Wp.bnew (e := 16 + i) (len := 3) rfl (by omega) ?_
      refine Wp.n (pc' := 86) 2 rfl ?_
      refine Wp.ecallI (len := 3) rfl rfl rfl rfl rfl (k_linkInit (d := d) (i := 16 + i) h32 (by omega) (va_up_self _ _ _)) ?_
      refine Wp.baast (i := 15) (i' := 16 + i) (len := 1) rfl h32 (by omega) (by omega) ((va_up_ne _ _ (by omega)).trans ((va_up_ne _ _ (by omega)).trans Fz_p)) (va_up_self _ _ _) rfl rfl (by omega) (by decide) ?_
      refine Wp.incN (x := i) (len := 3) rfl rfl ?_
      refine Wp.n (pc' := 70) 1 rfl ?_
      refine Wp.cong (cx_eq (rsE_eq (by omega) (fun q hq => ?_)) (by omega) (show m + 7 * i + 7 = m + 7 * (i + 1) by omega)) (ih (i + 1) (by omega))
      by_cases c1 : q = 15
      · rw [c1, va_up_self, Fz_p]
      · rw [va_up_ne _ _ c1]
        by_cases c2 : q = 16 + i
        · rw [c2, va_up_self, Fz_k (by omega) (by omega), rz_lane (by omega)]
        · rw [va_up_ne _ _ c2, va_up_ne _ _ c2]
          by_cases c0 : q = 0
          · rw [c0, Fz_0 (by decide), Fz_0 (by decide)]
          · rw [Fz_k c0 c1, Fz_k c0 c1]
theorem k_ri_3 (h32 : 32 ≤ r) (kk : Wp (d + 9) md_26 132 [some (.ref r), some (.int (nI 10))] [] (cx (rsE M r (26 + 2 * 10) (Fz r (.inr (3, zA3 r)) 25 (rwE 5 10 (fun i => r + (26 + 2 * i)) 10))) (r - 32 + (26 + 2 * 10)) (m + 12 * 10)) Q) : ∀ (k i : Nat), i + k = 10 → Wp (d + 9) md_26 107 [some (.ref r), some (.int (nI i))] [] (cx (rsE M r (26 + 2 * i) (Fz r (.inr (3, zA3 r)) 25 (rwE 5 10 (fun i => r + (26 + 2 * i)) i))) (r - 32 + (26 + 2 * i)) (m + 12 * i)) Q := by
  intro k
  induction k with
  | zero =>
    intro i hi
    obtain rfl : i = 10 := by omega
    refine Wp.n (pc' := 110) 2 rfl ?_
    refine Wp.nc3 (x := 10) (y := 10) (tgt := 132) (len := 3) rfl (by omega) (by omega) (fun h110 => ?_) (fun h110 => ?_)
    · skip
      exact kk
    · omega
  | succ k ih =>
    intro i hi
    refine Wp.n (pc' := 110) 2 rfl ?_
    refine Wp.nc3 (x := i) (y := 10) (tgt := 132) (len := 3) rfl (by omega) (by omega) (fun h110 => ?_) (fun h110 => ?_)
    · omega
    · skip
      refine Wp.n (pc' := 114) 1 rfl ?_
      refine Wp.get (len := 3) rfl ((bgt (i := 0) h32 (by omega)).trans (Fz_0 (by decide))) rfl ?_
      refine Wp.n (pc' := 118) 1 rfl ?_
      refine Wp.bnew (e := 26 + 2 * i) (len := 3) rfl (by omega) ?_
      refine Wp.n (pc' := 122) 1 rfl ?_
      refine Wp.ecallI (len := 3) rfl rfl rfl rfl rfl (k_walkInit (d := d) (i := 26 + 2 * i) (e := 26 + 2 * i + 1) h32 (by omega) (va_up_self _ _ _) (by omega)) ?_
      refine Wp.baast (i := 25) (i' := 26 + 2 * i) (len := 1) rfl h32 (by omega) (by omega) ((va_up_ne _ _ (by omega)).trans ((va_up_ne _ _ (by omega)).trans ((va_up_ne _ _ (by omega)).trans Fz_p))) (va_up_self _ _ _) rfl rfl (by omega) (by decide) ?_
      refine Wp.incN (x := i) (len := 3) rfl rfl ?_
      refine Wp.n (pc' := 107) 1 rfl ?_
      refine Wp.cong (cx_eq (rsE_eq (by omega) (fun q hq => ?_)) (by omega) (show m + 12 * i + 5 + 7 = m + 12 * (i + 1) by omega)) (ih (i + 1) (by omega))
      by_cases c1 : q = 25
      · rw [c1, va_up_self, Fz_p]
      · rw [va_up_ne _ _ c1]
        by_cases c2 : q = 26 + 2 * i
        · rw [c2, va_up_self, Fz_k (by omega) (by omega), rz_walk (by omega)]
        · rw [va_up_ne _ _ c2]
          by_cases c3 : q = 26 + 2 * i + 1
          · rw [c3, va_up_self, Fz_k (by omega) (by omega), rz_stops (by omega)]
          · rw [va_up_ne _ _ c3, va_up_ne _ _ c2]
            by_cases c0 : q = 0
            · rw [c0, Fz_0 (by decide), Fz_0 (by decide)]
            · rw [Fz_k c0 c1, Fz_k c0 c1]
theorem rz_2 : rcell r rzr 2 = rwE 4 12 (fun i => r + (3 + i)) 12 := by
  show (.inl (4, 12, .inr (.inr (.inr (.inr (fun i => if i < 12 then some (r + 3 + i) else none))))) : AE) = rwE 4 12 (fun i => r + (3 + i)) 12
  have e : (fun i => r + (3 + i)) = fun i => r + 3 + i := by funext i; omega
  rw [e]
  rfl
theorem rz_15 : rcell r rzr 15 = rwE 4 9 (fun i => r + (16 + i)) 9 := by
  show (.inl (4, 9, .inr (.inr (.inr (.inr (fun i => if i < 9 then some (r + 16 + i) else none))))) : AE) = rwE 4 9 (fun i => r + (16 + i)) 9
  have e : (fun i => r + (16 + i)) = fun i => r + 16 + i := by funext i; omega
  rw [e]
  rfl
theorem rz_25 : rcell r rzr 25 = rwE 5 10 (fun i => r + (26 + 2 * i)) 10 := by
  show (.inl (5, 10, .inr (.inr (.inr (.inr (fun i => if i < 10 then some (r + 26 + 2 * i) else none))))) : AE) = rwE 5 10 (fun i => r + (26 + 2 * i)) 10
  have e : (fun i => r + (26 + 2 * i)) = fun i => r + 26 + 2 * i := by funext i; omega
  rw [e]
  rfl
theorem k_realmInit (hn : 32 + n = r) : Wp (d + 9) md_26 0 [some (.ref r), none] [] (cx (va_up M r (.inr (3, nfs 3))) (n + 1) m) (fun v M' => v = none ∧ M' = cx (rset M r rzr) (n + 47) (m + 352)) := by
  have h32 : 32 ≤ r := by omega
  rw [rsE_1]
  refine Wp.n (pc' := 1) 1 rfl ?_
  refine Wp.bi (len := 3) rfl (by decide) rfl (by omega) ?_
  refine Wp.n (pc' := 5) 1 rfl ?_
  refine Wp.bnew (e := 1) (len := 3) rfl (by omega) ?_
  refine Wp.n (pc' := 9) 1 rfl ?_
  refine Wp.ecallI (len := 3) rfl rfl rfl rfl rfl (k_lawInit (d := d)) ?_
  refine Wp.bput (i := 0) (fs := nfs 3) (len := 3) rfl h32 (by omega) (rfl) rfl ?_
  refine Wp.n (pc' := 16) 1 rfl ?_
  refine Wp.get (len := 3) rfl ((bgt (i := 0) h32 (by omega)).trans (va_up_self _ _ _)) rfl ?_
  refine Wp.ecallV (len := 3) rfl rfl rfl ((bgt (i := 1) h32 (by omega)).trans (va_up_ne _ _ (by decide))) rfl (by omega) rfl (k_lawBegin2 (i := 1) h32 (by omega) rfl) ?_
  refine Wp.n (pc' := 25) 2 rfl ?_
  refine Wp.banew (k := 12) (e := 2) (len := 3) rfl (by decide) (by omega) (fun i => r + (3 + i)) ?_
  refine Wp.bput (i := 0) (fs := (nfs 3).set 4 (.ref (r + 1))) (len := 3) rfl h32 (by omega) (rfl) rfl ?_
  refine Wp.n (pc' := 33) 2 rfl ?_
  refine Wp.cong (M' := cx (rsE M r (3 + 0) (Fz r (.inr (3, zA1 r)) 2 (rwE 4 12 (fun i => r + (3 + i)) 0))) (r - 32 + (3 + 0)) ((m + 5 + 12) + 7 * 0)) (cx_eq (rsE_eq rfl (fun q hq => ?_)) (by omega) rfl) ?_
  · obtain rfl | rfl | rfl : q = 0 ∨ q = 1 ∨ q = 2 := by omega
    · rfl
    · rfl
    · rfl
  refine k_ri_1 h32 ?_ 12 0 rfl
  refine Wp.n (pc' := 62) 2 rfl ?_
  refine Wp.banew (k := 9) (e := 3 + 12) (len := 3) rfl (by decide) (by omega) (fun i => r + (16 + i)) ?_
  refine Wp.bput (i := 0) (fs := zA1 r) (len := 3) rfl h32 (by omega) (rfl) rfl ?_
  refine Wp.n (pc' := 70) 2 rfl ?_
  refine Wp.cong (M' := cx (rsE M r (16 + 0) (Fz r (.inr (3, zA2 r)) 15 (rwE 4 9 (fun i => r + (16 + i)) 0))) (r - 32 + (16 + 0)) ((m + 5 + 12 + 7 * 12 + 9) + 7 * 0)) (cx_eq (rsE_eq rfl (fun q hq => ?_)) (by omega) rfl) ?_
  · by_cases c0 : q = 0
    · rw [c0]; rfl
    · by_cases c15 : q = 15
      · rw [c15]; rfl
      · rw [Fz_k c0 c15, va_up_ne _ _ c0, va_up_ne _ _ c15]
        by_cases c2 : q = 2
        · rw [c2, Fz_p, rz_2]
        · rw [Fz_k c0 c2]
  refine k_ri_2 h32 ?_ 9 0 rfl
  refine Wp.n (pc' := 99) 2 rfl ?_
  refine Wp.banew (k := 10) (e := 16 + 9) (len := 3) rfl (by decide) (by omega) (fun i => r + (26 + 2 * i)) ?_
  refine Wp.bput (i := 0) (fs := zA2 r) (len := 3) rfl h32 (by omega) (rfl) rfl ?_
  refine Wp.n (pc' := 107) 2 rfl ?_
  refine Wp.cong (M' := cx (rsE M r (26 + 2 * 0) (Fz r (.inr (3, zA3 r)) 25 (rwE 5 10 (fun i => r + (26 + 2 * i)) 0))) (r - 32 + (26 + 2 * 0)) ((m + 5 + 12 + 7 * 12 + 9 + 7 * 9 + 10) + 12 * 0)) (cx_eq (rsE_eq rfl (fun q hq => ?_)) (by omega) rfl) ?_
  · by_cases c0 : q = 0
    · rw [c0]; rfl
    · by_cases c25 : q = 25
      · rw [c25]; rfl
      · rw [Fz_k c0 c25, va_up_ne _ _ c0, va_up_ne _ _ c25]
        by_cases c15 : q = 15
        · rw [c15, Fz_p, rz_15]
        · rw [Fz_k c0 c15]
  refine k_ri_3 h32 ?_ 10 0 rfl
  refine Wp.n (pc' := 135) 2 rfl ?_
  refine Wp.bna0 (k := 49) (e := 26 + 2 * 10) (len := 2) rfl (by decide) (by omega) ?_
  refine Wp.bput (i := 0) (fs := zA3 r) (len := 3) rfl h32 (by omega) (rfl) rfl ?_
  refine Wp.retV (len := 1) rfl rfl ?_
  refine ⟨rfl, ?_⟩
  show _ = cx (rsE M r 47 (rcell r rzr)) (n + 47) (m + 352)
  refine cx_eq (rsE_eq rfl (fun q hq => ?_)) (by omega) (by omega)
  by_cases c0 : q = 0
  · rw [c0]; rfl
  · rw [va_up_ne _ _ c0]
    by_cases c46 : q = 46
    · rw [c46]; rfl
    · rw [va_up_ne _ _ c46]
      by_cases c25 : q = 25
      · rw [c25, Fz_p, rz_25]
      · rw [Fz_k c0 c25]
end MKR
