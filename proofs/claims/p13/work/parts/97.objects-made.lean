/-! MAKING THE TWO OBJECTS. -/
def u4z : Nat → Int32 := upd (upd (upd (upd (fun _ => 0) 0 (-1)) 1 (-1)) 2 (-1)) 3 (-1)
def κz : CS := (fun s j => if s = 2 ∧ j = 3 then -1 else 0, fun s => if s = 16 then u4z else fun _ => 0, fun _ => 0, fun _ => none)
def σz : MS := (fun j => if j = 15 then -1 else 0, 0, fun k => if k = 0 then u4z else fun _ => 0, fun _ _ => 0)
section MK2
variable {d : Nat} {M M1 : AM} {Q : Option Value → AM → Prop} {n m : Nat} {κ : CS} {σ : MS} {fs : List Value}
theorem cset_id (h33 : M 33 = ccell κ 0) (h34 : M 34 = ccell κ 1) (h35 : M 35 = ccell κ 2) (h272 : M 272 = ccell κ 3) (h273 : M 273 = ccell κ 4) (h274 : M 274 = ccell κ 5) (h275 : M 275 = ccell κ 6) (h276 : M 276 = ccell κ 7) (h277 : M 277 = ccell κ 8) (h278 : M 278 = ccell κ 9) (h279 : M 279 = ccell κ 10) (h280 : M 280 = ccell κ 11) (h281 : M 281 = ccell κ 12) (h282 : M 282 = ccell κ 13) (h283 : M 283 = ccell κ 14) (h284 : M 284 = ccell κ 15) (h285 : M 285 = ccell κ 16) : cset M κ = M := by
  funext q
  unfold cset
  by_cases c1 : q < 33
  · rw [if_pos c1]
  · rw [if_neg c1]
    by_cases c2 : q < 36
    · rw [if_pos c2]
      obtain rfl | rfl | rfl : q = 33 ∨ q = 34 ∨ q = 35 := by omega
      · exact h33.symm
      · exact h34.symm
      · exact h35.symm
    · rw [if_neg c2]
      by_cases c3 : q < 272
      · rw [if_pos c3]
      · rw [if_neg c3]
        by_cases c4 : q < 286
        · rw [if_pos c4]
          obtain rfl | rfl | rfl | rfl | rfl | rfl | rfl | rfl | rfl | rfl | rfl | rfl | rfl | rfl : q = 272 ∨ q = 273 ∨ q = 274 ∨ q = 275 ∨ q = 276 ∨ q = 277 ∨ q = 278 ∨ q = 279 ∨ q = 280 ∨ q = 281 ∨ q = 282 ∨ q = 283 ∨ q = 284 ∨ q = 285 := by omega
          · exact h272.symm
          · exact h273.symm
          · exact h274.symm
          · exact h275.symm
          · exact h276.symm
          · exact h277.symm
          · exact h278.symm
          · exact h279.symm
          · exact h280.symm
          · exact h281.symm
          · exact h282.symm
          · exact h283.symm
          · exact h284.symm
          · exact h285.symm
        · rw [if_neg c4]
theorem mset_id (h287 : M 287 = .inr (10, mfs σ)) (h288 : M 288 = marr σ 0) (h289 : M 289 = marr σ 1) (h290 : M 290 = marr σ 2) (h291 : M 291 = marr σ 3) (h292 : M 292 = marr σ 4) (h293 : M 293 = marr σ 5) (h294 : M 294 = marr σ 6) (h295 : M 295 = marr σ 7) (h296 : M 296 = marr σ 8) (h297 : M 297 = marr σ 9) (h298 : M 298 = marr σ 10) (h299 : M 299 = marr σ 11) (h300 : M 300 = marr σ 12) (h301 : M 301 = marr σ 13) (h302 : M 302 = marr σ 14) (h303 : M 303 = marr σ 15) (h304 : M 304 = marr σ 16) (h305 : M 305 = marr σ 17) : mset M σ = M := by
  funext q
  unfold mset
  by_cases c1 : q < 287
  · rw [if_pos c1]
  · rw [if_neg c1]
    by_cases c2 : q = 287
    · rw [if_pos c2, c2, h287]
    · rw [if_neg c2]
      by_cases c3 : q < 306
      · rw [if_pos c3]
        obtain rfl | rfl | rfl | rfl | rfl | rfl | rfl | rfl | rfl | rfl | rfl | rfl | rfl | rfl | rfl | rfl | rfl | rfl : q = 288 ∨ q = 289 ∨ q = 290 ∨ q = 291 ∨ q = 292 ∨ q = 293 ∨ q = 294 ∨ q = 295 ∨ q = 296 ∨ q = 297 ∨ q = 298 ∨ q = 299 ∨ q = 300 ∨ q = 301 ∨ q = 302 ∨ q = 303 ∨ q = 304 ∨ q = 305 := by omega
        · exact h288.symm
        · exact h289.symm
        · exact h290.symm
        · exact h291.symm
        · exact h292.symm
        · exact h293.symm
        · exact h294.symm
        · exact h295.symm
        · exact h296.symm
        · exact h297.symm
        · exact h298.symm
        · exact h299.symm
        · exact h300.symm
        · exact h301.symm
        · exact h302.symm
        · exact h303.symm
        · exact h304.symm
        · exact h305.symm
      · rw [if_neg c3]
theorem ag_u {P : Nat → Prop} {k : Nat} {e : AE} (hk : ¬ P k) (h : ∀ q, P q → M1 q = M q) : ∀ q, P q → va_up M1 k e q = M q := fun q hq => by
  have hne : q ≠ k := fun c => hk (by rw [← c]; exact hq)
  exact (va_up_ne _ _ hne).trans (h q hq)
theorem ag_r {P : Nat → Prop} {r : Nat} {ρ : RC} (hk : ∀ k, r ≤ k → k < r + 47 → ¬ P k) (h : ∀ q, P q → M1 q = M q) : ∀ q, P q → rset M1 r ρ q = M q := fun q hq => (rset_ne (by
  by_cases c : q < r
  · exact Or.inl c
  · by_cases c2 : r + 47 ≤ q
    · exact Or.inr c2
    · exact absurd hq (hk q (by omega) (by omega)))).trans (h q hq)
theorem ra_u {r k : Nat} {ρ : RC} {e : AE} (hk : k < r ∨ r + 47 ≤ k) (h : RA M r ρ) : RA (va_up M k e) r ρ := RA_of h (fun q a b => va_up_ne _ _ (by omega))
theorem ra_r {r r' : Nat} {ρ ρ' : RC} (hk : r' + 47 ≤ r ∨ r + 47 ≤ r') (h : RA M r ρ) : RA (rset M r' ρ') r ρ := RA_of h (fun q a b => rset_ne (by omega))
theorem k_tapeInit (hM : M 33 = .inr (5, nfs 5)) : Ev (d + 8) md_59 0 [some (.ref 33)] [] (cx M 2 m) (none, cx (va_up (va_up (M) 34 (.inl (2, 2000, .inl (fun _ => 0)))) 33 (.inr (5, (nfs 5).set 0 (.ref 34)))) 3 (m + 2000)) := by
  refine Wp.toEv ?_
  refine Wp.n (pc' := 1) 1 rfl ?_
  refine Wp.bi (len := 3) rfl (by decide) rfl (by omega) ?_
  refine Wp.n (pc' := 8) 2 rfl ?_
  refine Wp.xna2 (k := 2000) (q := 34) (len := 2) rfl (by decide) rfl ?_
  refine Wp.xput (k := 33) (fs := nfs 5) (len := 3) rfl (by first | exact hM | exact (va_up_ne _ _ (by decide)).trans hM | exact (va_up_ne _ _ (by decide)).trans (va_up_self _ _ _) | exact va_up_self _ _ _) (by decide) rfl ?_
  refine Wp.retV (len := 1) rfl rfl ?_
  exact ⟨rfl, rfl⟩
theorem k_readerInit (hM : M 35 = .inr (2, nfs 2)) : Ev (d + 8) md_9 0 [some (.ref 35)] [] (cx M 4 m) (none, cx (va_up (M) 35 (.inr (2, (nfs 2).set 3 (.int (-1))))) 4 (m)) := by
  refine Wp.toEv ?_
  refine Wp.n (pc' := 1) 1 rfl ?_
  refine Wp.bi (len := 3) rfl (by decide) rfl (by omega) ?_
  refine Wp.n (pc' := 6) 2 rfl ?_
  refine Wp.xput (k := 35) (fs := nfs 2) (len := 3) rfl (by first | exact hM | exact (va_up_ne _ _ (by decide)).trans hM | exact (va_up_ne _ _ (by decide)).trans (va_up_self _ _ _) | exact va_up_self _ _ _) (by decide) rfl ?_
  refine Wp.retV (len := 1) rfl rfl ?_
  exact ⟨rfl, rfl⟩
theorem k_waysInit (hM : M 273 = .inr (8, nfs 8)) : Ev (d + 8) md_73 0 [some (.ref 273)] [] (cx M 242 m) (none, cx (va_up (va_up (va_up (va_up (va_up (va_up (va_up (va_up (va_up (va_up (va_up (va_up (M) 274 (.inl (0, 326, .inl (fun _ => 0)))) 273 (.inr (8, (nfs 8).set 0 (.ref 274)))) 275 (.inl (0, 326, .inl (fun _ => 0)))) 273 (.inr (8, ((nfs 8).set 0 (.ref 274)).set 1 (.ref 275)))) 276 (.inl (0, 326, .inl (fun _ => 0)))) 273 (.inr (8, (((nfs 8).set 0 (.ref 274)).set 1 (.ref 275)).set 2 (.ref 276)))) 277 (.inl (0, 326, .inl (fun _ => 0)))) 273 (.inr (8, ((((nfs 8).set 0 (.ref 274)).set 1 (.ref 275)).set 2 (.ref 276)).set 3 (.ref 277)))) 278 (.inl (0, 49, .inl (fun _ => 0)))) 273 (.inr (8, (((((nfs 8).set 0 (.ref 274)).set 1 (.ref 275)).set 2 (.ref 276)).set 3 (.ref 277)).set 5 (.ref 278)))) 279 (.inl (0, 49, .inl (fun _ => 0)))) 273 (.inr (8, ((((((nfs 8).set 0 (.ref 274)).set 1 (.ref 275)).set 2 (.ref 276)).set 3 (.ref 277)).set 5 (.ref 278)).set 6 (.ref 279)))) 248 (m + 326 + 326 + 326 + 326 + 49 + 49)) := by
  refine Wp.toEv ?_
  refine Wp.n (pc' := 1) 1 rfl ?_
  refine Wp.bi (len := 3) rfl (by decide) rfl (by omega) ?_
  refine Wp.n (pc' := 8) 2 rfl ?_
  refine Wp.xna0 (k := 326) (q := 274) (len := 2) rfl (by decide) rfl ?_
  refine Wp.xput (k := 273) (fs := nfs 8) (len := 3) rfl (by first | exact hM | exact (va_up_ne _ _ (by decide)).trans hM | exact (va_up_ne _ _ (by decide)).trans (va_up_self _ _ _) | exact va_up_self _ _ _) (by decide) rfl ?_
  refine Wp.n (pc' := 17) 2 rfl ?_
  refine Wp.xna0 (k := 326) (q := 275) (len := 2) rfl (by decide) rfl ?_
  refine Wp.xput (k := 273) (fs := (nfs 8).set 0 (.ref 274)) (len := 3) rfl (by first | exact hM | exact (va_up_ne _ _ (by decide)).trans hM | exact (va_up_ne _ _ (by decide)).trans (va_up_self _ _ _) | exact va_up_self _ _ _) (by decide) rfl ?_
  refine Wp.n (pc' := 26) 2 rfl ?_
  refine Wp.xna0 (k := 326) (q := 276) (len := 2) rfl (by decide) rfl ?_
  refine Wp.xput (k := 273) (fs := ((nfs 8).set 0 (.ref 274)).set 1 (.ref 275)) (len := 3) rfl (by first | exact hM | exact (va_up_ne _ _ (by decide)).trans hM | exact (va_up_ne _ _ (by decide)).trans (va_up_self _ _ _) | exact va_up_self _ _ _) (by decide) rfl ?_
  refine Wp.n (pc' := 35) 2 rfl ?_
  refine Wp.xna0 (k := 326) (q := 277) (len := 2) rfl (by decide) rfl ?_
  refine Wp.xput (k := 273) (fs := (((nfs 8).set 0 (.ref 274)).set 1 (.ref 275)).set 2 (.ref 276)) (len := 3) rfl (by first | exact hM | exact (va_up_ne _ _ (by decide)).trans hM | exact (va_up_ne _ _ (by decide)).trans (va_up_self _ _ _) | exact va_up_self _ _ _) (by decide) rfl ?_
  refine Wp.n (pc' := 43) 2 rfl ?_
  refine Wp.xna0 (k := 49) (q := 278) (len := 2) rfl (by decide) rfl ?_
  refine Wp.xput (k := 273) (fs := ((((nfs 8).set 0 (.ref 274)).set 1 (.ref 275)).set 2 (.ref 276)).set 3 (.ref 277)) (len := 3) rfl (by first | exact hM | exact (va_up_ne _ _ (by decide)).trans hM | exact (va_up_ne _ _ (by decide)).trans (va_up_self _ _ _) | exact va_up_self _ _ _) (by decide) rfl ?_
  refine Wp.n (pc' := 51) 2 rfl ?_
  refine Wp.xna0 (k := 49) (q := 279) (len := 2) rfl (by decide) rfl ?_
  refine Wp.xput (k := 273) (fs := (((((nfs 8).set 0 (.ref 274)).set 1 (.ref 275)).set 2 (.ref 276)).set 3 (.ref 277)).set 5 (.ref 278)) (len := 3) rfl (by first | exact hM | exact (va_up_ne _ _ (by decide)).trans hM | exact (va_up_ne _ _ (by decide)).trans (va_up_self _ _ _) | exact va_up_self _ _ _) (by decide) rfl ?_
  refine Wp.retV (len := 1) rfl rfl ?_
  exact ⟨rfl, rfl⟩
theorem k_tripInit (hM : M 280 = .inr (6, nfs 6)) : Ev (d + 8) md_62 0 [some (.ref 280)] [] (cx M 249 m) (none, cx (va_up (va_up (M) 281 (.inl (0, 6, .inl (fun _ => 0)))) 280 (.inr (6, (nfs 6).set 6 (.ref 281)))) 250 (m + 6)) := by
  refine Wp.toEv ?_
  refine Wp.n (pc' := 1) 1 rfl ?_
  refine Wp.bi (len := 3) rfl (by decide) rfl (by omega) ?_
  refine Wp.n (pc' := 7) 2 rfl ?_
  refine Wp.xna0 (k := 6) (q := 281) (len := 2) rfl (by decide) rfl ?_
  refine Wp.xput (k := 280) (fs := nfs 6) (len := 3) rfl (by first | exact hM | exact (va_up_ne _ _ (by decide)).trans hM | exact (va_up_ne _ _ (by decide)).trans (va_up_self _ _ _) | exact va_up_self _ _ _) (by decide) rfl ?_
  refine Wp.retV (len := 1) rfl rfl ?_
  exact ⟨rfl, rfl⟩
theorem k_sl_1 {j : Nat} {g : Nat → Int32} (hj : j < 4) (h282 : M 282 = .inr (4, fs)) (hg : gv fs 2 = some (.ref 285)) (h285 : M 285 = .inl (0, 4, .inl g)) (kk : Wp d md_49 29 [some (.ref 282), some (.int (nI (j + 1)))] [] (cx (va_up M 285 (.inl (0, 4, .inl (upd g j (-1))))) n m) Q) : Wp d md_49 29 [some (.ref 282), some (.int (nI j))] [] (cx M n m) Q := by
  refine Wp.n (pc' := 31) 2 rfl ?_
  refine Wp.nc3 (x := j) (y := 4) (tgt := 47) (len := 3) rfl (by omega) (by omega) (fun h31 => ?_) (fun h31 => ?_)
  · omega
  · skip
    refine Wp.n (pc' := 35) 1 rfl ?_
    refine Wp.get (len := 3) rfl ((cx_o (by decide)).trans h282) hg ?_
    refine Wp.n (pc' := 40) 2 rfl ?_
    refine Wp.xiast (j := j) (len := 1) rfl h285 (by decide) hj (by decide) ?_
    refine Wp.incN (x := j) (len := 3) rfl rfl ?_
    refine Wp.n (pc' := 29) 1 rfl ?_
    exact kk
theorem k_slotsInit (hM : M 282 = .inr (4, nfs 4)) : Ev (d + 8) md_49 0 [some (.ref 282), none] [] (cx M 251 m) (none, cx (va_up (va_up (va_up (va_up (va_up (va_up (va_up (va_up (va_up (va_up (M) 283 (.inl (1, 240, .inr (.inl (fun _ => 0))))) 282 (.inr (4, (nfs 4).set 0 (.ref 283)))) 284 (.inl (0, 4, .inl (fun _ => 0)))) 282 (.inr (4, ((nfs 4).set 0 (.ref 283)).set 1 (.ref 284)))) 285 (.inl (0, 4, .inl (fun _ => 0)))) 282 (.inr (4, (((nfs 4).set 0 (.ref 283)).set 1 (.ref 284)).set 2 (.ref 285)))) 285 (.inl (0, 4, .inl (upd (fun _ => 0) 0 (-1))))) 285 (.inl (0, 4, .inl (upd (upd (fun _ => 0) 0 (-1)) 1 (-1))))) 285 (.inl (0, 4, .inl (upd (upd (upd (fun _ => 0) 0 (-1)) 1 (-1)) 2 (-1))))) 285 (.inl (0, 4, .inl (upd (upd (upd (upd (fun _ => 0) 0 (-1)) 1 (-1)) 2 (-1)) 3 (-1))))) 254 (m + 240 + 4 + 4)) := by
  refine Wp.toEv ?_
  refine Wp.n (pc' := 1) 1 rfl ?_
  refine Wp.bi (len := 3) rfl (by decide) rfl (by omega) ?_
  refine Wp.n (pc' := 8) 2 rfl ?_
  refine Wp.xna1 (k := 240) (q := 283) (len := 2) rfl (by decide) rfl ?_
  refine Wp.xput (k := 282) (fs := nfs 4) (len := 3) rfl (by first | exact hM | exact (va_up_ne _ _ (by decide)).trans hM | exact (va_up_ne _ _ (by decide)).trans (va_up_self _ _ _) | exact va_up_self _ _ _) (by decide) rfl ?_
  refine Wp.n (pc' := 15) 2 rfl ?_
  refine Wp.xna0 (k := 4) (q := 284) (len := 2) rfl (by decide) rfl ?_
  refine Wp.xput (k := 282) (fs := (nfs 4).set 0 (.ref 283)) (len := 3) rfl (by first | exact hM | exact (va_up_ne _ _ (by decide)).trans hM | exact (va_up_ne _ _ (by decide)).trans (va_up_self _ _ _) | exact va_up_self _ _ _) (by decide) rfl ?_
  refine Wp.n (pc' := 22) 2 rfl ?_
  refine Wp.xna0 (k := 4) (q := 285) (len := 2) rfl (by decide) rfl ?_
  refine Wp.xput (k := 282) (fs := ((nfs 4).set 0 (.ref 283)).set 1 (.ref 284)) (len := 3) rfl (by first | exact hM | exact (va_up_ne _ _ (by decide)).trans hM | exact (va_up_ne _ _ (by decide)).trans (va_up_self _ _ _) | exact va_up_self _ _ _) (by decide) rfl ?_
  refine Wp.n (pc' := 29) 2 rfl ?_
  refine k_sl_1 (j := 0) (by decide) rfl rfl rfl ?_
  refine k_sl_1 (j := 1) (by decide) rfl rfl rfl ?_
  refine k_sl_1 (j := 2) (by decide) rfl rfl rfl ?_
  refine k_sl_1 (j := 3) (by decide) rfl rfl rfl ?_
  refine Wp.n (pc' := 31) 2 rfl ?_
  refine Wp.nc3 (x := 4) (y := 4) (tgt := 47) (len := 3) rfl (by omega) (by omega) (fun h31 => ?_) (fun h31 => ?_)
  · skip
    refine Wp.retV (len := 1) rfl rfl ?_
    exact ⟨rfl, rfl⟩
  · omega
theorem k_md_1 {j : Nat} {g : Nat → Int32} (hj : j < 4) (h287 : M 287 = .inr (10, fs)) (hg : gv fs 1 = some (.ref 288)) (h288 : M 288 = .inl (0, 4, .inl g)) (kk : Wp d md_149 155 [some (.ref 287), some (.int (nI (j + 1)))] [] (cx (va_up M 288 (.inl (0, 4, .inl (upd g j (-1))))) n m) Q) : Wp d md_149 155 [some (.ref 287), some (.int (nI j))] [] (cx M n m) Q := by
  refine Wp.n (pc' := 157) 2 rfl ?_
  refine Wp.nc3 (x := j) (y := 4) (tgt := 173) (len := 3) rfl (by omega) (by omega) (fun h157 => ?_) (fun h157 => ?_)
  · omega
  · skip
    refine Wp.n (pc' := 161) 1 rfl ?_
    refine Wp.get (len := 3) rfl ((cx_o (by decide)).trans h287) hg ?_
    refine Wp.n (pc' := 166) 2 rfl ?_
    refine Wp.xiast (j := j) (len := 1) rfl h288 (by decide) hj (by decide) ?_
    refine Wp.incN (x := j) (len := 3) rfl rfl ?_
    refine Wp.n (pc' := 155) 1 rfl ?_
    exact kk
theorem sp_m {k : Nat} {e : AE} (hk : 287 ≤ k) (h : ∀ q, q < 287 → M1 q = M q) : ∀ q, q < 287 → va_up M1 k e q = M q := fun q hq => (va_up_ne _ _ (by omega)).trans (h q hq)
theorem k_modelInit (hM : M 287 = .inr (10, nfs 10)) : Wp (d + 8) md_149 0 [some (.ref 287), none] [] (cx M 256 m) (fun v M' => v = none ∧ ∃ Mf, M' = cx Mf 274 (m + 4 + 4 + 240 + 60 + 2000 + 5 + 25 + 25 + 5 + 180 + 315 + 550 + 3 + 7 + 7 + 6 + 7 + 10) ∧ mset Mf σz = Mf ∧ ∀ q, q < 287 → Mf q = M q) := by
  refine Wp.n (pc' := 1) 1 rfl ?_
  refine Wp.bi (len := 3) rfl (by decide) rfl (by omega) ?_
  refine Wp.n (pc' := 6) 2 rfl ?_
  refine Wp.xna0 (k := 4) (q := 288) (len := 2) rfl (by decide) rfl ?_
  refine Wp.xput (k := 287) (fs := nfs 10) (len := 3) rfl (by first | exact hM | exact (va_up_ne _ _ (by decide)).trans hM | exact (va_up_ne _ _ (by decide)).trans (va_up_self _ _ _) | exact va_up_self _ _ _) (by decide) rfl ?_
  refine Wp.n (pc' := 13) 2 rfl ?_
  refine Wp.xna0 (k := 4) (q := 289) (len := 2) rfl (by decide) rfl ?_
  refine Wp.xput (k := 287) (fs := (nfs 10).set 1 (.ref 288)) (len := 3) rfl (by first | exact hM | exact (va_up_ne _ _ (by decide)).trans hM | exact (va_up_ne _ _ (by decide)).trans (va_up_self _ _ _) | exact va_up_self _ _ _) (by decide) rfl ?_
  refine Wp.n (pc' := 22) 2 rfl ?_
  refine Wp.xna1 (k := 240) (q := 290) (len := 2) rfl (by decide) rfl ?_
  refine Wp.xput (k := 287) (fs := ((nfs 10).set 1 (.ref 288)).set 2 (.ref 289)) (len := 3) rfl (by first | exact hM | exact (va_up_ne _ _ (by decide)).trans hM | exact (va_up_ne _ _ (by decide)).trans (va_up_self _ _ _) | exact va_up_self _ _ _) (by decide) rfl ?_
  refine Wp.n (pc' := 30) 2 rfl ?_
  refine Wp.xna1 (k := 60) (q := 291) (len := 2) rfl (by decide) rfl ?_
  refine Wp.xput (k := 287) (fs := (((nfs 10).set 1 (.ref 288)).set 2 (.ref 289)).set 3 (.ref 290)) (len := 3) rfl (by first | exact hM | exact (va_up_ne _ _ (by decide)).trans hM | exact (va_up_ne _ _ (by decide)).trans (va_up_self _ _ _) | exact va_up_self _ _ _) (by decide) rfl ?_
  refine Wp.n (pc' := 39) 2 rfl ?_
  refine Wp.xna2 (k := 2000) (q := 292) (len := 2) rfl (by decide) rfl ?_
  refine Wp.xput (k := 287) (fs := ((((nfs 10).set 1 (.ref 288)).set 2 (.ref 289)).set 3 (.ref 290)).set 4 (.ref 291)) (len := 3) rfl (by first | exact hM | exact (va_up_ne _ _ (by decide)).trans hM | exact (va_up_ne _ _ (by decide)).trans (va_up_self _ _ _) | exact va_up_self _ _ _) (by decide) rfl ?_
  refine Wp.n (pc' := 46) 2 rfl ?_
  refine Wp.xput (k := 287) (fs := (((((nfs 10).set 1 (.ref 288)).set 2 (.ref 289)).set 3 (.ref 290)).set 4 (.ref 291)).set 5 (.ref 292)) (len := 3) rfl (by first | exact hM | exact (va_up_ne _ _ (by decide)).trans hM | exact (va_up_ne _ _ (by decide)).trans (va_up_self _ _ _) | exact va_up_self _ _ _) (by decide) rfl ?_
  refine Wp.n (pc' := 51) 2 rfl ?_
  refine Wp.xna0 (k := 5) (q := 293) (len := 2) rfl (by decide) rfl ?_
  refine Wp.xput (k := 287) (fs := ((((((nfs 10).set 1 (.ref 288)).set 2 (.ref 289)).set 3 (.ref 290)).set 4 (.ref 291)).set 5 (.ref 292)).set 15 (.int (-1))) (len := 3) rfl (by first | exact hM | exact (va_up_ne _ _ (by decide)).trans hM | exact (va_up_ne _ _ (by decide)).trans (va_up_self _ _ _) | exact va_up_self _ _ _) (by decide) rfl ?_
  refine Wp.n (pc' := 59) 2 rfl ?_
  refine Wp.xna0 (k := 25) (q := 294) (len := 2) rfl (by decide) rfl ?_
  refine Wp.xput (k := 287) (fs := (((((((nfs 10).set 1 (.ref 288)).set 2 (.ref 289)).set 3 (.ref 290)).set 4 (.ref 291)).set 5 (.ref 292)).set 15 (.int (-1))).set 16 (.ref 293)) (len := 3) rfl (by first | exact hM | exact (va_up_ne _ _ (by decide)).trans hM | exact (va_up_ne _ _ (by decide)).trans (va_up_self _ _ _) | exact va_up_self _ _ _) (by decide) rfl ?_
  refine Wp.n (pc' := 67) 2 rfl ?_
  refine Wp.xna0 (k := 25) (q := 295) (len := 2) rfl (by decide) rfl ?_
  refine Wp.xput (k := 287) (fs := ((((((((nfs 10).set 1 (.ref 288)).set 2 (.ref 289)).set 3 (.ref 290)).set 4 (.ref 291)).set 5 (.ref 292)).set 15 (.int (-1))).set 16 (.ref 293)).set 17 (.ref 294)) (len := 3) rfl (by first | exact hM | exact (va_up_ne _ _ (by decide)).trans hM | exact (va_up_ne _ _ (by decide)).trans (va_up_self _ _ _) | exact va_up_self _ _ _) (by decide) rfl ?_
  refine Wp.n (pc' := 74) 2 rfl ?_
  refine Wp.xna1 (k := 5) (q := 296) (len := 2) rfl (by decide) rfl ?_
  refine Wp.xput (k := 287) (fs := (((((((((nfs 10).set 1 (.ref 288)).set 2 (.ref 289)).set 3 (.ref 290)).set 4 (.ref 291)).set 5 (.ref 292)).set 15 (.int (-1))).set 16 (.ref 293)).set 17 (.ref 294)).set 18 (.ref 295)) (len := 3) rfl (by first | exact hM | exact (va_up_ne _ _ (by decide)).trans hM | exact (va_up_ne _ _ (by decide)).trans (va_up_self _ _ _) | exact va_up_self _ _ _) (by decide) rfl ?_
  refine Wp.n (pc' := 83) 2 rfl ?_
  refine Wp.xna0 (k := 180) (q := 297) (len := 2) rfl (by decide) rfl ?_
  refine Wp.xput (k := 287) (fs := ((((((((((nfs 10).set 1 (.ref 288)).set 2 (.ref 289)).set 3 (.ref 290)).set 4 (.ref 291)).set 5 (.ref 292)).set 15 (.int (-1))).set 16 (.ref 293)).set 17 (.ref 294)).set 18 (.ref 295)).set 19 (.ref 296)) (len := 3) rfl (by first | exact hM | exact (va_up_ne _ _ (by decide)).trans hM | exact (va_up_ne _ _ (by decide)).trans (va_up_self _ _ _) | exact va_up_self _ _ _) (by decide) rfl ?_
  refine Wp.n (pc' := 92) 2 rfl ?_
  refine Wp.xna0 (k := 315) (q := 298) (len := 2) rfl (by decide) rfl ?_
  refine Wp.xput (k := 287) (fs := (((((((((((nfs 10).set 1 (.ref 288)).set 2 (.ref 289)).set 3 (.ref 290)).set 4 (.ref 291)).set 5 (.ref 292)).set 15 (.int (-1))).set 16 (.ref 293)).set 17 (.ref 294)).set 18 (.ref 295)).set 19 (.ref 296)).set 20 (.ref 297)) (len := 3) rfl (by first | exact hM | exact (va_up_ne _ _ (by decide)).trans hM | exact (va_up_ne _ _ (by decide)).trans (va_up_self _ _ _) | exact va_up_self _ _ _) (by decide) rfl ?_
  refine Wp.n (pc' := 101) 2 rfl ?_
  refine Wp.xna0 (k := 550) (q := 299) (len := 2) rfl (by decide) rfl ?_
  refine Wp.xput (k := 287) (fs := ((((((((((((nfs 10).set 1 (.ref 288)).set 2 (.ref 289)).set 3 (.ref 290)).set 4 (.ref 291)).set 5 (.ref 292)).set 15 (.int (-1))).set 16 (.ref 293)).set 17 (.ref 294)).set 18 (.ref 295)).set 19 (.ref 296)).set 20 (.ref 297)).set 21 (.ref 298)) (len := 3) rfl (by first | exact hM | exact (va_up_ne _ _ (by decide)).trans hM | exact (va_up_ne _ _ (by decide)).trans (va_up_self _ _ _) | exact va_up_self _ _ _) (by decide) rfl ?_
  refine Wp.n (pc' := 108) 2 rfl ?_
  refine Wp.xna3 (k := 3) (q := 300) (len := 2) rfl (by decide) rfl ?_
  refine Wp.xput (k := 287) (fs := (((((((((((((nfs 10).set 1 (.ref 288)).set 2 (.ref 289)).set 3 (.ref 290)).set 4 (.ref 291)).set 5 (.ref 292)).set 15 (.int (-1))).set 16 (.ref 293)).set 17 (.ref 294)).set 18 (.ref 295)).set 19 (.ref 296)).set 20 (.ref 297)).set 21 (.ref 298)).set 22 (.ref 299)) (len := 3) rfl (by first | exact hM | exact (va_up_ne _ _ (by decide)).trans hM | exact (va_up_ne _ _ (by decide)).trans (va_up_self _ _ _) | exact va_up_self _ _ _) (by decide) rfl ?_
  refine Wp.n (pc' := 116) 2 rfl ?_
  refine Wp.xna0 (k := 7) (q := 301) (len := 2) rfl (by decide) rfl ?_
  refine Wp.xput (k := 287) (fs := ((((((((((((((nfs 10).set 1 (.ref 288)).set 2 (.ref 289)).set 3 (.ref 290)).set 4 (.ref 291)).set 5 (.ref 292)).set 15 (.int (-1))).set 16 (.ref 293)).set 17 (.ref 294)).set 18 (.ref 295)).set 19 (.ref 296)).set 20 (.ref 297)).set 21 (.ref 298)).set 22 (.ref 299)).set 23 (.ref 300)) (len := 3) rfl (by first | exact hM | exact (va_up_ne _ _ (by decide)).trans hM | exact (va_up_ne _ _ (by decide)).trans (va_up_self _ _ _) | exact va_up_self _ _ _) (by decide) rfl ?_
  refine Wp.n (pc' := 124) 2 rfl ?_
  refine Wp.xna0 (k := 7) (q := 302) (len := 2) rfl (by decide) rfl ?_
  refine Wp.xput (k := 287) (fs := (((((((((((((((nfs 10).set 1 (.ref 288)).set 2 (.ref 289)).set 3 (.ref 290)).set 4 (.ref 291)).set 5 (.ref 292)).set 15 (.int (-1))).set 16 (.ref 293)).set 17 (.ref 294)).set 18 (.ref 295)).set 19 (.ref 296)).set 20 (.ref 297)).set 21 (.ref 298)).set 22 (.ref 299)).set 23 (.ref 300)).set 24 (.ref 301)) (len := 3) rfl (by first | exact hM | exact (va_up_ne _ _ (by decide)).trans hM | exact (va_up_ne _ _ (by decide)).trans (va_up_self _ _ _) | exact va_up_self _ _ _) (by decide) rfl ?_
  refine Wp.n (pc' := 132) 2 rfl ?_
  refine Wp.xna0 (k := 6) (q := 303) (len := 2) rfl (by decide) rfl ?_
  refine Wp.xput (k := 287) (fs := ((((((((((((((((nfs 10).set 1 (.ref 288)).set 2 (.ref 289)).set 3 (.ref 290)).set 4 (.ref 291)).set 5 (.ref 292)).set 15 (.int (-1))).set 16 (.ref 293)).set 17 (.ref 294)).set 18 (.ref 295)).set 19 (.ref 296)).set 20 (.ref 297)).set 21 (.ref 298)).set 22 (.ref 299)).set 23 (.ref 300)).set 24 (.ref 301)).set 26 (.ref 302)) (len := 3) rfl (by first | exact hM | exact (va_up_ne _ _ (by decide)).trans hM | exact (va_up_ne _ _ (by decide)).trans (va_up_self _ _ _) | exact va_up_self _ _ _) (by decide) rfl ?_
  refine Wp.n (pc' := 140) 2 rfl ?_
  refine Wp.xna0 (k := 7) (q := 304) (len := 2) rfl (by decide) rfl ?_
  refine Wp.xput (k := 287) (fs := (((((((((((((((((nfs 10).set 1 (.ref 288)).set 2 (.ref 289)).set 3 (.ref 290)).set 4 (.ref 291)).set 5 (.ref 292)).set 15 (.int (-1))).set 16 (.ref 293)).set 17 (.ref 294)).set 18 (.ref 295)).set 19 (.ref 296)).set 20 (.ref 297)).set 21 (.ref 298)).set 22 (.ref 299)).set 23 (.ref 300)).set 24 (.ref 301)).set 26 (.ref 302)).set 31 (.ref 303)) (len := 3) rfl (by first | exact hM | exact (va_up_ne _ _ (by decide)).trans hM | exact (va_up_ne _ _ (by decide)).trans (va_up_self _ _ _) | exact va_up_self _ _ _) (by decide) rfl ?_
  refine Wp.n (pc' := 148) 2 rfl ?_
  refine Wp.xna0 (k := 10) (q := 305) (len := 2) rfl (by decide) rfl ?_
  refine Wp.xput (k := 287) (fs := ((((((((((((((((((nfs 10).set 1 (.ref 288)).set 2 (.ref 289)).set 3 (.ref 290)).set 4 (.ref 291)).set 5 (.ref 292)).set 15 (.int (-1))).set 16 (.ref 293)).set 17 (.ref 294)).set 18 (.ref 295)).set 19 (.ref 296)).set 20 (.ref 297)).set 21 (.ref 298)).set 22 (.ref 299)).set 23 (.ref 300)).set 24 (.ref 301)).set 26 (.ref 302)).set 31 (.ref 303)).set 43 (.ref 304)) (len := 3) rfl (by first | exact hM | exact (va_up_ne _ _ (by decide)).trans hM | exact (va_up_ne _ _ (by decide)).trans (va_up_self _ _ _) | exact va_up_self _ _ _) (by decide) rfl ?_
  refine Wp.n (pc' := 155) 2 rfl ?_
  refine k_md_1 (j := 0) (by decide) rfl rfl rfl ?_
  refine k_md_1 (j := 1) (by decide) rfl rfl rfl ?_
  refine k_md_1 (j := 2) (by decide) rfl rfl rfl ?_
  refine k_md_1 (j := 3) (by decide) rfl rfl rfl ?_
  refine Wp.n (pc' := 157) 2 rfl ?_
  refine Wp.nc3 (x := 4) (y := 4) (tgt := 173) (len := 3) rfl (by omega) (by omega) (fun h157 => ?_) (fun h157 => ?_)
  · skip
    refine Wp.retV (len := 1) rfl rfl ?_
    refine ⟨rfl, _, rfl, mset_id rfl rfl rfl rfl rfl rfl rfl rfl rfl rfl rfl rfl rfl rfl rfl rfl rfl rfl rfl, ?_⟩
    repeat (first | refine sp_m (by decide) ?_ | exact fun _ _ => rfl)
  · omega
end MK2
