/-! MAKING THE CLASS'S OBJECT. -/
section MK3
variable {d : Nat} {M M1 : AM} {Q : Option Value → AM → Prop} {n m : Nat} {fs : List Value}
theorem k_sd_1 {i : Nat} (hi : i < 3) (h32 : M 32 = .inr (9, fs)) (hg : gv fs 4 = some (.ref 130)) (h130 : M 130 = rwE 6 3 (fun i => 131 + 47 * i) i) (hn : 32 + n = 131 + 47 * i) (kk : Wp (d + 10) md_87 58 [some (.ref 32), some (.int (nI (i + 1)))] [] (cx (va_up (rset M (131 + 47 * i) rzr) 130 (rwE 6 3 (fun i => 131 + 47 * i) (i + 1))) (n + 47) (m + 12 + 352)) Q) : Wp (d + 10) md_87 58 [some (.ref 32), some (.int (nI i))] [] (cx M n m) Q := by
  refine Wp.n (pc' := 60) 2 rfl ?_
  refine Wp.nc3 (x := i) (y := 3) (tgt := 82) (len := 3) rfl (by omega) (by omega) (fun h60 => ?_) (fun h60 => ?_)
  · omega
  · skip
    refine Wp.n (pc' := 64) 1 rfl ?_
    refine Wp.get (len := 3) rfl ((cx_o (by decide)).trans h32) hg ?_
    refine Wp.n (pc' := 68) 1 rfl ?_
    refine Wp.xnew (q := 131 + 47 * i) (len := 3) rfl hn ?_
    refine Wp.n (pc' := 72) 1 rfl ?_
    refine Wp.callI (len := 3) rfl rfl rfl rfl rfl (k_realmInit (d := d) hn) ?_
    rintro _ _ ⟨rfl, rfl⟩
    refine Wp.xaast (j := i) (len := 1) rfl ((rset_ne (by omega)).trans h130) rs_obj rfl rfl (by decide) (by omega) hi (by decide) ?_
    refine Wp.incN (x := i) (len := 3) rfl rfl ?_
    refine Wp.n (pc' := 58) 1 rfl ?_
    exact kk
theorem k_sdInit (hM : M 32 = .inr (9, nfs 9)) : Wp (d + 10) md_87 0 [some (.ref 32), none] [] (cx M 1 m) (fun v M' => v = none ∧ ∃ Mf m', M' = cx Mf 255 m' ∧ m' ≤ m + 10000 ∧ cset Mf κz = Mf ∧ Mf 32 = .inr (9, hdl 0) ∧ Mf 286 = .inl (0, 10, .inl (fun _ => 0)) ∧ HI Mf ∧ RA Mf 36 rzr ∧ RA Mf 83 rzr ∧ RA Mf 131 rzr ∧ RA Mf 178 rzr ∧ RA Mf 225 rzr ∧ ∀ q, q < 32 ∨ 287 ≤ q → Mf q = M q) := by
  refine Wp.n (pc' := 1) 1 rfl ?_
  refine Wp.bi (len := 3) rfl (by decide) rfl (by omega) ?_
  refine Wp.n (pc' := 5) 1 rfl ?_
  refine Wp.xnew (q := 33) (len := 3) rfl rfl ?_
  refine Wp.n (pc' := 9) 1 rfl ?_
  refine Wp.ecallI (len := 3) rfl rfl rfl rfl rfl (k_tapeInit (d := d + 1) (va_up_self _ _ _)) ?_
  refine Wp.xput (k := 32) (fs := nfs 9) (len := 3) rfl ((va_up_ne _ _ (by decide)).trans ((va_up_ne _ _ (by decide)).trans ((va_up_ne _ _ (by decide)).trans hM))) (by decide) rfl ?_
  refine Wp.n (pc' := 16) 1 rfl ?_
  refine Wp.xnew (q := 35) (len := 3) rfl rfl ?_
  refine Wp.n (pc' := 20) 1 rfl ?_
  refine Wp.ecallI (len := 3) rfl rfl rfl rfl rfl (k_readerInit (d := d + 1) (va_up_self _ _ _)) ?_
  refine Wp.xput (k := 32) (len := 3) rfl rfl (by decide) rfl ?_
  refine Wp.n (pc' := 27) 1 rfl ?_
  refine Wp.xnew (q := 36) (len := 3) rfl rfl ?_
  refine Wp.n (pc' := 31) 1 rfl ?_
  refine Wp.callI (len := 3) rfl rfl rfl rfl rfl (k_realmInit (d := d) (r := 36) rfl) ?_
  rintro _ _ ⟨rfl, rfl⟩
  refine Wp.xput (k := 32) (len := 3) rfl rfl (by decide) rfl ?_
  refine Wp.n (pc' := 38) 1 rfl ?_
  refine Wp.xnew (q := 83) (len := 3) rfl rfl ?_
  refine Wp.n (pc' := 42) 1 rfl ?_
  refine Wp.callI (len := 3) rfl rfl rfl rfl rfl (k_realmInit (d := d) (r := 83) rfl) ?_
  rintro _ _ ⟨rfl, rfl⟩
  refine Wp.xput (k := 32) (len := 3) rfl rfl (by decide) rfl ?_
  refine Wp.n (pc' := 50) 2 rfl ?_
  refine Wp.xanew (k := 3) (q := 130) (len := 3) rfl (by decide) rfl ?_
  rw [rwE_0 (g := fun i => 131 + 47 * i)]
  refine Wp.xput (k := 32) (len := 3) rfl rfl (by decide) rfl ?_
  refine Wp.n (pc' := 58) 2 rfl ?_
  refine k_sd_1 (i := 0) (by decide) rfl rfl rfl rfl ?_
  refine k_sd_1 (i := 1) (by decide) rfl rfl rfl rfl ?_
  refine k_sd_1 (i := 2) (by decide) rfl rfl rfl rfl ?_
  refine Wp.n (pc' := 60) 2 rfl ?_
  refine Wp.nc3 (x := 3) (y := 3) (tgt := 82) (len := 3) rfl (by omega) (by omega) (fun h60 => ?_) (fun h60 => ?_)
  · skip
    refine Wp.n (pc' := 84) 2 rfl ?_
    refine Wp.xna3 (k := 3) (q := 272) (len := 2) rfl (by decide) rfl ?_
    refine Wp.xput (k := 32) (len := 3) rfl rfl (by decide) rfl ?_
    refine Wp.n (pc' := 90) 1 rfl ?_
    refine Wp.xnew (q := 273) (len := 3) rfl rfl ?_
    refine Wp.n (pc' := 94) 1 rfl ?_
    refine Wp.ecallI (len := 3) rfl rfl rfl rfl rfl (k_waysInit (d := d + 1) (va_up_self _ _ _)) ?_
    refine Wp.xput (k := 32) (len := 3) rfl rfl (by decide) rfl ?_
    refine Wp.n (pc' := 101) 1 rfl ?_
    refine Wp.xnew (q := 280) (len := 3) rfl rfl ?_
    refine Wp.n (pc' := 105) 1 rfl ?_
    refine Wp.ecallI (len := 3) rfl rfl rfl rfl rfl (k_tripInit (d := d + 1) (va_up_self _ _ _)) ?_
    refine Wp.xput (k := 32) (len := 3) rfl rfl (by decide) rfl ?_
    refine Wp.n (pc' := 112) 1 rfl ?_
    refine Wp.xnew (q := 282) (len := 3) rfl rfl ?_
    refine Wp.n (pc' := 116) 1 rfl ?_
    refine Wp.ecallI (len := 3) rfl rfl rfl rfl rfl (k_slotsInit (d := d + 1) (va_up_self _ _ _)) ?_
    refine Wp.xput (k := 32) (len := 3) rfl rfl (by decide) rfl ?_
    refine Wp.n (pc' := 125) 2 rfl ?_
    refine Wp.xna0 (k := 10) (q := 286) (len := 2) rfl (by decide) rfl ?_
    refine Wp.xput (k := 32) (len := 3) rfl rfl (by decide) rfl ?_
    refine Wp.retV (len := 1) rfl rfl ?_
    have e5 : fN 5 = 2 := rfl
    have e2 : fN 2 = 8 := rfl
    have e3 : fN 3 = 12 := rfl
    have e8 : fN 8 = 13 := rfl
    have e6 : fN 6 = 8 := rfl
    have e4 : fN 4 = 3 := rfl
    refine ⟨rfl, _, _, rfl, by omega, cset_id rfl rfl rfl rfl rfl rfl rfl rfl rfl rfl rfl rfl rfl rfl rfl rfl rfl, rfl, rfl, rfl, ?_, ?_, ?_, ?_, ?_, ?_⟩
    · repeat (first | refine ra_u (by decide) ?_ | exact rset_ra | refine ra_r (by decide) ?_)
    · repeat (first | refine ra_u (by decide) ?_ | exact rset_ra | refine ra_r (by decide) ?_)
    · repeat (first | refine ra_u (by decide) ?_ | exact rset_ra | refine ra_r (by decide) ?_)
    · repeat (first | refine ra_u (by decide) ?_ | exact rset_ra | refine ra_r (by decide) ?_)
    · repeat (first | refine ra_u (by decide) ?_ | exact rset_ra | refine ra_r (by decide) ?_)
    · repeat (first | refine ag_u (by decide) ?_ | refine ag_r (by omega) ?_ | exact fun _ _ => rfl)
  · omega
end MK3
