section
/-! MAKING THE CLASS'S OBJECT. -/
section MK3
variable {d : Nat} {M M1 : AM} {Q : Option Value → AM → Prop} {n m : Nat} {fs : List Value}
theorem k_sd_1 {i : Nat} (hi : i < 3) (h32 : M 32 = .inr (9, fs)) (hg : gv fs 4 = some (.ref 130)) (h130 : M 130 = rwE 6 3 (fun i => 131 + 47 * i) i) (hn : 32 + n = 131 + 47 * i) (kk : Wp (d + 10) md_87 58 [some (.ref 32), some (.int (nI (i + 1)))] [] (cx (va_up (rset M (131 + 47 * i) rzr) 130 (rwE 6 3 (fun i => 131 + 47 * i) (i + 1))) (n + 47) (m + 12 + 352)) Q) : Wp (d + 10) md_87 58 [some (.ref 32), some (.int (nI i))] [] (cx M n m) Q := by
  refine Wp.n (pc' := 60) 2 rfl ?_
  refine Wp.nc3 (x := i) (y := 3) (tgt := 82) (len := 3) rfl (by omega) (by omega) (fun h60 => ?_) (fun h60 => ?_)
  · omega
  · skip
    refine Wp.n (pc' := 64) 1 rfl ?_
    refine Wp.get (len := 3) rfl ((cx_o (by decide)).trans h32) hg ?_
    refine Wp.n (pc' := 68) 1 rfl ?_
    refine Wp.xnew (q := 131 + 47 * i) (len := 3) rfl hn ?_
    refine Wp.n (pc' := 72) 1 rfl ?_
    refine Wp.callI (len := 3) rfl rfl rfl rfl rfl (k_realmInit (d := d) hn) ?_
    rintro _ _ ⟨rfl, rfl⟩
    refine Wp.xaast (j := i) (len := 1) rfl ((rset_ne (by omega)).trans h130) rs_obj rfl rfl (by decide) (by omega) hi (by decide) ?_
    refine Wp.incN (x := i) (len := 3) rfl rfl ?_
    refine Wp.n (pc' := 58) 1 rfl ?_
    exact kk
theorem k_sdInit (hM : M 32 = .inr (9, nfs 9)) : Wp (d + 10) md_87 0 [some (.ref 32), none] [] (cx M 1 m) (fun v M' => v = none ∧ ∃ Mf m', M' = cx Mf 255 m' ∧ m' ≤ m + 10000 ∧ cset Mf κz = Mf ∧ Mf 32 = .inr (9, hdl 0) ∧ Mf 286 = .inl (0, 10, .inl (fun _ => 0)) ∧ HI Mf ∧ RA Mf 36 rzr ∧ RA Mf 83 rzr ∧ RA Mf 131 rzr ∧ RA Mf 178 rzr ∧ RA Mf 225 rzr ∧ ∀ q, q < 32 ∨ 287 ≤ q → Mf q = M q) := by
  refine Wp.n (pc' := 1) 1 rfl ?_
  refine Wp.bi (len := 3) rfl (by decide) rfl (by omega) ?_
  refine Wp.n (pc' := 5) 1 rfl ?_
  refine Wp.xnew (q := 33) (len := 3) rfl rfl ?_
  refine Wp.n (pc' := 9) 1 rfl ?_
  refine Wp.ecallI (len := 3) rfl rfl rfl rfl rfl (k_tapeInit (d := d + 1) (va_up_self _ _ _)) ?_
  refine Wp.xput (k := 32) (fs := nfs 9) (len := 3) rfl ((va_up_ne _ _ (by decide)).trans ((va_up_ne _ _ (by decide)).trans ((va_up_ne _ _ (by decide)).trans hM))) (by decide) rfl ?_
  refine Wp.n (pc' := 16) 1 rfl ?_
  refine Wp.xnew (q := 35) (len := 3) rfl rfl ?_
  refine Wp.n (pc' := 20) 1 rfl ?_
  refine Wp.ecallI (len := 3) rfl rfl rfl rfl rfl (k_readerInit (d := d + 1) (va_up_self _ _ _)) ?_
  refine Wp.xput (k := 32) (len := 3) rfl rfl (by decide) rfl ?_
  refine Wp.n (pc' := 27) 1 rfl ?_
  refine Wp.xnew (q := 36) (len := 3) rfl rfl ?_
  refine Wp.n (pc' := 31) 1 rfl ?_
  refine Wp.callI (len := 3) rfl rfl rfl rfl rfl (k_realmInit (d := d) (r := 36) rfl) ?_
  rintro _ _ ⟨rfl, rfl⟩
  refine Wp.xput (k := 32) (len := 3) rfl rfl (by decide) rfl ?_
  refine Wp.n (pc' := 38) 1 rfl ?_
  refine Wp.xnew (q := 83) (len := 3) rfl rfl ?_
  refine Wp.n (pc' := 42) 1 rfl ?_
  refine Wp.callI (len := 3) rfl rfl rfl rfl rfl (k_realmInit (d := d) (r := 83) rfl) ?_
  rintro _ _ ⟨rfl, rfl⟩
  refine Wp.xput (k := 32) (len := 3) rfl rfl (by decide) rfl ?_
  refine Wp.n (pc' := 50) 2 rfl ?_
  refine Wp.xanew (k := 3) (q := 130) (len := 3) rfl (by decide) rfl ?_
  rw [rwE_0 (g := fun i => 131 + 47 * i)]
  refine Wp.xput (k := 32) (len := 3) rfl rfl (by decide) rfl ?_
  refine Wp.n (pc' := 58) 2 rfl ?_
  refine k_sd_1 (i := 0) (by decide) rfl rfl rfl rfl ?_
  refine k_sd_1 (i := 1) (by decide) rfl rfl rfl rfl ?_
  refine k_sd_1 (i := 2) (by decide) rfl rfl rfl rfl ?_
  refine Wp.n (pc' := 60) 2 rfl ?_
  refine Wp.nc3 (x := 3) (y := 3) (tgt := 82) (len := 3) rfl (by omega) (by omega) (fun h60 => ?_) (fun h60 => ?_)
  · skip
    refine Wp.n (pc' := 84) 2 rfl ?_
    refine Wp.xna3 (k := 3) (q := 272) (len := 2) rfl (by decide) rfl ?_
    refine Wp.xput (k := 32) (len := 3) rfl rfl (by decide) rfl ?_
    refine Wp.n (pc' := 90) 1 rfl ?_
    refine Wp.xnew (q := 273) (len := 3) rfl rfl ?_
    refine Wp.n (pc' := 94) 1 rfl ?_
    refine Wp.ecallI (len := 3) rfl rfl rfl rfl rfl (k_waysInit (d := d + 1) (va_up_self _ _ _)) ?_
    refine Wp.xput (k := 32) (len := 3) rfl rfl (by decide) rfl ?_
    refine Wp.n (pc' := 101) 1 rfl ?_
    refine Wp.xnew (q := 280) (len := 3) rfl rfl ?_
    refine Wp.n (pc' := 105) 1 rfl ?_
    refine Wp.ecallI (len := 3) rfl rfl rfl rfl rfl (k_tripInit (d := d + 1) (va_up_self _ _ _)) ?_
    refine Wp.xput (k := 32) (len := 3) rfl rfl (by decide) rfl ?_
    refine Wp.n (pc' := 112) 1 rfl ?_
    refine Wp.xnew (q := 282) (len := 3) rfl rfl ?_
    refine Wp.n (pc' := 116) 1 rfl ?_
    refine Wp.ecallI (len := 3) rfl rfl rfl rfl rfl (k_slotsInit (d := d + 1) (va_up_self _ _ _)) ?_
    refine Wp.xput (k := 32) (len := 3) rfl rfl (by decide) rfl ?_
    refine Wp.n (pc' := 125) 2 rfl ?_
    refine Wp.xna0 (k := 10) (q := 286) (len := 2) rfl (by decide) rfl ?_
    refine Wp.xput (k := 32) (len := 3) rfl rfl (by decide) rfl ?_
    refine Wp.retV (len := 1) rfl rfl ?_
    have e5 : fN 5 = 2 := rfl
    have e2 : fN 2 = 8 := rfl
    have e3 : fN 3 = 12 := rfl
    have e8 : fN 8 = 13 := rfl
    have e6 : fN 6 = 8 := rfl
    have e4 : fN 4 = 3 := rfl
    refine ⟨rfl, _, _, rfl, by omega, cset_id rfl rfl rfl rfl rfl rfl rfl rfl rfl rfl rfl rfl rfl rfl rfl rfl rfl, rfl, rfl, rfl, ?_, ?_, ?_, ?_, ?_, ?_⟩
    · repeat (first | refine ra_u (by decide) ?_ | exact rset_ra | refine ra_r (by decide) ?_)
    · repeat (first | refine ra_u (by decide) ?_ | exact rset_ra | refine ra_r (by decide) ?_)
    · repeat (first | refine ra_u (by decide) ?_ | exact rset_ra | refine ra_r (by decide) ?_)
    · repeat (first | refine ra_u (by decide) ?_ | exact rset_ra | refine ra_r (by decide) ?_)
    · repeat (first | refine ra_u (by decide) ?_ | exact rset_ra | refine ra_r (by decide) ?_)
    · repeat (first | refine ag_u (by decide) ?_ | refine ag_r (by omega) ?_ | exact fun _ _ => rfl)
  · omega
end MK3
end
section
/-! WHAT HOLDS BETWEEN THE CALLS: one pure state, both objects hold it. -/
abbrev Zt : Type := KD × (Nat → Option KD) × SS × TP × (Nat × Option Nat)
def KG (K : KD) : Prop := kh K 11 = 0 ∧ R30 K ∧ (0 < kh K 0 → 1 ≤ kh K 1)
def CI (M : AM) (κ : CS) (Z : Zt) : Prop := HD M ∧ HI M ∧ HW M ∧ RK M 36 Z.1 ∧ (∃ ρ, RA M 83 ρ) ∧ IMc M κ Z.2.1 ∧ SC κ Z.2.2.1 ∧ TC κ Z.2.2.2.1 ∧ FCl κ Z.2.2.2.2
def MI (σ : MS) (Z : Zt) : Prop := MK σ Z.1 ∧ IMm σ Z.2.1 ∧ SM σ Z.2.2.1 ∧ TM σ Z.2.2.2.1 ∧ FM σ Z.2.2.2.2
def ZG (Z : Zt) : Prop := KG Z.1 ∧ ∀ k, k < 3 → ∀ K, Z.2.1 k = some K → KG K
def CR (M : AM) (Z : Zt) (a : Value) : Option Value → AM → Prop := fun v M' => v = some a ∧ ∃ M2 κ', M' = cset M2 κ' ∧ CI M2 κ' Z ∧ ∀ q, q < 32 ∨ 287 ≤ q → M2 q = M q
def MQr (M : AM) (Z : Zt) (a : Value) : Option Value → AM → Prop := fun v M' => v = some a ∧ ∃ σ', M' = mset M σ' ∧ MI σ' Z
section INV
variable {d : Nat} {M M2 M' : AM} {κ κ' : CS} {σ σ' : MS} {Z : Zt} {K : KD} {I : Nat → Option KD} {S : SS} {T : TP} {f : Nat × Option Nat} {v : Option Value} {a : Int32} {X : MD} {pc : Nat} {l : AL} {st : List Value}
theorem IMc_k (h : IMc M κ I) (e : κ'.2.1 3 = κ.2.1 3) : IMc M κ' I := by
  unfold IMc at *
  rw [e]
  exact h
theorem IMc_m (h : IMc M κ I) (e : ∀ q, 131 ≤ q → q < 272 → M2 q = M q) : IMc M2 κ I := by
  refine ⟨fun k hk => ?_, fun k hk => ?_⟩
  · obtain ⟨ρ, hρ⟩ := h.1 k hk
    exact ⟨ρ, RA_of hρ (fun q a b => e q (by omega) (by omega))⟩
  · rcases h.2 k hk with q | ⟨K, q1, q2, q3, q4⟩
    · exact Or.inl q
    · exact Or.inr ⟨K, q1, q2, RK_of q3 (fun q a b => e q (by omega) (by omega)), q4⟩
theorem SC_k (h : SC κ S) (e1 : κ'.2.1 15 = κ.2.1 15) (e2 : κ'.2.1 16 = κ.2.1 16) (e3 : κ'.2.2.1 = κ.2.2.1) : SC κ' S := by
  unfold SC at *
  rw [e1, e2, e3]
  exact h
theorem TC_k (h : TC κ T) (e1 : κ'.1 0 = κ.1 0) (e2 : κ'.2.1 1 = κ.2.1 1) : TC κ' T := by
  unfold TC at *
  rw [e1, e2]
  exact h
theorem FC_k (h : FCl κ f) (e : κ'.1 2 = κ.1 2) : FCl κ' f := by
  unfold FCl at *
  rw [e]
  exact h
theorem CI_sc (h : CI M κ Z) (s : ScC κ κ') : CI M κ' Z := by
  obtain ⟨h1, h2, h3, h4, h5, h6, h7, h8, h9⟩ := h
  exact ⟨h1, h2, h3, h4, h5, IMc_k h6 (s.2.1 3 rfl), SC_k h7 (s.2.1 15 rfl) (s.2.1 16 rfl) s.2.2.2, TC_k h8 (s.1 0 rfl) (s.2.1 1 rfl), FC_k h9 (s.1 2 rfl)⟩
theorem CI_d {ρ : RC} (h : CI M κ Z) : CI (rset M 83 ρ) κ Z := by
  obtain ⟨h1, h2, h3, h4, h5, h6, h7, h8, h9⟩ := h
  exact ⟨hd_to (rset_ne (by omega)) (rset_ne (by omega)) h1, (rset_ne (by omega)).trans h2, HW_r h3, RK_of h4 (fun q a b => rset_ne (by omega)), ⟨ρ, rset_ra⟩, IMc_m h6 (fun q a b => rset_ne (by omega)), h7, h8, h9⟩
theorem CI_ms (h : CI M κ Z) : CI (mset M σ) κ Z := by
  have e : ∀ q, q < 287 → mset M σ q = M q := fun q hq => if_pos hq
  obtain ⟨h1, h2, h3, h4, ⟨ρ, h5⟩, h6, h7, h8, h9⟩ := h
  exact ⟨hd_to (e 32 (by omega)) (e 286 (by omega)) h1, (e 130 (by omega)).trans h2, fun i hi => (e _ (by omega)).trans (h3 i hi), RK_of h4 (fun q a b => e q (by omega)), ⟨ρ, RA_of h5 (fun q a b => e q (by omega))⟩, IMc_m h6 (fun q a b => e q (by omega)), h7, h8, h9⟩
theorem ms_cs : mset (cset M κ) σ = cset (mset M σ) κ := by
  funext q
  by_cases c0 : q < 287
  · have e1 : mset (cset M κ) σ q = cset M κ q := if_pos c0
    have e2 : mset M σ q = M q := if_pos c0
    rw [e1]
    unfold cset
    rw [e2]
  · have e3 : cset M κ q = M q := cset_o (by omega)
    have e2 : cset (mset M σ) κ q = mset M σ q := cset_o (by omega)
    rw [e2]
    unfold mset
    rw [e3]
theorem ms_ab (h : ∀ q, q < 32 ∨ 287 ≤ q → M2 q = mset M σ q) : cset M2 κ' = mset (cset M2 κ') σ := by
  have e : mset M2 σ = M2 := by
    funext q
    by_cases c : q < 287
    · exact if_pos c
    · rw [h q (Or.inr (by omega))]
      unfold mset
      rw [if_neg c, if_neg c]
      by_cases c2 : q = 287
      · rw [if_pos c2, if_pos c2]
      · rw [if_neg c2, if_neg c2]
        by_cases c3 : q < 306
        · rw [if_pos c3, if_pos c3]
        · rw [if_neg c3, if_neg c3, h q (Or.inr (by omega))]
          unfold mset
          rw [if_neg c, if_neg c2, if_neg c3]
  rw [ms_cs, e]
theorem CR_s (h : CI M κ Z) (r : RCI M κ a v M') : CR M Z (.int a) v M' := by
  obtain ⟨r1, κ', r2, r3⟩ := r
  exact ⟨r1, M, κ', r2, CI_sc h r3, fun _ _ => rfl⟩
theorem CR_j {a : Int64} (h : CI M κ Z) (r : RCJ M κ a v M') : CR M Z (.long a) v M' := by
  obtain ⟨r1, κ', r2, r3⟩ := r
  exact ⟨r1, M, κ', r2, CI_sc h r3, fun _ _ => rfl⟩
theorem CR_d (h : CI M κ Z) (r : RDI M κ a v M') : CR M Z (.int a) v M' := by
  obtain ⟨r1, ρ, κ', r2, r3⟩ := r
  exact ⟨r1, rset M 83 ρ, κ', r2, CI_sc (CI_d h) r3, fun q hq => rset_ne (by omega)⟩
theorem CR_e (h : CI M κ Z) (r : Ev d X pc l st (cset M κ) (some (.int a), cset M κ)) : Wp d X pc l st (cset M κ) (CR M Z (.int a)) := ⟨_, _, r, rfl, M, κ, rfl, h, fun _ _ => rfl⟩
theorem IMm_fr (h : IMm σ I) (e : σ'.2.2.1 12 = σ.2.2.1 12) (r : ∀ s K, 1 ≤ s → s < 4 → KOK K → kh K 11 = 0 → RepM σ s K → RepM σ' s K) : IMm σ' I := fun k hk => by
  rcases h k hk with q | ⟨K, q1, q2, q3, q4, q5⟩
  · exact Or.inl ⟨q.1, by rw [e]; exact q.2⟩
  · exact Or.inr ⟨K, q1, by rw [e]; exact q2, r _ _ (by omega) (by omega) q4 q5 q3, q4, q5⟩
theorem SM_fr (h : SM σ S) (e0 : σ'.2.2.1 0 = σ.2.2.1 0) (e1 : σ'.2.2.1 1 = σ.2.2.1 1) (e2 : σ'.2.2.2 2 = σ.2.2.2 2) : SM σ' S := by
  unfold SM at *
  rw [e0, e1, e2]
  exact h
theorem TM_fr (h : TM σ T) (e : σ'.1 6 = σ.1 6) (e4 : σ'.2.2.1 4 = σ.2.2.1 4) : TM σ' T := by
  unfold TM at *
  rw [e, e4]
  exact h
theorem FM_fr (h : FM σ f) (e1 : σ'.1 14 = σ.1 14) (e2 : σ'.1 15 = σ.1 15) : FM σ' f := by
  unfold FM at *
  rw [e1, e2]
  exact h
theorem MI_sc (h : MI σ Z) (s : Scr σ σ') : MI σ' Z := by
  obtain ⟨h1, h2, h3, h4, h5⟩ := h
  exact ⟨MK_scr h1 s, IMm_fr h2 (s.2.1 12 rfl) (fun _ _ _ _ _ _ q => RepM_scr q s), SM_fr h3 (s.2.1 0 rfl) (s.2.1 1 rfl) (by rw [s.2.2.2]), TM_fr h4 (s.1 6 rfl) (s.2.1 4 rfl), FM_fr h5 (s.1 14 rfl) (s.1 15 rfl)⟩
theorem MI_sl (h : MI σ Z) (h11 : kh Z.1 11 = 0) (s : Scl σ σ') : MI σ' Z := by
  obtain ⟨h1, h2, h3, h4, h5⟩ := h
  refine ⟨MK_scl h1 h11 s, IMm_fr h2 ?_ (fun s' K' a _ ok _ q => RepM_scl q (fun c => by omega) (ok_h ok).2.2.2.1 s), ?_, ?_, ?_⟩
  · obtain ⟨g, hg, hs⟩ := s
    exact (hs.2.1 12 rfl)
  · obtain ⟨g, hg, hs⟩ := s
    exact SM_fr h3 (hs.2.1 0 rfl) (hs.2.1 1 rfl) (by rw [hs.2.2.2]; rfl)
  · obtain ⟨g, hg, hs⟩ := s
    exact TM_fr h4 (hs.1 6 rfl) (hs.2.1 4 rfl)
  · obtain ⟨g, hg, hs⟩ := s
    exact FM_fr h5 (hs.1 14 rfl) (hs.1 15 rfl)
theorem MQ_s (h : MI σ Z) (r : RI M σ a v M') : MQr M Z (.int a) v M' := by
  obtain ⟨r1, σ', r2, r3⟩ := r
  exact ⟨r1, σ', r2, MI_sc h r3⟩
theorem MQ_j {a : Int64} (h : MI σ Z) (r : RJ M σ a v M') : MQr M Z (.long a) v M' := by
  obtain ⟨r1, σ', r2, r3⟩ := r
  exact ⟨r1, σ', r2, MI_sc h r3⟩
theorem MQ_l (h : MI σ Z) (h11 : kh Z.1 11 = 0) (r : RI2 M σ a v M') : MQr M Z (.int a) v M' := by
  obtain ⟨r1, σ', r2, r3⟩ := r
  exact ⟨r1, σ', r2, MI_sl h h11 r3⟩
theorem MQ_e (h : MI σ Z) (r : Ev d X pc l st (mset M σ) (some (.int a), mset M σ)) : Wp d X pc l st (mset M σ) (MQr M Z (.int a)) := ⟨_, _, r, rfl, σ, rfl, h⟩
-- the class's calls that change something
theorem C_feed (h : CI M κ (K, I, S, T, f)) {a b c e g : Int32} : Wp (d + 1) md_88 0 [some (.ref 32), some (.int a), some (.int b), some (.int c), some (.int e), some (.int g)] [] (cset M κ) (CR M (K, I, S, feedN T a b c e g, f) (.int (feedA T))) := by
  obtain ⟨h1, h2, h3, h4, h5, h6, h7, h8, h9⟩ := h
  refine Wp.mono (k_feed h1 h8 a b c e g) ?_
  rintro _ _ ⟨rfl, κ', rfl, F, t⟩
  exact ⟨rfl, M, κ', rfl, ⟨h1, h2, h3, h4, h5, IMc_k h6 (F.2.1 3 (by decide)), SC_k h7 (F.2.1 15 (by decide)) (F.2.1 16 (by decide)) (by rw [F.2.2]), t, FC_k h9 (F.1 2 (by decide))⟩, fun _ _ => rfl⟩
theorem C_end (h : CI M κ (K, I, S, T, f)) {x : Int32} : Wp (d + 1) md_89 0 [some (.ref 32), some (.int x)] [] (cset M κ) (CR M (K, I, S, endN T x, f) (.int (endA T x))) := by
  obtain ⟨h1, h2, h3, h4, h5, h6, h7, h8, h9⟩ := h
  refine Wp.mono (k_end h1 h8 x) ?_
  rintro _ _ ⟨rfl, κ', rfl, F, t⟩
  exact ⟨rfl, M, κ', rfl, ⟨h1, h2, h3, h4, h5, IMc_k h6 (F.2.1 3 (by decide)), SC_k h7 (F.2.1 15 (by decide)) (F.2.1 16 (by decide)) (by rw [F.2.2]), t, FC_k h9 (F.1 2 (by decide))⟩, fun _ _ => rfl⟩
theorem C_kingdom (h : CI M κ (K, I, S, T, f)) : Wp (d + 15) md_90 0 [some (.ref 32), none] [] (cset M κ) (CR M (kinN T K, I, S, (0, T.2), flt (kinR T).1) (.int (kinA T))) := by
  obtain ⟨h1, h2, h3, h4, h5, h6, h7, h8, h9⟩ := h
  refine Wp.mono (k_kingdom h1 h3 h4 h5 h8) ?_
  rintro _ _ ⟨rfl, M1, κ', rfl, e, r1, r2, F, t1, t2⟩
  exact ⟨rfl, M1, κ', rfl, ⟨hd_to (e 32 (by omega)) (e 286 (by omega)) h1, (e 130 (by omega)).trans h2, fun i hi => (e _ (by omega)).trans (h3 i hi), r1, r2, IMc_k (IMc_m h6 (fun q a b => e q (by omega))) (by rw [F.2.1]), SC_k h7 (by rw [F.2.1]) (by rw [F.2.1]) F.2.2, t2, t1⟩, fun q hq => e q (by omega)⟩
theorem C_law (h : CI M κ (K, I, S, T, f)) {x y : Int32} : Wp (d + 2) md_136 0 [some (.ref 32), some (.int x), some (.int y)] [] (cset M κ) (CR M (lawN K x y, I, S, T, f) (.int (lawA K x y))) := by
  obtain ⟨h1, h2, h3, h4, ⟨ρ5, h5⟩, h6, h7, h8, h9⟩ := h
  refine Wp.mono (k_law h1 h4 x y) ?_
  rintro _ _ ⟨rfl, ρ, rfl, r1⟩
  exact ⟨rfl, rset M 36 ρ, κ, rfl, ⟨hd_to (rset_ne (by omega)) (rset_ne (by omega)) h1, (rset_ne (by omega)).trans h2, fun i hi => (rset_ne (by omega)).trans (h3 i hi), r1, ⟨ρ5, RA_of h5 (fun q a b => rset_ne (by omega))⟩, IMc_m h6 (fun q a b => rset_ne (by omega)), h7, h8, h9⟩, fun q hq => rset_ne (by omega)⟩
theorem C_keep (h : CI M κ (K, I, S, T, f)) (h11 : kh K 11 = 0) {x : Int32} : Wp (d + 10) md_144 0 [some (.ref 32), some (.int x)] [] (cset M κ) (CR M (K, keepN I K x, S, T, f) (.int (keepA x))) := by
  obtain ⟨h1, h2, h3, h4, ⟨ρ5, h5⟩, h6, h7, h8, h9⟩ := h
  refine Wp.mono (k_keep h1 h4 h11 h2 h6 x) ?_
  rintro _ _ ⟨rfl, M2, g, rfl, r1, e⟩
  exact ⟨rfl, M2, ca κ 3 g, rfl, ⟨hd_to (e 32 (by omega)) (e 286 (by omega)) h1, (e 130 (by omega)).trans h2, fun i hi => (e _ (by omega)).trans (h3 i hi), RK_of h4 (fun q a b => e q (by omega)), ⟨ρ5, RA_of h5 (fun q a b => e q (by omega))⟩, r1, SC_k h7 rfl rfl rfl, TC_k h8 rfl rfl, h9⟩, fun q hq => e q (by omega)⟩
theorem C_back (h : CI M κ (K, I, S, T, f)) {x : Int32} : Wp (d + 10) md_145 0 [some (.ref 32), some (.int x)] [] (cset M κ) (CR M (backN I K x, I, S, T, f) (.int (backA I x))) := by
  obtain ⟨h1, h2, h3, h4, ⟨ρ5, h5⟩, h6, h7, h8, h9⟩ := h
  refine Wp.mono (k_back h1 h4 h2 h6 x) ?_
  rintro _ _ ⟨rfl, M2, rfl, r1, e⟩
  exact ⟨rfl, M2, κ, rfl, ⟨hd_to (e 32 (by omega)) (e 286 (by omega)) h1, (e 130 (by omega)).trans h2, fun i hi => (e _ (by omega)).trans (h3 i hi), r1, ⟨ρ5, RA_of h5 (fun q a b => e q (by omega))⟩, IMc_m h6 (fun q a b => e q (by omega)), h7, h8, h9⟩, fun q hq => e q (by omega)⟩
theorem CI_z {S' : SS} (h : CI M κ (K, I, S, T, f)) (F : FZ κ κ') (s : SC κ' S') : CI M κ' (K, I, S', T, f) := by
  obtain ⟨h1, h2, h3, h4, h5, h6, h7, h8, h9⟩ := h
  exact ⟨h1, h2, h3, h4, h5, IMc_k h6 (F.2.1 3 (by decide) (by decide)), s, TC_k h8 (by rw [F.1]) (F.2.1 1 (by decide) (by decide)), FC_k h9 (by rw [F.1])⟩
theorem C_row (h : CI M κ (K, I, S, T, f)) {x w m : Int32} : Wp (d + 1) md_146 0 [some (.ref 32), some (.int x), some (.int w), some (.int m)] [] (cset M κ) (CR M (K, I, rowN S x w m, T, f) (.int (rowA x w m))) := by
  refine Wp.mono (k_row h.1 h.2.2.2.2.2.2.1 x w m) ?_
  rintro _ _ ⟨rfl, κ', rfl, F, s⟩
  exact ⟨rfl, M, κ', rfl, CI_z h F s, fun _ _ => rfl⟩
theorem C_write (h : CI M κ (K, I, S, T, f)) {x i : Int32} {w : Int64} : Wp (d + 2) md_147 0 [some (.ref 32), some (.int x), some (.int i), some (.long w), none] [] (cset M κ) (CR M (K, I, writeN S x i w, T, f) (.int (writeA S x i))) := by
  refine Wp.mono (k_write h.1 h.2.2.2.2.2.2.1 x i w) ?_
  rintro _ _ ⟨rfl, κ', rfl, F, s⟩
  exact ⟨rfl, M, κ', rfl, CI_z h F s, fun _ _ => rfl⟩
theorem C_paste (h : CI M κ (K, I, S, T, f)) {x i t k m : Int32} : Wp (d + 9) md_148 0 [some (.ref 32), some (.int x), some (.int i), some (.int t), some (.int k), some (.int m)] [] (cset M κ) (CR M (K, I, pasteN S x i t k m, T, f) (.int (pasteA S x i t k m))) := by
  refine Wp.mono (k_paste h.1 h.2.2.2.2.2.2.1 x i t k m) ?_
  rintro _ _ ⟨rfl, κ', rfl, F, s⟩
  exact ⟨rfl, M, κ', rfl, CI_z h F s, fun _ _ => rfl⟩
theorem C_watchers (h : CI M κ (K, I, S, T, f)) (h11 : kh K 11 = 0) {x : Int32} : Wp (d + 12) md_131 0 [some (.ref 32), some (.int x), none, none] [] (cset M κ) (fun v M' => ∃ a : Int32, (kh K 0 = 0 → a = -2) ∧ CR M (K, I, S, T, f) (.int a) v M') := by
  refine Wp.mono (k_watchers h.1 h.2.2.2.1 h11 x) ?_
  rintro _ _ ⟨⟨a, rfl, ha⟩, ow, g, κ', rfl, s⟩
  refine ⟨a, ha, rfl, wmm M ow g, κ', rfl, ?_, fun q hq => wmm_ne (by omega) (by omega)⟩
  obtain ⟨h1, h2, h3, h4, ⟨ρ, h5⟩, h6, h7, h8, h9⟩ := CI_sc h s
  exact ⟨wmm_hd, (wmm_ne (by omega) (by omega)).trans h2, fun i hi => (wmm_ne (by omega) (by omega)).trans (h3 i hi), wmm_rk h4, ⟨ρ, RA_of h5 (fun q a b => wmm_ne (by omega) (by omega))⟩, IMc_m h6 (fun q a b => wmm_ne (by omega) (by omega)), h7, h8, h9⟩
-- the reference's calls that change something
theorem MI_t {T' : TP} (h : MI σ (K, I, S, T, f)) (F : FrT σ σ') (t : TM σ' T') : MI σ' (K, I, S, T', f) := by
  obtain ⟨h1, h2, h3, h4, h5⟩ := h
  have e8 : σ'.2.2.2 8 = σ.2.2.2 8 := by rw [F.2.2.2]
  have rp : ∀ s K, RepM σ s K → RepM σ' s K := fun s K q => RepM_fr q (F.2.1 5 (by decide)) (F.2.1 6 (by decide)) (F.2.1 7 (by decide)) (F.2.1 9 (by decide)) (F.2.1 10 (by decide)) (F.2.1 11 (by decide)) e8
  exact ⟨⟨rp _ _ h1.1, h1.2.1, (F.1 25 (by decide)).trans h1.2.2.1, (F.1 0 (by decide)).trans h1.2.2.2⟩, IMm_fr h2 (F.2.1 12 (by decide)) (fun s K _ _ _ _ q => rp s K q), SM_fr h3 (F.2.1 0 (by decide)) (F.2.1 1 (by decide)) (by rw [F.2.2.2]), t, FM_fr h5 (F.1 14 (by decide)) (F.1 15 (by decide))⟩
theorem D_feed (h : MI σ (K, I, S, T, f)) {a b c e g : Int32} : Wp (d + 1) md_156 0 [some (.ref 287), some (.int a), some (.int b), some (.int c), some (.int e), some (.int g)] [] (mset M σ) (MQr M (K, I, S, feedN T a b c e g, f) (.int (feedA T))) := by
  refine Wp.mono (m_feed h.1.2.2.2 h.2.2.2.1 a b c e g) ?_
  rintro _ _ ⟨rfl, σ', rfl, F, t⟩
  exact ⟨rfl, σ', rfl, MI_t h F t⟩
theorem D_end (h : MI σ (K, I, S, T, f)) {x : Int32} : Wp (d + 1) md_158 0 [some (.ref 287), some (.int x)] [] (mset M σ) (MQr M (K, I, S, endN T x, f) (.int (endA T x))) := by
  refine Wp.mono (m_end h.1.2.2.2 h.2.2.2.1 x) ?_
  rintro _ _ ⟨rfl, σ', rfl, F, t⟩
  exact ⟨rfl, σ', rfl, MI_t h F t⟩
theorem D_kingdom (h : MI σ (K, I, S, T, f)) (h11 : kh K 11 = 0) : Wp (d + 9) md_160 0 [some (.ref 287)] [] (mset M σ) (MQr M (kinN T K, I, S, (0, T.2), flt (kinR T).1) (.int (kinA T))) := by
  obtain ⟨h1, h2, h3, h4, h5⟩ := h
  refine Wp.mono (m_kingdom h1 h11 h4) ?_
  rintro _ _ ⟨rfl, σ', rfl, F, k, t1, t2⟩
  exact ⟨rfl, σ', rfl, k, IMm_fr h2 (F.2.1 12 rfl) (fun s K a b ok _ q => F.2.2.2 s K a b ok q), SM_fr h3 (F.2.1 0 rfl) (F.2.1 1 rfl) (F.2.2.1 2 (by decide)), t2, t1⟩
theorem D_law (h : MI σ (K, I, S, T, f)) {x y : Int32} : Wp (d + 2) md_250 0 [some (.ref 287), some (.int x), some (.int y), none] [] (mset M σ) (MQr M (lawN K x y, I, S, T, f) (.int (lawA K x y))) := by
  obtain ⟨h1, h2, h3, h4, h5⟩ := h
  refine Wp.mono (m_law h1 x y) ?_
  rintro _ _ ⟨rfl, σ', rfl, F, e7, k⟩
  refine ⟨rfl, σ', rfl, k, IMm_fr h2 (F.2.1 12 rfl) (fun s K a b ok _ q => ?_), SM_fr h3 (F.2.1 0 rfl) (F.2.1 1 rfl) (by rw [F.2.2.2]), TM_fr h4 (F.1 6 rfl) (F.2.1 4 rfl), FM_fr h5 (F.1 14 rfl) (F.1 15 rfl)⟩
  obtain ⟨q1, q2, q3, q4, q5, q6, q7⟩ := q
  unfold RepM
  rw [F.2.1 5 rfl, F.2.1 6 rfl, F.2.1 9 rfl, F.2.1 10 rfl, F.2.1 11 rfl, F.2.2.2]
  exact ⟨q1, fun h0 j hj => by rw [e7 _ (by omega)]; exact q2 h0 j hj, q3, q4, q5, q6, q7⟩
theorem D_keep (h : MI σ (K, I, S, T, f)) (h11 : kh K 11 = 0) {x : Int32} : Wp (d + 2) md_261 0 [some (.ref 287), some (.int x)] [] (mset M σ) (MQr M (K, keepN I K x, S, T, f) (.int (keepA x))) := by
  obtain ⟨h1, h2, h3, h4, h5⟩ := h
  refine Wp.mono (m_keep h1 h11 h2 x) ?_
  rintro _ _ ⟨rfl, σ', rfl, k, i, e1, e2, e3, e4⟩
  exact ⟨rfl, σ', rfl, k, i, SM_fr h3 (e3 0 rfl) (e3 1 rfl) (e4 2 (by decide)), TM_fr h4 (by rw [e1]) (e3 4 rfl), FM_fr h5 (by rw [e1]) (by rw [e1])⟩
theorem D_back (h : MI σ (K, I, S, T, f)) (h11 : kh K 11 = 0) {x : Int32} : Wp (d + 2) md_262 0 [some (.ref 287), some (.int x)] [] (mset M σ) (MQr M (backN I K x, I, S, T, f) (.int (backA I x))) := by
  obtain ⟨h1, h2, h3, h4, h5⟩ := h
  refine Wp.mono (m_back h1 h11 h2 x) ?_
  rintro _ _ ⟨rfl, σ', rfl, k, i, e1, e2, e3, e4⟩
  exact ⟨rfl, σ', rfl, k, i, SM_fr h3 (e3 0 rfl) (e3 1 rfl) (e4 2 (by decide)), TM_fr h4 (by rw [e1]) (e3 4 rfl), FM_fr h5 (by rw [e1]) (by rw [e1])⟩
theorem MI_s {S' : SS} (h : MI σ (K, I, S, T, f)) (s : SM σ' S') (e1 : σ'.1 = σ.1) (e3 : ∀ k, 2 ≤ k → σ'.2.2.1 k = σ.2.2.1 k) (e4 : σ'.2.2.2 8 = σ.2.2.2 8) : MI σ' (K, I, S', T, f) := by
  obtain ⟨h1, h2, h3, h4, h5⟩ := h
  have rp : ∀ s K, RepM σ s K → RepM σ' s K := fun s K q => RepM_fr q (e3 5 (by decide)) (e3 6 (by decide)) (e3 7 (by decide)) (e3 9 (by decide)) (e3 10 (by decide)) (e3 11 (by decide)) e4
  exact ⟨⟨rp _ _ h1.1, h1.2.1, by rw [e1]; exact h1.2.2.1, by rw [e1]; exact h1.2.2.2⟩, IMm_fr h2 (e3 12 (by decide)) (fun s K _ _ _ _ q => rp s K q), s, TM_fr h4 (by rw [e1]) (e3 4 (by decide)), FM_fr h5 (by rw [e1]) (by rw [e1])⟩
theorem D_row (h : MI σ (K, I, S, T, f)) {x w m : Int32} : Wp (d + 2) md_150 0 [some (.ref 287), some (.int x), some (.int w), some (.int m), none] [] (mset M σ) (MQr M (K, I, rowN S x w m, T, f) (.int (rowA x w m))) := by
  refine Wp.mono (m_row h.1.2.2.2 h.2.2.1 x w m) ?_
  rintro _ _ ⟨rfl, σ', rfl, s, e1, e2, e3, e4⟩
  exact ⟨rfl, σ', rfl, MI_s h s e1 e3 (e4 8 (by decide))⟩
theorem D_write (h : MI σ (K, I, S, T, f)) {x i : Int32} {w : Int64} : Wp (d + 2) md_153 0 [some (.ref 287), some (.int x), some (.int i), some (.long w), none] [] (mset M σ) (MQr M (K, I, writeN S x i w, T, f) (.int (writeA S x i))) := by
  refine Wp.mono (m_write h.1.2.2.2 h.2.2.1 x i w) ?_
  rintro _ _ ⟨rfl, σ', rfl, s, e1, e2, e3, e4⟩
  exact ⟨rfl, σ', rfl, MI_s h s e1 e3 (e4 8 (by decide))⟩
theorem D_paste (h : MI σ (K, I, S, T, f)) {x i t k m : Int32} : Wp (d + 2) md_155 0 [some (.ref 287), some (.int x), some (.int i), some (.int t), some (.int k), some (.int m), none] [] (mset M σ) (MQr M (K, I, pasteN S x i t k m, T, f) (.int (pasteA S x i t k m))) := by
  refine Wp.mono (m_paste h.1.2.2.2 h.2.2.1 x i t k m) ?_
  rintro _ _ ⟨rfl, σ', rfl, s, e1, e2, e3, e4⟩
  exact ⟨rfl, σ', rfl, MI_s h s e1 (fun k _ => e3 k) (e4 8 (by decide))⟩
-- the pure state stays good
theorem PK_prs (hT : T.1 ≤ 2000) : ∀ (n : Nat) {st : St} {K : KD}, (gd st = true → PK K) → (∀ s, st = .inr s → kh K 5 ≤ s ∧ s ≤ T.1) → gd (prsT T n st K).1 = true → PK (prsT T n st K).2
  | 0, st, K, hP, hs, g => hP g
  | n + 1, .inl x, K, hP, hs, g => hP g
  | n + 1, .inr s, K, hP, hs, g => by
    obtain ⟨s1, s2⟩ := hs s rfl
    by_cases c0 : tk T s = 0
    · have e : prsT T (n + 1) (.inr s) K = (.inr s, K) := if_pos c0
      rw [e]
      exact hP rfl
    · have e : prsT T (n + 1) (.inr s) K = prsT T n (endS T (bodS T K s)) (incL (bodK T K s)) := if_neg c0
      rw [e] at g ⊢
      have sT : s < T.1 := Nat.not_le.mp (fun q => c0 ((tk_0 (T := T) (s := s)).mpr q))
      refine PK_prs hT n (fun g2 => PK_step (hP rfl) (by omega) g2) (fun s' e2 => ?_) g
      obtain ⟨q1, q2⟩ := step_lt (T := T) (K := K) (s := s) (s' := s') s2 e2
      refine ⟨?_, q2⟩
      show kh (bodK T K s) 5 + 1 ≤ s'
      rw [bod_5]
      omega
theorem KG_PK (h : PK K) : KG K := by
  obtain ⟨ok, h11, h30, hp, h0⟩ := h
  refine ⟨h11, h30, fun q => ?_⟩
  by_cases c : kh K 5 = 0
  · rw [h0 c] at q
    exact absurd q (by decide)
  · exact (hp (by omega)).2
theorem KG_kin (hT : T.1 ≤ 2000) (h : KG K) : KG (kinN T K) := by
  unfold kinN
  by_cases c : gd (kinR T).1 = true
  · rw [if_pos c]
    exact KG_PK (PK_prs hT 2001 (fun _ => PK_K0) (fun s q => by
      cases q
      exact ⟨Nat.zero_le _, (tn_le (T := T) (p := isBl) (Nat.zero_le _)).2⟩) c)
  · rw [if_neg c]
    exact h
theorem KG_law {x y : Int32} (h : KG K) : KG (lawN K x y) := by
  unfold lawN
  by_cases c : lawC K x y = true
  · rw [if_pos c]
    have h5 : x.toNatClampNeg < 5 := by
      unfold lawC at c
      rw [Bool.and_eq_true, Bool.and_eq_true] at c
      obtain ⟨s, hs, e⟩ := isN_of c.1.2
      rw [e, nI_clamp (by omega)]
      exact hs
    have e : ∀ j, j < 6 ∨ 11 ≤ j → kh (setK K x.toNatClampNeg y.toNatClampNeg) j = kh K j := fun j hj => if_neg (by omega)
    exact ⟨(e 11 (by omega)).trans h.1, fun i hi => h.2.1 i (by rw [e 2 (by omega)] at hi; exact hi), fun q => by rw [e 1 (by omega)]; exact h.2.2 (by rw [e 0 (by omega)] at q; exact q)⟩
  · rw [if_neg c]
    exact h
theorem ZG_keep {x : Int32} (h : ZG (K, I, S, T, f)) : ZG (K, keepN I K x, S, T, f) := by
  refine ⟨h.1, fun k hk K' e => ?_⟩
  change keepN I K x k = some K' at e
  unfold keepN at e
  by_cases c : isN 3 x = true
  · rw [if_pos c] at e
    by_cases c2 : k = x.toNatClampNeg
    · rw [c2, va_up_self] at e
      cases e
      exact h.1
    · rw [va_up_ne _ _ c2] at e
      exact h.2 k hk K' e
  · rw [if_neg c] at e
    exact h.2 k hk K' e
theorem KG_back {x : Int32} (h : ZG (K, I, S, T, f)) : KG (backN I K x) := by
  unfold backN
  by_cases c : isN 3 x = true
  · rw [if_pos c]
    obtain ⟨s, hs, e⟩ := isN_of c
    have e2 : x.toNatClampNeg = s := by rw [e, nI_clamp (by omega)]
    rw [e2]
    rcases hq : I s with _ | K'
    · exact h.1
    · exact h.2 s hs K' hq
  · rw [if_neg c]
    exact h.1
end INV
end
