section
/-! MAKING THE CLASS'S OBJECT. -/
section MK3
variable {d : Nat} {M M1 : AM} {Q : Option Value → AM → Prop} {n m : Nat} {fs : List Value}
theorem k_sd_1 {i : Nat} (hi : i < 3) (h32 : M 32 = .inr (9, fs)) (hg : gv fs 4 = some (.ref 130)) (h130 : M 130 = rwE 6 3 (fun i => 131 + 47 * i) i) (hn : 32 + n = 131 + 47 * i) (kk : Wp (d + 10) md_87 58 [some (.ref 32), some (.int (nI (i + 1)))] [] (cx (va_up (rset M (131 + 47 * i) rzr) 130 (rwE 6 3 (fun i => 131 + 47 * i) (i + 1))) (n + 47) (m + 12 + 352)) Q) : Wp (d + 10) md_87 58 [some (.ref 32), some (.int (nI i))] [] (cx M n m) Q := by
  refine Wp.n (pc' := 60) 2 rfl ?_
  refine Wp.nc3 (x := i) (y := 3) (tgt := 82) (len := 3) rfl (by omega) (by omega) (fun h60 => ?_) (fun h60 => ?_)
  · omega
  · skip
    refine Wp.n (pc' := 64) 1 rfl ?_
    refine Wp.get (len := 3) rfl ((cx_o (by decide)).trans h32) hg ?_
    refine Wp.n (pc' := 68) 1 rfl ?_
    refine Wp.xnew (q := 131 + 47 * i) (len := 3) rfl hn ?_
    refine Wp.n (pc' := 72) 1 rfl ?_
    refine Wp.callI (len := 3) rfl rfl rfl rfl rfl (k_realmInit (d := d) hn) ?_
    rintro _ _ ⟨rfl, rfl⟩
    refine Wp.xaast (j := i) (len := 1) rfl ((rset_ne (by omega)).trans h130) rs_obj rfl rfl (by decide) (by omega) hi (by decide) ?_
    refine Wp.incN (x := i) (len := 3) rfl rfl ?_
    refine Wp.n (pc' := 58) 1 rfl ?_
    exact kk
theorem k_sdInit (hM : M 32 = .inr (9, nfs 9)) : Wp (d + 10) md_87 0 [some (.ref 32), none] [] (cx M 1 m) (fun v M' => v = none ∧ ∃ Mf m', M' = cx Mf 255 m' ∧ m' ≤ m + 10000 ∧ cset Mf κz = Mf ∧ Mf 32 = .inr (9, hdl 0) ∧ Mf 286 = .inl (0, 10, .inl (fun _ => 0)) ∧ HI Mf ∧ RA Mf 36 rzr ∧ RA Mf 83 rzr ∧ RA Mf 131 rzr ∧ RA Mf 178 rzr ∧ RA Mf 225 rzr ∧ ∀ q, q < 32 ∨ 287 ≤ q → Mf q = M q) := by
  refine Wp.n (pc' := 1) 1 rfl ?_
  refine Wp.bi (len := 3) rfl (by decide) rfl (by omega) ?_
  refine Wp.n (pc' := 5) 1 rfl ?_
  refine Wp.xnew (q := 33) (len := 3) rfl rfl ?_
  refine Wp.n (pc' := 9) 1 rfl ?_
  refine Wp.ecallI (len := 3) rfl rfl rfl rfl rfl (k_tapeInit (d := d + 1) (va_up_self _ _ _)) ?_
  refine Wp.xput (k := 32) (fs := nfs 9) (len := 3) rfl ((va_up_ne _ _ (by decide)).trans ((va_up_ne _ _ (by decide)).trans ((va_up_ne _ _ (by decide)).trans hM))) (by decide) rfl ?_
  refine Wp.n (pc' := 16) 1 rfl ?_
  refine Wp.xnew (q := 35) (len := 3) rfl rfl ?_
  refine Wp.n (pc' := 20) 1 rfl ?_
  refine Wp.ecallI (len := 3) rfl rfl rfl rfl rfl (k_readerInit (d := d + 1) (va_up_self _ _ _)) ?_
  refine Wp.xput (k := 32) (len := 3) rfl rfl (by decide) rfl ?_
  refine Wp.n (pc' := 27) 1 rfl ?_
  refine Wp.xnew (q := 36) (len := 3) rfl rfl ?_
  refine Wp.n (pc' := 31) 1 rfl ?_
  refine Wp.callI (len := 3) rfl rfl rfl rfl rfl (k_realmInit (d := d) (r := 36) rfl) ?_
  rintro _ _ ⟨rfl, rfl⟩
  refine Wp.xput (k := 32) (len := 3) rfl rfl (by decide) rfl ?_
  refine Wp.n (pc' := 38) 1 rfl ?_
  refine Wp.xnew (q := 83) (len := 3) rfl rfl ?_
  refine Wp.n (pc' := 42) 1 rfl ?_
  refine Wp.callI (len := 3) rfl rfl rfl rfl rfl (k_realmInit (d := d) (r := 83) rfl) ?_
  rintro _ _ ⟨rfl, rfl⟩
  refine Wp.xput (k := 32) (len := 3) rfl rfl (by decide) rfl ?_
  refine Wp.n (pc' := 50) 2 rfl ?_
  refine Wp.xanew (k := 3) (q := 130) (len := 3) rfl (by decide) rfl ?_
  rw [rwE_0 (g := fun i => 131 + 47 * i)]
  refine Wp.xput (k := 32) (len := 3) rfl rfl (by decide) rfl ?_
  refine Wp.n (pc' := 58) 2 rfl ?_
  refine k_sd_1 (i := 0) (by decide) rfl rfl rfl rfl ?_
  refine k_sd_1 (i := 1) (by decide) rfl rfl rfl rfl ?_
  refine k_sd_1 (i := 2) (by decide) rfl rfl rfl rfl ?_
  refine Wp.n (pc' := 60) 2 rfl ?_
  refine Wp.nc3 (x := 3) (y := 3) (tgt := 82) (len := 3) rfl (by omega) (by omega) (fun h60 => ?_) (fun h60 => ?_)
  · skip
    refine Wp.n (pc' := 84) 2 rfl ?_
    refine Wp.xna3 (k := 3) (q := 272) (len := 2) rfl (by decide) rfl ?_
    refine Wp.xput (k := 32) (len := 3) rfl rfl (by decide) rfl ?_
    refine Wp.n (pc' := 90) 1 rfl ?_
    refine Wp.xnew (q := 273) (len := 3) rfl rfl ?_
    refine Wp.n (pc' := 94) 1 rfl ?_
    refine Wp.ecallI (len := 3) rfl rfl rfl rfl rfl (k_waysInit (d := d + 1) (va_up_self _ _ _)) ?_
    refine Wp.xput (k := 32) (len := 3) rfl rfl (by decide) rfl ?_
    refine Wp.n (pc' := 101) 1 rfl ?_
    refine Wp.xnew (q := 280) (len := 3) rfl rfl ?_
    refine Wp.n (pc' := 105) 1 rfl ?_
    refine Wp.ecallI (len := 3) rfl rfl rfl rfl rfl (k_tripInit (d := d + 1) (va_up_self _ _ _)) ?_
    refine Wp.xput (k := 32) (len := 3) rfl rfl (by decide) rfl ?_
    refine Wp.n (pc' := 112) 1 rfl ?_
    refine Wp.xnew (q := 282) (len := 3) rfl rfl ?_
    refine Wp.n (pc' := 116) 1 rfl ?_
    refine Wp.ecallI (len := 3) rfl rfl rfl rfl rfl (k_slotsInit (d := d + 1) (va_up_self _ _ _)) ?_
    refine Wp.xput (k := 32) (len := 3) rfl rfl (by decide) rfl ?_
    refine Wp.n (pc' := 125) 2 rfl ?_
    refine Wp.xna0 (k := 10) (q := 286) (len := 2) rfl (by decide) rfl ?_
    refine Wp.xput (k := 32) (len := 3) rfl rfl (by decide) rfl ?_
    refine Wp.retV (len := 1) rfl rfl ?_
    have e5 : fN 5 = 2 := rfl
    have e2 : fN 2 = 8 := rfl
    have e3 : fN 3 = 12 := rfl
    have e8 : fN 8 = 13 := rfl
    have e6 : fN 6 = 8 := rfl
    have e4 : fN 4 = 3 := rfl
    refine ⟨rfl, _, _, rfl, by omega, cset_id rfl rfl rfl rfl rfl rfl rfl rfl rfl rfl rfl rfl rfl rfl rfl rfl rfl, rfl, rfl, rfl, ?_, ?_, ?_, ?_, ?_, ?_⟩
    · repeat (first | refine ra_u (by decide) ?_ | exact rset_ra | refine ra_r (by decide) ?_)
    · repeat (first | refine ra_u (by decide) ?_ | exact rset_ra | refine ra_r (by decide) ?_)
    · repeat (first | refine ra_u (by decide) ?_ | exact rset_ra | refine ra_r (by decide) ?_)
    · repeat (first | refine ra_u (by decide) ?_ | exact rset_ra | refine ra_r (by decide) ?_)
    · repeat (first | refine ra_u (by decide) ?_ | exact rset_ra | refine ra_r (by decide) ?_)
    · repeat (first | refine ag_u (by decide) ?_ | refine ag_r (by omega) ?_ | exact fun _ _ => rfl)
  · omega
end MK3
end
section
/-! WHAT HOLDS BETWEEN THE CALLS: one pure state, both objects hold it. -/
abbrev Zt : Type := KD × (Nat → Option KD) × SS × TP × (Nat × Option Nat)
def KG (K : KD) : Prop := kh K 11 = 0 ∧ R30 K ∧ (0 < kh K 0 → 1 ≤ kh K 1)
def CI (M : AM) (κ : CS) (Z : Zt) : Prop := HD M ∧ HI M ∧ HW M ∧ RK M 36 Z.1 ∧ (∃ ρ, RA M 83 ρ) ∧ IMc M κ Z.2.1 ∧ SC κ Z.2.2.1 ∧ TC κ Z.2.2.2.1 ∧ FCl κ Z.2.2.2.2
def MI (σ : MS) (Z : Zt) : Prop := MK σ Z.1 ∧ IMm σ Z.2.1 ∧ SM σ Z.2.2.1 ∧ TM σ Z.2.2.2.1 ∧ FM σ Z.2.2.2.2
def ZG (Z : Zt) : Prop := KG Z.1 ∧ ∀ k, k < 3 → ∀ K, Z.2.1 k = some K → KG K
def CR (M : AM) (Z : Zt) (a : Value) : Option Value → AM → Prop := fun v M' => v = some a ∧ ∃ M2 κ', M' = cset M2 κ' ∧ CI M2 κ' Z ∧ ∀ q, q < 32 ∨ 287 ≤ q → M2 q = M q
def MQr (M : AM) (Z : Zt) (a : Value) : Option Value → AM → Prop := fun v M' => v = some a ∧ ∃ σ', M' = mset M σ' ∧ MI σ' Z
section INV
variable {d : Nat} {M M2 M' : AM} {κ κ' : CS} {σ σ' : MS} {Z : Zt} {K : KD} {I : Nat → Option KD} {S : SS} {T : TP} {f : Nat × Option Nat} {v : Option Value} {a : Int32} {X : MD} {pc : Nat} {l : AL} {st : List Value}
theorem IMc_k (h : IMc M κ I) (e : κ'.2.1 3 = κ.2.1 3) : IMc M κ' I := by
  unfold IMc at *
  rw [e]
  exact h
theorem IMc_m (h : IMc M κ I) (e : ∀ q, 131 ≤ q → q < 272 → M2 q = M q) : IMc M2 κ I := by
  refine ⟨fun k hk => ?_, fun k hk => ?_⟩
  · obtain ⟨ρ, hρ⟩ := h.1 k hk
    exact ⟨ρ, RA_of hρ (fun q a b => e q (by omega) (by omega))⟩
  · rcases h.2 k hk with q | ⟨K, q1, q2, q3, q4⟩
    · exact Or.inl q
    · exact Or.inr ⟨K, q1, q2, RK_of q3 (fun q a b => e q (by omega) (by omega)), q4⟩
theorem SC_k (h : SC κ S) (e1 : κ'.2.1 15 = κ.2.1 15) (e2 : κ'.2.1 16 = κ.2.1 16) (e3 : κ'.2.2.1 = κ.2.2.1) : SC κ' S := by
  unfold SC at *
  rw [e1, e2, e3]
  exact h
theorem TC_k (h : TC κ T) (e1 : κ'.1 0 = κ.1 0) (e2 : κ'.2.1 1 = κ.2.1 1) : TC κ' T := by
  unfold TC at *
  rw [e1, e2]
  exact h
theorem FC_k (h : FCl κ f) (e : κ'.1 2 = κ.1 2) : FCl κ' f := by
  unfold FCl at *
  rw [e]
  exact h
theorem CI_sc (h : CI M κ Z) (s : ScC κ κ') : CI M κ' Z := by
  obtain ⟨h1, h2, h3, h4, h5, h6, h7, h8, h9⟩ := h
  exact ⟨h1, h2, h3, h4, h5, IMc_k h6 (s.2.1 3 rfl), SC_k h7 (s.2.1 15 rfl) (s.2.1 16 rfl) s.2.2.2, TC_k h8 (s.1 0 rfl) (s.2.1 1 rfl), FC_k h9 (s.1 2 rfl)⟩
theorem CI_d {ρ : RC} (h : CI M κ Z) : CI (rset M 83 ρ) κ Z := by
  obtain ⟨h1, h2, h3, h4, h5, h6, h7, h8, h9⟩ := h
  exact ⟨hd_to (rset_ne (by omega)) (rset_ne (by omega)) h1, (rset_ne (by omega)).trans h2, HW_r h3, RK_of h4 (fun q a b => rset_ne (by omega)), ⟨ρ, rset_ra⟩, IMc_m h6 (fun q a b => rset_ne (by omega)), h7, h8, h9⟩
theorem CI_ms (h : CI M κ Z) : CI (mset M σ) κ Z := by
  have e : ∀ q, q < 287 → mset M σ q = M q := fun q hq => if_pos hq
  obtain ⟨h1, h2, h3, h4, ⟨ρ, h5⟩, h6, h7, h8, h9⟩ := h
  exact ⟨hd_to (e 32 (by omega)) (e 286 (by omega)) h1, (e 130 (by omega)).trans h2, fun i hi => (e _ (by omega)).trans (h3 i hi), RK_of h4 (fun q a b => e q (by omega)), ⟨ρ, RA_of h5 (fun q a b => e q (by omega))⟩, IMc_m h6 (fun q a b => e q (by omega)), h7, h8, h9⟩
theorem ms_cs : mset (cset M κ) σ = cset (mset M σ) κ := by
  funext q
  by_cases c0 : q < 287
  · have e1 : mset (cset M κ) σ q = cset M κ q := if_pos c0
    have e2 : mset M σ q = M q := if_pos c0
    rw [e1]
    unfold cset
    rw [e2]
  · have e3 : cset M κ q = M q := cset_o (by omega)
    have e2 : cset (mset M σ) κ q = mset M σ q := cset_o (by omega)
    rw [e2]
    unfold mset
    rw [e3]
theorem ms_ab (h : ∀ q, q < 32 ∨ 287 ≤ q → M2 q = mset M σ q) : cset M2 κ' = mset (cset M2 κ') σ := by
  have e : mset M2 σ = M2 := by
    funext q
    by_cases c : q < 287
    · exact if_pos c
    · rw [h q (Or.inr (by omega))]
      unfold mset
      rw [if_neg c, if_neg c]
      by_cases c2 : q = 287
      · rw [if_pos c2, if_pos c2]
      · rw [if_neg c2, if_neg c2]
        by_cases c3 : q < 306
        · rw [if_pos c3, if_pos c3]
        · rw [if_neg c3, if_neg c3, h q (Or.inr (by omega))]
          unfold mset
          rw [if_neg c, if_neg c2, if_neg c3]
  rw [ms_cs, e]
theorem CR_s (h : CI M κ Z) (r : RCI M κ a v M') : CR M Z (.int a) v M' := by
  obtain ⟨r1, κ', r2, r3⟩ := r
  exact ⟨r1, M, κ', r2, CI_sc h r3, fun _ _ => rfl⟩
theorem CR_j {a : Int64} (h : CI M κ Z) (r : RCJ M κ a v M') : CR M Z (.long a) v M' := by
  obtain ⟨r1, κ', r2, r3⟩ := r
  exact ⟨r1, M, κ', r2, CI_sc h r3, fun _ _ => rfl⟩
theorem CR_d (h : CI M κ Z) (r : RDI M κ a v M') : CR M Z (.int a) v M' := by
  obtain ⟨r1, ρ, κ', r2, r3⟩ := r
  exact ⟨r1, rset M 83 ρ, κ', r2, CI_sc (CI_d h) r3, fun q hq => rset_ne (by omega)⟩
theorem CR_e (h : CI M κ Z) (r : Ev d X pc l st (cset M κ) (some (.int a), cset M κ)) : Wp d X pc l st (cset M κ) (CR M Z (.int a)) := ⟨_, _, r, rfl, M, κ, rfl, h, fun _ _ => rfl⟩
theorem IMm_fr (h : IMm σ I) (e : σ'.2.2.1 12 = σ.2.2.1 12) (r : ∀ s K, 1 ≤ s → s < 4 → KOK K → kh K 11 = 0 → RepM σ s K → RepM σ' s K) : IMm σ' I := fun k hk => by
  rcases h k hk with q | ⟨K, q1, q2, q3, q4, q5⟩
  · exact Or.inl ⟨q.1, by rw [e]; exact q.2⟩
  · exact Or.inr ⟨K, q1, by rw [e]; exact q2, r _ _ (by omega) (by omega) q4 q5 q3, q4, q5⟩
theorem SM_fr (h : SM σ S) (e0 : σ'.2.2.1 0 = σ.2.2.1 0) (e1 : σ'.2.2.1 1 = σ.2.2.1 1) (e2 : σ'.2.2.2 2 = σ.2.2.2 2) : SM σ' S := by
  unfold SM at *
  rw [e0, e1, e2]
  exact h
theorem TM_fr (h : TM σ T) (e : σ'.1 6 = σ.1 6) (e4 : σ'.2.2.1 4 = σ.2.2.1 4) : TM σ' T := by
  unfold TM at *
  rw [e, e4]
  exact h
theorem FM_fr (h : FM σ f) (e1 : σ'.1 14 = σ.1 14) (e2 : σ'.1 15 = σ.1 15) : FM σ' f := by
  unfold FM at *
  rw [e1, e2]
  exact h
theorem MI_sc (h : MI σ Z) (s : Scr σ σ') : MI σ' Z := by
  obtain ⟨h1, h2, h3, h4, h5⟩ := h
  exact ⟨MK_scr h1 s, IMm_fr h2 (s.2.1 12 rfl) (fun _ _ _ _ _ _ q => RepM_scr q s), SM_fr h3 (s.2.1 0 rfl) (s.2.1 1 rfl) (by rw [s.2.2.2]), TM_fr h4 (s.1 6 rfl) (s.2.1 4 rfl), FM_fr h5 (s.1 14 rfl) (s.1 15 rfl)⟩
theorem MI_sl (h : MI σ Z) (h11 : kh Z.1 11 = 0) (s : Scl σ σ') : MI σ' Z := by
  obtain ⟨h1, h2, h3, h4, h5⟩ := h
  refine ⟨MK_scl h1 h11 s, IMm_fr h2 ?_ (fun s' K' a _ ok _ q => RepM_scl q (fun c => by omega) (ok_h ok).2.2.2.1 s), ?_, ?_, ?_⟩
  · obtain ⟨g, hg, hs⟩ := s
    exact (hs.2.1 12 rfl)
  · obtain ⟨g, hg, hs⟩ := s
    exact SM_fr h3 (hs.2.1 0 rfl) (hs.2.1 1 rfl) (by rw [hs.2.2.2]; rfl)
  · obtain ⟨g, hg, hs⟩ := s
    exact TM_fr h4 (hs.1 6 rfl) (hs.2.1 4 rfl)
  · obtain ⟨g, hg, hs⟩ := s
    exact FM_fr h5 (hs.1 14 rfl) (hs.1 15 rfl)
theorem MQ_s (h : MI σ Z) (r : RI M σ a v M') : MQr M Z (.int a) v M' := by
  obtain ⟨r1, σ', r2, r3⟩ := r
  exact ⟨r1, σ', r2, MI_sc h r3⟩
theorem MQ_j {a : Int64} (h : MI σ Z) (r : RJ M σ a v M') : MQr M Z (.long a) v M' := by
  obtain ⟨r1, σ', r2, r3⟩ := r
  exact ⟨r1, σ', r2, MI_sc h r3⟩
theorem MQ_l (h : MI σ Z) (h11 : kh Z.1 11 = 0) (r : RI2 M σ a v M') : MQr M Z (.int a) v M' := by
  obtain ⟨r1, σ', r2, r3⟩ := r
  exact ⟨r1, σ', r2, MI_sl h h11 r3⟩
theorem MQ_e (h : MI σ Z) (r : Ev d X pc l st (mset M σ) (some (.int a), mset M σ)) : Wp d X pc l st (mset M σ) (MQr M Z (.int a)) := ⟨_, _, r, rfl, σ, rfl, h⟩
-- the class's calls that change something
theorem C_feed (h : CI M κ (K, I, S, T, f)) {a b c e g : Int32} : Wp (d + 1) md_88 0 [some (.ref 32), some (.int a), some (.int b), some (.int c), some (.int e), some (.int g)] [] (cset M κ) (CR M (K, I, S, feedN T a b c e g, f) (.int (feedA T))) := by
  obtain ⟨h1, h2, h3, h4, h5, h6, h7, h8, h9⟩ := h
  refine Wp.mono (k_feed h1 h8 a b c e g) ?_
  rintro _ _ ⟨rfl, κ', rfl, F, t⟩
  exact ⟨rfl, M, κ', rfl, ⟨h1, h2, h3, h4, h5, IMc_k h6 (F.2.1 3 (by decide)), SC_k h7 (F.2.1 15 (by decide)) (F.2.1 16 (by decide)) (by rw [F.2.2]), t, FC_k h9 (F.1 2 (by decide))⟩, fun _ _ => rfl⟩
theorem C_end (h : CI M κ (K, I, S, T, f)) {x : Int32} : Wp (d + 1) md_89 0 [some (.ref 32), some (.int x)] [] (cset M κ) (CR M (K, I, S, endN T x, f) (.int (endA T x))) := by
  obtain ⟨h1, h2, h3, h4, h5, h6, h7, h8, h9⟩ := h
  refine Wp.mono (k_end h1 h8 x) ?_
  rintro _ _ ⟨rfl, κ', rfl, F, t⟩
  exact ⟨rfl, M, κ', rfl, ⟨h1, h2, h3, h4, h5, IMc_k h6 (F.2.1 3 (by decide)), SC_k h7 (F.2.1 15 (by decide)) (F.2.1 16 (by decide)) (by rw [F.2.2]), t, FC_k h9 (F.1 2 (by decide))⟩, fun _ _ => rfl⟩
theorem C_kingdom (h : CI M κ (K, I, S, T, f)) : Wp (d + 15) md_90 0 [some (.ref 32), none] [] (cset M κ) (CR M (kinN T K, I, S, (0, T.2), flt (kinR T).1) (.int (kinA T))) := by
  obtain ⟨h1, h2, h3, h4, h5, h6, h7, h8, h9⟩ := h
  refine Wp.mono (k_kingdom h1 h3 h4 h5 h8) ?_
  rintro _ _ ⟨rfl, M1, κ', rfl, e, r1, r2, F, t1, t2⟩
  exact ⟨rfl, M1, κ', rfl, ⟨hd_to (e 32 (by omega)) (e 286 (by omega)) h1, (e 130 (by omega)).trans h2, fun i hi => (e _ (by omega)).trans (h3 i hi), r1, r2, IMc_k (IMc_m h6 (fun q a b => e q (by omega))) (by rw [F.2.1]), SC_k h7 (by rw [F.2.1]) (by rw [F.2.1]) F.2.2, t2, t1⟩, fun q hq => e q (by omega)⟩
theorem C_law (h : CI M κ (K, I, S, T, f)) {x y : Int32} : Wp (d + 2) md_136 0 [some (.ref 32), some (.int x), some (.int y)] [] (cset M κ) (CR M (lawN K x y, I, S, T, f) (.int (lawA K x y))) := by
  obtain ⟨h1, h2, h3, h4, ⟨ρ5, h5⟩, h6, h7, h8, h9⟩ := h
  refine Wp.mono (k_law h1 h4 x y) ?_
  rintro _ _ ⟨rfl, ρ, rfl, r1⟩
  exact ⟨rfl, rset M 36 ρ, κ, rfl, ⟨hd_to (rset_ne (by omega)) (rset_ne (by omega)) h1, (rset_ne (by omega)).trans h2, fun i hi => (rset_ne (by omega)).trans (h3 i hi), r1, ⟨ρ5, RA_of h5 (fun q a b => rset_ne (by omega))⟩, IMc_m h6 (fun q a b => rset_ne (by omega)), h7, h8, h9⟩, fun q hq => rset_ne (by omega)⟩
theorem C_keep (h : CI M κ (K, I, S, T, f)) (h11 : kh K 11 = 0) {x : Int32} : Wp (d + 10) md_144 0 [some (.ref 32), some (.int x)] [] (cset M κ) (CR M (K, keepN I K x, S, T, f) (.int (keepA x))) := by
  obtain ⟨h1, h2, h3, h4, ⟨ρ5, h5⟩, h6, h7, h8, h9⟩ := h
  refine Wp.mono (k_keep h1 h4 h11 h2 h6 x) ?_
  rintro _ _ ⟨rfl, M2, g, rfl, r1, e⟩
  exact ⟨rfl, M2, ca κ 3 g, rfl, ⟨hd_to (e 32 (by omega)) (e 286 (by omega)) h1, (e 130 (by omega)).trans h2, fun i hi => (e _ (by omega)).trans (h3 i hi), RK_of h4 (fun q a b => e q (by omega)), ⟨ρ5, RA_of h5 (fun q a b => e q (by omega))⟩, r1, SC_k h7 rfl rfl rfl, TC_k h8 rfl rfl, h9⟩, fun q hq => e q (by omega)⟩
theorem C_back (h : CI M κ (K, I, S, T, f)) {x : Int32} : Wp (d + 10) md_145 0 [some (.ref 32), some (.int x)] [] (cset M κ) (CR M (backN I K x, I, S, T, f) (.int (backA I x))) := by
  obtain ⟨h1, h2, h3, h4, ⟨ρ5, h5⟩, h6, h7, h8, h9⟩ := h
  refine Wp.mono (k_back h1 h4 h2 h6 x) ?_
  rintro _ _ ⟨rfl, M2, rfl, r1, e⟩
  exact ⟨rfl, M2, κ, rfl, ⟨hd_to (e 32 (by omega)) (e 286 (by omega)) h1, (e 130 (by omega)).trans h2, fun i hi => (e _ (by omega)).trans (h3 i hi), r1, ⟨ρ5, RA_of h5 (fun q a b => e q (by omega))⟩, IMc_m h6 (fun q a b => e q (by omega)), h7, h8, h9⟩, fun q hq => e q (by omega)⟩
theorem CI_z {S' : SS} (h : CI M κ (K, I, S, T, f)) (F : FZ κ κ') (s : SC κ' S') : CI M κ' (K, I, S', T, f) := by
  obtain ⟨h1, h2, h3, h4, h5, h6, h7, h8, h9⟩ := h
  exact ⟨h1, h2, h3, h4, h5, IMc_k h6 (F.2.1 3 (by decide) (by decide)), s, TC_k h8 (by rw [F.1]) (F.2.1 1 (by decide) (by decide)), FC_k h9 (by rw [F.1])⟩
theorem C_row (h : CI M κ (K, I, S, T, f)) {x w m : Int32} : Wp (d + 1) md_146 0 [some (.ref 32), some (.int x), some (.int w), some (.int m)] [] (cset M κ) (CR M (K, I, rowN S x w m, T, f) (.int (rowA x w m))) := by
  refine Wp.mono (k_row h.1 h.2.2.2.2.2.2.1 x w m) ?_
  rintro _ _ ⟨rfl, κ', rfl, F, s⟩
  exact ⟨rfl, M, κ', rfl, CI_z h F s, fun _ _ => rfl⟩
theorem C_write (h : CI M κ (K, I, S, T, f)) {x i : Int32} {w : Int64} : Wp (d + 2) md_147 0 [some (.ref 32), some (.int x), some (.int i), some (.long w), none] [] (cset M κ) (CR M (K, I, writeN S x i w, T, f) (.int (writeA S x i))) := by
  refine Wp.mono (k_write h.1 h.2.2.2.2.2.2.1 x i w) ?_
  rintro _ _ ⟨rfl, κ', rfl, F, s⟩
  exact ⟨rfl, M, κ', rfl, CI_z h F s, fun _ _ => rfl⟩
theorem C_paste (h : CI M κ (K, I, S, T, f)) {x i t k m : Int32} : Wp (d + 9) md_148 0 [some (.ref 32), some (.int x), some (.int i), some (.int t), some (.int k), some (.int m)] [] (cset M κ) (CR M (K, I, pasteN S x i t k m, T, f) (.int (pasteA S x i t k m))) := by
  refine Wp.mono (k_paste h.1 h.2.2.2.2.2.2.1 x i t k m) ?_
  rintro _ _ ⟨rfl, κ', rfl, F, s⟩
  exact ⟨rfl, M, κ', rfl, CI_z h F s, fun _ _ => rfl⟩
theorem C_watchers (h : CI M κ (K, I, S, T, f)) (h11 : kh K 11 = 0) {x : Int32} : Wp (d + 12) md_131 0 [some (.ref 32), some (.int x), none, none] [] (cset M κ) (fun v M' => ∃ a : Int32, (kh K 0 = 0 → a = -2) ∧ CR M (K, I, S, T, f) (.int a) v M') := by
  refine Wp.mono (k_watchers h.1 h.2.2.2.1 h11 x) ?_
  rintro _ _ ⟨⟨a, rfl, ha⟩, ow, g, κ', rfl, s⟩
  refine ⟨a, ha, rfl, wmm M ow g, κ', rfl, ?_, fun q hq => wmm_ne (by omega) (by omega)⟩
  obtain ⟨h1, h2, h3, h4, ⟨ρ, h5⟩, h6, h7, h8, h9⟩ := CI_sc h s
  exact ⟨wmm_hd, (wmm_ne (by omega) (by omega)).trans h2, fun i hi => (wmm_ne (by omega) (by omega)).trans (h3 i hi), wmm_rk h4, ⟨ρ, RA_of h5 (fun q a b => wmm_ne (by omega) (by omega))⟩, IMc_m h6 (fun q a b => wmm_ne (by omega) (by omega)), h7, h8, h9⟩
-- the reference's calls that change something
theorem MI_t {T' : TP} (h : MI σ (K, I, S, T, f)) (F : FrT σ σ') (t : TM σ' T') : MI σ' (K, I, S, T', f) := by
  obtain ⟨h1, h2, h3, h4, h5⟩ := h
  have e8 : σ'.2.2.2 8 = σ.2.2.2 8 := by rw [F.2.2.2]
  have rp : ∀ s K, RepM σ s K → RepM σ' s K := fun s K q => RepM_fr q (F.2.1 5 (by decide)) (F.2.1 6 (by decide)) (F.2.1 7 (by decide)) (F.2.1 9 (by decide)) (F.2.1 10 (by decide)) (F.2.1 11 (by decide)) e8
  exact ⟨⟨rp _ _ h1.1, h1.2.1, (F.1 25 (by decide)).trans h1.2.2.1, (F.1 0 (by decide)).trans h1.2.2.2⟩, IMm_fr h2 (F.2.1 12 (by decide)) (fun s K _ _ _ _ q => rp s K q), SM_fr h3 (F.2.1 0 (by decide)) (F.2.1 1 (by decide)) (by rw [F.2.2.2]), t, FM_fr h5 (F.1 14 (by decide)) (F.1 15 (by decide))⟩
theorem D_feed (h : MI σ (K, I, S, T, f)) {a b c e g : Int32} : Wp (d + 1) md_156 0 [some (.ref 287), some (.int a), some (.int b), some (.int c), some (.int e), some (.int g)] [] (mset M σ) (MQr M (K, I, S, feedN T a b c e g, f) (.int (feedA T))) := by
  refine Wp.mono (m_feed h.1.2.2.2 h.2.2.2.1 a b c e g) ?_
  rintro _ _ ⟨rfl, σ', rfl, F, t⟩
  exact ⟨rfl, σ', rfl, MI_t h F t⟩
theorem D_end (h : MI σ (K, I, S, T, f)) {x : Int32} : Wp (d + 1) md_158 0 [some (.ref 287), some (.int x)] [] (mset M σ) (MQr M (K, I, S, endN T x, f) (.int (endA T x))) := by
  refine Wp.mono (m_end h.1.2.2.2 h.2.2.2.1 x) ?_
  rintro _ _ ⟨rfl, σ', rfl, F, t⟩
  exact ⟨rfl, σ', rfl, MI_t h F t⟩
theorem D_kingdom (h : MI σ (K, I, S, T, f)) (h11 : kh K 11 = 0) : Wp (d + 9) md_160 0 [some (.ref 287)] [] (mset M σ) (MQr M (kinN T K, I, S, (0, T.2), flt (kinR T).1) (.int (kinA T))) := by
  obtain ⟨h1, h2, h3, h4, h5⟩ := h
  refine Wp.mono (m_kingdom h1 h11 h4) ?_
  rintro _ _ ⟨rfl, σ', rfl, F, k, t1, t2⟩
  exact ⟨rfl, σ', rfl, k, IMm_fr h2 (F.2.1 12 rfl) (fun s K a b ok _ q => F.2.2.2 s K a b ok q), SM_fr h3 (F.2.1 0 rfl) (F.2.1 1 rfl) (F.2.2.1 2 (by decide)), t2, t1⟩
theorem D_law (h : MI σ (K, I, S, T, f)) {x y : Int32} : Wp (d + 2) md_250 0 [some (.ref 287), some (.int x), some (.int y), none] [] (mset M σ) (MQr M (lawN K x y, I, S, T, f) (.int (lawA K x y))) := by
  obtain ⟨h1, h2, h3, h4, h5⟩ := h
  refine Wp.mono (m_law h1 x y) ?_
  rintro _ _ ⟨rfl, σ', rfl, F, e7, k⟩
  refine ⟨rfl, σ', rfl, k, IMm_fr h2 (F.2.1 12 rfl) (fun s K a b ok _ q => ?_), SM_fr h3 (F.2.1 0 rfl) (F.2.1 1 rfl) (by rw [F.2.2.2]), TM_fr h4 (F.1 6 rfl) (F.2.1 4 rfl), FM_fr h5 (F.1 14 rfl) (F.1 15 rfl)⟩
  obtain ⟨q1, q2, q3, q4, q5, q6, q7⟩ := q
  unfold RepM
  rw [F.2.1 5 rfl, F.2.1 6 rfl, F.2.1 9 rfl, F.2.1 10 rfl, F.2.1 11 rfl, F.2.2.2]
  exact ⟨q1, fun h0 j hj => by rw [e7 _ (by omega)]; exact q2 h0 j hj, q3, q4, q5, q6, q7⟩
theorem D_keep (h : MI σ (K, I, S, T, f)) (h11 : kh K 11 = 0) {x : Int32} : Wp (d + 2) md_261 0 [some (.ref 287), some (.int x)] [] (mset M σ) (MQr M (K, keepN I K x, S, T, f) (.int (keepA x))) := by
  obtain ⟨h1, h2, h3, h4, h5⟩ := h
  refine Wp.mono (m_keep h1 h11 h2 x) ?_
  rintro _ _ ⟨rfl, σ', rfl, k, i, e1, e2, e3, e4⟩
  exact ⟨rfl, σ', rfl, k, i, SM_fr h3 (e3 0 rfl) (e3 1 rfl) (e4 2 (by decide)), TM_fr h4 (by rw [e1]) (e3 4 rfl), FM_fr h5 (by rw [e1]) (by rw [e1])⟩
theorem D_back (h : MI σ (K, I, S, T, f)) (h11 : kh K 11 = 0) {x : Int32} : Wp (d + 2) md_262 0 [some (.ref 287), some (.int x)] [] (mset M σ) (MQr M (backN I K x, I, S, T, f) (.int (backA I x))) := by
  obtain ⟨h1, h2, h3, h4, h5⟩ := h
  refine Wp.mono (m_back h1 h11 h2 x) ?_
  rintro _ _ ⟨rfl, σ', rfl, k, i, e1, e2, e3, e4⟩
  exact ⟨rfl, σ', rfl, k, i, SM_fr h3 (e3 0 rfl) (e3 1 rfl) (e4 2 (by decide)), TM_fr h4 (by rw [e1]) (e3 4 rfl), FM_fr h5 (by rw [e1]) (by rw [e1])⟩
theorem MI_s {S' : SS} (h : MI σ (K, I, S, T, f)) (s : SM σ' S') (e1 : σ'.1 = σ.1) (e3 : ∀ k, 2 ≤ k → σ'.2.2.1 k = σ.2.2.1 k) (e4 : σ'.2.2.2 8 = σ.2.2.2 8) : MI σ' (K, I, S', T, f) := by
  obtain ⟨h1, h2, h3, h4, h5⟩ := h
  have rp : ∀ s K, RepM σ s K → RepM σ' s K := fun s K q => RepM_fr q (e3 5 (by decide)) (e3 6 (by decide)) (e3 7 (by decide)) (e3 9 (by decide)) (e3 10 (by decide)) (e3 11 (by decide)) e4
  exact ⟨⟨rp _ _ h1.1, h1.2.1, by rw [e1]; exact h1.2.2.1, by rw [e1]; exact h1.2.2.2⟩, IMm_fr h2 (e3 12 (by decide)) (fun s K _ _ _ _ q => rp s K q), s, TM_fr h4 (by rw [e1]) (e3 4 (by decide)), FM_fr h5 (by rw [e1]) (by rw [e1])⟩
theorem D_row (h : MI σ (K, I, S, T, f)) {x w m : Int32} : Wp (d + 2) md_150 0 [some (.ref 287), some (.int x), some (.int w), some (.int m), none] [] (mset M σ) (MQr M (K, I, rowN S x w m, T, f) (.int (rowA x w m))) := by
  refine Wp.mono (m_row h.1.2.2.2 h.2.2.1 x w m) ?_
  rintro _ _ ⟨rfl, σ', rfl, s, e1, e2, e3, e4⟩
  exact ⟨rfl, σ', rfl, MI_s h s e1 e3 (e4 8 (by decide))⟩
theorem D_write (h : MI σ (K, I, S, T, f)) {x i : Int32} {w : Int64} : Wp (d + 2) md_153 0 [some (.ref 287), some (.int x), some (.int i), some (.long w), none] [] (mset M σ) (MQr M (K, I, writeN S x i w, T, f) (.int (writeA S x i))) := by
  refine Wp.mono (m_write h.1.2.2.2 h.2.2.1 x i w) ?_
  rintro _ _ ⟨rfl, σ', rfl, s, e1, e2, e3, e4⟩
  exact ⟨rfl, σ', rfl, MI_s h s e1 e3 (e4 8 (by decide))⟩
theorem D_paste (h : MI σ (K, I, S, T, f)) {x i t k m : Int32} : Wp (d + 2) md_155 0 [some (.ref 287), some (.int x), some (.int i), some (.int t), some (.int k), some (.int m), none] [] (mset M σ) (MQr M (K, I, pasteN S x i t k m, T, f) (.int (pasteA S x i t k m))) := by
  refine Wp.mono (m_paste h.1.2.2.2 h.2.2.1 x i t k m) ?_
  rintro _ _ ⟨rfl, σ', rfl, s, e1, e2, e3, e4⟩
  exact ⟨rfl, σ', rfl, MI_s h s e1 (fun k _ => e3 k) (e4 8 (by decide))⟩
-- the pure state stays good
theorem PK_prs (hT : T.1 ≤ 2000) : ∀ (n : Nat) {st : St} {K : KD}, (gd st = true → PK K) → (∀ s, st = .inr s → kh K 5 ≤ s ∧ s ≤ T.1) → gd (prsT T n st K).1 = true → PK (prsT T n st K).2
  | 0, st, K, hP, hs, g => hP g
  | n + 1, .inl x, K, hP, hs, g => hP g
  | n + 1, .inr s, K, hP, hs, g => by
    obtain ⟨s1, s2⟩ := hs s rfl
    by_cases c0 : tk T s = 0
    · have e : prsT T (n + 1) (.inr s) K = (.inr s, K) := if_pos c0
      rw [e]
      exact hP rfl
    · have e : prsT T (n + 1) (.inr s) K = prsT T n (endS T (bodS T K s)) (incL (bodK T K s)) := if_neg c0
      rw [e] at g ⊢
      have sT : s < T.1 := Nat.not_le.mp (fun q => c0 ((tk_0 (T := T) (s := s)).mpr q))
      refine PK_prs hT n (fun g2 => PK_step (hP rfl) (by omega) g2) (fun s' e2 => ?_) g
      obtain ⟨q1, q2⟩ := step_lt (T := T) (K := K) (s := s) (s' := s') s2 e2
      refine ⟨?_, q2⟩
      show kh (bodK T K s) 5 + 1 ≤ s'
      rw [bod_5]
      omega
theorem KG_PK (h : PK K) : KG K := by
  obtain ⟨ok, h11, h30, hp, h0⟩ := h
  refine ⟨h11, h30, fun q => ?_⟩
  by_cases c : kh K 5 = 0
  · rw [h0 c] at q
    exact absurd q (by decide)
  · exact (hp (by omega)).2
theorem KG_kin (hT : T.1 ≤ 2000) (h : KG K) : KG (kinN T K) := by
  unfold kinN
  by_cases c : gd (kinR T).1 = true
  · rw [if_pos c]
    exact KG_PK (PK_prs hT 2001 (fun _ => PK_K0) (fun s q => by
      cases q
      exact ⟨Nat.zero_le _, (tn_le (T := T) (p := isBl) (Nat.zero_le _)).2⟩) c)
  · rw [if_neg c]
    exact h
theorem KG_law {x y : Int32} (h : KG K) : KG (lawN K x y) := by
  unfold lawN
  by_cases c : lawC K x y = true
  · rw [if_pos c]
    have h5 : x.toNatClampNeg < 5 := by
      unfold lawC at c
      rw [Bool.and_eq_true, Bool.and_eq_true] at c
      obtain ⟨s, hs, e⟩ := isN_of c.1.2
      rw [e, nI_clamp (by omega)]
      exact hs
    have e : ∀ j, j < 6 ∨ 11 ≤ j → kh (setK K x.toNatClampNeg y.toNatClampNeg) j = kh K j := fun j hj => if_neg (by omega)
    exact ⟨(e 11 (by omega)).trans h.1, fun i hi => h.2.1 i (by rw [e 2 (by omega)] at hi; exact hi), fun q => by rw [e 1 (by omega)]; exact h.2.2 (by rw [e 0 (by omega)] at q; exact q)⟩
  · rw [if_neg c]
    exact h
theorem ZG_keep {x : Int32} (h : ZG (K, I, S, T, f)) : ZG (K, keepN I K x, S, T, f) := by
  refine ⟨h.1, fun k hk K' e => ?_⟩
  change keepN I K x k = some K' at e
  unfold keepN at e
  by_cases c : isN 3 x = true
  · rw [if_pos c] at e
    by_cases c2 : k = x.toNatClampNeg
    · rw [c2, va_up_self] at e
      cases e
      exact h.1
    · rw [va_up_ne _ _ c2] at e
      exact h.2 k hk K' e
  · rw [if_neg c] at e
    exact h.2 k hk K' e
theorem KG_back {x : Int32} (h : ZG (K, I, S, T, f)) : KG (backN I K x) := by
  unfold backN
  by_cases c : isN 3 x = true
  · rw [if_pos c]
    obtain ⟨s, hs, e⟩ := isN_of c
    have e2 : x.toNatClampNeg = s := by rw [e, nI_clamp (by omega)]
    rw [e2]
    rcases hq : I s with _ | K'
    · exact h.1
    · exact h.2 s hs K' hq
  · rw [if_neg c]
    exact h.1
end INV
end
section
/-- the law goes on -/
def LK (M : AM) (i : Nat) (Q : Option Value → AM → Prop) : Prop := ∀ (M' : AM) (κ' : CS) (σ' : MS) (Z' : Zt), CI M' κ' Z' → MI σ' Z' → ZG Z' → (∀ q, q < 32 → M' q = M q) → Wp 60 md_263 1763 [some (.ref 2), some (.ref 32), some (.ref 287), some (.int (nI i))] [] (mset (cset M' κ') σ') Q
/-! THE LAW: its cases, a. -/
section LCA
variable {L i : Nat} {xs : Nat → Int32} {M : AM} {κ : CS} {σ : MS} {Z : Zt} {Q : Option Value → AM → Prop}
theorem L_feed (hi : i + 6 ≤ L) (hL : L ≤ 3072) (h2 : M 2 = .inl (7, L, .inl xs)) (hC : CI M κ Z) (hM : MI σ Z) (hZ : ZG Z) (kk : LK M i Q) : Wp 60 md_263 228 [some (.ref 2), some (.ref 32), some (.ref 287), some (.int (nI i))] [] (mset (cset M κ) σ) Q := by
  obtain ⟨K, I, S, T, f⟩ := Z
  rw [ms_cs]
  have hC1 := CI_ms (σ := σ) hC
  obtain ⟨ow, hDo⟩ := hC1.1.1
  have s1 : cset (mset M σ) κ 2 = .inl (7, L, .inl xs) := (cset_o (by omega)).trans ((if_pos (by decide)).trans h2)
  refine Wp.n (pc' := 232) 4 rfl ?_
  refine Wp.iaddN (x := i) (y := 1) (len := 1) rfl ?_
  refine Wp.ialdN (j := i + 1) (len := 1) rfl (s1) rfl (by omega) (by omega) ?_
  refine Wp.n (pc' := 237) 3 rfl ?_
  refine Wp.iaddN (x := i) (y := 2) (len := 1) rfl ?_
  refine Wp.ialdN (j := i + 2) (len := 1) rfl (s1) rfl (by omega) (by omega) ?_
  refine Wp.n (pc' := 242) 3 rfl ?_
  refine Wp.iaddN (x := i) (y := 3) (len := 1) rfl ?_
  refine Wp.ialdN (j := i + 3) (len := 1) rfl (s1) rfl (by omega) (by omega) ?_
  refine Wp.n (pc' := 247) 3 rfl ?_
  refine Wp.iaddN (x := i) (y := 4) (len := 1) rfl ?_
  refine Wp.ialdN (j := i + 4) (len := 1) rfl (s1) rfl (by omega) (by omega) ?_
  refine Wp.n (pc' := 252) 3 rfl ?_
  refine Wp.iaddN (x := i) (y := 5) (len := 1) rfl ?_
  refine Wp.ialdN (j := i + 5) (len := 1) rfl (s1) rfl (by omega) (by omega) ?_
  refine Wp.callV (len := 3) rfl rfl rfl ((cset_o (by omega)).trans hDo) rfl (by decide) rfl (C_feed hC1) ?_
  rintro _ _ ⟨rfl, M2, κ2, rfl, hC2, e2⟩
  rw [ms_ab e2]
  have s2 : mset (cset M2 κ2) σ 2 = .inl (7, L, .inl xs) := (if_pos (by decide)).trans ((cset_o (by omega)).trans ((e2 2 (by omega)).trans ((if_pos (by decide)).trans h2)))
  refine Wp.n (pc' := 262) 5 rfl ?_
  refine Wp.iaddN (x := i) (y := 1) (len := 1) rfl ?_
  refine Wp.ialdN (j := i + 1) (len := 1) rfl (s2) rfl (by omega) (by omega) ?_
  refine Wp.n (pc' := 267) 3 rfl ?_
  refine Wp.iaddN (x := i) (y := 2) (len := 1) rfl ?_
  refine Wp.ialdN (j := i + 2) (len := 1) rfl (s2) rfl (by omega) (by omega) ?_
  refine Wp.n (pc' := 272) 3 rfl ?_
  refine Wp.iaddN (x := i) (y := 3) (len := 1) rfl ?_
  refine Wp.ialdN (j := i + 3) (len := 1) rfl (s2) rfl (by omega) (by omega) ?_
  refine Wp.n (pc' := 277) 3 rfl ?_
  refine Wp.iaddN (x := i) (y := 4) (len := 1) rfl ?_
  refine Wp.ialdN (j := i + 4) (len := 1) rfl (s2) rfl (by omega) (by omega) ?_
  refine Wp.n (pc' := 282) 3 rfl ?_
  refine Wp.iaddN (x := i) (y := 5) (len := 1) rfl ?_
  refine Wp.ialdN (j := i + 5) (len := 1) rfl (s2) rfl (by omega) (by omega) ?_
  refine Wp.callV (len := 3) rfl rfl rfl (rfl) rfl (by decide) rfl (D_feed hM) ?_
  rintro _ _ ⟨rfl, σ2, rfl, hM2⟩
  refine Wp.n (pc' := 1763) 2 rfl ?_
  exact kk M2 κ2 σ2 _ hC2 hM2 (⟨hZ.1, hZ.2⟩) (fun q hq => (e2 q (Or.inl hq)).trans (if_pos (by omega)))
theorem L_end (hi : i + 6 ≤ L) (hL : L ≤ 3072) (h2 : M 2 = .inl (7, L, .inl xs)) (hC : CI M κ Z) (hM : MI σ Z) (hZ : ZG Z) (kk : LK M i Q) : Wp 60 md_263 291 [some (.ref 2), some (.ref 32), some (.ref 287), some (.int (nI i))] [] (mset (cset M κ) σ) Q := by
  obtain ⟨K, I, S, T, f⟩ := Z
  rw [ms_cs]
  have hC1 := CI_ms (σ := σ) hC
  obtain ⟨ow, hDo⟩ := hC1.1.1
  have s1 : cset (mset M σ) κ 2 = .inl (7, L, .inl xs) := (cset_o (by omega)).trans ((if_pos (by decide)).trans h2)
  refine Wp.n (pc' := 295) 4 rfl ?_
  refine Wp.iaddN (x := i) (y := 1) (len := 1) rfl ?_
  refine Wp.ialdN (j := i + 1) (len := 1) rfl (s1) rfl (by omega) (by omega) ?_
  refine Wp.callV (len := 3) rfl rfl rfl ((cset_o (by omega)).trans hDo) rfl (by decide) rfl (C_end hC1) ?_
  rintro _ _ ⟨rfl, M2, κ2, rfl, hC2, e2⟩
  rw [ms_ab e2]
  have s2 : mset (cset M2 κ2) σ 2 = .inl (7, L, .inl xs) := (if_pos (by decide)).trans ((cset_o (by omega)).trans ((e2 2 (by omega)).trans ((if_pos (by decide)).trans h2)))
  refine Wp.n (pc' := 305) 5 rfl ?_
  refine Wp.iaddN (x := i) (y := 1) (len := 1) rfl ?_
  refine Wp.ialdN (j := i + 1) (len := 1) rfl (s2) rfl (by omega) (by omega) ?_
  refine Wp.callV (len := 3) rfl rfl rfl (rfl) rfl (by decide) rfl (D_end hM) ?_
  rintro _ _ ⟨rfl, σ2, rfl, hM2⟩
  refine Wp.n (pc' := 1763) 2 rfl ?_
  exact kk M2 κ2 σ2 _ hC2 hM2 (⟨hZ.1, hZ.2⟩) (fun q hq => (e2 q (Or.inl hq)).trans (if_pos (by omega)))
theorem L_kingdom (hi : i + 6 ≤ L) (hL : L ≤ 3072) (h2 : M 2 = .inl (7, L, .inl xs)) (hC : CI M κ Z) (hM : MI σ Z) (hZ : ZG Z) (kk : LK M i Q) : Wp 60 md_263 314 [some (.ref 2), some (.ref 32), some (.ref 287), some (.int (nI i))] [] (mset (cset M κ) σ) Q := by
  obtain ⟨K, I, S, T, f⟩ := Z
  rw [ms_cs]
  have hC1 := CI_ms (σ := σ) hC
  obtain ⟨ow, hDo⟩ := hC1.1.1
  have s1 : cset (mset M σ) κ 2 = .inl (7, L, .inl xs) := (cset_o (by omega)).trans ((if_pos (by decide)).trans h2)
  refine Wp.n (pc' := 315) 1 rfl ?_
  refine Wp.callV (len := 3) rfl rfl rfl ((cset_o (by omega)).trans hDo) rfl (by decide) rfl (C_kingdom hC1) ?_
  rintro _ _ ⟨rfl, M2, κ2, rfl, hC2, e2⟩
  rw [ms_ab e2]
  have s2 : mset (cset M2 κ2) σ 2 = .inl (7, L, .inl xs) := (if_pos (by decide)).trans ((cset_o (by omega)).trans ((e2 2 (by omega)).trans ((if_pos (by decide)).trans h2)))
  refine Wp.n (pc' := 320) 2 rfl ?_
  refine Wp.callV (len := 3) rfl rfl rfl (rfl) rfl (by decide) rfl (D_kingdom hM hZ.1.1) ?_
  rintro _ _ ⟨rfl, σ2, rfl, hM2⟩
  refine Wp.n (pc' := 1763) 2 rfl ?_
  exact kk M2 κ2 σ2 _ hC2 hM2 (⟨KG_kin hM.2.2.2.1.2.1 hZ.1, hZ.2⟩) (fun q hq => (e2 q (Or.inl hq)).trans (if_pos (by omega)))
theorem L_fault (hi : i + 6 ≤ L) (hL : L ≤ 3072) (h2 : M 2 = .inl (7, L, .inl xs)) (hC : CI M κ Z) (hM : MI σ Z) (hZ : ZG Z) (kk : LK M i Q) : Wp 60 md_263 327 [some (.ref 2), some (.ref 32), some (.ref 287), some (.int (nI i))] [] (mset (cset M κ) σ) Q := by
  obtain ⟨K, I, S, T, f⟩ := Z
  rw [ms_cs]
  have hC1 := CI_ms (σ := σ) hC
  obtain ⟨ow, hDo⟩ := hC1.1.1
  have s1 : cset (mset M σ) κ 2 = .inl (7, L, .inl xs) := (cset_o (by omega)).trans ((if_pos (by decide)).trans h2)
  refine Wp.n (pc' := 331) 4 rfl ?_
  refine Wp.iaddN (x := i) (y := 1) (len := 1) rfl ?_
  refine Wp.ialdN (j := i + 1) (len := 1) rfl (s1) rfl (by omega) (by omega) ?_
  refine Wp.callV (len := 3) rfl rfl rfl ((cset_o (by omega)).trans hDo) rfl (by decide) rfl (CR_e hC1 (k_fault hC1.1 hC1.2.2.2.2.2.2.2.2 _)) ?_
  rintro _ _ ⟨rfl, M2, κ2, rfl, hC2, e2⟩
  rw [ms_ab e2]
  have s2 : mset (cset M2 κ2) σ 2 = .inl (7, L, .inl xs) := (if_pos (by decide)).trans ((cset_o (by omega)).trans ((e2 2 (by omega)).trans ((if_pos (by decide)).trans h2)))
  refine Wp.n (pc' := 341) 5 rfl ?_
  refine Wp.iaddN (x := i) (y := 1) (len := 1) rfl ?_
  refine Wp.ialdN (j := i + 1) (len := 1) rfl (s2) rfl (by omega) (by omega) ?_
  refine Wp.callV (len := 3) rfl rfl rfl (rfl) rfl (by decide) rfl (MQ_e hM (m_fault hM.1.2.2.2 hM.2.2.2.2 _)) ?_
  rintro _ _ ⟨rfl, σ2, rfl, hM2⟩
  refine Wp.n (pc' := 1763) 2 rfl ?_
  exact kk M2 κ2 σ2 _ hC2 hM2 (hZ) (fun q hq => (e2 q (Or.inl hq)).trans (if_pos (by omega)))
theorem L_road (hi : i + 6 ≤ L) (hL : L ≤ 3072) (h2 : M 2 = .inl (7, L, .inl xs)) (hC : CI M κ Z) (hM : MI σ Z) (hZ : ZG Z) (kk : LK M i Q) : Wp 60 md_263 350 [some (.ref 2), some (.ref 32), some (.ref 287), some (.int (nI i))] [] (mset (cset M κ) σ) Q := by
  obtain ⟨K, I, S, T, f⟩ := Z
  rw [ms_cs]
  have hC1 := CI_ms (σ := σ) hC
  obtain ⟨ow, hDo⟩ := hC1.1.1
  have s1 : cset (mset M σ) κ 2 = .inl (7, L, .inl xs) := (cset_o (by omega)).trans ((if_pos (by decide)).trans h2)
  refine Wp.n (pc' := 354) 4 rfl ?_
  refine Wp.iaddN (x := i) (y := 1) (len := 1) rfl ?_
  refine Wp.ialdN (j := i + 1) (len := 1) rfl (s1) rfl (by omega) (by omega) ?_
  refine Wp.n (pc' := 359) 3 rfl ?_
  refine Wp.iaddN (x := i) (y := 2) (len := 1) rfl ?_
  refine Wp.ialdN (j := i + 2) (len := 1) rfl (s1) rfl (by omega) (by omega) ?_
  refine Wp.callV (len := 3) rfl rfl rfl ((cset_o (by omega)).trans hDo) rfl (by decide) rfl (Wp.mono (k_road hC1.1 hC1.2.2.2.1 _ _) (fun v M' r => CR_s hC1 r)) ?_
  rintro _ _ ⟨rfl, M2, κ2, rfl, hC2, e2⟩
  rw [ms_ab e2]
  have s2 : mset (cset M2 κ2) σ 2 = .inl (7, L, .inl xs) := (if_pos (by decide)).trans ((cset_o (by omega)).trans ((e2 2 (by omega)).trans ((if_pos (by decide)).trans h2)))
  refine Wp.n (pc' := 369) 5 rfl ?_
  refine Wp.iaddN (x := i) (y := 1) (len := 1) rfl ?_
  refine Wp.ialdN (j := i + 1) (len := 1) rfl (s2) rfl (by omega) (by omega) ?_
  refine Wp.n (pc' := 374) 3 rfl ?_
  refine Wp.iaddN (x := i) (y := 2) (len := 1) rfl ?_
  refine Wp.ialdN (j := i + 2) (len := 1) rfl (s2) rfl (by omega) (by omega) ?_
  refine Wp.callV (len := 3) rfl rfl rfl (rfl) rfl (by decide) rfl (Wp.mono (m_road hM.1 _ _) (fun v M' r => MQ_s hM r)) ?_
  rintro _ _ ⟨rfl, σ2, rfl, hM2⟩
  refine Wp.n (pc' := 1763) 2 rfl ?_
  exact kk M2 κ2 σ2 _ hC2 hM2 (hZ) (fun q hq => (e2 q (Or.inl hq)).trans (if_pos (by omega)))
theorem L_way (hi : i + 6 ≤ L) (hL : L ≤ 3072) (h2 : M 2 = .inl (7, L, .inl xs)) (hC : CI M κ Z) (hM : MI σ Z) (hZ : ZG Z) (kk : LK M i Q) : Wp 60 md_263 383 [some (.ref 2), some (.ref 32), some (.ref 287), some (.int (nI i))] [] (mset (cset M κ) σ) Q := by
  obtain ⟨K, I, S, T, f⟩ := Z
  rw [ms_cs]
  have hC1 := CI_ms (σ := σ) hC
  obtain ⟨ow, hDo⟩ := hC1.1.1
  have s1 : cset (mset M σ) κ 2 = .inl (7, L, .inl xs) := (cset_o (by omega)).trans ((if_pos (by decide)).trans h2)
  refine Wp.n (pc' := 387) 4 rfl ?_
  refine Wp.iaddN (x := i) (y := 1) (len := 1) rfl ?_
  refine Wp.ialdN (j := i + 1) (len := 1) rfl (s1) rfl (by omega) (by omega) ?_
  refine Wp.n (pc' := 392) 3 rfl ?_
  refine Wp.iaddN (x := i) (y := 2) (len := 1) rfl ?_
  refine Wp.ialdN (j := i + 2) (len := 1) rfl (s1) rfl (by omega) (by omega) ?_
  refine Wp.n (pc' := 397) 3 rfl ?_
  refine Wp.iaddN (x := i) (y := 3) (len := 1) rfl ?_
  refine Wp.ialdN (j := i + 3) (len := 1) rfl (s1) rfl (by omega) (by omega) ?_
  refine Wp.callV (len := 3) rfl rfl rfl ((cset_o (by omega)).trans hDo) rfl (by decide) rfl (Wp.mono (k_way hC1.1 hC1.2.2.2.1 _ _ _) (fun v M' r => CR_s hC1 r)) ?_
  rintro _ _ ⟨rfl, M2, κ2, rfl, hC2, e2⟩
  rw [ms_ab e2]
  have s2 : mset (cset M2 κ2) σ 2 = .inl (7, L, .inl xs) := (if_pos (by decide)).trans ((cset_o (by omega)).trans ((e2 2 (by omega)).trans ((if_pos (by decide)).trans h2)))
  refine Wp.n (pc' := 407) 5 rfl ?_
  refine Wp.iaddN (x := i) (y := 1) (len := 1) rfl ?_
  refine Wp.ialdN (j := i + 1) (len := 1) rfl (s2) rfl (by omega) (by omega) ?_
  refine Wp.n (pc' := 412) 3 rfl ?_
  refine Wp.iaddN (x := i) (y := 2) (len := 1) rfl ?_
  refine Wp.ialdN (j := i + 2) (len := 1) rfl (s2) rfl (by omega) (by omega) ?_
  refine Wp.n (pc' := 417) 3 rfl ?_
  refine Wp.iaddN (x := i) (y := 3) (len := 1) rfl ?_
  refine Wp.ialdN (j := i + 3) (len := 1) rfl (s2) rfl (by omega) (by omega) ?_
  refine Wp.callV (len := 3) rfl rfl rfl (rfl) rfl (by decide) rfl (Wp.mono (m_wayQ hM.1 _ _ _) (fun v M' r => MQ_s hM r)) ?_
  rintro _ _ ⟨rfl, σ2, rfl, hM2⟩
  refine Wp.n (pc' := 1763) 2 rfl ?_
  exact kk M2 κ2 σ2 _ hC2 hM2 (hZ) (fun q hq => (e2 q (Or.inl hq)).trans (if_pos (by omega)))
theorem L_open (hi : i + 6 ≤ L) (hL : L ≤ 3072) (h2 : M 2 = .inl (7, L, .inl xs)) (hC : CI M κ Z) (hM : MI σ Z) (hZ : ZG Z) (kk : LK M i Q) : Wp 60 md_263 426 [some (.ref 2), some (.ref 32), some (.ref 287), some (.int (nI i))] [] (mset (cset M κ) σ) Q := by
  obtain ⟨K, I, S, T, f⟩ := Z
  rw [ms_cs]
  have hC1 := CI_ms (σ := σ) hC
  obtain ⟨ow, hDo⟩ := hC1.1.1
  have s1 : cset (mset M σ) κ 2 = .inl (7, L, .inl xs) := (cset_o (by omega)).trans ((if_pos (by decide)).trans h2)
  refine Wp.n (pc' := 430) 4 rfl ?_
  refine Wp.iaddN (x := i) (y := 1) (len := 1) rfl ?_
  refine Wp.ialdN (j := i + 1) (len := 1) rfl (s1) rfl (by omega) (by omega) ?_
  refine Wp.n (pc' := 435) 3 rfl ?_
  refine Wp.iaddN (x := i) (y := 2) (len := 1) rfl ?_
  refine Wp.ialdN (j := i + 2) (len := 1) rfl (s1) rfl (by omega) (by omega) ?_
  refine Wp.callV (len := 3) rfl rfl rfl ((cset_o (by omega)).trans hDo) rfl (by decide) rfl (Wp.mono (k_open hC1.1 hC1.2.2.2.1 hZ.1.1 _ _) (fun v M' r => CR_s hC1 r)) ?_
  rintro _ _ ⟨rfl, M2, κ2, rfl, hC2, e2⟩
  rw [ms_ab e2]
  have s2 : mset (cset M2 κ2) σ 2 = .inl (7, L, .inl xs) := (if_pos (by decide)).trans ((cset_o (by omega)).trans ((e2 2 (by omega)).trans ((if_pos (by decide)).trans h2)))
  refine Wp.n (pc' := 445) 5 rfl ?_
  refine Wp.iaddN (x := i) (y := 1) (len := 1) rfl ?_
  refine Wp.ialdN (j := i + 1) (len := 1) rfl (s2) rfl (by omega) (by omega) ?_
  refine Wp.n (pc' := 450) 3 rfl ?_
  refine Wp.iaddN (x := i) (y := 2) (len := 1) rfl ?_
  refine Wp.ialdN (j := i + 2) (len := 1) rfl (s2) rfl (by omega) (by omega) ?_
  refine Wp.callV (len := 3) rfl rfl rfl (rfl) rfl (by decide) rfl (Wp.mono (m_open hM.1 _ _) (fun v M' r => MQ_s hM r)) ?_
  rintro _ _ ⟨rfl, σ2, rfl, hM2⟩
  refine Wp.n (pc' := 1763) 2 rfl ?_
  exact kk M2 κ2 σ2 _ hC2 hM2 (hZ) (fun q hq => (e2 q (Or.inl hq)).trans (if_pos (by omega)))
theorem L_joins (hi : i + 6 ≤ L) (hL : L ≤ 3072) (h2 : M 2 = .inl (7, L, .inl xs)) (hC : CI M κ Z) (hM : MI σ Z) (hZ : ZG Z) (kk : LK M i Q) : Wp 60 md_263 459 [some (.ref 2), some (.ref 32), some (.ref 287), some (.int (nI i))] [] (mset (cset M κ) σ) Q := by
  obtain ⟨K, I, S, T, f⟩ := Z
  rw [ms_cs]
  have hC1 := CI_ms (σ := σ) hC
  obtain ⟨ow, hDo⟩ := hC1.1.1
  have s1 : cset (mset M σ) κ 2 = .inl (7, L, .inl xs) := (cset_o (by omega)).trans ((if_pos (by decide)).trans h2)
  refine Wp.n (pc' := 463) 4 rfl ?_
  refine Wp.iaddN (x := i) (y := 1) (len := 1) rfl ?_
  refine Wp.ialdN (j := i + 1) (len := 1) rfl (s1) rfl (by omega) (by omega) ?_
  refine Wp.n (pc' := 468) 3 rfl ?_
  refine Wp.iaddN (x := i) (y := 2) (len := 1) rfl ?_
  refine Wp.ialdN (j := i + 2) (len := 1) rfl (s1) rfl (by omega) (by omega) ?_
  refine Wp.n (pc' := 473) 3 rfl ?_
  refine Wp.iaddN (x := i) (y := 3) (len := 1) rfl ?_
  refine Wp.ialdN (j := i + 3) (len := 1) rfl (s1) rfl (by omega) (by omega) ?_
  refine Wp.callV (len := 3) rfl rfl rfl ((cset_o (by omega)).trans hDo) rfl (by decide) rfl (Wp.mono (k_joins hC1.1 hC1.2.2.2.1 hZ.1.1 _ _ _) (fun v M' r => CR_s hC1 r)) ?_
  rintro _ _ ⟨rfl, M2, κ2, rfl, hC2, e2⟩
  rw [ms_ab e2]
  have s2 : mset (cset M2 κ2) σ 2 = .inl (7, L, .inl xs) := (if_pos (by decide)).trans ((cset_o (by omega)).trans ((e2 2 (by omega)).trans ((if_pos (by decide)).trans h2)))
  refine Wp.n (pc' := 483) 5 rfl ?_
  refine Wp.iaddN (x := i) (y := 1) (len := 1) rfl ?_
  refine Wp.ialdN (j := i + 1) (len := 1) rfl (s2) rfl (by omega) (by omega) ?_
  refine Wp.n (pc' := 488) 3 rfl ?_
  refine Wp.iaddN (x := i) (y := 2) (len := 1) rfl ?_
  refine Wp.ialdN (j := i + 2) (len := 1) rfl (s2) rfl (by omega) (by omega) ?_
  refine Wp.n (pc' := 493) 3 rfl ?_
  refine Wp.iaddN (x := i) (y := 3) (len := 1) rfl ?_
  refine Wp.ialdN (j := i + 3) (len := 1) rfl (s2) rfl (by omega) (by omega) ?_
  refine Wp.callV (len := 3) rfl rfl rfl (rfl) rfl (by decide) rfl (Wp.mono (m_joins hM.1 _ _ _) (fun v M' r => MQ_s hM r)) ?_
  rintro _ _ ⟨rfl, σ2, rfl, hM2⟩
  refine Wp.n (pc' := 1763) 2 rfl ?_
  exact kk M2 κ2 σ2 _ hC2 hM2 (hZ) (fun q hq => (e2 q (Or.inl hq)).trans (if_pos (by omega)))
theorem L_walk (hi : i + 6 ≤ L) (hL : L ≤ 3072) (h2 : M 2 = .inl (7, L, .inl xs)) (hC : CI M κ Z) (hM : MI σ Z) (hZ : ZG Z) (kk : LK M i Q) : Wp 60 md_263 502 [some (.ref 2), some (.ref 32), some (.ref 287), some (.int (nI i))] [] (mset (cset M κ) σ) Q := by
  obtain ⟨K, I, S, T, f⟩ := Z
  rw [ms_cs]
  have hC1 := CI_ms (σ := σ) hC
  obtain ⟨ow, hDo⟩ := hC1.1.1
  have s1 : cset (mset M σ) κ 2 = .inl (7, L, .inl xs) := (cset_o (by omega)).trans ((if_pos (by decide)).trans h2)
  refine Wp.n (pc' := 506) 4 rfl ?_
  refine Wp.iaddN (x := i) (y := 1) (len := 1) rfl ?_
  refine Wp.ialdN (j := i + 1) (len := 1) rfl (s1) rfl (by omega) (by omega) ?_
  refine Wp.n (pc' := 511) 3 rfl ?_
  refine Wp.iaddN (x := i) (y := 2) (len := 1) rfl ?_
  refine Wp.ialdN (j := i + 2) (len := 1) rfl (s1) rfl (by omega) (by omega) ?_
  refine Wp.callV (len := 3) rfl rfl rfl ((cset_o (by omega)).trans hDo) rfl (by decide) rfl (Wp.mono (k_walk hC1.1 hC1.2.2.2.1 _ _) (fun v M' r => CR_s hC1 r)) ?_
  rintro _ _ ⟨rfl, M2, κ2, rfl, hC2, e2⟩
  rw [ms_ab e2]
  have s2 : mset (cset M2 κ2) σ 2 = .inl (7, L, .inl xs) := (if_pos (by decide)).trans ((cset_o (by omega)).trans ((e2 2 (by omega)).trans ((if_pos (by decide)).trans h2)))
  refine Wp.n (pc' := 521) 5 rfl ?_
  refine Wp.iaddN (x := i) (y := 1) (len := 1) rfl ?_
  refine Wp.ialdN (j := i + 1) (len := 1) rfl (s2) rfl (by omega) (by omega) ?_
  refine Wp.n (pc' := 526) 3 rfl ?_
  refine Wp.iaddN (x := i) (y := 2) (len := 1) rfl ?_
  refine Wp.ialdN (j := i + 2) (len := 1) rfl (s2) rfl (by omega) (by omega) ?_
  refine Wp.callV (len := 3) rfl rfl rfl (rfl) rfl (by decide) rfl (Wp.mono (m_walk hM.1 _ _) (fun v M' r => MQ_s hM r)) ?_
  rintro _ _ ⟨rfl, σ2, rfl, hM2⟩
  refine Wp.n (pc' := 1763) 2 rfl ?_
  exact kk M2 κ2 σ2 _ hC2 hM2 (hZ) (fun q hq => (e2 q (Or.inl hq)).trans (if_pos (by omega)))
theorem L_unlawful (hi : i + 6 ≤ L) (hL : L ≤ 3072) (h2 : M 2 = .inl (7, L, .inl xs)) (hC : CI M κ Z) (hM : MI σ Z) (hZ : ZG Z) (kk : LK M i Q) : Wp 60 md_263 535 [some (.ref 2), some (.ref 32), some (.ref 287), some (.int (nI i))] [] (mset (cset M κ) σ) Q := by
  obtain ⟨K, I, S, T, f⟩ := Z
  rw [ms_cs]
  have hC1 := CI_ms (σ := σ) hC
  obtain ⟨ow, hDo⟩ := hC1.1.1
  have s1 : cset (mset M σ) κ 2 = .inl (7, L, .inl xs) := (cset_o (by omega)).trans ((if_pos (by decide)).trans h2)
  refine Wp.n (pc' := 536) 1 rfl ?_
  refine Wp.callV (len := 3) rfl rfl rfl ((cset_o (by omega)).trans hDo) rfl (by decide) rfl (Wp.mono (k_unlawful hC1.1 hC1.2.2.2.1) (fun v M' r => CR_s hC1 r)) ?_
  rintro _ _ ⟨rfl, M2, κ2, rfl, hC2, e2⟩
  rw [ms_ab e2]
  have s2 : mset (cset M2 κ2) σ 2 = .inl (7, L, .inl xs) := (if_pos (by decide)).trans ((cset_o (by omega)).trans ((e2 2 (by omega)).trans ((if_pos (by decide)).trans h2)))
  refine Wp.n (pc' := 541) 2 rfl ?_
  refine Wp.callV (len := 3) rfl rfl rfl (rfl) rfl (by decide) rfl (Wp.mono (m_unlawful hM.1) (fun v M' r => MQ_s hM r)) ?_
  rintro _ _ ⟨rfl, σ2, rfl, hM2⟩
  refine Wp.n (pc' := 1763) 2 rfl ?_
  exact kk M2 κ2 σ2 _ hC2 hM2 (hZ) (fun q hq => (e2 q (Or.inl hq)).trans (if_pos (by omega)))
theorem L_steps (hi : i + 6 ≤ L) (hL : L ≤ 3072) (h2 : M 2 = .inl (7, L, .inl xs)) (hC : CI M κ Z) (hM : MI σ Z) (hZ : ZG Z) (kk : LK M i Q) : Wp 60 md_263 548 [some (.ref 2), some (.ref 32), some (.ref 287), some (.int (nI i))] [] (mset (cset M κ) σ) Q := by
  obtain ⟨K, I, S, T, f⟩ := Z
  rw [ms_cs]
  have hC1 := CI_ms (σ := σ) hC
  obtain ⟨ow, hDo⟩ := hC1.1.1
  have s1 : cset (mset M σ) κ 2 = .inl (7, L, .inl xs) := (cset_o (by omega)).trans ((if_pos (by decide)).trans h2)
  refine Wp.n (pc' := 552) 4 rfl ?_
  refine Wp.iaddN (x := i) (y := 1) (len := 1) rfl ?_
  refine Wp.ialdN (j := i + 1) (len := 1) rfl (s1) rfl (by omega) (by omega) ?_
  refine Wp.callV (len := 3) rfl rfl rfl ((cset_o (by omega)).trans hDo) rfl (by decide) rfl (Wp.mono (k_steps hC1.1 hC1.2.2.2.1 _) (fun v M' r => CR_s hC1 r)) ?_
  rintro _ _ ⟨rfl, M2, κ2, rfl, hC2, e2⟩
  rw [ms_ab e2]
  have s2 : mset (cset M2 κ2) σ 2 = .inl (7, L, .inl xs) := (if_pos (by decide)).trans ((cset_o (by omega)).trans ((e2 2 (by omega)).trans ((if_pos (by decide)).trans h2)))
  refine Wp.n (pc' := 562) 5 rfl ?_
  refine Wp.iaddN (x := i) (y := 1) (len := 1) rfl ?_
  refine Wp.ialdN (j := i + 1) (len := 1) rfl (s2) rfl (by omega) (by omega) ?_
  refine Wp.callV (len := 3) rfl rfl rfl (rfl) rfl (by decide) rfl (Wp.mono (m_steps hM.1 _) (fun v M' r => MQ_s hM r)) ?_
  rintro _ _ ⟨rfl, σ2, rfl, hM2⟩
  refine Wp.n (pc' := 1763) 2 rfl ?_
  exact kk M2 κ2 σ2 _ hC2 hM2 (hZ) (fun q hq => (e2 q (Or.inl hq)).trans (if_pos (by omega)))
theorem L_length (hi : i + 6 ≤ L) (hL : L ≤ 3072) (h2 : M 2 = .inl (7, L, .inl xs)) (hC : CI M κ Z) (hM : MI σ Z) (hZ : ZG Z) (kk : LK M i Q) : Wp 60 md_263 571 [some (.ref 2), some (.ref 32), some (.ref 287), some (.int (nI i))] [] (mset (cset M κ) σ) Q := by
  obtain ⟨K, I, S, T, f⟩ := Z
  rw [ms_cs]
  have hC1 := CI_ms (σ := σ) hC
  obtain ⟨ow, hDo⟩ := hC1.1.1
  have s1 : cset (mset M σ) κ 2 = .inl (7, L, .inl xs) := (cset_o (by omega)).trans ((if_pos (by decide)).trans h2)
  refine Wp.n (pc' := 575) 4 rfl ?_
  refine Wp.iaddN (x := i) (y := 1) (len := 1) rfl ?_
  refine Wp.ialdN (j := i + 1) (len := 1) rfl (s1) rfl (by omega) (by omega) ?_
  refine Wp.callV (len := 3) rfl rfl rfl ((cset_o (by omega)).trans hDo) rfl (by decide) rfl (Wp.mono (k_length hC1.1 hC1.2.2.2.1 hZ.1.1 _) (fun v M' r => CR_s hC1 r)) ?_
  rintro _ _ ⟨rfl, M2, κ2, rfl, hC2, e2⟩
  rw [ms_ab e2]
  have s2 : mset (cset M2 κ2) σ 2 = .inl (7, L, .inl xs) := (if_pos (by decide)).trans ((cset_o (by omega)).trans ((e2 2 (by omega)).trans ((if_pos (by decide)).trans h2)))
  refine Wp.n (pc' := 585) 5 rfl ?_
  refine Wp.iaddN (x := i) (y := 1) (len := 1) rfl ?_
  refine Wp.ialdN (j := i + 1) (len := 1) rfl (s2) rfl (by omega) (by omega) ?_
  refine Wp.callV (len := 3) rfl rfl rfl (rfl) rfl (by decide) rfl (Wp.mono (m_length hM.1 _) (fun v M' r => MQ_s hM r)) ?_
  rintro _ _ ⟨rfl, σ2, rfl, hM2⟩
  refine Wp.n (pc' := 1763) 2 rfl ?_
  exact kk M2 κ2 σ2 _ hC2 hM2 (hZ) (fun q hq => (e2 q (Or.inl hq)).trans (if_pos (by omega)))
theorem L_saved (hi : i + 6 ≤ L) (hL : L ≤ 3072) (h2 : M 2 = .inl (7, L, .inl xs)) (hC : CI M κ Z) (hM : MI σ Z) (hZ : ZG Z) (kk : LK M i Q) : Wp 60 md_263 594 [some (.ref 2), some (.ref 32), some (.ref 287), some (.int (nI i))] [] (mset (cset M κ) σ) Q := by
  obtain ⟨K, I, S, T, f⟩ := Z
  rw [ms_cs]
  have hC1 := CI_ms (σ := σ) hC
  obtain ⟨ow, hDo⟩ := hC1.1.1
  have s1 : cset (mset M σ) κ 2 = .inl (7, L, .inl xs) := (cset_o (by omega)).trans ((if_pos (by decide)).trans h2)
  refine Wp.n (pc' := 598) 4 rfl ?_
  refine Wp.iaddN (x := i) (y := 1) (len := 1) rfl ?_
  refine Wp.ialdN (j := i + 1) (len := 1) rfl (s1) rfl (by omega) (by omega) ?_
  refine Wp.callV (len := 3) rfl rfl rfl ((cset_o (by omega)).trans hDo) rfl (by decide) rfl (Wp.mono (k_saved hC1.1 hC1.2.2.2.1 hZ.1.1 _) (fun v M' r => CR_s hC1 r)) ?_
  rintro _ _ ⟨rfl, M2, κ2, rfl, hC2, e2⟩
  rw [ms_ab e2]
  have s2 : mset (cset M2 κ2) σ 2 = .inl (7, L, .inl xs) := (if_pos (by decide)).trans ((cset_o (by omega)).trans ((e2 2 (by omega)).trans ((if_pos (by decide)).trans h2)))
  refine Wp.n (pc' := 608) 5 rfl ?_
  refine Wp.iaddN (x := i) (y := 1) (len := 1) rfl ?_
  refine Wp.ialdN (j := i + 1) (len := 1) rfl (s2) rfl (by omega) (by omega) ?_
  refine Wp.callV (len := 3) rfl rfl rfl (rfl) rfl (by decide) rfl (Wp.mono (m_saved hM.1 _) (fun v M' r => MQ_s hM r)) ?_
  rintro _ _ ⟨rfl, σ2, rfl, hM2⟩
  refine Wp.n (pc' := 1763) 2 rfl ?_
  exact kk M2 κ2 σ2 _ hC2 hM2 (hZ) (fun q hq => (e2 q (Or.inl hq)).trans (if_pos (by omega)))
theorem L_duty (hi : i + 6 ≤ L) (hL : L ≤ 3072) (h2 : M 2 = .inl (7, L, .inl xs)) (hC : CI M κ Z) (hM : MI σ Z) (hZ : ZG Z) (kk : LK M i Q) : Wp 60 md_263 617 [some (.ref 2), some (.ref 32), some (.ref 287), some (.int (nI i))] [] (mset (cset M κ) σ) Q := by
  obtain ⟨K, I, S, T, f⟩ := Z
  rw [ms_cs]
  have hC1 := CI_ms (σ := σ) hC
  obtain ⟨ow, hDo⟩ := hC1.1.1
  have s1 : cset (mset M σ) κ 2 = .inl (7, L, .inl xs) := (cset_o (by omega)).trans ((if_pos (by decide)).trans h2)
  refine Wp.n (pc' := 621) 4 rfl ?_
  refine Wp.iaddN (x := i) (y := 1) (len := 1) rfl ?_
  refine Wp.ialdN (j := i + 1) (len := 1) rfl (s1) rfl (by omega) (by omega) ?_
  refine Wp.callV (len := 3) rfl rfl rfl ((cset_o (by omega)).trans hDo) rfl (by decide) rfl (Wp.mono (k_duty hC1.1 hC1.2.2.2.1 hZ.1.1 _) (fun v M' r => CR_s hC1 r)) ?_
  rintro _ _ ⟨rfl, M2, κ2, rfl, hC2, e2⟩
  rw [ms_ab e2]
  have s2 : mset (cset M2 κ2) σ 2 = .inl (7, L, .inl xs) := (if_pos (by decide)).trans ((cset_o (by omega)).trans ((e2 2 (by omega)).trans ((if_pos (by decide)).trans h2)))
  refine Wp.n (pc' := 631) 5 rfl ?_
  refine Wp.iaddN (x := i) (y := 1) (len := 1) rfl ?_
  refine Wp.ialdN (j := i + 1) (len := 1) rfl (s2) rfl (by omega) (by omega) ?_
  refine Wp.callV (len := 3) rfl rfl rfl (rfl) rfl (by decide) rfl (Wp.mono (m_duty hM.1 _) (fun v M' r => MQ_s hM r)) ?_
  rintro _ _ ⟨rfl, σ2, rfl, hM2⟩
  refine Wp.n (pc' := 1763) 2 rfl ?_
  exact kk M2 κ2 σ2 _ hC2 hM2 (hZ) (fun q hq => (e2 q (Or.inl hq)).trans (if_pos (by omega)))
theorem L_lanes (hi : i + 6 ≤ L) (hL : L ≤ 3072) (h2 : M 2 = .inl (7, L, .inl xs)) (hC : CI M κ Z) (hM : MI σ Z) (hZ : ZG Z) (kk : LK M i Q) : Wp 60 md_263 640 [some (.ref 2), some (.ref 32), some (.ref 287), some (.int (nI i))] [] (mset (cset M κ) σ) Q := by
  obtain ⟨K, I, S, T, f⟩ := Z
  rw [ms_cs]
  have hC1 := CI_ms (σ := σ) hC
  obtain ⟨ow, hDo⟩ := hC1.1.1
  have s1 : cset (mset M σ) κ 2 = .inl (7, L, .inl xs) := (cset_o (by omega)).trans ((if_pos (by decide)).trans h2)
  refine Wp.n (pc' := 644) 4 rfl ?_
  refine Wp.iaddN (x := i) (y := 1) (len := 1) rfl ?_
  refine Wp.ialdN (j := i + 1) (len := 1) rfl (s1) rfl (by omega) (by omega) ?_
  refine Wp.callV (len := 3) rfl rfl rfl ((cset_o (by omega)).trans hDo) rfl (by decide) rfl (Wp.mono (k_lanes hC1.1 hC1.2.2.2.1 hZ.1.1 _) (fun v M' r => CR_s hC1 r)) ?_
  rintro _ _ ⟨rfl, M2, κ2, rfl, hC2, e2⟩
  rw [ms_ab e2]
  have s2 : mset (cset M2 κ2) σ 2 = .inl (7, L, .inl xs) := (if_pos (by decide)).trans ((cset_o (by omega)).trans ((e2 2 (by omega)).trans ((if_pos (by decide)).trans h2)))
  refine Wp.n (pc' := 654) 5 rfl ?_
  refine Wp.iaddN (x := i) (y := 1) (len := 1) rfl ?_
  refine Wp.ialdN (j := i + 1) (len := 1) rfl (s2) rfl (by omega) (by omega) ?_
  refine Wp.callV (len := 3) rfl rfl rfl (rfl) rfl (by decide) rfl (Wp.mono (m_lanes hM.1 _) (fun v M' r => MQ_s hM r)) ?_
  rintro _ _ ⟨rfl, σ2, rfl, hM2⟩
  refine Wp.n (pc' := 1763) 2 rfl ?_
  exact kk M2 κ2 σ2 _ hC2 hM2 (hZ) (fun q hq => (e2 q (Or.inl hq)).trans (if_pos (by omega)))
end LCA
end
section
/-! THE LAW: its cases, b. -/
section LCB
variable {L i : Nat} {xs : Nat → Int32} {M : AM} {κ : CS} {σ : MS} {Z : Zt} {Q : Option Value → AM → Prop}
theorem L_owes (hi : i + 6 ≤ L) (hL : L ≤ 3072) (h2 : M 2 = .inl (7, L, .inl xs)) (hC : CI M κ Z) (hM : MI σ Z) (hZ : ZG Z) (kk : LK M i Q) : Wp 60 md_263 663 [some (.ref 2), some (.ref 32), some (.ref 287), some (.int (nI i))] [] (mset (cset M κ) σ) Q := by
  obtain ⟨K, I, S, T, f⟩ := Z
  rw [ms_cs]
  have hC1 := CI_ms (σ := σ) hC
  obtain ⟨ow, hDo⟩ := hC1.1.1
  have s1 : cset (mset M σ) κ 2 = .inl (7, L, .inl xs) := (cset_o (by omega)).trans ((if_pos (by decide)).trans h2)
  refine Wp.n (pc' := 667) 4 rfl ?_
  refine Wp.iaddN (x := i) (y := 1) (len := 1) rfl ?_
  refine Wp.ialdN (j := i + 1) (len := 1) rfl (s1) rfl (by omega) (by omega) ?_
  refine Wp.callV (len := 3) rfl rfl rfl ((cset_o (by omega)).trans hDo) rfl (by decide) rfl (Wp.mono (k_owes hC1.1 hC1.2.2.2.1 _) (fun v M' r => CR_s hC1 r)) ?_
  rintro _ _ ⟨rfl, M2, κ2, rfl, hC2, e2⟩
  rw [ms_ab e2]
  have s2 : mset (cset M2 κ2) σ 2 = .inl (7, L, .inl xs) := (if_pos (by decide)).trans ((cset_o (by omega)).trans ((e2 2 (by omega)).trans ((if_pos (by decide)).trans h2)))
  refine Wp.n (pc' := 677) 5 rfl ?_
  refine Wp.iaddN (x := i) (y := 1) (len := 1) rfl ?_
  refine Wp.ialdN (j := i + 1) (len := 1) rfl (s2) rfl (by omega) (by omega) ?_
  refine Wp.callV (len := 3) rfl rfl rfl (rfl) rfl (by decide) rfl (Wp.mono (m_owes hM.1 _) (fun v M' r => MQ_s hM r)) ?_
  rintro _ _ ⟨rfl, σ2, rfl, hM2⟩
  refine Wp.n (pc' := 1763) 2 rfl ?_
  exact kk M2 κ2 σ2 _ hC2 hM2 (hZ) (fun q hq => (e2 q (Or.inl hq)).trans (if_pos (by omega)))
theorem L_takings (hi : i + 6 ≤ L) (hL : L ≤ 3072) (h2 : M 2 = .inl (7, L, .inl xs)) (hC : CI M κ Z) (hM : MI σ Z) (hZ : ZG Z) (kk : LK M i Q) : Wp 60 md_263 686 [some (.ref 2), some (.ref 32), some (.ref 287), some (.int (nI i))] [] (mset (cset M κ) σ) Q := by
  obtain ⟨K, I, S, T, f⟩ := Z
  rw [ms_cs]
  have hC1 := CI_ms (σ := σ) hC
  obtain ⟨ow, hDo⟩ := hC1.1.1
  have s1 : cset (mset M σ) κ 2 = .inl (7, L, .inl xs) := (cset_o (by omega)).trans ((if_pos (by decide)).trans h2)
  refine Wp.n (pc' := 690) 4 rfl ?_
  refine Wp.iaddN (x := i) (y := 1) (len := 1) rfl ?_
  refine Wp.ialdN (j := i + 1) (len := 1) rfl (s1) rfl (by omega) (by omega) ?_
  refine Wp.callV (len := 3) rfl rfl rfl ((cset_o (by omega)).trans hDo) rfl (by decide) rfl (Wp.mono (k_takings hC1.1 hC1.2.2.2.1 _) (fun v M' r => CR_s hC1 r)) ?_
  rintro _ _ ⟨rfl, M2, κ2, rfl, hC2, e2⟩
  rw [ms_ab e2]
  have s2 : mset (cset M2 κ2) σ 2 = .inl (7, L, .inl xs) := (if_pos (by decide)).trans ((cset_o (by omega)).trans ((e2 2 (by omega)).trans ((if_pos (by decide)).trans h2)))
  refine Wp.n (pc' := 700) 5 rfl ?_
  refine Wp.iaddN (x := i) (y := 1) (len := 1) rfl ?_
  refine Wp.ialdN (j := i + 1) (len := 1) rfl (s2) rfl (by omega) (by omega) ?_
  refine Wp.callV (len := 3) rfl rfl rfl (rfl) rfl (by decide) rfl (Wp.mono (m_takings hM.1 _) (fun v M' r => MQ_s hM r)) ?_
  rintro _ _ ⟨rfl, σ2, rfl, hM2⟩
  refine Wp.n (pc' := 1763) 2 rfl ?_
  exact kk M2 κ2 σ2 _ hC2 hM2 (hZ) (fun q hq => (e2 q (Or.inl hq)).trans (if_pos (by omega)))
theorem L_chance (hi : i + 6 ≤ L) (hL : L ≤ 3072) (h2 : M 2 = .inl (7, L, .inl xs)) (hC : CI M κ Z) (hM : MI σ Z) (hZ : ZG Z) (kk : LK M i Q) : Wp 60 md_263 709 [some (.ref 2), some (.ref 32), some (.ref 287), some (.int (nI i))] [] (mset (cset M κ) σ) Q := by
  obtain ⟨K, I, S, T, f⟩ := Z
  rw [ms_cs]
  have hC1 := CI_ms (σ := σ) hC
  obtain ⟨ow, hDo⟩ := hC1.1.1
  have s1 : cset (mset M σ) κ 2 = .inl (7, L, .inl xs) := (cset_o (by omega)).trans ((if_pos (by decide)).trans h2)
  refine Wp.n (pc' := 713) 4 rfl ?_
  refine Wp.iaddN (x := i) (y := 1) (len := 1) rfl ?_
  refine Wp.ialdN (j := i + 1) (len := 1) rfl (s1) rfl (by omega) (by omega) ?_
  refine Wp.n (pc' := 718) 3 rfl ?_
  refine Wp.iaddN (x := i) (y := 2) (len := 1) rfl ?_
  refine Wp.ialdN (j := i + 2) (len := 1) rfl (s1) rfl (by omega) (by omega) ?_
  refine Wp.callV (len := 3) rfl rfl rfl ((cset_o (by omega)).trans hDo) rfl (by decide) rfl (Wp.mono (k_chance hC1.1 hC1.2.2.2.1 _ _) (fun v M' r => CR_j hC1 r)) ?_
  rintro _ _ ⟨rfl, M2, κ2, rfl, hC2, e2⟩
  rw [ms_ab e2]
  have s2 : mset (cset M2 κ2) σ 2 = .inl (7, L, .inl xs) := (if_pos (by decide)).trans ((cset_o (by omega)).trans ((e2 2 (by omega)).trans ((if_pos (by decide)).trans h2)))
  refine Wp.n (pc' := 728) 5 rfl ?_
  refine Wp.iaddN (x := i) (y := 1) (len := 1) rfl ?_
  refine Wp.ialdN (j := i + 1) (len := 1) rfl (s2) rfl (by omega) (by omega) ?_
  refine Wp.n (pc' := 733) 3 rfl ?_
  refine Wp.iaddN (x := i) (y := 2) (len := 1) rfl ?_
  refine Wp.ialdN (j := i + 2) (len := 1) rfl (s2) rfl (by omega) (by omega) ?_
  refine Wp.callV (len := 3) rfl rfl rfl (rfl) rfl (by decide) rfl (Wp.mono (m_chance hM.1 _ _) (fun v M' r => MQ_j hM r)) ?_
  rintro _ _ ⟨rfl, σ2, rfl, hM2⟩
  refine Wp.n (pc' := 1763) 2 rfl ?_
  exact kk M2 κ2 σ2 _ hC2 hM2 (hZ) (fun q hq => (e2 q (Or.inl hq)).trans (if_pos (by omega)))
theorem L_hope (hi : i + 6 ≤ L) (hL : L ≤ 3072) (h2 : M 2 = .inl (7, L, .inl xs)) (hC : CI M κ Z) (hM : MI σ Z) (hZ : ZG Z) (kk : LK M i Q) : Wp 60 md_263 742 [some (.ref 2), some (.ref 32), some (.ref 287), some (.int (nI i))] [] (mset (cset M κ) σ) Q := by
  obtain ⟨K, I, S, T, f⟩ := Z
  rw [ms_cs]
  have hC1 := CI_ms (σ := σ) hC
  obtain ⟨ow, hDo⟩ := hC1.1.1
  have s1 : cset (mset M σ) κ 2 = .inl (7, L, .inl xs) := (cset_o (by omega)).trans ((if_pos (by decide)).trans h2)
  refine Wp.n (pc' := 746) 4 rfl ?_
  refine Wp.iaddN (x := i) (y := 1) (len := 1) rfl ?_
  refine Wp.ialdN (j := i + 1) (len := 1) rfl (s1) rfl (by omega) (by omega) ?_
  refine Wp.n (pc' := 751) 3 rfl ?_
  refine Wp.iaddN (x := i) (y := 2) (len := 1) rfl ?_
  refine Wp.ialdN (j := i + 2) (len := 1) rfl (s1) rfl (by omega) (by omega) ?_
  refine Wp.callV (len := 3) rfl rfl rfl ((cset_o (by omega)).trans hDo) rfl (by decide) rfl (Wp.mono (k_hope hC1.1 hC1.2.2.2.1 _ _) (fun v M' r => CR_j hC1 r)) ?_
  rintro _ _ ⟨rfl, M2, κ2, rfl, hC2, e2⟩
  rw [ms_ab e2]
  have s2 : mset (cset M2 κ2) σ 2 = .inl (7, L, .inl xs) := (if_pos (by decide)).trans ((cset_o (by omega)).trans ((e2 2 (by omega)).trans ((if_pos (by decide)).trans h2)))
  refine Wp.n (pc' := 761) 5 rfl ?_
  refine Wp.iaddN (x := i) (y := 1) (len := 1) rfl ?_
  refine Wp.ialdN (j := i + 1) (len := 1) rfl (s2) rfl (by omega) (by omega) ?_
  refine Wp.n (pc' := 766) 3 rfl ?_
  refine Wp.iaddN (x := i) (y := 2) (len := 1) rfl ?_
  refine Wp.ialdN (j := i + 2) (len := 1) rfl (s2) rfl (by omega) (by omega) ?_
  refine Wp.callV (len := 3) rfl rfl rfl (rfl) rfl (by decide) rfl (Wp.mono (m_hope hM.1 _ _) (fun v M' r => MQ_j hM r)) ?_
  rintro _ _ ⟨rfl, σ2, rfl, hM2⟩
  refine Wp.n (pc' := 1763) 2 rfl ?_
  exact kk M2 κ2 σ2 _ hC2 hM2 (hZ) (fun q hq => (e2 q (Or.inl hq)).trans (if_pos (by omega)))
theorem L_shortest (hi : i + 6 ≤ L) (hL : L ≤ 3072) (h2 : M 2 = .inl (7, L, .inl xs)) (hC : CI M κ Z) (hM : MI σ Z) (hZ : ZG Z) (kk : LK M i Q) : Wp 60 md_263 775 [some (.ref 2), some (.ref 32), some (.ref 287), some (.int (nI i))] [] (mset (cset M κ) σ) Q := by
  obtain ⟨K, I, S, T, f⟩ := Z
  rw [ms_cs]
  have hC1 := CI_ms (σ := σ) hC
  obtain ⟨ow, hDo⟩ := hC1.1.1
  have s1 : cset (mset M σ) κ 2 = .inl (7, L, .inl xs) := (cset_o (by omega)).trans ((if_pos (by decide)).trans h2)
  refine Wp.n (pc' := 779) 4 rfl ?_
  refine Wp.iaddN (x := i) (y := 1) (len := 1) rfl ?_
  refine Wp.ialdN (j := i + 1) (len := 1) rfl (s1) rfl (by omega) (by omega) ?_
  refine Wp.n (pc' := 784) 3 rfl ?_
  refine Wp.iaddN (x := i) (y := 2) (len := 1) rfl ?_
  refine Wp.ialdN (j := i + 2) (len := 1) rfl (s1) rfl (by omega) (by omega) ?_
  refine Wp.n (pc' := 789) 3 rfl ?_
  refine Wp.iaddN (x := i) (y := 3) (len := 1) rfl ?_
  refine Wp.ialdN (j := i + 3) (len := 1) rfl (s1) rfl (by omega) (by omega) ?_
  refine Wp.callV (len := 3) rfl rfl rfl ((cset_o (by omega)).trans hDo) rfl (by decide) rfl (Wp.mono (k_shortest hC1.1 hC1.2.2.2.1 _ _ _) (fun v M' r => CR_s hC1 r)) ?_
  rintro _ _ ⟨rfl, M2, κ2, rfl, hC2, e2⟩
  rw [ms_ab e2]
  have s2 : mset (cset M2 κ2) σ 2 = .inl (7, L, .inl xs) := (if_pos (by decide)).trans ((cset_o (by omega)).trans ((e2 2 (by omega)).trans ((if_pos (by decide)).trans h2)))
  refine Wp.n (pc' := 799) 5 rfl ?_
  refine Wp.iaddN (x := i) (y := 1) (len := 1) rfl ?_
  refine Wp.ialdN (j := i + 1) (len := 1) rfl (s2) rfl (by omega) (by omega) ?_
  refine Wp.n (pc' := 804) 3 rfl ?_
  refine Wp.iaddN (x := i) (y := 2) (len := 1) rfl ?_
  refine Wp.ialdN (j := i + 2) (len := 1) rfl (s2) rfl (by omega) (by omega) ?_
  refine Wp.n (pc' := 809) 3 rfl ?_
  refine Wp.iaddN (x := i) (y := 3) (len := 1) rfl ?_
  refine Wp.ialdN (j := i + 3) (len := 1) rfl (s2) rfl (by omega) (by omega) ?_
  refine Wp.callV (len := 3) rfl rfl rfl (rfl) rfl (by decide) rfl (Wp.mono (m_shortest hM.1 _ _ _) (fun v M' r => MQ_s hM r)) ?_
  rintro _ _ ⟨rfl, σ2, rfl, hM2⟩
  refine Wp.n (pc' := 1763) 2 rfl ?_
  exact kk M2 κ2 σ2 _ hC2 hM2 (hZ) (fun q hq => (e2 q (Or.inl hq)).trans (if_pos (by omega)))
theorem L_hidden (hi : i + 6 ≤ L) (hL : L ≤ 3072) (h2 : M 2 = .inl (7, L, .inl xs)) (hC : CI M κ Z) (hM : MI σ Z) (hZ : ZG Z) (kk : LK M i Q) : Wp 60 md_263 818 [some (.ref 2), some (.ref 32), some (.ref 287), some (.int (nI i))] [] (mset (cset M κ) σ) Q := by
  obtain ⟨K, I, S, T, f⟩ := Z
  rw [ms_cs]
  have hC1 := CI_ms (σ := σ) hC
  obtain ⟨ow, hDo⟩ := hC1.1.1
  have s1 : cset (mset M σ) κ 2 = .inl (7, L, .inl xs) := (cset_o (by omega)).trans ((if_pos (by decide)).trans h2)
  refine Wp.n (pc' := 822) 4 rfl ?_
  refine Wp.iaddN (x := i) (y := 1) (len := 1) rfl ?_
  refine Wp.ialdN (j := i + 1) (len := 1) rfl (s1) rfl (by omega) (by omega) ?_
  refine Wp.n (pc' := 827) 3 rfl ?_
  refine Wp.iaddN (x := i) (y := 2) (len := 1) rfl ?_
  refine Wp.ialdN (j := i + 2) (len := 1) rfl (s1) rfl (by omega) (by omega) ?_
  refine Wp.n (pc' := 832) 3 rfl ?_
  refine Wp.iaddN (x := i) (y := 3) (len := 1) rfl ?_
  refine Wp.ialdN (j := i + 3) (len := 1) rfl (s1) rfl (by omega) (by omega) ?_
  refine Wp.callV (len := 3) rfl rfl rfl ((cset_o (by omega)).trans hDo) rfl (by decide) rfl (Wp.mono (k_hidden hC1.1 hC1.2.2.2.1 _ _ _) (fun v M' r => CR_s hC1 r)) ?_
  rintro _ _ ⟨rfl, M2, κ2, rfl, hC2, e2⟩
  rw [ms_ab e2]
  have s2 : mset (cset M2 κ2) σ 2 = .inl (7, L, .inl xs) := (if_pos (by decide)).trans ((cset_o (by omega)).trans ((e2 2 (by omega)).trans ((if_pos (by decide)).trans h2)))
  refine Wp.n (pc' := 842) 5 rfl ?_
  refine Wp.iaddN (x := i) (y := 1) (len := 1) rfl ?_
  refine Wp.ialdN (j := i + 1) (len := 1) rfl (s2) rfl (by omega) (by omega) ?_
  refine Wp.n (pc' := 847) 3 rfl ?_
  refine Wp.iaddN (x := i) (y := 2) (len := 1) rfl ?_
  refine Wp.ialdN (j := i + 2) (len := 1) rfl (s2) rfl (by omega) (by omega) ?_
  refine Wp.n (pc' := 852) 3 rfl ?_
  refine Wp.iaddN (x := i) (y := 3) (len := 1) rfl ?_
  refine Wp.ialdN (j := i + 3) (len := 1) rfl (s2) rfl (by omega) (by omega) ?_
  refine Wp.callV (len := 3) rfl rfl rfl (rfl) rfl (by decide) rfl (Wp.mono (m_hidden hM.1 _ _ _) (fun v M' r => MQ_s hM r)) ?_
  rintro _ _ ⟨rfl, σ2, rfl, hM2⟩
  refine Wp.n (pc' := 1763) 2 rfl ?_
  exact kk M2 κ2 σ2 _ hC2 hM2 (hZ) (fun q hq => (e2 q (Or.inl hq)).trans (if_pos (by omega)))
theorem L_best (hi : i + 6 ≤ L) (hL : L ≤ 3072) (h2 : M 2 = .inl (7, L, .inl xs)) (hC : CI M κ Z) (hM : MI σ Z) (hZ : ZG Z) (kk : LK M i Q) : Wp 60 md_263 861 [some (.ref 2), some (.ref 32), some (.ref 287), some (.int (nI i))] [] (mset (cset M κ) σ) Q := by
  obtain ⟨K, I, S, T, f⟩ := Z
  rw [ms_cs]
  have hC1 := CI_ms (σ := σ) hC
  obtain ⟨ow, hDo⟩ := hC1.1.1
  have s1 : cset (mset M σ) κ 2 = .inl (7, L, .inl xs) := (cset_o (by omega)).trans ((if_pos (by decide)).trans h2)
  refine Wp.n (pc' := 865) 4 rfl ?_
  refine Wp.iaddN (x := i) (y := 1) (len := 1) rfl ?_
  refine Wp.ialdN (j := i + 1) (len := 1) rfl (s1) rfl (by omega) (by omega) ?_
  refine Wp.n (pc' := 870) 3 rfl ?_
  refine Wp.iaddN (x := i) (y := 2) (len := 1) rfl ?_
  refine Wp.ialdN (j := i + 2) (len := 1) rfl (s1) rfl (by omega) (by omega) ?_
  refine Wp.n (pc' := 875) 3 rfl ?_
  refine Wp.iaddN (x := i) (y := 3) (len := 1) rfl ?_
  refine Wp.ialdN (j := i + 3) (len := 1) rfl (s1) rfl (by omega) (by omega) ?_
  refine Wp.n (pc' := 880) 3 rfl ?_
  refine Wp.iaddN (x := i) (y := 4) (len := 1) rfl ?_
  refine Wp.ialdN (j := i + 4) (len := 1) rfl (s1) rfl (by omega) (by omega) ?_
  refine Wp.n (pc' := 885) 3 rfl ?_
  refine Wp.iaddN (x := i) (y := 5) (len := 1) rfl ?_
  refine Wp.ialdN (j := i + 5) (len := 1) rfl (s1) rfl (by omega) (by omega) ?_
  refine Wp.callV (len := 3) rfl rfl rfl ((cset_o (by omega)).trans hDo) rfl (by decide) rfl (Wp.mono (k_best hC1.1 hC1.2.2.2.1 _ _ _ _ _) (fun v M' r => CR_s hC1 r)) ?_
  rintro _ _ ⟨rfl, M2, κ2, rfl, hC2, e2⟩
  rw [ms_ab e2]
  have s2 : mset (cset M2 κ2) σ 2 = .inl (7, L, .inl xs) := (if_pos (by decide)).trans ((cset_o (by omega)).trans ((e2 2 (by omega)).trans ((if_pos (by decide)).trans h2)))
  refine Wp.n (pc' := 895) 5 rfl ?_
  refine Wp.iaddN (x := i) (y := 1) (len := 1) rfl ?_
  refine Wp.ialdN (j := i + 1) (len := 1) rfl (s2) rfl (by omega) (by omega) ?_
  refine Wp.n (pc' := 900) 3 rfl ?_
  refine Wp.iaddN (x := i) (y := 2) (len := 1) rfl ?_
  refine Wp.ialdN (j := i + 2) (len := 1) rfl (s2) rfl (by omega) (by omega) ?_
  refine Wp.n (pc' := 905) 3 rfl ?_
  refine Wp.iaddN (x := i) (y := 3) (len := 1) rfl ?_
  refine Wp.ialdN (j := i + 3) (len := 1) rfl (s2) rfl (by omega) (by omega) ?_
  refine Wp.n (pc' := 910) 3 rfl ?_
  refine Wp.iaddN (x := i) (y := 4) (len := 1) rfl ?_
  refine Wp.ialdN (j := i + 4) (len := 1) rfl (s2) rfl (by omega) (by omega) ?_
  refine Wp.n (pc' := 915) 3 rfl ?_
  refine Wp.iaddN (x := i) (y := 5) (len := 1) rfl ?_
  refine Wp.ialdN (j := i + 5) (len := 1) rfl (s2) rfl (by omega) (by omega) ?_
  refine Wp.callV (len := 3) rfl rfl rfl (rfl) rfl (by decide) rfl (Wp.mono (m_best hM.1 _ _ _ _ _) (fun v M' r => MQ_s hM r)) ?_
  rintro _ _ ⟨rfl, σ2, rfl, hM2⟩
  refine Wp.n (pc' := 1763) 2 rfl ?_
  exact kk M2 κ2 σ2 _ hC2 hM2 (hZ) (fun q hq => (e2 q (Or.inl hq)).trans (if_pos (by omega)))
theorem L_goes (hi : i + 6 ≤ L) (hL : L ≤ 3072) (h2 : M 2 = .inl (7, L, .inl xs)) (hC : CI M κ Z) (hM : MI σ Z) (hZ : ZG Z) (kk : LK M i Q) : Wp 60 md_263 924 [some (.ref 2), some (.ref 32), some (.ref 287), some (.int (nI i))] [] (mset (cset M κ) σ) Q := by
  obtain ⟨K, I, S, T, f⟩ := Z
  rw [ms_cs]
  have hC1 := CI_ms (σ := σ) hC
  obtain ⟨ow, hDo⟩ := hC1.1.1
  have s1 : cset (mset M σ) κ 2 = .inl (7, L, .inl xs) := (cset_o (by omega)).trans ((if_pos (by decide)).trans h2)
  refine Wp.n (pc' := 928) 4 rfl ?_
  refine Wp.iaddN (x := i) (y := 1) (len := 1) rfl ?_
  refine Wp.ialdN (j := i + 1) (len := 1) rfl (s1) rfl (by omega) (by omega) ?_
  refine Wp.n (pc' := 933) 3 rfl ?_
  refine Wp.iaddN (x := i) (y := 2) (len := 1) rfl ?_
  refine Wp.ialdN (j := i + 2) (len := 1) rfl (s1) rfl (by omega) (by omega) ?_
  refine Wp.n (pc' := 938) 3 rfl ?_
  refine Wp.iaddN (x := i) (y := 3) (len := 1) rfl ?_
  refine Wp.ialdN (j := i + 3) (len := 1) rfl (s1) rfl (by omega) (by omega) ?_
  refine Wp.n (pc' := 943) 3 rfl ?_
  refine Wp.iaddN (x := i) (y := 4) (len := 1) rfl ?_
  refine Wp.ialdN (j := i + 4) (len := 1) rfl (s1) rfl (by omega) (by omega) ?_
  refine Wp.n (pc' := 948) 3 rfl ?_
  refine Wp.iaddN (x := i) (y := 5) (len := 1) rfl ?_
  refine Wp.ialdN (j := i + 5) (len := 1) rfl (s1) rfl (by omega) (by omega) ?_
  refine Wp.callV (len := 3) rfl rfl rfl ((cset_o (by omega)).trans hDo) rfl (by decide) rfl (Wp.mono (k_goes hC1.1 hC1.2.2.2.1 _ _ _ _ _) (fun v M' r => CR_s hC1 r)) ?_
  rintro _ _ ⟨rfl, M2, κ2, rfl, hC2, e2⟩
  rw [ms_ab e2]
  have s2 : mset (cset M2 κ2) σ 2 = .inl (7, L, .inl xs) := (if_pos (by decide)).trans ((cset_o (by omega)).trans ((e2 2 (by omega)).trans ((if_pos (by decide)).trans h2)))
  refine Wp.n (pc' := 958) 5 rfl ?_
  refine Wp.iaddN (x := i) (y := 1) (len := 1) rfl ?_
  refine Wp.ialdN (j := i + 1) (len := 1) rfl (s2) rfl (by omega) (by omega) ?_
  refine Wp.n (pc' := 963) 3 rfl ?_
  refine Wp.iaddN (x := i) (y := 2) (len := 1) rfl ?_
  refine Wp.ialdN (j := i + 2) (len := 1) rfl (s2) rfl (by omega) (by omega) ?_
  refine Wp.n (pc' := 968) 3 rfl ?_
  refine Wp.iaddN (x := i) (y := 3) (len := 1) rfl ?_
  refine Wp.ialdN (j := i + 3) (len := 1) rfl (s2) rfl (by omega) (by omega) ?_
  refine Wp.n (pc' := 973) 3 rfl ?_
  refine Wp.iaddN (x := i) (y := 4) (len := 1) rfl ?_
  refine Wp.ialdN (j := i + 4) (len := 1) rfl (s2) rfl (by omega) (by omega) ?_
  refine Wp.n (pc' := 978) 3 rfl ?_
  refine Wp.iaddN (x := i) (y := 5) (len := 1) rfl ?_
  refine Wp.ialdN (j := i + 5) (len := 1) rfl (s2) rfl (by omega) (by omega) ?_
  refine Wp.callV (len := 3) rfl rfl rfl (rfl) rfl (by decide) rfl (Wp.mono (m_goes hM.1 _ _ _ _ _) (fun v M' r => MQ_s hM r)) ?_
  rintro _ _ ⟨rfl, σ2, rfl, hM2⟩
  refine Wp.n (pc' := 1763) 2 rfl ?_
  exact kk M2 κ2 σ2 _ hC2 hM2 (hZ) (fun q hq => (e2 q (Or.inl hq)).trans (if_pos (by omega)))
theorem L_ways (hi : i + 6 ≤ L) (hL : L ≤ 3072) (h2 : M 2 = .inl (7, L, .inl xs)) (hC : CI M κ Z) (hM : MI σ Z) (hZ : ZG Z) (kk : LK M i Q) : Wp 60 md_263 987 [some (.ref 2), some (.ref 32), some (.ref 287), some (.int (nI i))] [] (mset (cset M κ) σ) Q := by
  obtain ⟨K, I, S, T, f⟩ := Z
  rw [ms_cs]
  have hC1 := CI_ms (σ := σ) hC
  obtain ⟨ow, hDo⟩ := hC1.1.1
  have s1 : cset (mset M σ) κ 2 = .inl (7, L, .inl xs) := (cset_o (by omega)).trans ((if_pos (by decide)).trans h2)
  refine Wp.n (pc' := 991) 4 rfl ?_
  refine Wp.iaddN (x := i) (y := 1) (len := 1) rfl ?_
  refine Wp.ialdN (j := i + 1) (len := 1) rfl (s1) rfl (by omega) (by omega) ?_
  refine Wp.n (pc' := 996) 3 rfl ?_
  refine Wp.iaddN (x := i) (y := 2) (len := 1) rfl ?_
  refine Wp.ialdN (j := i + 2) (len := 1) rfl (s1) rfl (by omega) (by omega) ?_
  refine Wp.n (pc' := 1001) 3 rfl ?_
  refine Wp.iaddN (x := i) (y := 3) (len := 1) rfl ?_
  refine Wp.ialdN (j := i + 3) (len := 1) rfl (s1) rfl (by omega) (by omega) ?_
  refine Wp.callV (len := 3) rfl rfl rfl ((cset_o (by omega)).trans hDo) rfl (by decide) rfl (Wp.mono (k_ways hC1.1 hC1.2.2.2.1 _ _ _) (fun v M' r => CR_s hC1 r)) ?_
  rintro _ _ ⟨rfl, M2, κ2, rfl, hC2, e2⟩
  rw [ms_ab e2]
  have s2 : mset (cset M2 κ2) σ 2 = .inl (7, L, .inl xs) := (if_pos (by decide)).trans ((cset_o (by omega)).trans ((e2 2 (by omega)).trans ((if_pos (by decide)).trans h2)))
  refine Wp.n (pc' := 1011) 5 rfl ?_
  refine Wp.iaddN (x := i) (y := 1) (len := 1) rfl ?_
  refine Wp.ialdN (j := i + 1) (len := 1) rfl (s2) rfl (by omega) (by omega) ?_
  refine Wp.n (pc' := 1016) 3 rfl ?_
  refine Wp.iaddN (x := i) (y := 2) (len := 1) rfl ?_
  refine Wp.ialdN (j := i + 2) (len := 1) rfl (s2) rfl (by omega) (by omega) ?_
  refine Wp.n (pc' := 1021) 3 rfl ?_
  refine Wp.iaddN (x := i) (y := 3) (len := 1) rfl ?_
  refine Wp.ialdN (j := i + 3) (len := 1) rfl (s2) rfl (by omega) (by omega) ?_
  refine Wp.callV (len := 3) rfl rfl rfl (rfl) rfl (by decide) rfl (Wp.mono (m_ways hM.1 _ _ _) (fun v M' r => MQ_s hM r)) ?_
  rintro _ _ ⟨rfl, σ2, rfl, hM2⟩
  refine Wp.n (pc' := 1763) 2 rfl ?_
  exact kk M2 κ2 σ2 _ hC2 hM2 (hZ) (fun q hq => (e2 q (Or.inl hq)).trans (if_pos (by omega)))
theorem L_all (hi : i + 6 ≤ L) (hL : L ≤ 3072) (h2 : M 2 = .inl (7, L, .inl xs)) (hC : CI M κ Z) (hM : MI σ Z) (hZ : ZG Z) (kk : LK M i Q) : Wp 60 md_263 1030 [some (.ref 2), some (.ref 32), some (.ref 287), some (.int (nI i))] [] (mset (cset M κ) σ) Q := by
  obtain ⟨K, I, S, T, f⟩ := Z
  rw [ms_cs]
  have hC1 := CI_ms (σ := σ) hC
  obtain ⟨ow, hDo⟩ := hC1.1.1
  have s1 : cset (mset M σ) κ 2 = .inl (7, L, .inl xs) := (cset_o (by omega)).trans ((if_pos (by decide)).trans h2)
  refine Wp.n (pc' := 1034) 4 rfl ?_
  refine Wp.iaddN (x := i) (y := 1) (len := 1) rfl ?_
  refine Wp.ialdN (j := i + 1) (len := 1) rfl (s1) rfl (by omega) (by omega) ?_
  refine Wp.callV (len := 3) rfl rfl rfl ((cset_o (by omega)).trans hDo) rfl (by decide) rfl (Wp.mono (k_all hC1.1 hC1.2.2.2.1 _) (fun v M' r => CR_s hC1 r)) ?_
  rintro _ _ ⟨rfl, M2, κ2, rfl, hC2, e2⟩
  rw [ms_ab e2]
  have s2 : mset (cset M2 κ2) σ 2 = .inl (7, L, .inl xs) := (if_pos (by decide)).trans ((cset_o (by omega)).trans ((e2 2 (by omega)).trans ((if_pos (by decide)).trans h2)))
  refine Wp.n (pc' := 1044) 5 rfl ?_
  refine Wp.iaddN (x := i) (y := 1) (len := 1) rfl ?_
  refine Wp.ialdN (j := i + 1) (len := 1) rfl (s2) rfl (by omega) (by omega) ?_
  refine Wp.callV (len := 3) rfl rfl rfl (rfl) rfl (by decide) rfl (Wp.mono (m_all hM.1 _) (fun v M' r => MQ_s hM r)) ?_
  rintro _ _ ⟨rfl, σ2, rfl, hM2⟩
  refine Wp.n (pc' := 1763) 2 rfl ?_
  exact kk M2 κ2 σ2 _ hC2 hM2 (hZ) (fun q hq => (e2 q (Or.inl hq)).trans (if_pos (by omega)))
theorem L_lane (hi : i + 6 ≤ L) (hL : L ≤ 3072) (h2 : M 2 = .inl (7, L, .inl xs)) (hC : CI M κ Z) (hM : MI σ Z) (hZ : ZG Z) (kk : LK M i Q) : Wp 60 md_263 1053 [some (.ref 2), some (.ref 32), some (.ref 287), some (.int (nI i))] [] (mset (cset M κ) σ) Q := by
  obtain ⟨K, I, S, T, f⟩ := Z
  rw [ms_cs]
  have hC1 := CI_ms (σ := σ) hC
  obtain ⟨ow, hDo⟩ := hC1.1.1
  have s1 : cset (mset M σ) κ 2 = .inl (7, L, .inl xs) := (cset_o (by omega)).trans ((if_pos (by decide)).trans h2)
  refine Wp.n (pc' := 1057) 4 rfl ?_
  refine Wp.iaddN (x := i) (y := 1) (len := 1) rfl ?_
  refine Wp.ialdN (j := i + 1) (len := 1) rfl (s1) rfl (by omega) (by omega) ?_
  refine Wp.n (pc' := 1062) 3 rfl ?_
  refine Wp.iaddN (x := i) (y := 2) (len := 1) rfl ?_
  refine Wp.ialdN (j := i + 2) (len := 1) rfl (s1) rfl (by omega) (by omega) ?_
  refine Wp.n (pc' := 1067) 3 rfl ?_
  refine Wp.iaddN (x := i) (y := 3) (len := 1) rfl ?_
  refine Wp.ialdN (j := i + 3) (len := 1) rfl (s1) rfl (by omega) (by omega) ?_
  refine Wp.n (pc' := 1072) 3 rfl ?_
  refine Wp.iaddN (x := i) (y := 4) (len := 1) rfl ?_
  refine Wp.ialdN (j := i + 4) (len := 1) rfl (s1) rfl (by omega) (by omega) ?_
  refine Wp.callV (len := 3) rfl rfl rfl ((cset_o (by omega)).trans hDo) rfl (by decide) rfl (Wp.mono (k_lane ⟨hC1.1, hC1.2.2.2.1, hC1.2.2.2.2.1⟩ hZ.1.1 hZ.1.2.2 _ _ _ _) (fun v M' r => CR_d hC1 r)) ?_
  rintro _ _ ⟨rfl, M2, κ2, rfl, hC2, e2⟩
  rw [ms_ab e2]
  have s2 : mset (cset M2 κ2) σ 2 = .inl (7, L, .inl xs) := (if_pos (by decide)).trans ((cset_o (by omega)).trans ((e2 2 (by omega)).trans ((if_pos (by decide)).trans h2)))
  refine Wp.n (pc' := 1082) 5 rfl ?_
  refine Wp.iaddN (x := i) (y := 1) (len := 1) rfl ?_
  refine Wp.ialdN (j := i + 1) (len := 1) rfl (s2) rfl (by omega) (by omega) ?_
  refine Wp.n (pc' := 1087) 3 rfl ?_
  refine Wp.iaddN (x := i) (y := 2) (len := 1) rfl ?_
  refine Wp.ialdN (j := i + 2) (len := 1) rfl (s2) rfl (by omega) (by omega) ?_
  refine Wp.n (pc' := 1092) 3 rfl ?_
  refine Wp.iaddN (x := i) (y := 3) (len := 1) rfl ?_
  refine Wp.ialdN (j := i + 3) (len := 1) rfl (s2) rfl (by omega) (by omega) ?_
  refine Wp.n (pc' := 1097) 3 rfl ?_
  refine Wp.iaddN (x := i) (y := 4) (len := 1) rfl ?_
  refine Wp.ialdN (j := i + 4) (len := 1) rfl (s2) rfl (by omega) (by omega) ?_
  refine Wp.callV (len := 3) rfl rfl rfl (rfl) rfl (by decide) rfl (Wp.mono (m_lane hM.1 hZ.1.1 _ _ _ _) (fun v M' r => MQ_l hM hZ.1.1 r)) ?_
  rintro _ _ ⟨rfl, σ2, rfl, hM2⟩
  refine Wp.n (pc' := 1763) 2 rfl ?_
  exact kk M2 κ2 σ2 _ hC2 hM2 (hZ) (fun q hq => (e2 q (Or.inl hq)).trans (if_pos (by omega)))
theorem L_help (hi : i + 6 ≤ L) (hL : L ≤ 3072) (h2 : M 2 = .inl (7, L, .inl xs)) (hC : CI M κ Z) (hM : MI σ Z) (hZ : ZG Z) (kk : LK M i Q) : Wp 60 md_263 1106 [some (.ref 2), some (.ref 32), some (.ref 287), some (.int (nI i))] [] (mset (cset M κ) σ) Q := by
  obtain ⟨K, I, S, T, f⟩ := Z
  rw [ms_cs]
  have hC1 := CI_ms (σ := σ) hC
  obtain ⟨ow, hDo⟩ := hC1.1.1
  have s1 : cset (mset M σ) κ 2 = .inl (7, L, .inl xs) := (cset_o (by omega)).trans ((if_pos (by decide)).trans h2)
  refine Wp.n (pc' := 1110) 4 rfl ?_
  refine Wp.iaddN (x := i) (y := 1) (len := 1) rfl ?_
  refine Wp.ialdN (j := i + 1) (len := 1) rfl (s1) rfl (by omega) (by omega) ?_
  refine Wp.callV (len := 3) rfl rfl rfl ((cset_o (by omega)).trans hDo) rfl (by decide) rfl (Wp.mono (k_help ⟨hC1.1, hC1.2.2.2.1, hC1.2.2.2.2.1⟩ hZ.1.1 hZ.1.2.2 _) (fun v M' r => CR_d hC1 r)) ?_
  rintro _ _ ⟨rfl, M2, κ2, rfl, hC2, e2⟩
  rw [ms_ab e2]
  have s2 : mset (cset M2 κ2) σ 2 = .inl (7, L, .inl xs) := (if_pos (by decide)).trans ((cset_o (by omega)).trans ((e2 2 (by omega)).trans ((if_pos (by decide)).trans h2)))
  refine Wp.n (pc' := 1120) 5 rfl ?_
  refine Wp.iaddN (x := i) (y := 1) (len := 1) rfl ?_
  refine Wp.ialdN (j := i + 1) (len := 1) rfl (s2) rfl (by omega) (by omega) ?_
  refine Wp.callV (len := 3) rfl rfl rfl (rfl) rfl (by decide) rfl (Wp.mono (m_help hM.1 hZ.1.1 _) (fun v M' r => MQ_l hM hZ.1.1 r)) ?_
  rintro _ _ ⟨rfl, σ2, rfl, hM2⟩
  refine Wp.n (pc' := 1763) 2 rfl ?_
  exact kk M2 κ2 σ2 _ hC2 hM2 (hZ) (fun q hq => (e2 q (Or.inl hq)).trans (if_pos (by omega)))
theorem L_bend (hi : i + 6 ≤ L) (hL : L ≤ 3072) (h2 : M 2 = .inl (7, L, .inl xs)) (hC : CI M κ Z) (hM : MI σ Z) (hZ : ZG Z) (kk : LK M i Q) : Wp 60 md_263 1129 [some (.ref 2), some (.ref 32), some (.ref 287), some (.int (nI i))] [] (mset (cset M κ) σ) Q := by
  obtain ⟨K, I, S, T, f⟩ := Z
  rw [ms_cs]
  have hC1 := CI_ms (σ := σ) hC
  obtain ⟨ow, hDo⟩ := hC1.1.1
  have s1 : cset (mset M σ) κ 2 = .inl (7, L, .inl xs) := (cset_o (by omega)).trans ((if_pos (by decide)).trans h2)
  refine Wp.n (pc' := 1133) 4 rfl ?_
  refine Wp.iaddN (x := i) (y := 1) (len := 1) rfl ?_
  refine Wp.ialdN (j := i + 1) (len := 1) rfl (s1) rfl (by omega) (by omega) ?_
  refine Wp.n (pc' := 1138) 3 rfl ?_
  refine Wp.iaddN (x := i) (y := 2) (len := 1) rfl ?_
  refine Wp.ialdN (j := i + 2) (len := 1) rfl (s1) rfl (by omega) (by omega) ?_
  refine Wp.n (pc' := 1143) 3 rfl ?_
  refine Wp.iaddN (x := i) (y := 3) (len := 1) rfl ?_
  refine Wp.ialdN (j := i + 3) (len := 1) rfl (s1) rfl (by omega) (by omega) ?_
  refine Wp.callV (len := 3) rfl rfl rfl ((cset_o (by omega)).trans hDo) rfl (by decide) rfl (Wp.mono (k_bend ⟨hC1.1, hC1.2.2.2.1, hC1.2.2.2.2.1⟩ hZ.1.1 hZ.1.2.1 _ _ _) (fun v M' r => CR_d hC1 r)) ?_
  rintro _ _ ⟨rfl, M2, κ2, rfl, hC2, e2⟩
  rw [ms_ab e2]
  have s2 : mset (cset M2 κ2) σ 2 = .inl (7, L, .inl xs) := (if_pos (by decide)).trans ((cset_o (by omega)).trans ((e2 2 (by omega)).trans ((if_pos (by decide)).trans h2)))
  refine Wp.n (pc' := 1153) 5 rfl ?_
  refine Wp.iaddN (x := i) (y := 1) (len := 1) rfl ?_
  refine Wp.ialdN (j := i + 1) (len := 1) rfl (s2) rfl (by omega) (by omega) ?_
  refine Wp.n (pc' := 1158) 3 rfl ?_
  refine Wp.iaddN (x := i) (y := 2) (len := 1) rfl ?_
  refine Wp.ialdN (j := i + 2) (len := 1) rfl (s2) rfl (by omega) (by omega) ?_
  refine Wp.n (pc' := 1163) 3 rfl ?_
  refine Wp.iaddN (x := i) (y := 3) (len := 1) rfl ?_
  refine Wp.ialdN (j := i + 3) (len := 1) rfl (s2) rfl (by omega) (by omega) ?_
  refine Wp.callV (len := 3) rfl rfl rfl (rfl) rfl (by decide) rfl (Wp.mono (m_bend hM.1 hZ.1.2.1 _ _ _) (fun v M' r => MQ_s hM r)) ?_
  rintro _ _ ⟨rfl, σ2, rfl, hM2⟩
  refine Wp.n (pc' := 1763) 2 rfl ?_
  exact kk M2 κ2 σ2 _ hC2 hM2 (hZ) (fun q hq => (e2 q (Or.inl hq)).trans (if_pos (by omega)))
theorem L_duke (hi : i + 6 ≤ L) (hL : L ≤ 3072) (h2 : M 2 = .inl (7, L, .inl xs)) (hC : CI M κ Z) (hM : MI σ Z) (hZ : ZG Z) (kk : LK M i Q) : Wp 60 md_263 1172 [some (.ref 2), some (.ref 32), some (.ref 287), some (.int (nI i))] [] (mset (cset M κ) σ) Q := by
  obtain ⟨K, I, S, T, f⟩ := Z
  rw [ms_cs]
  have hC1 := CI_ms (σ := σ) hC
  obtain ⟨ow, hDo⟩ := hC1.1.1
  have s1 : cset (mset M σ) κ 2 = .inl (7, L, .inl xs) := (cset_o (by omega)).trans ((if_pos (by decide)).trans h2)
  refine Wp.n (pc' := 1176) 4 rfl ?_
  refine Wp.iaddN (x := i) (y := 1) (len := 1) rfl ?_
  refine Wp.ialdN (j := i + 1) (len := 1) rfl (s1) rfl (by omega) (by omega) ?_
  refine Wp.callV (len := 3) rfl rfl rfl ((cset_o (by omega)).trans hDo) rfl (by decide) rfl (Wp.mono (k_duke ⟨hC1.1, hC1.2.2.2.1, hC1.2.2.2.2.1⟩ hZ.1.1 hZ.1.2.1 _) (fun v M' r => CR_d hC1 r)) ?_
  rintro _ _ ⟨rfl, M2, κ2, rfl, hC2, e2⟩
  rw [ms_ab e2]
  have s2 : mset (cset M2 κ2) σ 2 = .inl (7, L, .inl xs) := (if_pos (by decide)).trans ((cset_o (by omega)).trans ((e2 2 (by omega)).trans ((if_pos (by decide)).trans h2)))
  refine Wp.n (pc' := 1186) 5 rfl ?_
  refine Wp.iaddN (x := i) (y := 1) (len := 1) rfl ?_
  refine Wp.ialdN (j := i + 1) (len := 1) rfl (s2) rfl (by omega) (by omega) ?_
  refine Wp.callV (len := 3) rfl rfl rfl (rfl) rfl (by decide) rfl (Wp.mono (m_duke hM.1 hZ.1.2.1 _) (fun v M' r => MQ_s hM r)) ?_
  rintro _ _ ⟨rfl, σ2, rfl, hM2⟩
  refine Wp.n (pc' := 1763) 2 rfl ?_
  exact kk M2 κ2 σ2 _ hC2 hM2 (hZ) (fun q hq => (e2 q (Or.inl hq)).trans (if_pos (by omega)))
theorem L_watchers (hi : i + 6 ≤ L) (hL : L ≤ 3072) (h2 : M 2 = .inl (7, L, .inl xs)) (hC : CI M κ Z) (hM : MI σ Z) (hZ : ZG Z) (kk : LK M i Q) : Wp 60 md_263 1195 [some (.ref 2), some (.ref 32), some (.ref 287), some (.int (nI i))] [] (mset (cset M κ) σ) Q := by
  obtain ⟨K, I, S, T, f⟩ := Z
  rw [ms_cs]
  have hC1 := CI_ms (σ := σ) hC
  obtain ⟨ow, hDo⟩ := hC1.1.1
  have s1 : cset (mset M σ) κ 2 = .inl (7, L, .inl xs) := (cset_o (by omega)).trans ((if_pos (by decide)).trans h2)
  refine Wp.n (pc' := 1199) 4 rfl ?_
  refine Wp.iaddN (x := i) (y := 1) (len := 1) rfl ?_
  refine Wp.ialdN (j := i + 1) (len := 1) rfl (s1) rfl (by omega) (by omega) ?_
  refine Wp.callV (len := 3) rfl rfl rfl ((cset_o (by omega)).trans hDo) rfl (by decide) rfl (C_watchers hC1 hZ.1.1) ?_
  rintro _ _ ⟨a, ha, rfl, M2, κ2, rfl, hC2, e2⟩
  rw [ms_ab e2]
  have s2 : mset (cset M2 κ2) σ 2 = .inl (7, L, .inl xs) := (if_pos (by decide)).trans ((cset_o (by omega)).trans ((e2 2 (by omega)).trans ((if_pos (by decide)).trans h2)))
  refine Wp.n (pc' := 1209) 5 rfl ?_
  refine Wp.iaddN (x := i) (y := 1) (len := 1) rfl ?_
  refine Wp.ialdN (j := i + 1) (len := 1) rfl (s2) rfl (by omega) (by omega) ?_
  refine Wp.callV (len := 3) rfl rfl rfl (rfl) rfl (by decide) rfl (Wp.mono (m_watchers hM.1 _) (fun v M' r => MQ_s hM r)) ?_
  rintro _ _ ⟨rfl, σ2, rfl, hM2⟩
  refine Wp.n (pc' := 1763) 2 rfl ?_
  exact kk M2 κ2 σ2 _ hC2 hM2 (hZ) (fun q hq => (e2 q (Or.inl hq)).trans (if_pos (by omega)))
end LCB
end
section
/-! THE LAW: its cases, c. -/
section LCC
variable {L i : Nat} {xs : Nat → Int32} {M : AM} {κ : CS} {σ : MS} {Z : Zt} {Q : Option Value → AM → Prop}
theorem L_by (hi : i + 6 ≤ L) (hL : L ≤ 3072) (h2 : M 2 = .inl (7, L, .inl xs)) (hC : CI M κ Z) (hM : MI σ Z) (hZ : ZG Z) (kk : LK M i Q) : Wp 60 md_263 1218 [some (.ref 2), some (.ref 32), some (.ref 287), some (.int (nI i))] [] (mset (cset M κ) σ) Q := by
  obtain ⟨K, I, S, T, f⟩ := Z
  rw [ms_cs]
  have hC1 := CI_ms (σ := σ) hC
  obtain ⟨ow, hDo⟩ := hC1.1.1
  have s1 : cset (mset M σ) κ 2 = .inl (7, L, .inl xs) := (cset_o (by omega)).trans ((if_pos (by decide)).trans h2)
  refine Wp.n (pc' := 1222) 4 rfl ?_
  refine Wp.iaddN (x := i) (y := 1) (len := 1) rfl ?_
  refine Wp.ialdN (j := i + 1) (len := 1) rfl (s1) rfl (by omega) (by omega) ?_
  refine Wp.n (pc' := 1227) 3 rfl ?_
  refine Wp.iaddN (x := i) (y := 2) (len := 1) rfl ?_
  refine Wp.ialdN (j := i + 2) (len := 1) rfl (s1) rfl (by omega) (by omega) ?_
  refine Wp.callV (len := 3) rfl rfl rfl ((cset_o (by omega)).trans hDo) rfl (by decide) rfl (Wp.mono (k_by ⟨hC1.1, hC1.2.2.2.1, hC1.2.2.2.2.1⟩ hZ.1.1 _ _) (fun v M' r => CR_d hC1 r)) ?_
  rintro _ _ ⟨rfl, M2, κ2, rfl, hC2, e2⟩
  rw [ms_ab e2]
  have s2 : mset (cset M2 κ2) σ 2 = .inl (7, L, .inl xs) := (if_pos (by decide)).trans ((cset_o (by omega)).trans ((e2 2 (by omega)).trans ((if_pos (by decide)).trans h2)))
  refine Wp.n (pc' := 1237) 5 rfl ?_
  refine Wp.iaddN (x := i) (y := 1) (len := 1) rfl ?_
  refine Wp.ialdN (j := i + 1) (len := 1) rfl (s2) rfl (by omega) (by omega) ?_
  refine Wp.n (pc' := 1242) 3 rfl ?_
  refine Wp.iaddN (x := i) (y := 2) (len := 1) rfl ?_
  refine Wp.ialdN (j := i + 2) (len := 1) rfl (s2) rfl (by omega) (by omega) ?_
  refine Wp.callV (len := 3) rfl rfl rfl (rfl) rfl (by decide) rfl (Wp.mono (m_by hM.1 _ _) (fun v M' r => MQ_s hM r)) ?_
  rintro _ _ ⟨rfl, σ2, rfl, hM2⟩
  refine Wp.n (pc' := 1763) 2 rfl ?_
  exact kk M2 κ2 σ2 _ hC2 hM2 (hZ) (fun q hq => (e2 q (Or.inl hq)).trans (if_pos (by omega)))
theorem L_rate (hi : i + 6 ≤ L) (hL : L ≤ 3072) (h2 : M 2 = .inl (7, L, .inl xs)) (hC : CI M κ Z) (hM : MI σ Z) (hZ : ZG Z) (kk : LK M i Q) : Wp 60 md_263 1251 [some (.ref 2), some (.ref 32), some (.ref 287), some (.int (nI i))] [] (mset (cset M κ) σ) Q := by
  obtain ⟨K, I, S, T, f⟩ := Z
  rw [ms_cs]
  have hC1 := CI_ms (σ := σ) hC
  obtain ⟨ow, hDo⟩ := hC1.1.1
  have s1 : cset (mset M σ) κ 2 = .inl (7, L, .inl xs) := (cset_o (by omega)).trans ((if_pos (by decide)).trans h2)
  refine Wp.n (pc' := 1255) 4 rfl ?_
  refine Wp.iaddN (x := i) (y := 1) (len := 1) rfl ?_
  refine Wp.ialdN (j := i + 1) (len := 1) rfl (s1) rfl (by omega) (by omega) ?_
  refine Wp.callV (len := 3) rfl rfl rfl ((cset_o (by omega)).trans hDo) rfl (by decide) rfl (Wp.mono (k_rate ⟨hC1.1, hC1.2.2.2.1, hC1.2.2.2.2.1⟩ hZ.1.1 _) (fun v M' r => CR_d hC1 r)) ?_
  rintro _ _ ⟨rfl, M2, κ2, rfl, hC2, e2⟩
  rw [ms_ab e2]
  have s2 : mset (cset M2 κ2) σ 2 = .inl (7, L, .inl xs) := (if_pos (by decide)).trans ((cset_o (by omega)).trans ((e2 2 (by omega)).trans ((if_pos (by decide)).trans h2)))
  refine Wp.n (pc' := 1265) 5 rfl ?_
  refine Wp.iaddN (x := i) (y := 1) (len := 1) rfl ?_
  refine Wp.ialdN (j := i + 1) (len := 1) rfl (s2) rfl (by omega) (by omega) ?_
  refine Wp.callV (len := 3) rfl rfl rfl (rfl) rfl (by decide) rfl (Wp.mono (m_rate hM.1 _) (fun v M' r => MQ_s hM r)) ?_
  rintro _ _ ⟨rfl, σ2, rfl, hM2⟩
  refine Wp.n (pc' := 1763) 2 rfl ?_
  exact kk M2 κ2 σ2 _ hC2 hM2 (hZ) (fun q hq => (e2 q (Or.inl hq)).trans (if_pos (by omega)))
theorem L_law (hi : i + 6 ≤ L) (hL : L ≤ 3072) (h2 : M 2 = .inl (7, L, .inl xs)) (hC : CI M κ Z) (hM : MI σ Z) (hZ : ZG Z) (kk : LK M i Q) : Wp 60 md_263 1274 [some (.ref 2), some (.ref 32), some (.ref 287), some (.int (nI i))] [] (mset (cset M κ) σ) Q := by
  obtain ⟨K, I, S, T, f⟩ := Z
  rw [ms_cs]
  have hC1 := CI_ms (σ := σ) hC
  obtain ⟨ow, hDo⟩ := hC1.1.1
  have s1 : cset (mset M σ) κ 2 = .inl (7, L, .inl xs) := (cset_o (by omega)).trans ((if_pos (by decide)).trans h2)
  refine Wp.n (pc' := 1278) 4 rfl ?_
  refine Wp.iaddN (x := i) (y := 1) (len := 1) rfl ?_
  refine Wp.ialdN (j := i + 1) (len := 1) rfl (s1) rfl (by omega) (by omega) ?_
  refine Wp.n (pc' := 1283) 3 rfl ?_
  refine Wp.iaddN (x := i) (y := 2) (len := 1) rfl ?_
  refine Wp.ialdN (j := i + 2) (len := 1) rfl (s1) rfl (by omega) (by omega) ?_
  refine Wp.callV (len := 3) rfl rfl rfl ((cset_o (by omega)).trans hDo) rfl (by decide) rfl (C_law hC1) ?_
  rintro _ _ ⟨rfl, M2, κ2, rfl, hC2, e2⟩
  rw [ms_ab e2]
  have s2 : mset (cset M2 κ2) σ 2 = .inl (7, L, .inl xs) := (if_pos (by decide)).trans ((cset_o (by omega)).trans ((e2 2 (by omega)).trans ((if_pos (by decide)).trans h2)))
  refine Wp.n (pc' := 1293) 5 rfl ?_
  refine Wp.iaddN (x := i) (y := 1) (len := 1) rfl ?_
  refine Wp.ialdN (j := i + 1) (len := 1) rfl (s2) rfl (by omega) (by omega) ?_
  refine Wp.n (pc' := 1298) 3 rfl ?_
  refine Wp.iaddN (x := i) (y := 2) (len := 1) rfl ?_
  refine Wp.ialdN (j := i + 2) (len := 1) rfl (s2) rfl (by omega) (by omega) ?_
  refine Wp.callV (len := 3) rfl rfl rfl (rfl) rfl (by decide) rfl (D_law hM) ?_
  rintro _ _ ⟨rfl, σ2, rfl, hM2⟩
  refine Wp.n (pc' := 1763) 2 rfl ?_
  exact kk M2 κ2 σ2 _ hC2 hM2 (⟨KG_law hZ.1, hZ.2⟩) (fun q hq => (e2 q (Or.inl hq)).trans (if_pos (by omega)))
theorem L_paid (hi : i + 6 ≤ L) (hL : L ≤ 3072) (h2 : M 2 = .inl (7, L, .inl xs)) (hC : CI M κ Z) (hM : MI σ Z) (hZ : ZG Z) (kk : LK M i Q) : Wp 60 md_263 1307 [some (.ref 2), some (.ref 32), some (.ref 287), some (.int (nI i))] [] (mset (cset M κ) σ) Q := by
  obtain ⟨K, I, S, T, f⟩ := Z
  rw [ms_cs]
  have hC1 := CI_ms (σ := σ) hC
  obtain ⟨ow, hDo⟩ := hC1.1.1
  have s1 : cset (mset M σ) κ 2 = .inl (7, L, .inl xs) := (cset_o (by omega)).trans ((if_pos (by decide)).trans h2)
  refine Wp.n (pc' := 1311) 4 rfl ?_
  refine Wp.iaddN (x := i) (y := 1) (len := 1) rfl ?_
  refine Wp.ialdN (j := i + 1) (len := 1) rfl (s1) rfl (by omega) (by omega) ?_
  refine Wp.n (pc' := 1316) 3 rfl ?_
  refine Wp.iaddN (x := i) (y := 2) (len := 1) rfl ?_
  refine Wp.ialdN (j := i + 2) (len := 1) rfl (s1) rfl (by omega) (by omega) ?_
  refine Wp.callV (len := 3) rfl rfl rfl ((cset_o (by omega)).trans hDo) rfl (by decide) rfl (Wp.mono (k_paid hC1.1 hC1.2.2.2.1 hZ.1.1 _ _) (fun v M' r => CR_s hC1 r)) ?_
  rintro _ _ ⟨rfl, M2, κ2, rfl, hC2, e2⟩
  rw [ms_ab e2]
  have s2 : mset (cset M2 κ2) σ 2 = .inl (7, L, .inl xs) := (if_pos (by decide)).trans ((cset_o (by omega)).trans ((e2 2 (by omega)).trans ((if_pos (by decide)).trans h2)))
  refine Wp.n (pc' := 1326) 5 rfl ?_
  refine Wp.iaddN (x := i) (y := 1) (len := 1) rfl ?_
  refine Wp.ialdN (j := i + 1) (len := 1) rfl (s2) rfl (by omega) (by omega) ?_
  refine Wp.n (pc' := 1331) 3 rfl ?_
  refine Wp.iaddN (x := i) (y := 2) (len := 1) rfl ?_
  refine Wp.ialdN (j := i + 2) (len := 1) rfl (s2) rfl (by omega) (by omega) ?_
  refine Wp.callV (len := 3) rfl rfl rfl (rfl) rfl (by decide) rfl (Wp.mono (m_paid hM.1 _ _) (fun v M' r => MQ_s hM r)) ?_
  rintro _ _ ⟨rfl, σ2, rfl, hM2⟩
  refine Wp.n (pc' := 1763) 2 rfl ?_
  exact kk M2 κ2 σ2 _ hC2 hM2 (hZ) (fun q hq => (e2 q (Or.inl hq)).trans (if_pos (by omega)))
theorem L_sure (hi : i + 6 ≤ L) (hL : L ≤ 3072) (h2 : M 2 = .inl (7, L, .inl xs)) (hC : CI M κ Z) (hM : MI σ Z) (hZ : ZG Z) (kk : LK M i Q) : Wp 60 md_263 1340 [some (.ref 2), some (.ref 32), some (.ref 287), some (.int (nI i))] [] (mset (cset M κ) σ) Q := by
  obtain ⟨K, I, S, T, f⟩ := Z
  rw [ms_cs]
  have hC1 := CI_ms (σ := σ) hC
  obtain ⟨ow, hDo⟩ := hC1.1.1
  have s1 : cset (mset M σ) κ 2 = .inl (7, L, .inl xs) := (cset_o (by omega)).trans ((if_pos (by decide)).trans h2)
  refine Wp.n (pc' := 1344) 4 rfl ?_
  refine Wp.iaddN (x := i) (y := 1) (len := 1) rfl ?_
  refine Wp.ialdN (j := i + 1) (len := 1) rfl (s1) rfl (by omega) (by omega) ?_
  refine Wp.n (pc' := 1349) 3 rfl ?_
  refine Wp.iaddN (x := i) (y := 2) (len := 1) rfl ?_
  refine Wp.ialdN (j := i + 2) (len := 1) rfl (s1) rfl (by omega) (by omega) ?_
  refine Wp.callV (len := 3) rfl rfl rfl ((cset_o (by omega)).trans hDo) rfl (by decide) rfl (Wp.mono (k_sure hC1.1 hC1.2.2.2.1 hZ.1.1 _ _) (fun v M' r => CR_s hC1 r)) ?_
  rintro _ _ ⟨rfl, M2, κ2, rfl, hC2, e2⟩
  rw [ms_ab e2]
  have s2 : mset (cset M2 κ2) σ 2 = .inl (7, L, .inl xs) := (if_pos (by decide)).trans ((cset_o (by omega)).trans ((e2 2 (by omega)).trans ((if_pos (by decide)).trans h2)))
  refine Wp.n (pc' := 1359) 5 rfl ?_
  refine Wp.iaddN (x := i) (y := 1) (len := 1) rfl ?_
  refine Wp.ialdN (j := i + 1) (len := 1) rfl (s2) rfl (by omega) (by omega) ?_
  refine Wp.n (pc' := 1364) 3 rfl ?_
  refine Wp.iaddN (x := i) (y := 2) (len := 1) rfl ?_
  refine Wp.ialdN (j := i + 2) (len := 1) rfl (s2) rfl (by omega) (by omega) ?_
  refine Wp.callV (len := 3) rfl rfl rfl (rfl) rfl (by decide) rfl (Wp.mono (m_sure hM.1 _ _) (fun v M' r => MQ_s hM r)) ?_
  rintro _ _ ⟨rfl, σ2, rfl, hM2⟩
  refine Wp.n (pc' := 1763) 2 rfl ?_
  exact kk M2 κ2 σ2 _ hC2 hM2 (hZ) (fun q hq => (e2 q (Or.inl hq)).trans (if_pos (by omega)))
theorem L_ford (hi : i + 6 ≤ L) (hL : L ≤ 3072) (h2 : M 2 = .inl (7, L, .inl xs)) (hC : CI M κ Z) (hM : MI σ Z) (hZ : ZG Z) (kk : LK M i Q) : Wp 60 md_263 1373 [some (.ref 2), some (.ref 32), some (.ref 287), some (.int (nI i))] [] (mset (cset M κ) σ) Q := by
  obtain ⟨K, I, S, T, f⟩ := Z
  rw [ms_cs]
  have hC1 := CI_ms (σ := σ) hC
  obtain ⟨ow, hDo⟩ := hC1.1.1
  have s1 : cset (mset M σ) κ 2 = .inl (7, L, .inl xs) := (cset_o (by omega)).trans ((if_pos (by decide)).trans h2)
  refine Wp.n (pc' := 1377) 4 rfl ?_
  refine Wp.iaddN (x := i) (y := 1) (len := 1) rfl ?_
  refine Wp.ialdN (j := i + 1) (len := 1) rfl (s1) rfl (by omega) (by omega) ?_
  refine Wp.callV (len := 3) rfl rfl rfl ((cset_o (by omega)).trans hDo) rfl (by decide) rfl (Wp.mono (k_ford hC1.1 hC1.2.2.2.1 hZ.1.1 hC1.2.2.2.2.2.2.1 _) (fun v M' r => CR_s hC1 r)) ?_
  rintro _ _ ⟨rfl, M2, κ2, rfl, hC2, e2⟩
  rw [ms_ab e2]
  have s2 : mset (cset M2 κ2) σ 2 = .inl (7, L, .inl xs) := (if_pos (by decide)).trans ((cset_o (by omega)).trans ((e2 2 (by omega)).trans ((if_pos (by decide)).trans h2)))
  refine Wp.n (pc' := 1387) 5 rfl ?_
  refine Wp.iaddN (x := i) (y := 1) (len := 1) rfl ?_
  refine Wp.ialdN (j := i + 1) (len := 1) rfl (s2) rfl (by omega) (by omega) ?_
  refine Wp.callV (len := 3) rfl rfl rfl (rfl) rfl (by decide) rfl (Wp.mono (m_ford hM.1 hM.2.2.1 _) (fun v M' r => MQ_s hM r)) ?_
  rintro _ _ ⟨rfl, σ2, rfl, hM2⟩
  refine Wp.n (pc' := 1763) 2 rfl ?_
  exact kk M2 κ2 σ2 _ hC2 hM2 (hZ) (fun q hq => (e2 q (Or.inl hq)).trans (if_pos (by omega)))
theorem L_must (hi : i + 6 ≤ L) (hL : L ≤ 3072) (h2 : M 2 = .inl (7, L, .inl xs)) (hC : CI M κ Z) (hM : MI σ Z) (hZ : ZG Z) (kk : LK M i Q) : Wp 60 md_263 1396 [some (.ref 2), some (.ref 32), some (.ref 287), some (.int (nI i))] [] (mset (cset M κ) σ) Q := by
  obtain ⟨K, I, S, T, f⟩ := Z
  rw [ms_cs]
  have hC1 := CI_ms (σ := σ) hC
  obtain ⟨ow, hDo⟩ := hC1.1.1
  have s1 : cset (mset M σ) κ 2 = .inl (7, L, .inl xs) := (cset_o (by omega)).trans ((if_pos (by decide)).trans h2)
  refine Wp.n (pc' := 1400) 4 rfl ?_
  refine Wp.iaddN (x := i) (y := 1) (len := 1) rfl ?_
  refine Wp.ialdN (j := i + 1) (len := 1) rfl (s1) rfl (by omega) (by omega) ?_
  refine Wp.n (pc' := 1405) 3 rfl ?_
  refine Wp.iaddN (x := i) (y := 2) (len := 1) rfl ?_
  refine Wp.ialdN (j := i + 2) (len := 1) rfl (s1) rfl (by omega) (by omega) ?_
  refine Wp.n (pc' := 1410) 3 rfl ?_
  refine Wp.iaddN (x := i) (y := 3) (len := 1) rfl ?_
  refine Wp.ialdN (j := i + 3) (len := 1) rfl (s1) rfl (by omega) (by omega) ?_
  refine Wp.n (pc' := 1415) 3 rfl ?_
  refine Wp.iaddN (x := i) (y := 4) (len := 1) rfl ?_
  refine Wp.ialdN (j := i + 4) (len := 1) rfl (s1) rfl (by omega) (by omega) ?_
  refine Wp.callV (len := 3) rfl rfl rfl ((cset_o (by omega)).trans hDo) rfl (by decide) rfl (Wp.mono (k_must ⟨hC1.1, hC1.2.2.2.1, hC1.2.2.2.2.1⟩ hZ.1.1 hZ.1.2.2 _ _ _ _) (fun v M' r => CR_d hC1 r)) ?_
  rintro _ _ ⟨rfl, M2, κ2, rfl, hC2, e2⟩
  rw [ms_ab e2]
  have s2 : mset (cset M2 κ2) σ 2 = .inl (7, L, .inl xs) := (if_pos (by decide)).trans ((cset_o (by omega)).trans ((e2 2 (by omega)).trans ((if_pos (by decide)).trans h2)))
  refine Wp.n (pc' := 1425) 5 rfl ?_
  refine Wp.iaddN (x := i) (y := 1) (len := 1) rfl ?_
  refine Wp.ialdN (j := i + 1) (len := 1) rfl (s2) rfl (by omega) (by omega) ?_
  refine Wp.n (pc' := 1430) 3 rfl ?_
  refine Wp.iaddN (x := i) (y := 2) (len := 1) rfl ?_
  refine Wp.ialdN (j := i + 2) (len := 1) rfl (s2) rfl (by omega) (by omega) ?_
  refine Wp.n (pc' := 1435) 3 rfl ?_
  refine Wp.iaddN (x := i) (y := 3) (len := 1) rfl ?_
  refine Wp.ialdN (j := i + 3) (len := 1) rfl (s2) rfl (by omega) (by omega) ?_
  refine Wp.n (pc' := 1440) 3 rfl ?_
  refine Wp.iaddN (x := i) (y := 4) (len := 1) rfl ?_
  refine Wp.ialdN (j := i + 4) (len := 1) rfl (s2) rfl (by omega) (by omega) ?_
  refine Wp.callV (len := 3) rfl rfl rfl (rfl) rfl (by decide) rfl (Wp.mono (m_must hM.1 hZ.1.1 _ _ _ _) (fun v M' r => MQ_l hM hZ.1.1 r)) ?_
  rintro _ _ ⟨rfl, σ2, rfl, hM2⟩
  refine Wp.n (pc' := 1763) 2 rfl ?_
  exact kk M2 κ2 σ2 _ hC2 hM2 (hZ) (fun q hq => (e2 q (Or.inl hq)).trans (if_pos (by omega)))
theorem L_seen (hi : i + 6 ≤ L) (hL : L ≤ 3072) (h2 : M 2 = .inl (7, L, .inl xs)) (hC : CI M κ Z) (hM : MI σ Z) (hZ : ZG Z) (kk : LK M i Q) : Wp 60 md_263 1449 [some (.ref 2), some (.ref 32), some (.ref 287), some (.int (nI i))] [] (mset (cset M κ) σ) Q := by
  obtain ⟨K, I, S, T, f⟩ := Z
  rw [ms_cs]
  have hC1 := CI_ms (σ := σ) hC
  obtain ⟨ow, hDo⟩ := hC1.1.1
  have s1 : cset (mset M σ) κ 2 = .inl (7, L, .inl xs) := (cset_o (by omega)).trans ((if_pos (by decide)).trans h2)
  refine Wp.n (pc' := 1453) 4 rfl ?_
  refine Wp.iaddN (x := i) (y := 1) (len := 1) rfl ?_
  refine Wp.ialdN (j := i + 1) (len := 1) rfl (s1) rfl (by omega) (by omega) ?_
  refine Wp.n (pc' := 1458) 3 rfl ?_
  refine Wp.iaddN (x := i) (y := 2) (len := 1) rfl ?_
  refine Wp.ialdN (j := i + 2) (len := 1) rfl (s1) rfl (by omega) (by omega) ?_
  refine Wp.callV (len := 3) rfl rfl rfl ((cset_o (by omega)).trans hDo) rfl (by decide) rfl (Wp.mono (k_seen hC1.1 hC1.2.2.2.1 _ _) (fun v M' r => CR_s hC1 r)) ?_
  rintro _ _ ⟨rfl, M2, κ2, rfl, hC2, e2⟩
  rw [ms_ab e2]
  have s2 : mset (cset M2 κ2) σ 2 = .inl (7, L, .inl xs) := (if_pos (by decide)).trans ((cset_o (by omega)).trans ((e2 2 (by omega)).trans ((if_pos (by decide)).trans h2)))
  refine Wp.n (pc' := 1468) 5 rfl ?_
  refine Wp.iaddN (x := i) (y := 1) (len := 1) rfl ?_
  refine Wp.ialdN (j := i + 1) (len := 1) rfl (s2) rfl (by omega) (by omega) ?_
  refine Wp.n (pc' := 1473) 3 rfl ?_
  refine Wp.iaddN (x := i) (y := 2) (len := 1) rfl ?_
  refine Wp.ialdN (j := i + 2) (len := 1) rfl (s2) rfl (by omega) (by omega) ?_
  refine Wp.callV (len := 3) rfl rfl rfl (rfl) rfl (by decide) rfl (Wp.mono (m_seen hM.1 _ _) (fun v M' r => MQ_s hM r)) ?_
  rintro _ _ ⟨rfl, σ2, rfl, hM2⟩
  refine Wp.n (pc' := 1763) 2 rfl ?_
  exact kk M2 κ2 σ2 _ hC2 hM2 (hZ) (fun q hq => (e2 q (Or.inl hq)).trans (if_pos (by omega)))
theorem L_caught (hi : i + 6 ≤ L) (hL : L ≤ 3072) (h2 : M 2 = .inl (7, L, .inl xs)) (hC : CI M κ Z) (hM : MI σ Z) (hZ : ZG Z) (kk : LK M i Q) : Wp 60 md_263 1482 [some (.ref 2), some (.ref 32), some (.ref 287), some (.int (nI i))] [] (mset (cset M κ) σ) Q := by
  obtain ⟨K, I, S, T, f⟩ := Z
  rw [ms_cs]
  have hC1 := CI_ms (σ := σ) hC
  obtain ⟨ow, hDo⟩ := hC1.1.1
  have s1 : cset (mset M σ) κ 2 = .inl (7, L, .inl xs) := (cset_o (by omega)).trans ((if_pos (by decide)).trans h2)
  refine Wp.n (pc' := 1486) 4 rfl ?_
  refine Wp.iaddN (x := i) (y := 1) (len := 1) rfl ?_
  refine Wp.ialdN (j := i + 1) (len := 1) rfl (s1) rfl (by omega) (by omega) ?_
  refine Wp.n (pc' := 1491) 3 rfl ?_
  refine Wp.iaddN (x := i) (y := 2) (len := 1) rfl ?_
  refine Wp.ialdN (j := i + 2) (len := 1) rfl (s1) rfl (by omega) (by omega) ?_
  refine Wp.callV (len := 3) rfl rfl rfl ((cset_o (by omega)).trans hDo) rfl (by decide) rfl (Wp.mono (k_caught hC1.1 hC1.2.2.2.1 _ _) (fun v M' r => CR_s hC1 r)) ?_
  rintro _ _ ⟨rfl, M2, κ2, rfl, hC2, e2⟩
  rw [ms_ab e2]
  have s2 : mset (cset M2 κ2) σ 2 = .inl (7, L, .inl xs) := (if_pos (by decide)).trans ((cset_o (by omega)).trans ((e2 2 (by omega)).trans ((if_pos (by decide)).trans h2)))
  refine Wp.n (pc' := 1501) 5 rfl ?_
  refine Wp.iaddN (x := i) (y := 1) (len := 1) rfl ?_
  refine Wp.ialdN (j := i + 1) (len := 1) rfl (s2) rfl (by omega) (by omega) ?_
  refine Wp.n (pc' := 1506) 3 rfl ?_
  refine Wp.iaddN (x := i) (y := 2) (len := 1) rfl ?_
  refine Wp.ialdN (j := i + 2) (len := 1) rfl (s2) rfl (by omega) (by omega) ?_
  refine Wp.callV (len := 3) rfl rfl rfl (rfl) rfl (by decide) rfl (Wp.mono (m_caught hM.1 _ _) (fun v M' r => MQ_s hM r)) ?_
  rintro _ _ ⟨rfl, σ2, rfl, hM2⟩
  refine Wp.n (pc' := 1763) 2 rfl ?_
  exact kk M2 κ2 σ2 _ hC2 hM2 (hZ) (fun q hq => (e2 q (Or.inl hq)).trans (if_pos (by omega)))
theorem L_count (hi : i + 6 ≤ L) (hL : L ≤ 3072) (h2 : M 2 = .inl (7, L, .inl xs)) (hC : CI M κ Z) (hM : MI σ Z) (hZ : ZG Z) (kk : LK M i Q) : Wp 60 md_263 1515 [some (.ref 2), some (.ref 32), some (.ref 287), some (.int (nI i))] [] (mset (cset M κ) σ) Q := by
  obtain ⟨K, I, S, T, f⟩ := Z
  rw [ms_cs]
  have hC1 := CI_ms (σ := σ) hC
  obtain ⟨ow, hDo⟩ := hC1.1.1
  have s1 : cset (mset M σ) κ 2 = .inl (7, L, .inl xs) := (cset_o (by omega)).trans ((if_pos (by decide)).trans h2)
  refine Wp.n (pc' := 1519) 4 rfl ?_
  refine Wp.iaddN (x := i) (y := 1) (len := 1) rfl ?_
  refine Wp.ialdN (j := i + 1) (len := 1) rfl (s1) rfl (by omega) (by omega) ?_
  refine Wp.callV (len := 3) rfl rfl rfl ((cset_o (by omega)).trans hDo) rfl (by decide) rfl (CR_e hC1 (k_count hC1.1 hC1.2.2.2.1 hZ.1.1 hC1.2.2.2.2.2.2.1 hC1.2.2.2.2.2.2.2.1 _)) ?_
  rintro _ _ ⟨rfl, M2, κ2, rfl, hC2, e2⟩
  rw [ms_ab e2]
  have s2 : mset (cset M2 κ2) σ 2 = .inl (7, L, .inl xs) := (if_pos (by decide)).trans ((cset_o (by omega)).trans ((e2 2 (by omega)).trans ((if_pos (by decide)).trans h2)))
  refine Wp.n (pc' := 1529) 5 rfl ?_
  refine Wp.iaddN (x := i) (y := 1) (len := 1) rfl ?_
  refine Wp.ialdN (j := i + 1) (len := 1) rfl (s2) rfl (by omega) (by omega) ?_
  refine Wp.callV (len := 3) rfl rfl rfl (rfl) rfl (by decide) rfl (MQ_e hM (m_count hM.1 hM.2.2.1 hM.2.2.2.1 _)) ?_
  rintro _ _ ⟨rfl, σ2, rfl, hM2⟩
  refine Wp.n (pc' := 1763) 2 rfl ?_
  exact kk M2 κ2 σ2 _ hC2 hM2 (hZ) (fun q hq => (e2 q (Or.inl hq)).trans (if_pos (by omega)))
theorem L_keep (hi : i + 6 ≤ L) (hL : L ≤ 3072) (h2 : M 2 = .inl (7, L, .inl xs)) (hC : CI M κ Z) (hM : MI σ Z) (hZ : ZG Z) (kk : LK M i Q) : Wp 60 md_263 1538 [some (.ref 2), some (.ref 32), some (.ref 287), some (.int (nI i))] [] (mset (cset M κ) σ) Q := by
  obtain ⟨K, I, S, T, f⟩ := Z
  rw [ms_cs]
  have hC1 := CI_ms (σ := σ) hC
  obtain ⟨ow, hDo⟩ := hC1.1.1
  have s1 : cset (mset M σ) κ 2 = .inl (7, L, .inl xs) := (cset_o (by omega)).trans ((if_pos (by decide)).trans h2)
  refine Wp.n (pc' := 1542) 4 rfl ?_
  refine Wp.iaddN (x := i) (y := 1) (len := 1) rfl ?_
  refine Wp.ialdN (j := i + 1) (len := 1) rfl (s1) rfl (by omega) (by omega) ?_
  refine Wp.callV (len := 3) rfl rfl rfl ((cset_o (by omega)).trans hDo) rfl (by decide) rfl (C_keep hC1 hZ.1.1) ?_
  rintro _ _ ⟨rfl, M2, κ2, rfl, hC2, e2⟩
  rw [ms_ab e2]
  have s2 : mset (cset M2 κ2) σ 2 = .inl (7, L, .inl xs) := (if_pos (by decide)).trans ((cset_o (by omega)).trans ((e2 2 (by omega)).trans ((if_pos (by decide)).trans h2)))
  refine Wp.n (pc' := 1552) 5 rfl ?_
  refine Wp.iaddN (x := i) (y := 1) (len := 1) rfl ?_
  refine Wp.ialdN (j := i + 1) (len := 1) rfl (s2) rfl (by omega) (by omega) ?_
  refine Wp.callV (len := 3) rfl rfl rfl (rfl) rfl (by decide) rfl (D_keep hM hZ.1.1) ?_
  rintro _ _ ⟨rfl, σ2, rfl, hM2⟩
  refine Wp.n (pc' := 1763) 2 rfl ?_
  exact kk M2 κ2 σ2 _ hC2 hM2 (ZG_keep hZ) (fun q hq => (e2 q (Or.inl hq)).trans (if_pos (by omega)))
theorem L_back (hi : i + 6 ≤ L) (hL : L ≤ 3072) (h2 : M 2 = .inl (7, L, .inl xs)) (hC : CI M κ Z) (hM : MI σ Z) (hZ : ZG Z) (kk : LK M i Q) : Wp 60 md_263 1561 [some (.ref 2), some (.ref 32), some (.ref 287), some (.int (nI i))] [] (mset (cset M κ) σ) Q := by
  obtain ⟨K, I, S, T, f⟩ := Z
  rw [ms_cs]
  have hC1 := CI_ms (σ := σ) hC
  obtain ⟨ow, hDo⟩ := hC1.1.1
  have s1 : cset (mset M σ) κ 2 = .inl (7, L, .inl xs) := (cset_o (by omega)).trans ((if_pos (by decide)).trans h2)
  refine Wp.n (pc' := 1565) 4 rfl ?_
  refine Wp.iaddN (x := i) (y := 1) (len := 1) rfl ?_
  refine Wp.ialdN (j := i + 1) (len := 1) rfl (s1) rfl (by omega) (by omega) ?_
  refine Wp.callV (len := 3) rfl rfl rfl ((cset_o (by omega)).trans hDo) rfl (by decide) rfl (C_back hC1) ?_
  rintro _ _ ⟨rfl, M2, κ2, rfl, hC2, e2⟩
  rw [ms_ab e2]
  have s2 : mset (cset M2 κ2) σ 2 = .inl (7, L, .inl xs) := (if_pos (by decide)).trans ((cset_o (by omega)).trans ((e2 2 (by omega)).trans ((if_pos (by decide)).trans h2)))
  refine Wp.n (pc' := 1575) 5 rfl ?_
  refine Wp.iaddN (x := i) (y := 1) (len := 1) rfl ?_
  refine Wp.ialdN (j := i + 1) (len := 1) rfl (s2) rfl (by omega) (by omega) ?_
  refine Wp.callV (len := 3) rfl rfl rfl (rfl) rfl (by decide) rfl (D_back hM hZ.1.1) ?_
  rintro _ _ ⟨rfl, σ2, rfl, hM2⟩
  refine Wp.n (pc' := 1763) 2 rfl ?_
  exact kk M2 κ2 σ2 _ hC2 hM2 (⟨KG_back hZ, hZ.2⟩) (fun q hq => (e2 q (Or.inl hq)).trans (if_pos (by omega)))
theorem L_row (hi : i + 6 ≤ L) (hL : L ≤ 3072) (h2 : M 2 = .inl (7, L, .inl xs)) (hC : CI M κ Z) (hM : MI σ Z) (hZ : ZG Z) (kk : LK M i Q) : Wp 60 md_263 1584 [some (.ref 2), some (.ref 32), some (.ref 287), some (.int (nI i))] [] (mset (cset M κ) σ) Q := by
  obtain ⟨K, I, S, T, f⟩ := Z
  rw [ms_cs]
  have hC1 := CI_ms (σ := σ) hC
  obtain ⟨ow, hDo⟩ := hC1.1.1
  have s1 : cset (mset M σ) κ 2 = .inl (7, L, .inl xs) := (cset_o (by omega)).trans ((if_pos (by decide)).trans h2)
  refine Wp.n (pc' := 1588) 4 rfl ?_
  refine Wp.iaddN (x := i) (y := 1) (len := 1) rfl ?_
  refine Wp.ialdN (j := i + 1) (len := 1) rfl (s1) rfl (by omega) (by omega) ?_
  refine Wp.n (pc' := 1593) 3 rfl ?_
  refine Wp.iaddN (x := i) (y := 2) (len := 1) rfl ?_
  refine Wp.ialdN (j := i + 2) (len := 1) rfl (s1) rfl (by omega) (by omega) ?_
  refine Wp.n (pc' := 1598) 3 rfl ?_
  refine Wp.iaddN (x := i) (y := 3) (len := 1) rfl ?_
  refine Wp.ialdN (j := i + 3) (len := 1) rfl (s1) rfl (by omega) (by omega) ?_
  refine Wp.callV (len := 3) rfl rfl rfl ((cset_o (by omega)).trans hDo) rfl (by decide) rfl (C_row hC1) ?_
  rintro _ _ ⟨rfl, M2, κ2, rfl, hC2, e2⟩
  rw [ms_ab e2]
  have s2 : mset (cset M2 κ2) σ 2 = .inl (7, L, .inl xs) := (if_pos (by decide)).trans ((cset_o (by omega)).trans ((e2 2 (by omega)).trans ((if_pos (by decide)).trans h2)))
  refine Wp.n (pc' := 1608) 5 rfl ?_
  refine Wp.iaddN (x := i) (y := 1) (len := 1) rfl ?_
  refine Wp.ialdN (j := i + 1) (len := 1) rfl (s2) rfl (by omega) (by omega) ?_
  refine Wp.n (pc' := 1613) 3 rfl ?_
  refine Wp.iaddN (x := i) (y := 2) (len := 1) rfl ?_
  refine Wp.ialdN (j := i + 2) (len := 1) rfl (s2) rfl (by omega) (by omega) ?_
  refine Wp.n (pc' := 1618) 3 rfl ?_
  refine Wp.iaddN (x := i) (y := 3) (len := 1) rfl ?_
  refine Wp.ialdN (j := i + 3) (len := 1) rfl (s2) rfl (by omega) (by omega) ?_
  refine Wp.callV (len := 3) rfl rfl rfl (rfl) rfl (by decide) rfl (D_row hM) ?_
  rintro _ _ ⟨rfl, σ2, rfl, hM2⟩
  refine Wp.n (pc' := 1763) 2 rfl ?_
  exact kk M2 κ2 σ2 _ hC2 hM2 (⟨hZ.1, hZ.2⟩) (fun q hq => (e2 q (Or.inl hq)).trans (if_pos (by omega)))
theorem L_write (hi : i + 6 ≤ L) (hL : L ≤ 3072) (h2 : M 2 = .inl (7, L, .inl xs)) (hC : CI M κ Z) (hM : MI σ Z) (hZ : ZG Z) (kk : LK M i Q) : Wp 60 md_263 1627 [some (.ref 2), some (.ref 32), some (.ref 287), some (.int (nI i))] [] (mset (cset M κ) σ) Q := by
  obtain ⟨K, I, S, T, f⟩ := Z
  rw [ms_cs]
  have hC1 := CI_ms (σ := σ) hC
  obtain ⟨ow, hDo⟩ := hC1.1.1
  have s1 : cset (mset M σ) κ 2 = .inl (7, L, .inl xs) := (cset_o (by omega)).trans ((if_pos (by decide)).trans h2)
  refine Wp.n (pc' := 1631) 4 rfl ?_
  refine Wp.iaddN (x := i) (y := 1) (len := 1) rfl ?_
  refine Wp.ialdN (j := i + 1) (len := 1) rfl (s1) rfl (by omega) (by omega) ?_
  refine Wp.n (pc' := 1636) 3 rfl ?_
  refine Wp.iaddN (x := i) (y := 2) (len := 1) rfl ?_
  refine Wp.ialdN (j := i + 2) (len := 1) rfl (s1) rfl (by omega) (by omega) ?_
  refine Wp.n (pc' := 1641) 3 rfl ?_
  refine Wp.iaddN (x := i) (y := 3) (len := 1) rfl ?_
  refine Wp.ialdN (j := i + 3) (len := 1) rfl (s1) rfl (by omega) (by omega) ?_
  refine Wp.n (pc' := 1650) 6 rfl ?_
  refine Wp.iaddN (x := i) (y := 4) (len := 1) rfl ?_
  refine Wp.ialdN (j := i + 4) (len := 1) rfl (s1) rfl (by omega) (by omega) ?_
  refine Wp.n (pc' := 1658) 4 rfl ?_
  refine Wp.callV (len := 3) rfl rfl rfl ((cset_o (by omega)).trans hDo) rfl (by decide) rfl (C_write hC1) ?_
  rintro _ _ ⟨rfl, M2, κ2, rfl, hC2, e2⟩
  rw [ms_ab e2]
  have s2 : mset (cset M2 κ2) σ 2 = .inl (7, L, .inl xs) := (if_pos (by decide)).trans ((cset_o (by omega)).trans ((e2 2 (by omega)).trans ((if_pos (by decide)).trans h2)))
  refine Wp.n (pc' := 1666) 5 rfl ?_
  refine Wp.iaddN (x := i) (y := 1) (len := 1) rfl ?_
  refine Wp.ialdN (j := i + 1) (len := 1) rfl (s2) rfl (by omega) (by omega) ?_
  refine Wp.n (pc' := 1671) 3 rfl ?_
  refine Wp.iaddN (x := i) (y := 2) (len := 1) rfl ?_
  refine Wp.ialdN (j := i + 2) (len := 1) rfl (s2) rfl (by omega) (by omega) ?_
  refine Wp.n (pc' := 1676) 3 rfl ?_
  refine Wp.iaddN (x := i) (y := 3) (len := 1) rfl ?_
  refine Wp.ialdN (j := i + 3) (len := 1) rfl (s2) rfl (by omega) (by omega) ?_
  refine Wp.n (pc' := 1685) 6 rfl ?_
  refine Wp.iaddN (x := i) (y := 4) (len := 1) rfl ?_
  refine Wp.ialdN (j := i + 4) (len := 1) rfl (s2) rfl (by omega) (by omega) ?_
  refine Wp.n (pc' := 1693) 4 rfl ?_
  refine Wp.callV (len := 3) rfl rfl rfl (rfl) rfl (by decide) rfl (D_write hM) ?_
  rintro _ _ ⟨rfl, σ2, rfl, hM2⟩
  refine Wp.n (pc' := 1763) 2 rfl ?_
  exact kk M2 κ2 σ2 _ hC2 hM2 (⟨hZ.1, hZ.2⟩) (fun q hq => (e2 q (Or.inl hq)).trans (if_pos (by omega)))
theorem L_paste (hi : i + 6 ≤ L) (hL : L ≤ 3072) (h2 : M 2 = .inl (7, L, .inl xs)) (hC : CI M κ Z) (hM : MI σ Z) (hZ : ZG Z) (kk : LK M i Q) : Wp 60 md_263 1700 [some (.ref 2), some (.ref 32), some (.ref 287), some (.int (nI i))] [] (mset (cset M κ) σ) Q := by
  obtain ⟨K, I, S, T, f⟩ := Z
  rw [ms_cs]
  have hC1 := CI_ms (σ := σ) hC
  obtain ⟨ow, hDo⟩ := hC1.1.1
  have s1 : cset (mset M σ) κ 2 = .inl (7, L, .inl xs) := (cset_o (by omega)).trans ((if_pos (by decide)).trans h2)
  refine Wp.n (pc' := 1704) 4 rfl ?_
  refine Wp.iaddN (x := i) (y := 1) (len := 1) rfl ?_
  refine Wp.ialdN (j := i + 1) (len := 1) rfl (s1) rfl (by omega) (by omega) ?_
  refine Wp.n (pc' := 1709) 3 rfl ?_
  refine Wp.iaddN (x := i) (y := 2) (len := 1) rfl ?_
  refine Wp.ialdN (j := i + 2) (len := 1) rfl (s1) rfl (by omega) (by omega) ?_
  refine Wp.n (pc' := 1714) 3 rfl ?_
  refine Wp.iaddN (x := i) (y := 3) (len := 1) rfl ?_
  refine Wp.ialdN (j := i + 3) (len := 1) rfl (s1) rfl (by omega) (by omega) ?_
  refine Wp.n (pc' := 1719) 3 rfl ?_
  refine Wp.iaddN (x := i) (y := 4) (len := 1) rfl ?_
  refine Wp.ialdN (j := i + 4) (len := 1) rfl (s1) rfl (by omega) (by omega) ?_
  refine Wp.n (pc' := 1724) 3 rfl ?_
  refine Wp.iaddN (x := i) (y := 5) (len := 1) rfl ?_
  refine Wp.ialdN (j := i + 5) (len := 1) rfl (s1) rfl (by omega) (by omega) ?_
  refine Wp.callV (len := 3) rfl rfl rfl ((cset_o (by omega)).trans hDo) rfl (by decide) rfl (C_paste hC1) ?_
  rintro _ _ ⟨rfl, M2, κ2, rfl, hC2, e2⟩
  rw [ms_ab e2]
  have s2 : mset (cset M2 κ2) σ 2 = .inl (7, L, .inl xs) := (if_pos (by decide)).trans ((cset_o (by omega)).trans ((e2 2 (by omega)).trans ((if_pos (by decide)).trans h2)))
  refine Wp.n (pc' := 1733) 4 rfl ?_
  refine Wp.iaddN (x := i) (y := 1) (len := 1) rfl ?_
  refine Wp.ialdN (j := i + 1) (len := 1) rfl (s2) rfl (by omega) (by omega) ?_
  refine Wp.n (pc' := 1738) 3 rfl ?_
  refine Wp.iaddN (x := i) (y := 2) (len := 1) rfl ?_
  refine Wp.ialdN (j := i + 2) (len := 1) rfl (s2) rfl (by omega) (by omega) ?_
  refine Wp.n (pc' := 1743) 3 rfl ?_
  refine Wp.iaddN (x := i) (y := 3) (len := 1) rfl ?_
  refine Wp.ialdN (j := i + 3) (len := 1) rfl (s2) rfl (by omega) (by omega) ?_
  refine Wp.n (pc' := 1748) 3 rfl ?_
  refine Wp.iaddN (x := i) (y := 4) (len := 1) rfl ?_
  refine Wp.ialdN (j := i + 4) (len := 1) rfl (s2) rfl (by omega) (by omega) ?_
  refine Wp.n (pc' := 1753) 3 rfl ?_
  refine Wp.iaddN (x := i) (y := 5) (len := 1) rfl ?_
  refine Wp.ialdN (j := i + 5) (len := 1) rfl (s2) rfl (by omega) (by omega) ?_
  refine Wp.callV (len := 3) rfl rfl rfl (rfl) rfl (by decide) rfl (D_paste hM) ?_
  rintro _ _ ⟨rfl, σ2, rfl, hM2⟩
  refine Wp.ic0 (tgt := 1763) (len := 3) rfl (fun h1758 => ?_) (fun h1758 => ?_)
  · skip
    exact kk M2 κ2 σ2 _ hC2 hM2 (⟨hZ.1, hZ.2⟩) (fun q hq => (e2 q (Or.inl hq)).trans (if_pos (by omega)))
  · exact absurd rfl h1758
end LCC
end
section
/-! THE LAW'S LOOP, AND ITS BEGINNING. -/
section LGO
variable {d : Nat} {X : MD} {pc len L i : Nat} {l : AL} {st : List Value} {xs : Nat → Int32} {M M' : AM} {κ : CS} {σ : MS} {Z : Zt} {Q : Option Value → AM → Prop}
theorem Wp.alen {k t n : Nat} {w : (Nat → Int32) ⊕ (Nat → Int64) ⊕ (Nat → UInt32) ⊕ (Nat → UInt64) ⊕ (Nat → Option Nat)} (hc : cdx X pc = some (.inr (.inl .arraylength), len)) (hM : M k = .inl (t, n, w)) (ht : Nat.beq t 8 = false) (h : Wp d X (pc + len) l (.int (nI n) :: st) M Q) : Wp d X pc l (.ref k :: st) M Q := by
  refine Wp.s (pc' := pc + len) (l' := l) (st' := .int (nI n) :: st) (M' := M) ?_ h
  have e : mstep .arraylength (.ref k :: st) M = some (.int (nI n) :: st, M) := by
    simp only [mstep, hM, ht, cond_false]
    rfl
  unfold sstep
  rw [hc]
  show (match mstep .arraylength (.ref k :: st) M with | some (st', M') => some (pc + len, l, st', M') | none => none) = _
  rw [e]
theorem i_nat (x : Int32) : ∃ a : Nat, x = nI a := ⟨x.toBitVec.toNat, by
  apply Int32.toBitVec_inj.1
  show x.toBitVec = BitVec.ofNat 32 x.toBitVec.toNat
  rw [BitVec.ofNat_toNat, BitVec.setWidth_eq]⟩
theorem and63 (x : Int32) : ∃ c : Nat, c < 64 ∧ x &&& 63 = nI c := by
  obtain ⟨a, rfl⟩ := i_nat x
  refine ⟨a &&& 63, ?_, n_and a 63⟩
  have := Nat.and_le_right (n := a) (m := 63)
  omega
theorem sub6 : ∀ L, L < 6 → ∀ i, i < 6 → nI L - 6 < nI i := by decide +kernel
theorem law_case (hi : i + 6 ≤ L) (hL : L ≤ 3072) (h2 : M 2 = .inl (7, L, .inl xs)) (hC : CI M κ Z) (hM : MI σ Z) (hZ : ZG Z) (kk : LK M i Q) : ∀ c : Nat, c < 64 → Wp 60 md_263 33 [some (.ref 2), some (.ref 32), some (.ref 287), some (.int (nI i))] [.int (nI c)] (mset (cset M κ) σ) Q
  | 0, _ => Wp.sw (len := 195) (t := 228) rfl rfl (L_feed hi hL h2 hC hM hZ kk)
  | 1, _ => Wp.sw (len := 195) (t := 291) rfl rfl (L_end hi hL h2 hC hM hZ kk)
  | 2, _ => Wp.sw (len := 195) (t := 314) rfl rfl (L_kingdom hi hL h2 hC hM hZ kk)
  | 3, _ => Wp.sw (len := 195) (t := 327) rfl rfl (L_fault hi hL h2 hC hM hZ kk)
  | 4, _ => Wp.sw (len := 195) (t := 350) rfl rfl (L_road hi hL h2 hC hM hZ kk)
  | 5, _ => Wp.sw (len := 195) (t := 383) rfl rfl (L_way hi hL h2 hC hM hZ kk)
  | 6, _ => Wp.sw (len := 195) (t := 426) rfl rfl (L_open hi hL h2 hC hM hZ kk)
  | 7, _ => Wp.sw (len := 195) (t := 459) rfl rfl (L_joins hi hL h2 hC hM hZ kk)
  | 8, _ => Wp.sw (len := 195) (t := 502) rfl rfl (L_walk hi hL h2 hC hM hZ kk)
  | 9, _ => Wp.sw (len := 195) (t := 535) rfl rfl (L_unlawful hi hL h2 hC hM hZ kk)
  | 10, _ => Wp.sw (len := 195) (t := 548) rfl rfl (L_steps hi hL h2 hC hM hZ kk)
  | 11, _ => Wp.sw (len := 195) (t := 571) rfl rfl (L_length hi hL h2 hC hM hZ kk)
  | 12, _ => Wp.sw (len := 195) (t := 594) rfl rfl (L_saved hi hL h2 hC hM hZ kk)
  | 13, _ => Wp.sw (len := 195) (t := 617) rfl rfl (L_duty hi hL h2 hC hM hZ kk)
  | 14, _ => Wp.sw (len := 195) (t := 640) rfl rfl (L_lanes hi hL h2 hC hM hZ kk)
  | 15, _ => Wp.sw (len := 195) (t := 663) rfl rfl (L_owes hi hL h2 hC hM hZ kk)
  | 16, _ => Wp.sw (len := 195) (t := 686) rfl rfl (L_takings hi hL h2 hC hM hZ kk)
  | 17, _ => Wp.sw (len := 195) (t := 709) rfl rfl (L_chance hi hL h2 hC hM hZ kk)
  | 18, _ => Wp.sw (len := 195) (t := 742) rfl rfl (L_hope hi hL h2 hC hM hZ kk)
  | 19, _ => Wp.sw (len := 195) (t := 775) rfl rfl (L_shortest hi hL h2 hC hM hZ kk)
  | 20, _ => Wp.sw (len := 195) (t := 818) rfl rfl (L_hidden hi hL h2 hC hM hZ kk)
  | 21, _ => Wp.sw (len := 195) (t := 861) rfl rfl (L_best hi hL h2 hC hM hZ kk)
  | 22, _ => Wp.sw (len := 195) (t := 924) rfl rfl (L_goes hi hL h2 hC hM hZ kk)
  | 23, _ => Wp.sw (len := 195) (t := 987) rfl rfl (L_ways hi hL h2 hC hM hZ kk)
  | 24, _ => Wp.sw (len := 195) (t := 1030) rfl rfl (L_all hi hL h2 hC hM hZ kk)
  | 25, _ => Wp.sw (len := 195) (t := 1053) rfl rfl (L_lane hi hL h2 hC hM hZ kk)
  | 26, _ => Wp.sw (len := 195) (t := 1106) rfl rfl (L_help hi hL h2 hC hM hZ kk)
  | 27, _ => Wp.sw (len := 195) (t := 1129) rfl rfl (L_bend hi hL h2 hC hM hZ kk)
  | 28, _ => Wp.sw (len := 195) (t := 1172) rfl rfl (L_duke hi hL h2 hC hM hZ kk)
  | 29, _ => Wp.sw (len := 195) (t := 1195) rfl rfl (L_watchers hi hL h2 hC hM hZ kk)
  | 30, _ => Wp.sw (len := 195) (t := 1218) rfl rfl (L_by hi hL h2 hC hM hZ kk)
  | 31, _ => Wp.sw (len := 195) (t := 1251) rfl rfl (L_rate hi hL h2 hC hM hZ kk)
  | 32, _ => Wp.sw (len := 195) (t := 1274) rfl rfl (L_law hi hL h2 hC hM hZ kk)
  | 33, _ => Wp.sw (len := 195) (t := 1307) rfl rfl (L_paid hi hL h2 hC hM hZ kk)
  | 34, _ => Wp.sw (len := 195) (t := 1340) rfl rfl (L_sure hi hL h2 hC hM hZ kk)
  | 35, _ => Wp.sw (len := 195) (t := 1373) rfl rfl (L_ford hi hL h2 hC hM hZ kk)
  | 36, _ => Wp.sw (len := 195) (t := 1396) rfl rfl (L_must hi hL h2 hC hM hZ kk)
  | 37, _ => Wp.sw (len := 195) (t := 1449) rfl rfl (L_seen hi hL h2 hC hM hZ kk)
  | 38, _ => Wp.sw (len := 195) (t := 1482) rfl rfl (L_caught hi hL h2 hC hM hZ kk)
  | 39, _ => Wp.sw (len := 195) (t := 1515) rfl rfl (L_count hi hL h2 hC hM hZ kk)
  | 40, _ => Wp.sw (len := 195) (t := 1538) rfl rfl (L_keep hi hL h2 hC hM hZ kk)
  | 41, _ => Wp.sw (len := 195) (t := 1561) rfl rfl (L_back hi hL h2 hC hM hZ kk)
  | 42, _ => Wp.sw (len := 195) (t := 1584) rfl rfl (L_row hi hL h2 hC hM hZ kk)
  | 43, _ => Wp.sw (len := 195) (t := 1627) rfl rfl (L_write hi hL h2 hC hM hZ kk)
  | 44, _ => Wp.sw (len := 195) (t := 1700) rfl rfl (L_paste hi hL h2 hC hM hZ kk)
  | c + 45, hc => by
    have e : swx swl 9 (nI (c + 45)) = some 1763 := by
      have h1 : (nI (c + 45)).toInt = ((c + 45 : Nat) : Int) := nI_toInt (by omega)
      refine sw_def (lo := 0) rfl (Or.inr ?_)
      rw [h1]
      show (0 : Int) + ((45 : Nat) : Int) ≤ _
      omega
    exact Wp.sw (len := 195) (t := 1763) rfl e (kk M κ σ Z hC hM hZ (fun _ _ => rfl))
theorem law_end (h0 : cnt M 0 ≤ 600000) (h1 : cnt M 1 ≤ 7302250) : Wp 60 md_263 1769 [some (.ref 2), some (.ref 32), some (.ref 287), some (.int (nI i))] [] (mset (cset M κ) σ) (fun v M' => v = some (.int 1) ∧ cnt M' 0 ≤ 600000 ∧ cnt M' 1 ≤ 7302250) := by
  refine Wp.n (pc' := 1770) 1 rfl ?_
  refine Wp.retZ (len := 1) (c := true) rfl rfl rfl ?_
  exact ⟨rfl, h0, h1⟩
theorem law_go (hL : L ≤ 3072) : ∀ (N i : Nat) {M : AM} {κ : CS} {σ : MS} {Z : Zt}, L < i + N → i ≤ L → M 2 = .inl (7, L, .inl xs) → CI M κ Z → MI σ Z → ZG Z → cnt M 0 ≤ 600000 → cnt M 1 ≤ 7302250 → Wp 60 md_263 18 [some (.ref 2), some (.ref 32), some (.ref 287), some (.int (nI i))] [] (mset (cset M κ) σ) (fun v M' => v = some (.int 1) ∧ cnt M' 0 ≤ 600000 ∧ cnt M' 1 ≤ 7302250) := by
  intro N
  induction N with
  | zero => intro i M κ σ Z h1 h2; omega
  | succ N ih =>
    intro i M κ σ Z hN hi h2 hC hM hZ h0 h1
    have s0 : mset (cset M κ) σ 2 = .inl (7, L, .inl xs) := (if_pos (by decide)).trans ((cset_o (by omega)).trans h2)
    refine Wp.n (pc' := 20) 2 rfl ?_
    refine Wp.alen (len := 1) rfl s0 rfl ?_
    by_cases c6 : 6 ≤ L
    · refine Wp.n (pc' := 23) 1 rfl ?_
      refine Wp.isubN (x := L) (y := 6) (len := 1) rfl (by omega) ?_
      refine Wp.nc4 (x := i) (y := L - 6) (tgt := 1769) (len := 3) rfl (by omega) (by omega) (fun h24 => ?_) (fun h24 => ?_)
      · exact law_end h0 h1
      · refine Wp.n (pc' := 29) 2 rfl ?_
        refine Wp.ialdN (j := i) (len := 1) rfl s0 rfl (by omega) (by omega) ?_
        refine Wp.n (pc' := 33) 2 rfl ?_
        obtain ⟨c, hc, e⟩ := and63 (xs i)
        refine Wp.top e ?_
        refine law_case (by omega) (by omega) h2 hC hM hZ (fun M' κ' σ' Z' c' m' z' e' => ?_) c hc
        refine Wp.n (pc' := 18) 2 rfl ?_
        show Wp 60 md_263 18 [some (.ref 2), some (.ref 32), some (.ref 287), some (.int (nI i + nI 6))] [] (mset (cset M' κ') σ') _
        rw [nI_add]
        refine ih (i + 6) (by omega) (by omega) ((e' 2 (by omega)).trans h2) c' m' z' ?_ ?_
        · unfold cnt at h0 ⊢
          rw [e' 0 (by omega)]
          exact h0
        · unfold cnt at h1 ⊢
          rw [e' 1 (by omega)]
          exact h1
    · refine Wp.n (pc' := 24) 2 rfl ?_
      refine Wp.ic4 (tgt := 1769) (len := 3) rfl (fun h24 => ?_) (fun h24 => ?_)
      · exact law_end h0 h1
      · exact absurd (sub6 L (by omega) i (by omega)) h24
theorem cset_tr (h : cset M κ = M) (e : ∀ q, 33 ≤ q → q < 286 → M' q = M q) : cset M' κ = M' := by
  funext q
  by_cases c1 : q < 33
  · exact if_pos c1
  · by_cases c4 : q < 286
    · rw [e q (by omega) c4]
      conv => rhs; rw [← h]
      unfold cset
      rw [if_neg c1, if_neg c1]
      by_cases c2 : q < 36
      · rw [if_pos c2, if_pos c2]
      · rw [if_neg c2, if_neg c2]
        by_cases c3 : q < 272
        · rw [if_pos c3, if_pos c3, e q (by omega) c4]
        · rw [if_neg c3, if_neg c3, if_pos c4, if_pos c4]
    · unfold cset
      rw [if_neg c1, if_neg (by omega), if_neg (by omega), if_neg c4]
theorem mset_tr (h : mset M σ = M) (e : ∀ q, 287 ≤ q → M' q = M q) : mset M' σ = M' := by
  funext q
  by_cases c1 : q < 287
  · exact if_pos c1
  · rw [e q (by omega)]
    conv => rhs; rw [← h]
    unfold mset
    rw [if_neg c1, if_neg c1]
    by_cases c2 : q = 287
    · rw [if_pos c2, if_pos c2]
    · rw [if_neg c2, if_neg c2]
      by_cases c3 : q < 306
      · rw [if_pos c3, if_pos c3]
      · rw [if_neg c3, if_neg c3, e q (by omega)]
def Z0 : Zt := (K0, fun _ => none, (fun _ => -1, fun _ => 0, fun _ _ => 0), (0, fun _ => 0), (0, none))
theorem u4z_m {s : Nat} (h : s < 4) : u4z s = -1 := by
  obtain rfl | rfl | rfl | rfl : s = 0 ∨ s = 1 ∨ s = 2 ∨ s = 3 := by omega
  all_goals rfl
theorem ZG_0 : ZG Z0 := ⟨KG_PK PK_K0, fun k _ K e => by cases e⟩
theorem SC_0 : SC κz Z0.2.2.1 := ⟨fun s _ => Nat.zero_le _, fun s hs => ⟨u4z_m hs, rfl, fun i hi => absurd hi (Nat.not_lt_zero _)⟩⟩
theorem SM_0 : SM σz Z0.2.2.1 := ⟨fun s _ => Nat.zero_le _, fun s hs => ⟨u4z_m hs, rfl, fun i hi => absurd hi (Nat.not_lt_zero _)⟩⟩
theorem RepC_0 : RepC rzr K0 := by
  refine ⟨rfl, rfl, rfl, rfl, rfl, rfl, rfl, fun h => absurd h (by decide), fun i hi => absurd hi (Nat.not_lt_zero _), fun i hi => ?_, fun i hi => absurd hi (Nat.not_lt_zero _)⟩
  rcases hi with hi | hi
  · exact absurd hi (Nat.not_lt_zero _)
  · exact absurd hi.2 (by show ¬ (0 : Nat) = 1; decide)
theorem RepM_0 : RepM σz 0 K0 := by
  refine ⟨fun j hj => ?_, fun h => absurd h (by decide), rfl, rfl, fun i hi => absurd hi (Nat.not_lt_zero _), fun i hi => ?_, fun i hi => absurd hi (Nat.not_lt_zero _)⟩
  · show (0 : Int32) = nI (if j = 9 then 1 else 0)
    rw [if_neg (by omega)]
    rfl
  · rcases hi with hi | hi
    · exact absurd hi (Nat.not_lt_zero _)
    · exact absurd hi.2 (by show ¬ (0 : Nat) = 1; decide)
theorem MI_0 : MI σz Z0 := ⟨⟨RepM_0, KOK_K0, rfl, rfl⟩, fun k _ => Or.inl ⟨rfl, rfl⟩, SM_0, ⟨rfl, Nat.zero_le _, fun i hi => absurd hi (Nat.not_lt_zero _)⟩, ⟨rfl, rfl⟩⟩
theorem CI_0 (h1 : HD M) (h2 : HI M) (h3 : HW M) (r36 : RA M 36 rzr) (r83 : RA M 83 rzr) (r131 : RA M 131 rzr) (r178 : RA M 178 rzr) (r225 : RA M 225 rzr) : CI M κz Z0 := by
  refine ⟨h1, h2, h3, ⟨rzr, r36, RepC_0, fun x y hx hy => absurd hx (Nat.not_lt_zero _), KOK_K0, by decide, by decide⟩, ⟨rzr, r83⟩, ⟨fun k hk => ⟨rzr, ?_⟩, fun k _ => Or.inl ⟨rfl, rfl⟩⟩, SC_0, ⟨rfl, Nat.zero_le _, fun i hi => absurd hi (Nat.not_lt_zero _)⟩, ⟨rfl, rfl⟩⟩
  obtain rfl | rfl | rfl : k = 0 ∨ k = 1 ∨ k = 2 := by omega
  · exact r131
  · exact r178
  · exact r225
theorem M0_cx : M0 L xs = cx (M0 L xs) 0 0 := by
  funext q
  by_cases h : 2 ≤ q
  · rw [cx_o h]
  · obtain rfl | rfl : q = 0 ∨ q = 1 := by omega
    · rfl
    · rfl
theorem law_start (hL : L ≤ 3072) : Wp 60 md_263 0 (ent [.ref 2] 4) [] (M0 L xs) (fun v M' => v = some (.int 1) ∧ cnt M' 0 ≤ 600000 ∧ cnt M' 1 ≤ 7302250) := by
  rw [M0_cx]
  refine Wp.xnew (q := 32) (len := 3) rfl rfl ?_
  refine Wp.n (pc' := 4) 1 rfl ?_
  refine Wp.callI (len := 3) rfl rfl rfl rfl rfl (k_sdInit (d := 49) (va_up_self _ _ _)) ?_
  rintro _ _ ⟨rfl, Mf, m', rfl, hm', c1, c2, c2r, c3, r36, r83, r131, r178, r225, ag⟩
  refine Wp.n (pc' := 8) 1 rfl ?_
  refine Wp.xnew (q := 287) (len := 3) rfl rfl ?_
  refine Wp.n (pc' := 12) 1 rfl ?_
  refine Wp.callI (len := 3) rfl rfl rfl rfl rfl (k_modelInit (d := 51) (va_up_self _ _ _)) ?_
  rintro _ _ ⟨rfl, Mg, rfl, hms, ag2⟩
  refine Wp.n (pc' := 18) 3 rfl ?_
  have f9 : fN 9 = 11 := rfl
  have f10 : fN 10 = 45 := rfl
  have hY : ∀ n m q, 2 ≤ q → q < 287 → cx Mg n m q = Mf q := fun n m q h1 h2 => (cx_o h1).trans ((ag2 q h2).trans (va_up_ne _ _ (by omega)))
  have hlow : ∀ q, 2 ≤ q → q < 32 → Mf q = M0 L xs q := fun q h1 h2 => (ag q (Or.inl h2)).trans (va_up_ne _ _ (by omega))
  refine Wp.cong (M' := mset (cset (cx Mg 274 (m' + fN 10 + 4 + 4 + 240 + 60 + 2000 + 5 + 25 + 25 + 5 + 180 + 315 + 550 + 3 + 7 + 7 + 6 + 7 + 10)) κz) σz) ?_ (law_go (xs := xs) hL (L + 1) 0 (by omega) (Nat.zero_le _) ?_ (CI_0 ?_ ?_ ?_ ?_ ?_ ?_ ?_ ?_) MI_0 ZG_0 ?_ ?_)
  · rw [cset_tr c1 (fun q h1 h2 => hY _ _ q (by omega) (by omega)), mset_tr hms (fun q h1 => cx_o (by omega))]
  · exact (hY _ _ 2 (by omega) (by omega)).trans ((hlow 2 (by omega) (by omega)).trans rfl)
  · exact ⟨⟨0, (hY _ _ 32 (by omega) (by omega)).trans c2⟩, _, (hY _ _ 286 (by omega) (by omega)).trans c2r⟩
  · exact (hY _ _ 130 (by omega) (by omega)).trans c3
  · intro j hj
    refine (hY _ _ _ (by omega) (by omega)).trans ((hlow _ (by omega) (by omega)).trans ?_)
    unfold M0
    rw [if_neg (by omega), if_neg (by omega), if_pos (by omega), show 3 + j - 3 = j by omega]
    rfl
  · exact RA_of r36 (fun q a b => hY _ _ q (by omega) (by omega))
  · exact RA_of r83 (fun q a b => hY _ _ q (by omega) (by omega))
  · exact RA_of r131 (fun q a b => hY _ _ q (by omega) (by omega))
  · exact RA_of r178 (fun q a b => hY _ _ q (by omega) (by omega))
  · exact RA_of r225 (fun q a b => hY _ _ q (by omega) (by omega))
  · show (274 : Nat) ≤ 600000
    decide
  · show m' + fN 10 + 4 + 4 + 240 + 60 + 2000 + 5 + 25 + 25 + 5 + 180 + 315 + 550 + 3 + 7 + 7 + 6 + 7 + 10 ≤ 7302250
    omega
theorem law_runs : LawRuns := fun L xs hL => by
  obtain ⟨v, M', ev, rfl, h0, h1⟩ := law_start (xs := xs) hL
  exact ⟨M', ev, h0, h1⟩
end LGO
end
