/-! Constants, locals, fields, branches. -/
set_option maxRecDepth 100000 in
theorem kT_all : kT.all (fun c => c.2.all (fun q => decide (lw_tbl[q.2.2]? = some (Jvm.Cond.constant (cnm (q.1 / 1000)) (q.1 % 1000) q.2.1)))) = true := by decide +kernel
set_option maxRecDepth 100000 in
theorem kJ_all : kJ.all (fun c => c.2.all (fun q => decide (lw_tbl[q.2.2]? = some (Jvm.Cond.constantLong (cnm (q.1 / 1000)) (q.1 % 1000) q.2.1)))) = true := by decide +kernel
theorem sT_all : sT.all (fun c => c.2.all (fun q => Nat.beq (q.1 / 1000) 2 && Nat.blt q.2 21 && Nat.beq (sidx.getD q.2 0) (q.1 % 1000))) = true := by decide +kernel
set_option maxRecDepth 100000 in
theorem clT_all : clT.all (fun c => c.2.all (fun q => Nat.blt q.2.1 11 && decide (lw_tbl[q.2.2.1]? = some (Jvm.Cond.classLink (cnm (q.1 / 1000)) (q.1 % 1000) (cnm q.2.1))) && decide (lw_tbl[q.2.2.2.1]? = some (Jvm.Cond.instantiable (cnm q.2.1) (fN q.2.1))) && decide (lw_tbl[q.2.2.2.2]? = some (Jvm.Cond.initialized (cnm q.2.1))))) = true := by decide +kernel
set_option maxRecDepth 100000 in
theorem alT_all : alT.all (fun c => c.2.all (fun q => Nat.ble 4 q.2.1 && Nat.ble q.2.1 6 && decide (lw_tbl[q.2.2.1]? = some (Jvm.Cond.classLink (cnm (q.1 / 1000)) (q.1 % 1000) (cnm (tag_cls q.2.1)))) && decide (lw_tbl[q.2.2.2]? = some (Jvm.Cond.arrayOver (.object (cnm (tag_cls q.2.1))))))) = true := by decide +kernel
theorem key1 {o i : Nat} (hi : i < 1000) : (1000 * o + i) / 1000 = o := by omega
theorem key2 {o i : Nat} (hi : i < 1000) : (1000 * o + i) % 1000 = i := by omega
/-- a table's row of the key, whatever i is: the key's own parts (all keys are below 1000 in their second part) -/
theorem lk2_all {α : Type} {cs : List (Nat × List (Nat × α))} {P : Nat × α → Bool} (h : cs.all (fun c => c.2.all P) = true) {k : Nat} {x : α} (hx : lk2 cs k = some x) : P (k, x) = true := by
  obtain ⟨c, h1, h2⟩ := lk2_mem hx
  exact List.all_eq_true.mp (List.all_eq_true.mp h c h1) _ h2
section STEPO
variable {p : Program} {l : Launch} {e : Env} {R : Room} {s : State} {m : MethodId} {args : Array Value} {below : List Frame} {meth : Method} {c : Code} {H : Heap} {locs : List Loc} {cells slots : Nat} {Q : State → Prop}
variable {G : SG} {sc : Nat × (Nat → Int32)} {adV : Nat → Nat} {X : MD} {pc len : Nat} {ls : Array Slot} {ll ll' : AL} {st st' : List Value} {M M' : AM}
set_option maxHeartbeats 1000000 in
theorem w_const {v : Value} (F : FRm G sc adV X p s m args meth c) (hc : kchk (md_o X) v len (decode (md_b X) pc) = true)
    (k : W p l e R s m args below meth c H locs cells slots Q (F0 m (pc + len) ls (cv G v :: st.map (cv G)))) : W p l e R s m args below meth c H locs cells slots Q (F0 m pc ls (st.map (cv G))) := by
  obtain ⟨hx, hb, hml, hown, hts, hin, hK, hO, hG⟩ := F
  unfold kchk at hc
  split at hc
  · rename_i hd
    rw [Bool.and_eq_true] at hc
    have hl := Nat.eq_of_beq_eq_true hc.1
    subst hl
    exact lv_iconst hx hb hd (of_decide_eq_true hc.2) k
  · rename_i hd
    rw [Bool.and_eq_true] at hc
    have hl := Nat.eq_of_beq_eq_true hc.1
    subst hl
    exact lv_bipush hx hb hd (of_decide_eq_true hc.2) k
  · rename_i hd
    rw [Bool.and_eq_true] at hc
    have hl := Nat.eq_of_beq_eq_true hc.1
    subst hl
    exact lv_sipush hx hb hd (of_decide_eq_true hc.2) k
  · rename_i x i hd
    rw [Bool.and_eq_true, Bool.and_eq_true] at hc
    have hl := Nat.eq_of_beq_eq_true hc.1.1
    have hi : i < 1000 := Nat.le_of_ble_eq_true hc.1.2
    subst hl
    have h2 := hc.2
    split at h2
    · rename_i y n hy
      have e := of_decide_eq_true h2
      subst e
      have h3 := of_decide_eq_true (lk2_all kT_all hy)
      rw [key1 hi, key2 hi] at h3
      exact lv_ldc hx hb hown (hts _ (t2_in (List.mem_of_getElem? h3) rfl)) hd k
    · cases h2
  · rename_i x i hd
    rw [Bool.and_eq_true, Bool.and_eq_true] at hc
    have hl := Nat.eq_of_beq_eq_true hc.1.1
    have hi : i < 1000 := Nat.le_of_ble_eq_true hc.1.2
    subst hl
    have h2 := hc.2
    split at h2
    · rename_i y n hy
      have e := of_decide_eq_true h2
      subst e
      have h3 := of_decide_eq_true (lk2_all kT_all hy)
      rw [key1 hi, key2 hi] at h3
      exact lv_ldcw hx hb hown (hts _ (t2_in (List.mem_of_getElem? h3) rfl)) hd k
    · cases h2
  · rename_i hd
    rw [Bool.and_eq_true] at hc
    have hl := Nat.eq_of_beq_eq_true hc.1
    subst hl
    exact lv_lconst hx hb hd (of_decide_eq_true hc.2) k
  · rename_i x i hd
    rw [Bool.and_eq_true, Bool.and_eq_true] at hc
    have hl := Nat.eq_of_beq_eq_true hc.1.1
    have hi : i < 1000 := Nat.le_of_ble_eq_true hc.1.2
    subst hl
    have h2 := hc.2
    split at h2
    · rename_i y n hy
      have e := of_decide_eq_true h2
      subst e
      have h3 := of_decide_eq_true (lk2_all kJ_all hy)
      rw [key1 hi, key2 hi] at h3
      exact lv_ldc2 hx hb hown (hts _ (t2_in (List.mem_of_getElem? h3) rfl)) hd k
    · cases h2
  · rename_i hd
    have hl := Nat.eq_of_beq_eq_true hc
    subst hl
    exact lv_null hx hb hd k
  · rename_i r i hd
    rw [Bool.and_eq_true, Bool.and_eq_true] at hc
    have hl := Nat.eq_of_beq_eq_true hc.1.1
    have hi : i < 1000 := Nat.le_of_ble_eq_true hc.1.2
    subst hl
    have h2 := hc.2
    split at h2
    · rename_i n hy
      have e : r = 3 + n := Nat.eq_of_beq_eq_true h2
      subst e
      have h3 := lk2_all sT_all hy
      simp only [Bool.and_eq_true] at h3
      obtain ⟨⟨a1, a2⟩, a3⟩ := h3
      have a1 := Nat.eq_of_beq_eq_true a1
      have a3 := Nat.eq_of_beq_eq_true a3
      have a2 : n < 21 := Nat.le_of_ble_eq_true a2
      rw [key1 hi] at a1
      rw [key2 hi] at a3
      have hR := hO.2.2.2.1 n a2
      rw [a3] at hR
      rw [a1] at hown
      have hv : cv G (.ref (3 + n)) = .ref (G.2.1 (3 + n)) := by
        show Value.ref (ad G (3 + n)) = _
        unfold ad
        rw [if_pos (by omega)]
      rw [hv] at k
      exact va_ldcS hx hb hown hR hd k
    · cases h2
  · cases hc
/-- locals are read -/
theorem w_aload {a : Nat} {v : Value} (F : FRm G sc adV X p s m args meth c) (hL : LH G ls (md_L X) ll) (hd : decode (md_b X) pc = .ok (.aload a, 2) ∧ len = 2 ∨ ∃ k : Fin 4, decode (md_b X) pc = .ok (.aload_n k, 1) ∧ k.val = a ∧ len = 1) (hv : gl ll a = some v) (hr : (∃ q, v = .ref q) ∨ v = .null)
    (k : W p l e R s m args below meth c H locs cells slots Q (F0 m (pc + len) ls (cv G v :: st.map (cv G)))) : W p l e R s m args below meth c H locs cells slots Q (F0 m pc ls (st.map (cv G))) := by
  obtain ⟨hx, hb, -⟩ := F
  have h1 := hL.2.2.2 a v hv
  rcases hr with ⟨q, rfl⟩ | rfl
  · rcases hd with ⟨hd, rfl⟩ | ⟨kk, hd, hk, rfl⟩
    · exact lv_aload hx hb hd h1 k
    · exact lv_aload_n hx hb hd hk h1 k
  · rcases hd with ⟨hd, rfl⟩ | ⟨kk, hd, hk, rfl⟩
    · exact lv_aloadN hx hb hd h1 k
    · exact lv_aload_nN hx hb hd hk h1 k
theorem w_iload {a : Nat} {x : Int32} (F : FRm G sc adV X p s m args meth c) (hL : LH G ls (md_L X) ll) (hd : decode (md_b X) pc = .ok (.iload a, 2) ∧ len = 2 ∨ ∃ k : Fin 4, decode (md_b X) pc = .ok (.iload_n k, 1) ∧ k.val = a ∧ len = 1) (hv : gl ll a = some (.int x))
    (k : W p l e R s m args below meth c H locs cells slots Q (F0 m (pc + len) ls (.int x :: st.map (cv G)))) : W p l e R s m args below meth c H locs cells slots Q (F0 m pc ls (st.map (cv G))) := by
  obtain ⟨hx, hb, -⟩ := F
  have h1 := hL.2.2.2 a _ hv
  rcases hd with ⟨hd, rfl⟩ | ⟨kk, hd, hk, rfl⟩
  · exact lv_iload hx hb hd h1 k
  · exact lv_iload_n hx hb hd hk h1 k
theorem w_lload {a : Nat} {x : Int64} (F : FRm G sc adV X p s m args meth c) (hL : LH G ls (md_L X) ll) (hd : decode (md_b X) pc = .ok (.lload a, 2) ∧ len = 2 ∨ ∃ k : Fin 4, decode (md_b X) pc = .ok (.lload_n k, 1) ∧ k.val = a ∧ len = 1) (hv : gl ll a = some (.long x))
    (k : W p l e R s m args below meth c H locs cells slots Q (F0 m (pc + len) ls (.long x :: st.map (cv G)))) : W p l e R s m args below meth c H locs cells slots Q (F0 m pc ls (st.map (cv G))) := by
  obtain ⟨hx, hb, -⟩ := F
  have h1 := hL.2.2.2 a _ hv
  rcases hd with ⟨hd, rfl⟩ | ⟨kk, hd, hk, rfl⟩
  · exact lv_lload hx hb hd h1 k
  · exact lv_lload_n hx hb hd hk h1 k
/-- locals are written; the place must be one of them -/
theorem w_istore {a : Nat} {x : Int32} (F : FRm G sc adV X p s m args meth c) (hL : LH G ls (md_L X) ll) (ha : a < md_L X) (hd : decode (md_b X) pc = .ok (.istore a, 2) ∧ len = 2 ∨ ∃ k : Fin 4, decode (md_b X) pc = .ok (.istore_n k, 1) ∧ k.val = a ∧ len = 1)
    (k : ∀ ls', LH G ls' (md_L X) (st1 ll a (.int x)) → W p l e R s m args below meth c H locs cells slots Q (F0 m (pc + len) ls' (st.map (cv G)))) : W p l e R s m args below meth c H locs cells slots Q (F0 m pc ls (.int x :: st.map (cv G))) := by
  obtain ⟨hx, hb, -⟩ := F
  rcases hd with ⟨hd, rfl⟩ | ⟨kk, hd, hk, rfl⟩
  · exact lv_istore hx hb hd hL.has ha rfl (fun ls' h' => k ls' (hL.st1 (v := .int x) h'))
  · exact lv_istore_n hx hb hd hk hL.has ha rfl (fun ls' h' => k ls' (hL.st1 (v := .int x) h'))
theorem w_lstore {a : Nat} {x : Int64} (F : FRm G sc adV X p s m args meth c) (hL : LH G ls (md_L X) ll) (ha : a + 1 < md_L X) (hd : decode (md_b X) pc = .ok (.lstore a, 2) ∧ len = 2 ∨ ∃ k : Fin 4, decode (md_b X) pc = .ok (.lstore_n k, 1) ∧ k.val = a ∧ len = 1)
    (k : ∀ ls', LH G ls' (md_L X) (st2 ll a (.long x)) → W p l e R s m args below meth c H locs cells slots Q (F0 m (pc + len) ls' (st.map (cv G)))) : W p l e R s m args below meth c H locs cells slots Q (F0 m pc ls (.long x :: st.map (cv G))) := by
  obtain ⟨hx, hb, -⟩ := F
  rcases hd with ⟨hd, rfl⟩ | ⟨kk, hd, hk, rfl⟩
  · exact lv_lstore hx hb hd hL.has ha rfl (fun ls' h' => k ls' (hL.st2 (v := .long x) h'))
  · exact lv_lstore_n hx hb hd hk hL.has ha rfl (fun ls' h' => k ls' (hL.st2 (v := .long x) h'))
theorem w_astore {a : Nat} {v : Value} (F : FRm G sc adV X p s m args meth c) (hL : LH G ls (md_L X) ll) (ha : a < md_L X) (hd : decode (md_b X) pc = .ok (.astore a, 2) ∧ len = 2 ∨ ∃ k : Fin 4, decode (md_b X) pc = .ok (.astore_n k, 1) ∧ k.val = a ∧ len = 1) (hr : (∃ q, v = .ref q) ∨ v = .null)
    (k : ∀ ls', LH G ls' (md_L X) (st1 ll a v) → W p l e R s m args below meth c H locs cells slots Q (F0 m (pc + len) ls' (st.map (cv G)))) : W p l e R s m args below meth c H locs cells slots Q (F0 m pc ls (cv G v :: st.map (cv G))) := by
  obtain ⟨hx, hb, -⟩ := F
  rcases hr with ⟨q, rfl⟩ | rfl
  · rcases hd with ⟨hd, rfl⟩ | ⟨kk, hd, hk, rfl⟩
    · exact lv_astore hx hb hd hL.has ha rfl (fun ls' h' => k ls' (hL.st1 (v := .ref q) h'))
    · exact lv_astore_n hx hb hd hk hL.has ha rfl (fun ls' h' => k ls' (hL.st1 (v := .ref q) h'))
  · rcases hd with ⟨hd, rfl⟩ | ⟨kk, hd, hk, rfl⟩
    · exact lv_astoreN hx hb hd hL.has ha rfl (fun ls' h' => k ls' (hL.st1 (v := .null) h'))
    · exact lv_astore_nN hx hb hd hk hL.has ha rfl (fun ls' h' => k ls' (hL.st1 (v := .null) h'))
/-- fields -/
theorem w_get {a b q i x : Nat} {ne : Bool} {fs : List Value} {w : Value} (F : FRm G sc adV X p s m args meth c) (hH : HR G sc s M H locs) (hi : i < 1000) (hd : decode (md_b X) pc = .ok (.getfield i, 3)) (hf : lk2 flT (1000 * md_o X + i) = some (a, b, ne, x)) (hM : M q = .inr (a, fs)) (hv : gv fs b = some w)
    (k : W p l e R s m args below meth c H locs cells slots Q (F0 m (pc + 3) ls (cv G w :: st.map (cv G)))) : W p l e R s m args below meth c H locs cells slots Q (F0 m pc ls (.ref (ad G q) :: st.map (cv G))) := by
  obtain ⟨hx, hb, hml, hown, hts, hin, hK, hO, hG⟩ := F
  obtain ⟨f1, f2, f3, f4⟩ := flT_ok hi hf
  have hne : fs ≠ [] := fun h => by subst h; cases hv
  obtain ⟨g1, g2, g3⟩ := hH.obj hM hne
  have hv2 : ∀ (fs : List Value) (b : Nat), gv fs b = some w → (fs.map (cv G))[b]? = some (cv G w) := by
    intro fs
    induction fs with
    | nil => intro b h; cases h
    | cons z t ih =>
      intro b h
      cases b with
      | zero => cases h; rfl
      | succ b => exact ih b h
  cases ne with
  | false => exact va_get (C := cnm a) (T := fTX a) (N := fN a) hx hb hts (f_ws a f2) hown hK hH.1 (q - 32) g3 (vw_at a f2) b f3 (hts _ f1) (by rw [f4]; exact fun _ h => h) (hv2 fs b hv) hd k
  | true => exact va_getN (C := cnm a) (T := fTX a) (N := fN a) hx hb hts (f_ws a f2) hown hK hH.1 (q - 32) g3 (vw_at a f2) b f3 (hts _ f1) (by rw [f4]; exact fun _ h => h) (hv2 fs b hv) hd k
theorem pfit_cv {ty : FieldType} {w : Value} (h : pfit ty w = true) : narrow ty (cv G w) = cv G w ∧ fits ty (cv G w) = true := by
  unfold pfit at h
  split at h
  · exact ⟨rfl, rfl⟩
  · exact ⟨rfl, rfl⟩
  · rename_i x
    rw [Bool.or_eq_true] at h
    rcases h with h | h
    · have e : x = 0 := by simpa using h
      subst e
      exact ⟨rfl, rfl⟩
    · have e : x = 1 := by simpa using h
      subst e
      exact ⟨rfl, rfl⟩
  · exact ⟨rfl, rfl⟩
  · exact ⟨rfl, rfl⟩
  · exact ⟨rfl, rfl⟩
  · exact ⟨rfl, rfl⟩
  · cases h
theorem w_put {a b q i x : Nat} {ne : Bool} {fs : List Value} {w : Value} (F : FRm G sc adV X p s m args meth c) (hH : HR G sc s M H locs) (hi : i < 1000) (hd : decode (md_b X) pc = .ok (.putfield i, 3)) (hf : lk2 flT (1000 * md_o X + i) = some (a, b, ne, x)) (hnf : (!ne || !(fTX a b).2.2.2) = true) (hM : M q = .inr (a, fs)) (hb2 : b < fs.length) (hp : pfit (fcode a b) w = true) (hfin : (bif (fTX a b).2.2.2 then md_i X && Nat.beq (md_o X) a else true) = true)
    (k : ∀ (H' : Heap) (locs' : List Loc), HR G sc s (va_up M q (.inr (a, fs.set b w))) H' locs' → W p l e R s m args below meth c H' locs' cells slots Q (F0 m (pc + 3) ls (st.map (cv G)))) : W p l e R s m args below meth c H locs cells slots Q (F0 m pc ls (cv G w :: .ref (ad G q) :: st.map (cv G))) := by
  obtain ⟨hx, hb, hml, hown, hts, hin, hK, hO, hG⟩ := F
  obtain ⟨f1, f2, f3, f4⟩ := flT_ok hi hf
  have hne : fs ≠ [] := fun h => by subst h; cases hb2
  obtain ⟨g1, g2, g3⟩ := hH.obj hM hne
  obtain ⟨p1, p2⟩ := pfit_cv (G := G) hp
  have fin : ∀ (H1 : Heap) (locs1 : List Loc), va_P G.2.2.2 vwCl ((lay G M).set (q - 32) (ad G q, .inr (a, (fs.map (cv G)).set b (cv G w)))) H1 → va_D (fun q => G.1 ≤ q) ((lay G M).set (q - 32) (ad G q, .inr (a, (fs.map (cv G)).set b (cv G w)))) → va_S (fun q => G.1 ≤ q) s.heap H1 locs1 → W p l e R s m args below meth c H1 locs1 cells slots Q (F0 m (pc + 3) ls (st.map (cv G))) := fun H1 locs1 hP1 _ hS1 => k H1 locs1 (hH.upd g1 g2 (fun t n x h => by cases h) (by
    show va_P _ _ ((lay G M).set (q - 32) (ad G q, .inr (a, (fs.set b w).map (cv G)))) H1
    rw [List.map_set]
    exact hP1) hS1)
  cases hF : (fTX a b).2.2.2 with
  | true =>
    rw [hF] at hfin
    rw [cond_true, Bool.and_eq_true] at hfin
    have ho := Nat.eq_of_beq_eq_true hfin.2
    cases ne with
    | true => rw [hF] at hnf; cases hnf
    | false => exact va_putF (C := cnm a) (T := fTX a) (N := fN a) hx hb hts (f_ws a f2) (fcode a) (fT_ok a f2) (fN_nm a f2) hown hK hH.1 (lay_D G M) hH.2.1 (q - 32) g3 (vw_at a f2) b f3 (hts _ f1) (by rw [f4]; exact fun _ h => h) hF (hin hfin.1) (by rw [f4, ho]) (fT_ok a f2 b f3) p1 p2 (by rw [List.length_map]; exact hb2) hd fin
  | false =>
    cases ne with
    | false => exact va_put (C := cnm a) (T := fTX a) (N := fN a) hx hb hts (f_ws a f2) (fcode a) (fT_ok a f2) (fN_nm a f2) hown hK hH.1 (lay_D G M) hH.2.1 (q - 32) g3 (vw_at a f2) b f3 (hts _ f1) (by rw [f4]; exact fun _ h => h) hF (fT_ok a f2 b f3) p1 p2 (by rw [List.length_map]; exact hb2) hd fin
    | true => exact va_putN (C := cnm a) (T := fTX a) (N := fN a) hx hb hts (f_ws a f2) (fcode a) (fT_ok a f2) (fN_nm a f2) hown hK hH.1 (lay_D G M) hH.2.1 (q - 32) g3 (vw_at a f2) b f3 (hts _ f1) (by rw [f4]; exact fun _ h => h) hF (fT_ok a f2 b f3) p1 p2 (by rw [List.length_map]; exact hb2) hd fin
end STEPO
