set_option maxRecDepth 100000 in
theorem lawk_28 : lawc_28.all (fun q => achk 11 code q.1 q.2) = true := fz_wlk_ok (pc := 1330) rfl (show fz_wlk 11 code lawc_28 1330 (code.data.toList.drop 1330) = true by decide +kernel)
set_option maxRecDepth 100000 in
theorem lawk_29 : lawc_29.all (fun q => achk 11 code q.1 q.2) = true := fz_wlk_ok (pc := 1373) rfl (show fz_wlk 11 code lawc_29 1373 (code.data.toList.drop 1373) = true by decide +kernel)
set_option maxRecDepth 100000 in
theorem lawk_30 : lawc_30.all (fun q => achk 11 code q.1 q.2) = true := fz_wlk_ok (pc := 1412) rfl (show fz_wlk 11 code lawc_30 1412 (code.data.toList.drop 1412) = true by decide +kernel)
set_option maxRecDepth 100000 in
theorem lawk_31 : lawc_31.all (fun q => achk 11 code q.1 q.2) = true := fz_wlk_ok (pc := 1451) rfl (show fz_wlk 11 code lawc_31 1451 (code.data.toList.drop 1451) = true by decide +kernel)
set_option maxRecDepth 100000 in
theorem lawk_32 : lawc_32.all (fun q => achk 11 code q.1 q.2) = true := fz_wlk_ok (pc := 1490) rfl (show fz_wlk 11 code lawc_32 1490 (code.data.toList.drop 1490) = true by decide +kernel)
set_option maxRecDepth 100000 in
theorem lawk_33 : lawc_33.all (fun q => achk 11 code q.1 q.2) = true := fz_wlk_ok (pc := 1531) rfl (show fz_wlk 11 code lawc_33 1531 (code.data.toList.drop 1531) = true by decide +kernel)
set_option maxRecDepth 100000 in
theorem lawk_34 : lawc_34.all (fun q => achk 11 code q.1 q.2) = true := fz_wlk_ok (pc := 1576) rfl (show fz_wlk 11 code lawc_34 1576 (code.data.toList.drop 1576) = true by decide +kernel)
set_option maxRecDepth 100000 in
theorem lawk_35 : lawc_35.all (fun q => achk 11 code q.1 q.2) = true := fz_wlk_ok (pc := 1615) rfl (show fz_wlk 11 code lawc_35 1615 (code.data.toList.drop 1615) = true by decide +kernel)
set_option maxRecDepth 100000 in
theorem lawk_36 : lawc_36.all (fun q => achk 11 code q.1 q.2) = true := fz_wlk_ok (pc := 1653) rfl (show fz_wlk 11 code lawc_36 1653 (code.data.toList.drop 1653) = true by decide +kernel)
set_option maxRecDepth 100000 in
theorem lawk_37 : lawc_37.all (fun q => achk 11 code q.1 q.2) = true := fz_wlk_ok (pc := 1693) rfl (show fz_wlk 11 code lawc_37 1693 (code.data.toList.drop 1693) = true by decide +kernel)
set_option maxRecDepth 100000 in
theorem lawk_38 : lawc_38.all (fun q => achk 11 code q.1 q.2) = true := fz_wlk_ok (pc := 1732) rfl (show fz_wlk 11 code lawc_38 1732 (code.data.toList.drop 1732) = true by decide +kernel)
theorem ck_263 : mchk md_263 = true := List.all_eq_true.mpr (List.forall_mem_cons.mpr ⟨lawk_0, List.forall_mem_cons.mpr ⟨lawk_1, List.forall_mem_cons.mpr ⟨lawk_2, List.forall_mem_cons.mpr ⟨lawk_3, List.forall_mem_cons.mpr ⟨lawk_4, List.forall_mem_cons.mpr ⟨lawk_5, List.forall_mem_cons.mpr ⟨lawk_6, List.forall_mem_cons.mpr ⟨lawk_7, List.forall_mem_cons.mpr ⟨lawk_8, List.forall_mem_cons.mpr ⟨lawk_9, List.forall_mem_cons.mpr ⟨lawk_10, List.forall_mem_cons.mpr ⟨lawk_11, List.forall_mem_cons.mpr ⟨lawk_12, List.forall_mem_cons.mpr ⟨lawk_13, List.forall_mem_cons.mpr ⟨lawk_14, List.forall_mem_cons.mpr ⟨lawk_15, List.forall_mem_cons.mpr ⟨lawk_16, List.forall_mem_cons.mpr ⟨lawk_17, List.forall_mem_cons.mpr ⟨lawk_18, List.forall_mem_cons.mpr ⟨lawk_19, List.forall_mem_cons.mpr ⟨lawk_20, List.forall_mem_cons.mpr ⟨lawk_21, List.forall_mem_cons.mpr ⟨lawk_22, List.forall_mem_cons.mpr ⟨lawk_23, List.forall_mem_cons.mpr ⟨lawk_24, List.forall_mem_cons.mpr ⟨lawk_25, List.forall_mem_cons.mpr ⟨lawk_26, List.forall_mem_cons.mpr ⟨lawk_27, List.forall_mem_cons.mpr ⟨lawk_28, List.forall_mem_cons.mpr ⟨lawk_29, List.forall_mem_cons.mpr ⟨lawk_30, List.forall_mem_cons.mpr ⟨lawk_31, List.forall_mem_cons.mpr ⟨lawk_32, List.forall_mem_cons.mpr ⟨lawk_33, List.forall_mem_cons.mpr ⟨lawk_34, List.forall_mem_cons.mpr ⟨lawk_35, List.forall_mem_cons.mpr ⟨lawk_36, List.forall_mem_cons.mpr ⟨lawk_37, List.forall_mem_cons.mpr ⟨lawk_38, fun _ h => absurd h List.not_mem_nil⟩⟩⟩⟩⟩⟩⟩⟩⟩⟩⟩⟩⟩⟩⟩⟩⟩⟩⟩⟩⟩⟩⟩⟩⟩⟩⟩⟩⟩⟩⟩⟩⟩⟩⟩⟩⟩⟩⟩)
