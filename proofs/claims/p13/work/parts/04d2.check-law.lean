set_option maxRecDepth 100000 in
theorem lawk_14 : lawc_14.all (fun q => achk 11 code q.1 q.2) = true := fz_wlk_ok (pc := 782) rfl (show fz_wlk 11 code lawc_14 782 (code.data.toList.drop 782) = true by decide +kernel)
set_option maxRecDepth 100000 in
theorem lawk_15 : lawc_15.all (fun q => achk 11 code q.1 q.2) = true := fz_wlk_ok (pc := 821) rfl (show fz_wlk 11 code lawc_15 821 (code.data.toList.drop 821) = true by decide +kernel)
set_option maxRecDepth 100000 in
theorem lawk_16 : lawc_16.all (fun q => achk 11 code q.1 q.2) = true := fz_wlk_ok (pc := 858) rfl (show fz_wlk 11 code lawc_16 858 (code.data.toList.drop 858) = true by decide +kernel)
set_option maxRecDepth 100000 in
theorem lawk_17 : lawc_17.all (fun q => achk 11 code q.1 q.2) = true := fz_wlk_ok (pc := 895) rfl (show fz_wlk 11 code lawc_17 895 (code.data.toList.drop 895) = true by decide +kernel)
set_option maxRecDepth 100000 in
theorem lawk_18 : lawc_18.all (fun q => achk 11 code q.1 q.2) = true := fz_wlk_ok (pc := 932) rfl (show fz_wlk 11 code lawc_18 932 (code.data.toList.drop 932) = true by decide +kernel)
set_option maxRecDepth 100000 in
theorem lawk_19 : lawc_19.all (fun q => achk 11 code q.1 q.2) = true := fz_wlk_ok (pc := 967) rfl (show fz_wlk 11 code lawc_19 967 (code.data.toList.drop 967) = true by decide +kernel)
set_option maxRecDepth 100000 in
theorem lawk_20 : lawc_20.all (fun q => achk 11 code q.1 q.2) = true := fz_wlk_ok (pc := 1006) rfl (show fz_wlk 11 code lawc_20 1006 (code.data.toList.drop 1006) = true by decide +kernel)
set_option maxRecDepth 100000 in
theorem lawk_21 : lawc_21.all (fun q => achk 11 code q.1 q.2) = true := fz_wlk_ok (pc := 1045) rfl (show fz_wlk 11 code lawc_21 1045 (code.data.toList.drop 1045) = true by decide +kernel)
set_option maxRecDepth 100000 in
theorem lawk_22 : lawc_22.all (fun q => achk 11 code q.1 q.2) = true := fz_wlk_ok (pc := 1084) rfl (show fz_wlk 11 code lawc_22 1084 (code.data.toList.drop 1084) = true by decide +kernel)
set_option maxRecDepth 100000 in
theorem lawk_23 : lawc_23.all (fun q => achk 11 code q.1 q.2) = true := fz_wlk_ok (pc := 1125) rfl (show fz_wlk 11 code lawc_23 1125 (code.data.toList.drop 1125) = true by decide +kernel)
set_option maxRecDepth 100000 in
theorem lawk_24 : lawc_24.all (fun q => achk 11 code q.1 q.2) = true := fz_wlk_ok (pc := 1162) rfl (show fz_wlk 11 code lawc_24 1162 (code.data.toList.drop 1162) = true by decide +kernel)
set_option maxRecDepth 100000 in
theorem lawk_25 : lawc_25.all (fun q => achk 11 code q.1 q.2) = true := fz_wlk_ok (pc := 1207) rfl (show fz_wlk 11 code lawc_25 1207 (code.data.toList.drop 1207) = true by decide +kernel)
set_option maxRecDepth 100000 in
theorem lawk_26 : lawc_26.all (fun q => achk 11 code q.1 q.2) = true := fz_wlk_ok (pc := 1248) rfl (show fz_wlk 11 code lawc_26 1248 (code.data.toList.drop 1248) = true by decide +kernel)
set_option maxRecDepth 100000 in
theorem lawk_27 : lawc_27.all (fun q => achk 11 code q.1 q.2) = true := fz_wlk_ok (pc := 1291) rfl (show fz_wlk 11 code lawc_27 1291 (code.data.toList.drop 1291) = true by decide +kernel)
