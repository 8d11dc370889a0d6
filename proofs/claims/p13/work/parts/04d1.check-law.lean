set_option maxRecDepth 100000 in
theorem lawk_0 : lawc_0.all (fun q => achk 11 code q.1 q.2) = true := fz_wlk_ok (pc := 0) rfl (show fz_wlk 11 code lawc_0 0 (code.data.toList.drop 0) = true by decide +kernel)
set_option maxRecDepth 100000 in
theorem lawk_1 : lawc_1.all (fun q => achk 11 code q.1 q.2) = true := fz_wlk_ok (pc := 239) rfl (show fz_wlk 11 code lawc_1 239 (code.data.toList.drop 239) = true by decide +kernel)
set_option maxRecDepth 100000 in
theorem lawk_2 : lawc_2.all (fun q => achk 11 code q.1 q.2) = true := fz_wlk_ok (pc := 274) rfl (show fz_wlk 11 code lawc_2 274 (code.data.toList.drop 274) = true by decide +kernel)
set_option maxRecDepth 100000 in
theorem lawk_3 : lawc_3.all (fun q => achk 11 code q.1 q.2) = true := fz_wlk_ok (pc := 319) rfl (show fz_wlk 11 code lawc_3 319 (code.data.toList.drop 319) = true by decide +kernel)
set_option maxRecDepth 100000 in
theorem lawk_4 : lawc_4.all (fun q => achk 11 code q.1 q.2) = true := fz_wlk_ok (pc := 364) rfl (show fz_wlk 11 code lawc_4 364 (code.data.toList.drop 364) = true by decide +kernel)
set_option maxRecDepth 100000 in
theorem lawk_5 : lawc_5.all (fun q => achk 11 code q.1 q.2) = true := fz_wlk_ok (pc := 403) rfl (show fz_wlk 11 code lawc_5 403 (code.data.toList.drop 403) = true by decide +kernel)
set_option maxRecDepth 100000 in
theorem lawk_6 : lawc_6.all (fun q => achk 11 code q.1 q.2) = true := fz_wlk_ok (pc := 442) rfl (show fz_wlk 11 code lawc_6 442 (code.data.toList.drop 442) = true by decide +kernel)
set_option maxRecDepth 100000 in
theorem lawk_7 : lawc_7.all (fun q => achk 11 code q.1 q.2) = true := fz_wlk_ok (pc := 481) rfl (show fz_wlk 11 code lawc_7 481 (code.data.toList.drop 481) = true by decide +kernel)
set_option maxRecDepth 100000 in
theorem lawk_8 : lawc_8.all (fun q => achk 11 code q.1 q.2) = true := fz_wlk_ok (pc := 520) rfl (show fz_wlk 11 code lawc_8 520 (code.data.toList.drop 520) = true by decide +kernel)
set_option maxRecDepth 100000 in
theorem lawk_9 : lawc_9.all (fun q => achk 11 code q.1 q.2) = true := fz_wlk_ok (pc := 567) rfl (show fz_wlk 11 code lawc_9 567 (code.data.toList.drop 567) = true by decide +kernel)
set_option maxRecDepth 100000 in
theorem lawk_10 : lawc_10.all (fun q => achk 11 code q.1 q.2) = true := fz_wlk_ok (pc := 610) rfl (show fz_wlk 11 code lawc_10 610 (code.data.toList.drop 610) = true by decide +kernel)
set_option maxRecDepth 100000 in
theorem lawk_11 : lawc_11.all (fun q => achk 11 code q.1 q.2) = true := fz_wlk_ok (pc := 655) rfl (show fz_wlk 11 code lawc_11 655 (code.data.toList.drop 655) = true by decide +kernel)
set_option maxRecDepth 100000 in
theorem lawk_12 : lawc_12.all (fun q => achk 11 code q.1 q.2) = true := fz_wlk_ok (pc := 700) rfl (show fz_wlk 11 code lawc_12 700 (code.data.toList.drop 700) = true by decide +kernel)
set_option maxRecDepth 100000 in
theorem lawk_13 : lawc_13.all (fun q => achk 11 code q.1 q.2) = true := fz_wlk_ok (pc := 743) rfl (show fz_wlk 11 code lawc_13 743 (code.data.toList.drop 743) = true by decide +kernel)
