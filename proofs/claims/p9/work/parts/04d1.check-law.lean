set_option maxRecDepth 100000 in
theorem lawk_0 : lawc_0.all (fun q => achk 11 code q.1 q.2) = true := by decide +kernel
set_option maxRecDepth 100000 in
theorem lawk_1 : lawc_1.all (fun q => achk 11 code q.1 q.2) = true := by decide +kernel
set_option maxRecDepth 100000 in
theorem lawk_2 : lawc_2.all (fun q => achk 11 code q.1 q.2) = true := by decide +kernel
set_option maxRecDepth 100000 in
theorem lawk_3 : lawc_3.all (fun q => achk 11 code q.1 q.2) = true := by decide +kernel
set_option maxRecDepth 100000 in
theorem lawk_4 : lawc_4.all (fun q => achk 11 code q.1 q.2) = true := by decide +kernel
set_option maxRecDepth 100000 in
theorem lawk_5 : lawc_5.all (fun q => achk 11 code q.1 q.2) = true := by decide +kernel
set_option maxRecDepth 100000 in
theorem lawk_6 : lawc_6.all (fun q => achk 11 code q.1 q.2) = true := by decide +kernel
set_option maxRecDepth 100000 in
theorem lawk_7 : lawc_7.all (fun q => achk 11 code q.1 q.2) = true := by decide +kernel
set_option maxRecDepth 100000 in
theorem lawk_8 : lawc_8.all (fun q => achk 11 code q.1 q.2) = true := by decide +kernel
set_option maxRecDepth 100000 in
theorem lawk_9 : lawc_9.all (fun q => achk 11 code q.1 q.2) = true := by decide +kernel
set_option maxRecDepth 100000 in
theorem lawk_10 : lawc_10.all (fun q => achk 11 code q.1 q.2) = true := by decide +kernel
set_option maxRecDepth 100000 in
theorem lawk_11 : lawc_11.all (fun q => achk 11 code q.1 q.2) = true := by decide +kernel
set_option maxRecDepth 100000 in
theorem lawk_12 : lawc_12.all (fun q => achk 11 code q.1 q.2) = true := by decide +kernel
set_option maxRecDepth 100000 in
theorem lawk_13 : lawc_13.all (fun q => achk 11 code q.1 q.2) = true := by decide +kernel
