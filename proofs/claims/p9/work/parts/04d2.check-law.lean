set_option maxRecDepth 100000 in
theorem lawk_14 : lawc_14.all (fun q => achk 11 code q.1 q.2) = true := by decide +kernel
set_option maxRecDepth 100000 in
theorem lawk_15 : lawc_15.all (fun q => achk 11 code q.1 q.2) = true := by decide +kernel
set_option maxRecDepth 100000 in
theorem lawk_16 : lawc_16.all (fun q => achk 11 code q.1 q.2) = true := by decide +kernel
set_option maxRecDepth 100000 in
theorem lawk_17 : lawc_17.all (fun q => achk 11 code q.1 q.2) = true := by decide +kernel
set_option maxRecDepth 100000 in
theorem lawk_18 : lawc_18.all (fun q => achk 11 code q.1 q.2) = true := by decide +kernel
set_option maxRecDepth 100000 in
theorem lawk_19 : lawc_19.all (fun q => achk 11 code q.1 q.2) = true := by decide +kernel
set_option maxRecDepth 100000 in
theorem lawk_20 : lawc_20.all (fun q => achk 11 code q.1 q.2) = true := by decide +kernel
set_option maxRecDepth 100000 in
theorem lawk_21 : lawc_21.all (fun q => achk 11 code q.1 q.2) = true := by decide +kernel
set_option maxRecDepth 100000 in
theorem lawk_22 : lawc_22.all (fun q => achk 11 code q.1 q.2) = true := by decide +kernel
set_option maxRecDepth 100000 in
theorem lawk_23 : lawc_23.all (fun q => achk 11 code q.1 q.2) = true := by decide +kernel
set_option maxRecDepth 100000 in
theorem lawk_24 : lawc_24.all (fun q => achk 11 code q.1 q.2) = true := by decide +kernel
set_option maxRecDepth 100000 in
theorem lawk_25 : lawc_25.all (fun q => achk 11 code q.1 q.2) = true := by decide +kernel
set_option maxRecDepth 100000 in
theorem lawk_26 : lawc_26.all (fun q => achk 11 code q.1 q.2) = true := by decide +kernel
set_option maxRecDepth 100000 in
theorem lawk_27 : lawc_27.all (fun q => achk 11 code q.1 q.2) = true := by decide +kernel
