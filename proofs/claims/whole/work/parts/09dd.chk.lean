set_option maxRecDepth 100000 in
theorem ck_21 : ((List.range 3).all fun i => ckB (73 + i)) = true := by decide +kernel
set_option maxRecDepth 100000 in
theorem ck_22 : ((List.range 1).all fun i => ckB (76 + i)) = true := by decide +kernel
set_option maxRecDepth 100000 in
theorem ck_23 : ((List.range 5).all fun i => ckB (77 + i)) = true := by decide +kernel
set_option maxRecDepth 100000 in
theorem ck_24 : ((List.range 5).all fun i => ckB (82 + i)) = true := by decide +kernel
set_option maxRecDepth 100000 in
theorem ck_25 : ((List.range 5).all fun i => ckB (87 + i)) = true := by decide +kernel
set_option maxRecDepth 100000 in
theorem ck_26 : ((List.range 3).all fun i => ckB (92 + i)) = true := by decide +kernel
