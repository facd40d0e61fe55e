set_option maxRecDepth 100000 in
theorem ck_21 : ((List.range 3).all fun i => ckB (74 + i)) = true := by decide +kernel
set_option maxRecDepth 100000 in
theorem ck_22 : ((List.range 1).all fun i => ckB (77 + i)) = true := by decide +kernel
set_option maxRecDepth 100000 in
theorem ck_23 : ((List.range 5).all fun i => ckB (78 + i)) = true := by decide +kernel
set_option maxRecDepth 100000 in
theorem ck_24 : ((List.range 5).all fun i => ckB (83 + i)) = true := by decide +kernel
set_option maxRecDepth 100000 in
theorem ck_25 : ((List.range 5).all fun i => ckB (88 + i)) = true := by decide +kernel
set_option maxRecDepth 100000 in
theorem ck_26 : ((List.range 3).all fun i => ckB (93 + i)) = true := by decide +kernel
