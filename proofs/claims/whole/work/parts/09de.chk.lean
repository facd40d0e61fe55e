set_option maxRecDepth 100000 in
theorem ck_27 : ((List.range 4).all fun i => ckB (95 + i)) = true := by decide +kernel
set_option maxRecDepth 100000 in
theorem ck_28 : ((List.range 3).all fun i => ckB (99 + i)) = true := by decide +kernel
set_option maxRecDepth 100000 in
theorem ck_29 : ((List.range 5).all fun i => ckB (102 + i)) = true := by decide +kernel
set_option maxRecDepth 100000 in
theorem ck_30 : ((List.range 5).all fun i => ckB (107 + i)) = true := by decide +kernel
set_option maxRecDepth 100000 in
theorem ck_31 : ((List.range 5).all fun i => ckB (112 + i)) = true := by decide +kernel
set_option maxRecDepth 100000 in
theorem ck_32 : ((List.range 5).all fun i => ckB (117 + i)) = true := by decide +kernel
set_option maxRecDepth 100000 in
theorem ck_33 : ((List.range 5).all fun i => ckB (122 + i)) = true := by decide +kernel
