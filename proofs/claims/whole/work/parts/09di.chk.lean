set_option maxRecDepth 100000 in
theorem ck_52 : ((List.range 2).all fun i => ckB (208 + i)) = true := by decide +kernel
set_option maxRecDepth 100000 in
theorem ck_53 : ((List.range 4).all fun i => ckB (210 + i)) = true := by decide +kernel
set_option maxRecDepth 100000 in
theorem ck_54 : ((List.range 4).all fun i => ckB (214 + i)) = true := by decide +kernel
set_option maxRecDepth 100000 in
theorem ck_55 : ((List.range 5).all fun i => ckB (218 + i)) = true := by decide +kernel
set_option maxRecDepth 100000 in
theorem ck_56 : ((List.range 5).all fun i => ckB (223 + i)) = true := by decide +kernel
set_option maxRecDepth 100000 in
theorem ck_57 : ((List.range 4).all fun i => ckB (228 + i)) = true := by decide +kernel
set_option maxRecDepth 100000 in
theorem ck_58 : ((List.range 4).all fun i => ckB (232 + i)) = true := by decide +kernel
