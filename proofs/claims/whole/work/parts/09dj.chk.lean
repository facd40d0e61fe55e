set_option maxRecDepth 100000 in
theorem ck_59 : ((List.range 3).all fun i => ckB (236 + i)) = true := by decide +kernel
set_option maxRecDepth 100000 in
theorem ck_60 : ((List.range 5).all fun i => ckB (239 + i)) = true := by decide +kernel
set_option maxRecDepth 100000 in
theorem ck_61 : ((List.range 5).all fun i => ckB (244 + i)) = true := by decide +kernel
set_option maxRecDepth 100000 in
theorem ck_62 : ((List.range 5).all fun i => ckB (249 + i)) = true := by decide +kernel
set_option maxRecDepth 100000 in
theorem ck_63 : ((List.range 5).all fun i => ckB (254 + i)) = true := by decide +kernel
set_option maxRecDepth 100000 in
theorem ck_64 : ((List.range 3).all fun i => ckB (259 + i)) = true := by decide +kernel
set_option maxRecDepth 100000 in
theorem ck_65 : ((List.range 2).all fun i => ckB (262 + i)) = true := by decide +kernel
