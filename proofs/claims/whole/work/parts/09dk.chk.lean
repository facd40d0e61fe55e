set_option maxRecDepth 100000 in
theorem ck_66 : ((List.range 4).all fun i => ckB (264 + i)) = true := by decide +kernel
set_option maxRecDepth 100000 in
theorem ck_67 : ((List.range 3).all fun i => ckB (268 + i)) = true := by decide +kernel
set_option maxRecDepth 100000 in
theorem ck_68 : ((List.range 4).all fun i => ckB (271 + i)) = true := by decide +kernel
set_option maxRecDepth 100000 in
theorem ck_69 : ((List.range 1).all fun i => ckB (275 + i)) = true := by decide +kernel
set_option maxRecDepth 100000 in
theorem ck_70 : ((List.range 1).all fun i => ckB (276 + i)) = true := by decide +kernel
set_option maxRecDepth 100000 in
theorem ck_71 : ((List.range 3).all fun i => ckB (277 + i)) = true := by decide +kernel
set_option maxRecDepth 100000 in
theorem ck_72 : ((List.range 3).all fun i => ckB (280 + i)) = true := by decide +kernel
