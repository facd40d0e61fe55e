set_option maxRecDepth 100000 in
theorem ck_59 : ((List.range 3).all fun i => ckB (235 + i)) = true := by decide +kernel
set_option maxRecDepth 100000 in
theorem ck_60 : ((List.range 5).all fun i => ckB (238 + i)) = true := by decide +kernel
set_option maxRecDepth 100000 in
theorem ck_61 : ((List.range 5).all fun i => ckB (243 + i)) = true := by decide +kernel
set_option maxRecDepth 100000 in
theorem ck_62 : ((List.range 5).all fun i => ckB (248 + i)) = true := by decide +kernel
set_option maxRecDepth 100000 in
theorem ck_63 : ((List.range 5).all fun i => ckB (253 + i)) = true := by decide +kernel
set_option maxRecDepth 100000 in
theorem ck_64 : ((List.range 3).all fun i => ckB (258 + i)) = true := by decide +kernel
set_option maxRecDepth 100000 in
theorem ck_65 : ((List.range 2).all fun i => ckB (261 + i)) = true := by decide +kernel
