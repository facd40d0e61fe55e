set_option maxRecDepth 100000 in
theorem ck_14 : ((List.range 5).all fun i => ckB (58 + i)) = true := by decide +kernel
set_option maxRecDepth 100000 in
theorem ck_15 : ((List.range 1).all fun i => ckB (63 + i)) = true := by decide +kernel
set_option maxRecDepth 100000 in
theorem ck_16 : ((List.range 2).all fun i => ckB (64 + i)) = true := by decide +kernel
set_option maxRecDepth 100000 in
theorem ck_17 : ((List.range 1).all fun i => ckB (66 + i)) = true := by decide +kernel
set_option maxRecDepth 100000 in
theorem ck_18 : ((List.range 3).all fun i => ckB (67 + i)) = true := by decide +kernel
set_option maxRecDepth 100000 in
theorem ck_19 : ((List.range 2).all fun i => ckB (70 + i)) = true := by decide +kernel
set_option maxRecDepth 100000 in
theorem ck_20 : ((List.range 2).all fun i => ckB (72 + i)) = true := by decide +kernel
