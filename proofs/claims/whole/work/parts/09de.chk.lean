set_option maxRecDepth 100000 in
theorem ck_27 : ((List.range 4).all fun i => ckB (96 + i)) = true := by decide +kernel
set_option maxRecDepth 100000 in
theorem ck_28 : ((List.range 3).all fun i => ckB (100 + i)) = true := by decide +kernel
set_option maxRecDepth 100000 in
theorem ck_29 : ((List.range 5).all fun i => ckB (103 + i)) = true := by decide +kernel
set_option maxRecDepth 100000 in
theorem ck_30 : ((List.range 5).all fun i => ckB (108 + i)) = true := by decide +kernel
set_option maxRecDepth 100000 in
theorem ck_31 : ((List.range 5).all fun i => ckB (113 + i)) = true := by decide +kernel
set_option maxRecDepth 100000 in
theorem ck_32 : ((List.range 5).all fun i => ckB (118 + i)) = true := by decide +kernel
set_option maxRecDepth 100000 in
theorem ck_33 : ((List.range 5).all fun i => ckB (123 + i)) = true := by decide +kernel
