set_option maxRecDepth 100000 in
theorem ck_7 : ((List.range 5).all fun i => ckB (29 + i)) = true := by decide +kernel
set_option maxRecDepth 100000 in
theorem ck_8 : ((List.range 5).all fun i => ckB (34 + i)) = true := by decide +kernel
set_option maxRecDepth 100000 in
theorem ck_9 : ((List.range 5).all fun i => ckB (39 + i)) = true := by decide +kernel
set_option maxRecDepth 100000 in
theorem ck_10 : ((List.range 3).all fun i => ckB (44 + i)) = true := by decide +kernel
set_option maxRecDepth 100000 in
theorem ck_11 : ((List.range 4).all fun i => ckB (47 + i)) = true := by decide +kernel
set_option maxRecDepth 100000 in
theorem ck_12 : ((List.range 2).all fun i => ckB (51 + i)) = true := by decide +kernel
set_option maxRecDepth 100000 in
theorem ck_13 : ((List.range 5).all fun i => ckB (53 + i)) = true := by decide +kernel
