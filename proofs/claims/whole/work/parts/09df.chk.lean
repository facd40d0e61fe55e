set_option maxRecDepth 100000 in
theorem ck_34 : ((List.range 5).all fun i => ckB (128 + i)) = true := by decide +kernel
set_option maxRecDepth 100000 in
theorem ck_35 : ((List.range 5).all fun i => ckB (133 + i)) = true := by decide +kernel
set_option maxRecDepth 100000 in
theorem ck_36 : ((List.range 5).all fun i => ckB (138 + i)) = true := by decide +kernel
set_option maxRecDepth 100000 in
theorem ck_37 : ((List.range 5).all fun i => ckB (143 + i)) = true := by decide +kernel
set_option maxRecDepth 100000 in
theorem ck_38 : ((List.range 5).all fun i => ckB (148 + i)) = true := by decide +kernel
set_option maxRecDepth 100000 in
theorem ck_39 : ((List.range 5).all fun i => ckB (153 + i)) = true := by decide +kernel
set_option maxRecDepth 100000 in
theorem ck_40 : ((List.range 4).all fun i => ckB (158 + i)) = true := by decide +kernel
