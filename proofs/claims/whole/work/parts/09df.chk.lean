set_option maxRecDepth 100000 in
theorem ck_34 : ((List.range 5).all fun i => ckB (127 + i)) = true := by decide +kernel
set_option maxRecDepth 100000 in
theorem ck_35 : ((List.range 5).all fun i => ckB (132 + i)) = true := by decide +kernel
set_option maxRecDepth 100000 in
theorem ck_36 : ((List.range 5).all fun i => ckB (137 + i)) = true := by decide +kernel
set_option maxRecDepth 100000 in
theorem ck_37 : ((List.range 5).all fun i => ckB (142 + i)) = true := by decide +kernel
set_option maxRecDepth 100000 in
theorem ck_38 : ((List.range 5).all fun i => ckB (147 + i)) = true := by decide +kernel
set_option maxRecDepth 100000 in
theorem ck_39 : ((List.range 5).all fun i => ckB (152 + i)) = true := by decide +kernel
set_option maxRecDepth 100000 in
theorem ck_40 : ((List.range 4).all fun i => ckB (157 + i)) = true := by decide +kernel
