set_option maxRecDepth 100000 in
theorem ck_45 : ((List.range 5).all fun i => ckB (176 + i)) = true := by decide +kernel
set_option maxRecDepth 100000 in
theorem ck_46 : ((List.range 3).all fun i => ckB (181 + i)) = true := by decide +kernel
set_option maxRecDepth 100000 in
theorem ck_47 : ((List.range 5).all fun i => ckB (184 + i)) = true := by decide +kernel
set_option maxRecDepth 100000 in
theorem ck_48 : ((List.range 5).all fun i => ckB (189 + i)) = true := by decide +kernel
set_option maxRecDepth 100000 in
theorem ck_49 : ((List.range 4).all fun i => ckB (194 + i)) = true := by decide +kernel
set_option maxRecDepth 100000 in
theorem ck_50 : ((List.range 5).all fun i => ckB (198 + i)) = true := by decide +kernel
set_option maxRecDepth 100000 in
theorem ck_51 : ((List.range 5).all fun i => ckB (203 + i)) = true := by decide +kernel
