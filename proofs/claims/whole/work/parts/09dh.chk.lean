set_option maxRecDepth 100000 in
theorem ck_45 : ((List.range 5).all fun i => ckB (175 + i)) = true := by decide +kernel
set_option maxRecDepth 100000 in
theorem ck_46 : ((List.range 3).all fun i => ckB (180 + i)) = true := by decide +kernel
set_option maxRecDepth 100000 in
theorem ck_47 : ((List.range 5).all fun i => ckB (183 + i)) = true := by decide +kernel
set_option maxRecDepth 100000 in
theorem ck_48 : ((List.range 5).all fun i => ckB (188 + i)) = true := by decide +kernel
set_option maxRecDepth 100000 in
theorem ck_49 : ((List.range 4).all fun i => ckB (193 + i)) = true := by decide +kernel
set_option maxRecDepth 100000 in
theorem ck_50 : ((List.range 5).all fun i => ckB (197 + i)) = true := by decide +kernel
set_option maxRecDepth 100000 in
theorem ck_51 : ((List.range 5).all fun i => ckB (202 + i)) = true := by decide +kernel
