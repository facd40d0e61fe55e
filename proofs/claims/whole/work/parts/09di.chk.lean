set_option maxRecDepth 100000 in
theorem ck_52 : ((List.range 2).all fun i => ckB (207 + i)) = true := by decide +kernel
set_option maxRecDepth 100000 in
theorem ck_53 : ((List.range 4).all fun i => ckB (209 + i)) = true := by decide +kernel
set_option maxRecDepth 100000 in
theorem ck_54 : ((List.range 4).all fun i => ckB (213 + i)) = true := by decide +kernel
set_option maxRecDepth 100000 in
theorem ck_55 : ((List.range 5).all fun i => ckB (217 + i)) = true := by decide +kernel
set_option maxRecDepth 100000 in
theorem ck_56 : ((List.range 5).all fun i => ckB (222 + i)) = true := by decide +kernel
set_option maxRecDepth 100000 in
theorem ck_57 : ((List.range 4).all fun i => ckB (227 + i)) = true := by decide +kernel
set_option maxRecDepth 100000 in
theorem ck_58 : ((List.range 4).all fun i => ckB (231 + i)) = true := by decide +kernel
