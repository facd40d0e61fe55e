set_option maxRecDepth 100000 in
theorem ck_73 : ((List.range 3).all fun i => ckB (283 + i)) = true := by decide +kernel
