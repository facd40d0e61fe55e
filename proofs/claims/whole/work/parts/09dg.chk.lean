set_option maxRecDepth 100000 in
theorem ckp_41_0 : ckP 161 0 50 = true := by decide +kernel
set_option maxRecDepth 100000 in
theorem ckp_41_1 : ckP 161 50 50 = true := by decide +kernel
set_option maxRecDepth 100000 in
theorem ckp_41_2 : ckP 161 100 50 = true := by decide +kernel
set_option maxRecDepth 100000 in
theorem ckp_41_3 : ckP 161 150 50 = true := by decide +kernel
set_option maxRecDepth 100000 in
theorem ckp_41_4 : ckP 161 200 50 = true := by decide +kernel
set_option maxRecDepth 100000 in
theorem ckp_41_5 : ckP 161 250 50 = true := by decide +kernel
set_option maxRecDepth 100000 in
theorem ckp_41_6 : ckP 161 300 50 = true := by decide +kernel
set_option maxRecDepth 100000 in
theorem ckp_41_7 : ckP 161 350 50 = true := by decide +kernel
set_option maxRecDepth 100000 in
theorem ckp_41_8 : ckP 161 400 50 = true := by decide +kernel
set_option maxRecDepth 100000 in
theorem ckp_41_9 : ckP 161 450 50 = true := by decide +kernel
set_option maxRecDepth 100000 in
theorem ckp_41_10 : ckP 161 500 50 = true := by decide +kernel
set_option maxRecDepth 100000 in
theorem ckp_41_11 : ckP 161 550 50 = true := by decide +kernel
set_option maxRecDepth 100000 in
theorem ckp_41_12 : ckP 161 600 50 = true := by decide +kernel
set_option maxRecDepth 100000 in
theorem ckp_41_13 : ckP 161 650 11 = true := by decide +kernel
set_option maxRecDepth 100000 in
theorem ckl_41 : (mCode 161).length = 661 := by decide +kernel
set_option maxRecDepth 100000 in
theorem ckh_41 : hdPc (mCode 161) = 0 := by decide +kernel
theorem cki_41 : ∀ i, i < 661 → ckI 161 i = true := by
  intro i hi
  rcases Nat.lt_or_ge i 50 with h | h
  · exact ckP_get ckp_41_0 (by omega) (by omega)
  rcases Nat.lt_or_ge i 100 with h | h
  · exact ckP_get ckp_41_1 (by omega) (by omega)
  rcases Nat.lt_or_ge i 150 with h | h
  · exact ckP_get ckp_41_2 (by omega) (by omega)
  rcases Nat.lt_or_ge i 200 with h | h
  · exact ckP_get ckp_41_3 (by omega) (by omega)
  rcases Nat.lt_or_ge i 250 with h | h
  · exact ckP_get ckp_41_4 (by omega) (by omega)
  rcases Nat.lt_or_ge i 300 with h | h
  · exact ckP_get ckp_41_5 (by omega) (by omega)
  rcases Nat.lt_or_ge i 350 with h | h
  · exact ckP_get ckp_41_6 (by omega) (by omega)
  rcases Nat.lt_or_ge i 400 with h | h
  · exact ckP_get ckp_41_7 (by omega) (by omega)
  rcases Nat.lt_or_ge i 450 with h | h
  · exact ckP_get ckp_41_8 (by omega) (by omega)
  rcases Nat.lt_or_ge i 500 with h | h
  · exact ckP_get ckp_41_9 (by omega) (by omega)
  rcases Nat.lt_or_ge i 550 with h | h
  · exact ckP_get ckp_41_10 (by omega) (by omega)
  rcases Nat.lt_or_ge i 600 with h | h
  · exact ckP_get ckp_41_11 (by omega) (by omega)
  rcases Nat.lt_or_ge i 650 with h | h
  · exact ckP_get ckp_41_12 (by omega) (by omega)
  exact ckP_get ckp_41_13 (by omega) (by omega)
theorem ckB_of {j n : Nat} (h0 : hdPc (mCode j) = 0) (hl : (mCode j).length = n) (h : ∀ i, i < n → ckI j i = true) : ckB j = true := by
  unfold ckB
  rw [h0]
  exact chk_of (fun i hi => h i (by rw [hl] at hi; exact hi))
theorem ckb_41 : ckB 161 = true := ckB_of ckh_41 ckl_41 cki_41
theorem ck_41 : ((List.range 1).all fun i => ckB (161 + i)) = true := by
  rw [List.all_eq_true]
  intro i hi
  have := List.mem_range.mp hi
  have h0 : i = 0 := by omega
  subst h0
  exact ckb_41
set_option maxRecDepth 100000 in
theorem ck_42 : ((List.range 5).all fun i => ckB (162 + i)) = true := by decide +kernel
set_option maxRecDepth 100000 in
theorem ck_43 : ((List.range 5).all fun i => ckB (167 + i)) = true := by decide +kernel
set_option maxRecDepth 100000 in
theorem ck_44 : ((List.range 3).all fun i => ckB (172 + i)) = true := by decide +kernel
