set_option maxRecDepth 100000 in
theorem ckp_41_0 : ckP 162 0 50 = true := by decide +kernel
set_option maxRecDepth 100000 in
theorem ckp_41_1 : ckP 162 50 50 = true := by decide +kernel
set_option maxRecDepth 100000 in
theorem ckp_41_2 : ckP 162 100 50 = true := by decide +kernel
set_option maxRecDepth 100000 in
theorem ckp_41_3 : ckP 162 150 50 = true := by decide +kernel
set_option maxRecDepth 100000 in
theorem ckp_41_4 : ckP 162 200 50 = true := by decide +kernel
set_option maxRecDepth 100000 in
theorem ckp_41_5 : ckP 162 250 50 = true := by decide +kernel
set_option maxRecDepth 100000 in
theorem ckp_41_6 : ckP 162 300 50 = true := by decide +kernel
set_option maxRecDepth 100000 in
theorem ckp_41_7 : ckP 162 350 50 = true := by decide +kernel
set_option maxRecDepth 100000 in
theorem ckp_41_8 : ckP 162 400 50 = true := by decide +kernel
set_option maxRecDepth 100000 in
theorem ckp_41_9 : ckP 162 450 50 = true := by decide +kernel
set_option maxRecDepth 100000 in
theorem ckp_41_10 : ckP 162 500 50 = true := by decide +kernel
set_option maxRecDepth 100000 in
theorem ckp_41_11 : ckP 162 550 50 = true := by decide +kernel
set_option maxRecDepth 100000 in
theorem ckp_41_12 : ckP 162 600 50 = true := by decide +kernel
set_option maxRecDepth 100000 in
theorem ckp_41_13 : ckP 162 650 11 = true := by decide +kernel
set_option maxRecDepth 100000 in
theorem ckl_41 : (mCode 162).length = 661 := by decide +kernel
set_option maxRecDepth 100000 in
theorem ckh_41 : hdPc (mCode 162) = 0 := by decide +kernel
theorem cki_41 : ∀ i, i < 661 → ckI 162 i = true := by
  intro i hi
  rcases Nat.lt_or_ge i 50 with h | h
  · exact ckP_get ckp_41_0 (by omega) (by omega)
  rcases Nat.lt_or_ge i 100 with h | h
  · exact ckP_get ckp_41_1 (by omega) (by omega)
  rcases Nat.lt_or_ge i 150 with h | h
  · exact ckP_get ckp_41_2 (by omega) (by omega)
  rcases Nat.lt_or_ge i 200 with h | h
  · exact ckP_get ckp_41_3 (by omega) (by omega)
  rcases Nat.lt_or_ge i 250 with h | h
  · exact ckP_get ckp_41_4 (by omega) (by omega)
  rcases Nat.lt_or_ge i 300 with h | h
  · exact ckP_get ckp_41_5 (by omega) (by omega)
  rcases Nat.lt_or_ge i 350 with h | h
  · exact ckP_get ckp_41_6 (by omega) (by omega)
  rcases Nat.lt_or_ge i 400 with h | h
  · exact ckP_get ckp_41_7 (by omega) (by omega)
  rcases Nat.lt_or_ge i 450 with h | h
  · exact ckP_get ckp_41_8 (by omega) (by omega)
  rcases Nat.lt_or_ge i 500 with h | h
  · exact ckP_get ckp_41_9 (by omega) (by omega)
  rcases Nat.lt_or_ge i 550 with h | h
  · exact ckP_get ckp_41_10 (by omega) (by omega)
  rcases Nat.lt_or_ge i 600 with h | h
  · exact ckP_get ckp_41_11 (by omega) (by omega)
  rcases Nat.lt_or_ge i 650 with h | h
  · exact ckP_get ckp_41_12 (by omega) (by omega)
  exact ckP_get ckp_41_13 (by omega) (by omega)
theorem ckB_of {j n : Nat} (h0 : hdPc (mCode j) = 0) (hl : (mCode j).length = n) (h : ∀ i, i < n → ckI j i = true) : ckB j = true := by
  unfold ckB
  rw [h0]
  exact chk_of (fun i hi => h i (by rw [hl] at hi; exact hi))
theorem ckb_41 : ckB 162 = true := ckB_of ckh_41 ckl_41 cki_41
theorem ck_41 : ((List.range 1).all fun i => ckB (162 + i)) = true := by
  rw [List.all_eq_true]
  intro i hi
  have := List.mem_range.mp hi
  have h0 : i = 0 := by omega
  subst h0
  exact ckb_41
set_option maxRecDepth 100000 in
theorem ck_42 : ((List.range 5).all fun i => ckB (163 + i)) = true := by decide +kernel
set_option maxRecDepth 100000 in
theorem ck_43 : ((List.range 5).all fun i => ckB (168 + i)) = true := by decide +kernel
set_option maxRecDepth 100000 in
theorem ck_44 : ((List.range 3).all fun i => ckB (173 + i)) = true := by decide +kernel
