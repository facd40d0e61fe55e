/-! ===== the class: calls that only look at knots and numbers ===== -/
def ofK (D : Dr) (k : Kn) (what : Int) : Int :=
  if what < 0 then -1000 else if what = 0 then k.1 else if what = 1 then k.2.1 else if what = 2 then k.2.2.1 else if what = 3 then (kLen k : Int) else if what = 4 then k.2.2.2.1 else if what = 5 then tkK D k else if what = 6 then gpK D k else if what = 7 then (if k.2.2.2.1 = 1 ∧ needD D ≤ gpK D k then 1 else 0) else if what = 8 then cenN (pF k) (kLen k) else if what = 9 then leanN (pF k) (kLen k) else if what = 10 then twN (pF k) (kLen k) else if what = 11 then lefN (pF k) (kLen k) else if what - 12 < kLen k then pF k (what - 12).toNat else -1000
def aOf (D : Dr) (q what : Int) : Int := if 0 ≤ q ∧ q < (D.1.length : Int) then ofK D (knQ D q) what else -1000
def aAsks (D : Dr) (q pl what : Int) : Int := if (0 ≤ q ∧ q < (D.1.length : Int)) ∧ (0 ≤ pl ∧ pl ≤ 2) ∧ kLen (knQ D q) < 12 then
    (if what = 0 then tkQ (clsD D) (moodD D) (knQ D q).2.1 (((knQ D q).1 + kLen (knQ D q)) % 2) (kLen (knQ D q)) (lastP (knQ D q)) pl else if what = 1 then gpA (clsD D) (moodD D) (knQ D q).2.1 (((knQ D q).1 + kLen (knQ D q)) % 2) (kLen (knQ D q)) (lastP (knQ D q)) pl else if what = 2 then brA (clsD D) (moodD D) (knQ D q).2.1 (((knQ D q).1 + kLen (knQ D q)) % 2) (kLen (knQ D q)) (lastP (knQ D q)) pl else -1000)
  else -1000
def aFront (D : Dr) (q i : Int) : Int := if (0 ≤ q ∧ q < (D.1.length : Int)) ∧ (0 ≤ i ∧ i ≤ 2) then frN (knQ D q).1 (pF (knQ D q)) (kLen (knQ D q)) / 4 ^ i.toNat % 4 - 1 else -1
def aCount (a : Ab) (what : Int) : Int :=
  if what = 0 then (a.1.1.length : Int) else if what = 1 then (a.1.2.1.length : Int) else if what = 2 then (a.1.2.2.1.length : Int) else if what = 3 then (a.1.2.2.2.2.1.length : Int) else if what = 4 then (a.2.2.1.length : Int) else if what = 5 then (a.2.2.2.1.length : Int) else if what = 6 then a.2.2.2.2.2.1.1 else if what = 7 then a.2.2.2.2.2.1.2.1 else if what = 8 then a.2.2.2.2.2.1.2.2.1 else if what = 9 then a.2.2.2.2.2.1.2.2.2.1 else if what = 10 then a.2.2.2.2.2.1.2.2.2.2 else if what = 11 then a.1.2.2.2.2.2 else if what = 12 then moodD a.1 else if what = 13 then needD a.1 else if what = 14 then thickD a.1 else -1
section CS
variable {s : St} {a : Ab} {d : Nat}
theorem cc_lint (R : RepC a s) : Gl (GI fun x s' => x = a.2.2.2.2.1.2.1 ∧ RepC a s') (X11_lint d s 1) := by
  have hs := R.1
  rw [e_X11_lint]
  simp (disch := ((try simp only [kd_sF, kd_sA, gA_sF, gA_sA, gF_sF, gF_sA, List.length_set, reduceIte, and_true, and_false, true_and, false_and, Nat.reduceEqDiff, Int.reduceEq, hs.o1]); first | done | omega)) only [rF_ok, wF_ok, oK_ok, lA_ok, rA_ok, wA_ok, cI_ok, cV_ok, cL_ok, cR_ok, kd_sF, kd_sA, gA_sF, gF_sA, gF_sF, gA_sA, bk_0, bk_1, List.length_set, reduceIte, and_true, and_false, true_and, false_and, ne_eq, not_true_eq_false, not_false_eq_true, Int.toNat_natCast, Int.reduceToNat, Nat.reduceEqDiff, Int.reduceEq, Int.reduceLT, Int.reduceLE, Int.reduceAdd, Int.reduceSub, Int.reduceMul, Int.reduceNeg, hs.o1]
  exact reI ⟨R.2.2.2.2.2.1.2.1, R⟩
theorem cc_fault (R : RepC a s) : Gl (GI fun x s' => x = a.2.2.2.2.1.2.2.1 ∧ RepC a s') (X11_fault d s 1) := by
  have hs := R.1
  rw [e_X11_fault]
  simp (disch := ((try simp only [kd_sF, kd_sA, gA_sF, gA_sA, gF_sF, gF_sA, List.length_set, reduceIte, and_true, and_false, true_and, false_and, Nat.reduceEqDiff, Int.reduceEq, hs.o1]); first | done | omega)) only [rF_ok, wF_ok, oK_ok, lA_ok, rA_ok, wA_ok, cI_ok, cV_ok, cL_ok, cR_ok, kd_sF, kd_sA, gA_sF, gF_sA, gF_sF, gA_sA, bk_0, bk_1, List.length_set, reduceIte, and_true, and_false, true_and, false_and, ne_eq, not_true_eq_false, not_false_eq_true, Int.toNat_natCast, Int.reduceToNat, Nat.reduceEqDiff, Int.reduceEq, Int.reduceLT, Int.reduceLE, Int.reduceAdd, Int.reduceSub, Int.reduceMul, Int.reduceNeg, hs.o1]
  exact reI ⟨R.2.2.2.2.2.1.2.2.1, R⟩
theorem cc_stopped (R : RepC a s) : Gl (GI fun x s' => x = a.2.2.2.2.1.2.2.2 ∧ RepC a s') (X11_stopped d s 1) := by
  have hs := R.1
  rw [e_X11_stopped]
  simp (disch := ((try simp only [kd_sF, kd_sA, gA_sF, gA_sA, gF_sF, gF_sA, List.length_set, reduceIte, and_true, and_false, true_and, false_and, Nat.reduceEqDiff, Int.reduceEq, hs.o1, hs.o75]); first | done | omega)) only [rF_ok, wF_ok, oK_ok, lA_ok, rA_ok, wA_ok, cI_ok, cV_ok, cL_ok, cR_ok, kd_sF, kd_sA, gA_sF, gF_sA, gF_sF, gA_sA, bk_0, bk_1, List.length_set, reduceIte, and_true, and_false, true_and, false_and, ne_eq, not_true_eq_false, not_false_eq_true, Int.toNat_natCast, Int.reduceToNat, Nat.reduceEqDiff, Int.reduceEq, Int.reduceLT, Int.reduceLE, Int.reduceAdd, Int.reduceSub, Int.reduceMul, Int.reduceNeg, hs.o1, hs.o75]
  exact reI ⟨R.2.2.2.2.2.1.2.2.2, R⟩
theorem cc_status (R : RepC a s) : Gl (GI fun x s' => x = a.2.2.2.2.1.1 ∧ RepC a s') (X11_status d s 1) := by
  have hs := R.1
  rw [e_X11_status]
  simp (disch := ((try simp only [kd_sF, kd_sA, gA_sF, gA_sA, gF_sF, gF_sA, List.length_set, reduceIte, and_true, and_false, true_and, false_and, Nat.reduceEqDiff, Int.reduceEq, hs.o1]); first | done | omega)) only [rF_ok, wF_ok, oK_ok, lA_ok, rA_ok, wA_ok, cI_ok, cV_ok, cL_ok, cR_ok, kd_sF, kd_sA, gA_sF, gF_sA, gF_sF, gA_sA, bk_0, bk_1, List.length_set, reduceIte, and_true, and_false, true_and, false_and, ne_eq, not_true_eq_false, not_false_eq_true, Int.toNat_natCast, Int.reduceToNat, Nat.reduceEqDiff, Int.reduceEq, Int.reduceLT, Int.reduceLE, Int.reduceAdd, Int.reduceSub, Int.reduceMul, Int.reduceNeg, hs.o1]
  exact reI ⟨R.2.2.2.2.2.1.1, R⟩
theorem cc_count {what : Int} (R : RepC a s) : Gl (GI fun x s' => x = aCount a what ∧ RepC a s') (X11_count d s 1 what) := by
  have hs := R.1
  have r := R.2.2.2.2.2.2.1
  have t1 : gA s 8 = [moodD a.1, needD a.1, thickD a.1] := R.2.1.2.2.2.2.1
  have f6 : gF s 3 6 = a.1.2.2.1.length := R.2.1.2.2.2.1.1
  have f3 : gF s 3 3 = a.1.2.1.length := R.2.1.2.2.1.1
  have f1 : gF s 3 1 = a.1.1.length := R.2.1.2.1.1
  have f9 : gF s 3 9 = a.1.2.2.2.2.1.length := R.2.1.2.2.2.2.2.1.1
  have f10 : gF s 3 10 = a.1.2.2.2.2.2 := R.2.1.2.2.2.2.2.2
  have g0 : gF s 10 0 = a.2.2.1.length := R.2.2.2.1.1
  have tp : gF s 1 1 = a.2.2.2.1.length := R.2.2.2.2.1.1
  unfold RfC at r
  unfold aCount
  rw [e_X11_count, e_X11_count_22, e_X11_count_47]
  by_cases h0 : what < 0 ∨ 14 < what
  · rw [if_neg (show ¬ (what = 0) by omega), if_neg (show ¬ (what = 1) by omega), if_neg (show ¬ (what = 2) by omega), if_neg (show ¬ (what = 3) by omega), if_neg (show ¬ (what = 4) by omega), if_neg (show ¬ (what = 5) by omega), if_neg (show ¬ (what = 6) by omega), if_neg (show ¬ (what = 7) by omega), if_neg (show ¬ (what = 8) by omega), if_neg (show ¬ (what = 9) by omega), if_neg (show ¬ (what = 10) by omega), if_neg (show ¬ (what = 11) by omega), if_neg (show ¬ (what = 0) by omega), if_neg (show ¬ (what = 1) by omega), if_neg (show ¬ (what = 2) by omega), if_neg (show ¬ (what = 3) by omega), if_neg (show ¬ (what = 4) by omega), if_neg (show ¬ (what = 5) by omega), if_neg (show ¬ (what = 6) by omega), if_neg (show ¬ (what = 7) by omega), if_neg (show ¬ (what = 8) by omega), if_neg (show ¬ (what = 9) by omega), if_neg (show ¬ (what = 10) by omega), if_neg (show ¬ (what = 11) by omega), if_neg (show ¬ (what = 12) by omega), if_neg (show ¬ (what = 13) by omega), if_neg (show ¬ (what = 14) by omega)]
    rcases h0 with h0 | h0
    · rw [if_pos (show what < 12 by omega), if_pos (show what < 6 by omega)]
      exact reI ⟨rfl, R⟩
    · rw [if_neg (show ¬ (what < 12) by omega), if_pos h0, if_neg (show ¬ (what < 6) by omega), if_pos (show 10 < what by omega)]
      exact reI ⟨rfl, R⟩
  · have hw : what = 0 ∨ what = 1 ∨ what = 2 ∨ what = 3 ∨ what = 4 ∨ what = 5 ∨ what = 6 ∨ what = 7 ∨ what = 8 ∨ what = 9 ∨ what = 10 ∨ what = 11 ∨ what = 12 ∨ what = 13 ∨ what = 14 := by omega
    rcases hw with rfl | rfl | rfl | rfl | rfl | rfl | rfl | rfl | rfl | rfl | rfl | rfl | rfl | rfl | rfl
    · simp (disch := ((try simp only [kd_sF, kd_sA, gA_sF, gA_sA, gF_sF, gF_sA, List.length_set, reduceIte, and_true, and_false, true_and, false_and, Nat.reduceEqDiff, Int.reduceEq, hs.o1, hs.o3, hs.o10]); first | done | omega)) only [rF_ok, wF_ok, oK_ok, lA_ok, rA_ok, wA_ok, cI_ok, cV_ok, cL_ok, cR_ok, kd_sF, kd_sA, gA_sF, gF_sA, gF_sF, gA_sA, bk_0, bk_1, List.length_set, reduceIte, and_true, and_false, true_and, false_and, ne_eq, not_true_eq_false, not_false_eq_true, Int.toNat_natCast, Int.reduceToNat, Nat.reduceEqDiff, Int.reduceEq, Int.reduceLT, Int.reduceLE, Int.reduceAdd, Int.reduceSub, Int.reduceMul, Int.reduceNeg, hs.o1, hs.o3, hs.o10, f1]; exact reI ⟨rfl, R⟩
    · simp (disch := ((try simp only [kd_sF, kd_sA, gA_sF, gA_sA, gF_sF, gF_sA, List.length_set, reduceIte, and_true, and_false, true_and, false_and, Nat.reduceEqDiff, Int.reduceEq, hs.o1, hs.o3, hs.o10]); first | done | omega)) only [rF_ok, wF_ok, oK_ok, lA_ok, rA_ok, wA_ok, cI_ok, cV_ok, cL_ok, cR_ok, kd_sF, kd_sA, gA_sF, gF_sA, gF_sF, gA_sA, bk_0, bk_1, List.length_set, reduceIte, and_true, and_false, true_and, false_and, ne_eq, not_true_eq_false, not_false_eq_true, Int.toNat_natCast, Int.reduceToNat, Nat.reduceEqDiff, Int.reduceEq, Int.reduceLT, Int.reduceLE, Int.reduceAdd, Int.reduceSub, Int.reduceMul, Int.reduceNeg, hs.o1, hs.o3, hs.o10, f3]; exact reI ⟨rfl, R⟩
    · simp (disch := ((try simp only [kd_sF, kd_sA, gA_sF, gA_sA, gF_sF, gF_sA, List.length_set, reduceIte, and_true, and_false, true_and, false_and, Nat.reduceEqDiff, Int.reduceEq, hs.o1, hs.o3, hs.o10]); first | done | omega)) only [rF_ok, wF_ok, oK_ok, lA_ok, rA_ok, wA_ok, cI_ok, cV_ok, cL_ok, cR_ok, kd_sF, kd_sA, gA_sF, gF_sA, gF_sF, gA_sA, bk_0, bk_1, List.length_set, reduceIte, and_true, and_false, true_and, false_and, ne_eq, not_true_eq_false, not_false_eq_true, Int.toNat_natCast, Int.reduceToNat, Nat.reduceEqDiff, Int.reduceEq, Int.reduceLT, Int.reduceLE, Int.reduceAdd, Int.reduceSub, Int.reduceMul, Int.reduceNeg, hs.o1, hs.o3, hs.o10, f6]; exact reI ⟨rfl, R⟩
    · simp (disch := ((try simp only [kd_sF, kd_sA, gA_sF, gA_sA, gF_sF, gF_sA, List.length_set, reduceIte, and_true, and_false, true_and, false_and, Nat.reduceEqDiff, Int.reduceEq, hs.o1, hs.o3, hs.o10]); first | done | omega)) only [rF_ok, wF_ok, oK_ok, lA_ok, rA_ok, wA_ok, cI_ok, cV_ok, cL_ok, cR_ok, kd_sF, kd_sA, gA_sF, gF_sA, gF_sF, gA_sA, bk_0, bk_1, List.length_set, reduceIte, and_true, and_false, true_and, false_and, ne_eq, not_true_eq_false, not_false_eq_true, Int.toNat_natCast, Int.reduceToNat, Nat.reduceEqDiff, Int.reduceEq, Int.reduceLT, Int.reduceLE, Int.reduceAdd, Int.reduceSub, Int.reduceMul, Int.reduceNeg, hs.o1, hs.o3, hs.o10, f9]; exact reI ⟨rfl, R⟩
    · simp (disch := ((try simp only [kd_sF, kd_sA, gA_sF, gA_sA, gF_sF, gF_sA, List.length_set, reduceIte, and_true, and_false, true_and, false_and, Nat.reduceEqDiff, Int.reduceEq, hs.o1, hs.o3, hs.o10]); first | done | omega)) only [rF_ok, wF_ok, oK_ok, lA_ok, rA_ok, wA_ok, cI_ok, cV_ok, cL_ok, cR_ok, kd_sF, kd_sA, gA_sF, gF_sA, gF_sF, gA_sA, bk_0, bk_1, List.length_set, reduceIte, and_true, and_false, true_and, false_and, ne_eq, not_true_eq_false, not_false_eq_true, Int.toNat_natCast, Int.reduceToNat, Nat.reduceEqDiff, Int.reduceEq, Int.reduceLT, Int.reduceLE, Int.reduceAdd, Int.reduceSub, Int.reduceMul, Int.reduceNeg, hs.o1, hs.o3, hs.o10, g0]; exact reI ⟨rfl, R⟩
    · simp (disch := ((try simp only [kd_sF, kd_sA, gA_sF, gA_sA, gF_sF, gF_sA, List.length_set, reduceIte, and_true, and_false, true_and, false_and, Nat.reduceEqDiff, Int.reduceEq, hs.o1, hs.o3, hs.o10]); first | done | omega)) only [rF_ok, wF_ok, oK_ok, lA_ok, rA_ok, wA_ok, cI_ok, cV_ok, cL_ok, cR_ok, kd_sF, kd_sA, gA_sF, gF_sA, gF_sF, gA_sA, bk_0, bk_1, List.length_set, reduceIte, and_true, and_false, true_and, false_and, ne_eq, not_true_eq_false, not_false_eq_true, Int.toNat_natCast, Int.reduceToNat, Nat.reduceEqDiff, Int.reduceEq, Int.reduceLT, Int.reduceLE, Int.reduceAdd, Int.reduceSub, Int.reduceMul, Int.reduceNeg, hs.o1, hs.o3, hs.o10, tp]; exact reI ⟨rfl, R⟩
    · simp (disch := ((try simp only [kd_sF, kd_sA, gA_sF, gA_sA, gF_sF, gF_sA, List.length_set, reduceIte, and_true, and_false, true_and, false_and, Nat.reduceEqDiff, Int.reduceEq, hs.o1, hs.o3, hs.o10]); first | done | omega)) only [rF_ok, wF_ok, oK_ok, lA_ok, rA_ok, wA_ok, cI_ok, cV_ok, cL_ok, cR_ok, kd_sF, kd_sA, gA_sF, gF_sA, gF_sF, gA_sA, bk_0, bk_1, List.length_set, reduceIte, and_true, and_false, true_and, false_and, ne_eq, not_true_eq_false, not_false_eq_true, Int.toNat_natCast, Int.reduceToNat, Nat.reduceEqDiff, Int.reduceEq, Int.reduceLT, Int.reduceLE, Int.reduceAdd, Int.reduceSub, Int.reduceMul, Int.reduceNeg, hs.o1, hs.o3, hs.o10, wi_sm, r]; exact reI ⟨rfl, R⟩
    · simp (disch := ((try simp only [kd_sF, kd_sA, gA_sF, gA_sA, gF_sF, gF_sA, List.length_set, reduceIte, and_true, and_false, true_and, false_and, Nat.reduceEqDiff, Int.reduceEq, hs.o1, hs.o3, hs.o10]); first | done | omega)) only [rF_ok, wF_ok, oK_ok, lA_ok, rA_ok, wA_ok, cI_ok, cV_ok, cL_ok, cR_ok, kd_sF, kd_sA, gA_sF, gF_sA, gF_sF, gA_sA, bk_0, bk_1, List.length_set, reduceIte, and_true, and_false, true_and, false_and, ne_eq, not_true_eq_false, not_false_eq_true, Int.toNat_natCast, Int.reduceToNat, Nat.reduceEqDiff, Int.reduceEq, Int.reduceLT, Int.reduceLE, Int.reduceAdd, Int.reduceSub, Int.reduceMul, Int.reduceNeg, hs.o1, hs.o3, hs.o10, wi_sm, r]; exact reI ⟨rfl, R⟩
    · simp (disch := ((try simp only [kd_sF, kd_sA, gA_sF, gA_sA, gF_sF, gF_sA, List.length_set, reduceIte, and_true, and_false, true_and, false_and, Nat.reduceEqDiff, Int.reduceEq, hs.o1, hs.o3, hs.o10]); first | done | omega)) only [rF_ok, wF_ok, oK_ok, lA_ok, rA_ok, wA_ok, cI_ok, cV_ok, cL_ok, cR_ok, kd_sF, kd_sA, gA_sF, gF_sA, gF_sF, gA_sA, bk_0, bk_1, List.length_set, reduceIte, and_true, and_false, true_and, false_and, ne_eq, not_true_eq_false, not_false_eq_true, Int.toNat_natCast, Int.reduceToNat, Nat.reduceEqDiff, Int.reduceEq, Int.reduceLT, Int.reduceLE, Int.reduceAdd, Int.reduceSub, Int.reduceMul, Int.reduceNeg, hs.o1, hs.o3, hs.o10, wi_sm, r]; exact reI ⟨rfl, R⟩
    · simp (disch := ((try simp only [kd_sF, kd_sA, gA_sF, gA_sA, gF_sF, gF_sA, List.length_set, reduceIte, and_true, and_false, true_and, false_and, Nat.reduceEqDiff, Int.reduceEq, hs.o1, hs.o3, hs.o10]); first | done | omega)) only [rF_ok, wF_ok, oK_ok, lA_ok, rA_ok, wA_ok, cI_ok, cV_ok, cL_ok, cR_ok, kd_sF, kd_sA, gA_sF, gF_sA, gF_sF, gA_sA, bk_0, bk_1, List.length_set, reduceIte, and_true, and_false, true_and, false_and, ne_eq, not_true_eq_false, not_false_eq_true, Int.toNat_natCast, Int.reduceToNat, Nat.reduceEqDiff, Int.reduceEq, Int.reduceLT, Int.reduceLE, Int.reduceAdd, Int.reduceSub, Int.reduceMul, Int.reduceNeg, hs.o1, hs.o3, hs.o10, wi_sm, r]; exact reI ⟨rfl, R⟩
    · simp (disch := ((try simp only [kd_sF, kd_sA, gA_sF, gA_sA, gF_sF, gF_sA, List.length_set, reduceIte, and_true, and_false, true_and, false_and, Nat.reduceEqDiff, Int.reduceEq, hs.o1, hs.o3, hs.o10]); first | done | omega)) only [rF_ok, wF_ok, oK_ok, lA_ok, rA_ok, wA_ok, cI_ok, cV_ok, cL_ok, cR_ok, kd_sF, kd_sA, gA_sF, gF_sA, gF_sF, gA_sA, bk_0, bk_1, List.length_set, reduceIte, and_true, and_false, true_and, false_and, ne_eq, not_true_eq_false, not_false_eq_true, Int.toNat_natCast, Int.reduceToNat, Nat.reduceEqDiff, Int.reduceEq, Int.reduceLT, Int.reduceLE, Int.reduceAdd, Int.reduceSub, Int.reduceMul, Int.reduceNeg, hs.o1, hs.o3, hs.o10, wi_sm, r]; exact reI ⟨rfl, R⟩
    · simp (disch := ((try simp only [kd_sF, kd_sA, gA_sF, gA_sA, gF_sF, gF_sA, List.length_set, reduceIte, and_true, and_false, true_and, false_and, Nat.reduceEqDiff, Int.reduceEq, hs.o1, hs.o3, hs.o10]); first | done | omega)) only [rF_ok, wF_ok, oK_ok, lA_ok, rA_ok, wA_ok, cI_ok, cV_ok, cL_ok, cR_ok, kd_sF, kd_sA, gA_sF, gF_sA, gF_sF, gA_sA, bk_0, bk_1, List.length_set, reduceIte, and_true, and_false, true_and, false_and, ne_eq, not_true_eq_false, not_false_eq_true, Int.toNat_natCast, Int.reduceToNat, Nat.reduceEqDiff, Int.reduceEq, Int.reduceLT, Int.reduceLE, Int.reduceAdd, Int.reduceSub, Int.reduceMul, Int.reduceNeg, hs.o1, hs.o3, hs.o10, f10]; exact reI ⟨rfl, R⟩
    · simp (disch := ((try simp only [kd_sF, kd_sA, gA_sF, gA_sA, gF_sF, gF_sA, List.length_set, reduceIte, and_true, and_false, true_and, false_and, Nat.reduceEqDiff, Int.reduceEq, hs.o1, hs.o3, hs.o10]); first | done | omega)) only [rF_ok, wF_ok, oK_ok, lA_ok, rA_ok, wA_ok, cI_ok, cV_ok, cL_ok, cR_ok, kd_sF, kd_sA, gA_sF, gF_sA, gF_sF, gA_sA, bk_0, bk_1, List.length_set, reduceIte, and_true, and_false, true_and, false_and, ne_eq, not_true_eq_false, not_false_eq_true, Int.toNat_natCast, Int.reduceToNat, Nat.reduceEqDiff, Int.reduceEq, Int.reduceLT, Int.reduceLE, Int.reduceAdd, Int.reduceSub, Int.reduceMul, Int.reduceNeg, hs.o1, hs.o3, hs.o10, wi_sm, t1]; exact reI ⟨rfl, R⟩
    · simp (disch := ((try simp only [kd_sF, kd_sA, gA_sF, gA_sA, gF_sF, gF_sA, List.length_set, reduceIte, and_true, and_false, true_and, false_and, Nat.reduceEqDiff, Int.reduceEq, hs.o1, hs.o3, hs.o10]); first | done | omega)) only [rF_ok, wF_ok, oK_ok, lA_ok, rA_ok, wA_ok, cI_ok, cV_ok, cL_ok, cR_ok, kd_sF, kd_sA, gA_sF, gF_sA, gF_sF, gA_sA, bk_0, bk_1, List.length_set, reduceIte, and_true, and_false, true_and, false_and, ne_eq, not_true_eq_false, not_false_eq_true, Int.toNat_natCast, Int.reduceToNat, Nat.reduceEqDiff, Int.reduceEq, Int.reduceLT, Int.reduceLE, Int.reduceAdd, Int.reduceSub, Int.reduceMul, Int.reduceNeg, hs.o1, hs.o3, hs.o10, wi_sm, t1]; exact reI ⟨rfl, R⟩
    · simp (disch := ((try simp only [kd_sF, kd_sA, gA_sF, gA_sA, gF_sF, gF_sA, List.length_set, reduceIte, and_true, and_false, true_and, false_and, Nat.reduceEqDiff, Int.reduceEq, hs.o1, hs.o3, hs.o10]); first | done | omega)) only [rF_ok, wF_ok, oK_ok, lA_ok, rA_ok, wA_ok, cI_ok, cV_ok, cL_ok, cR_ok, kd_sF, kd_sA, gA_sF, gF_sA, gF_sF, gA_sA, bk_0, bk_1, List.length_set, reduceIte, and_true, and_false, true_and, false_and, ne_eq, not_true_eq_false, not_false_eq_true, Int.toNat_natCast, Int.reduceToNat, Nat.reduceEqDiff, Int.reduceEq, Int.reduceLT, Int.reduceLE, Int.reduceAdd, Int.reduceSub, Int.reduceMul, Int.reduceNeg, hs.o1, hs.o3, hs.o10, wi_sm, t1]; exact reI ⟨rfl, R⟩
theorem RepC.jr {s' : St} (R : RepC a s) (W : wfA a) (J : JR s s') (hs' : ShC s') : RepC a s' := R.k W J.k hs' (R.pg.k2 R.1.o78.1 J.k (by decide) (by decide) (by decide)) (by decide) (by decide)
theorem c_of44 {what : Int} {k : Kn} {p : Int} {D : Dr} (hw : what < 2147483648) (h0 : 0 ≤ what) (hs : ShC s) (K : KnC s p k) (wk : wfKn k) (t1 : gA s 8 = [moodD D, needD D, thickD D]) (h5 : what = 5 → gF s 31 5 = tkK D k) (h6 : (what = 6 ∨ what = 7) → gF s 31 6 = gpK D k) : X11_of_44 (d + 2) s 1 what p = some ([(0, ofK D k what)], s) := by
  obtain ⟨⟨p1, p2, p3, p4⟩, k0', k1', k2', k3', k4', k5'⟩ := K
  have hl := wk.2.2.2.2.1
  have hth := wk.2.2.2.1
  unfold ofK
  rw [e_X11_of_44, if_neg (show ¬ (what < 0) by omega)]
  by_cases w : what = 0
  · rw [if_pos w, if_pos w]
    simp (disch := ((try simp only [kd_sF, kd_sA, gA_sF, gA_sA, gF_sF, gF_sA, List.length_set, reduceIte, and_true, and_false, true_and, false_and, Nat.reduceEqDiff, Int.reduceEq, p1]); first | done | omega)) only [rF_ok, wF_ok, oK_ok, lA_ok, rA_ok, wA_ok, cI_ok, cV_ok, cL_ok, cR_ok, kd_sF, kd_sA, gA_sF, gF_sA, gF_sF, gA_sA, bk_0, bk_1, List.length_set, reduceIte, and_true, and_false, true_and, false_and, ne_eq, not_true_eq_false, not_false_eq_true, Int.toNat_natCast, Int.reduceToNat, Nat.reduceEqDiff, Int.reduceEq, Int.reduceLT, Int.reduceLE, Int.reduceAdd, Int.reduceSub, Int.reduceMul, Int.reduceNeg, p1, k0']
  rw [if_neg w, if_neg w]
  by_cases w : what = 1
  · rw [if_pos w, if_pos w]
    simp (disch := ((try simp only [kd_sF, kd_sA, gA_sF, gA_sA, gF_sF, gF_sA, List.length_set, reduceIte, and_true, and_false, true_and, false_and, Nat.reduceEqDiff, Int.reduceEq, p1]); first | done | omega)) only [rF_ok, wF_ok, oK_ok, lA_ok, rA_ok, wA_ok, cI_ok, cV_ok, cL_ok, cR_ok, kd_sF, kd_sA, gA_sF, gF_sA, gF_sF, gA_sA, bk_0, bk_1, List.length_set, reduceIte, and_true, and_false, true_and, false_and, ne_eq, not_true_eq_false, not_false_eq_true, Int.toNat_natCast, Int.reduceToNat, Nat.reduceEqDiff, Int.reduceEq, Int.reduceLT, Int.reduceLE, Int.reduceAdd, Int.reduceSub, Int.reduceMul, Int.reduceNeg, p1, k1']
  rw [if_neg w, if_neg w]
  by_cases w : what = 2
  · rw [if_pos w, if_pos w]
    simp (disch := ((try simp only [kd_sF, kd_sA, gA_sF, gA_sA, gF_sF, gF_sA, List.length_set, reduceIte, and_true, and_false, true_and, false_and, Nat.reduceEqDiff, Int.reduceEq, p1]); first | done | omega)) only [rF_ok, wF_ok, oK_ok, lA_ok, rA_ok, wA_ok, cI_ok, cV_ok, cL_ok, cR_ok, kd_sF, kd_sA, gA_sF, gF_sA, gF_sF, gA_sA, bk_0, bk_1, List.length_set, reduceIte, and_true, and_false, true_and, false_and, ne_eq, not_true_eq_false, not_false_eq_true, Int.toNat_natCast, Int.reduceToNat, Nat.reduceEqDiff, Int.reduceEq, Int.reduceLT, Int.reduceLE, Int.reduceAdd, Int.reduceSub, Int.reduceMul, Int.reduceNeg, p1, k2']
  rw [if_neg w, if_neg w]
  by_cases w : what = 3
  · rw [if_pos w, if_pos w]
    simp (disch := ((try simp only [kd_sF, kd_sA, gA_sF, gA_sA, gF_sF, gF_sA, List.length_set, reduceIte, and_true, and_false, true_and, false_and, Nat.reduceEqDiff, Int.reduceEq, p1]); first | done | omega)) only [rF_ok, wF_ok, oK_ok, lA_ok, rA_ok, wA_ok, cI_ok, cV_ok, cL_ok, cR_ok, kd_sF, kd_sA, gA_sF, gF_sA, gF_sF, gA_sA, bk_0, bk_1, List.length_set, reduceIte, and_true, and_false, true_and, false_and, ne_eq, not_true_eq_false, not_false_eq_true, Int.toNat_natCast, Int.reduceToNat, Nat.reduceEqDiff, Int.reduceEq, Int.reduceLT, Int.reduceLE, Int.reduceAdd, Int.reduceSub, Int.reduceMul, Int.reduceNeg, p1, k3']
  rw [if_neg w, if_neg w]
  by_cases w : what = 4
  · rw [if_pos w, if_pos w]
    simp (disch := ((try simp only [kd_sF, kd_sA, gA_sF, gA_sA, gF_sF, gF_sA, List.length_set, reduceIte, and_true, and_false, true_and, false_and, Nat.reduceEqDiff, Int.reduceEq, p1]); first | done | omega)) only [rF_ok, wF_ok, oK_ok, lA_ok, rA_ok, wA_ok, cI_ok, cV_ok, cL_ok, cR_ok, kd_sF, kd_sA, gA_sF, gF_sA, gF_sF, gA_sA, bk_0, bk_1, List.length_set, reduceIte, and_true, and_false, true_and, false_and, ne_eq, not_true_eq_false, not_false_eq_true, Int.toNat_natCast, Int.reduceToNat, Nat.reduceEqDiff, Int.reduceEq, Int.reduceLT, Int.reduceLE, Int.reduceAdd, Int.reduceSub, Int.reduceMul, Int.reduceNeg, p1, k4']
    rcases hth with e | e
    · rw [e]; rfl
    · rw [e]; rfl
  rw [if_neg w, if_neg w]
  by_cases w : what = 5
  · rw [if_pos w, if_pos w]
    simp (disch := ((try simp only [kd_sF, kd_sA, gA_sF, gA_sA, gF_sF, gF_sA, List.length_set, reduceIte, and_true, and_false, true_and, false_and, Nat.reduceEqDiff, Int.reduceEq, hs.o1, hs.o31]); first | done | omega)) only [rF_ok, wF_ok, oK_ok, lA_ok, rA_ok, wA_ok, cI_ok, cV_ok, cL_ok, cR_ok, kd_sF, kd_sA, gA_sF, gF_sA, gF_sF, gA_sA, bk_0, bk_1, List.length_set, reduceIte, and_true, and_false, true_and, false_and, ne_eq, not_true_eq_false, not_false_eq_true, Int.toNat_natCast, Int.reduceToNat, Nat.reduceEqDiff, Int.reduceEq, Int.reduceLT, Int.reduceLE, Int.reduceAdd, Int.reduceSub, Int.reduceMul, Int.reduceNeg, hs.o1, hs.o31, h5 w]
  rw [if_neg w, if_neg w]
  by_cases w : what = 6
  · rw [if_pos w, if_pos w]
    simp (disch := ((try simp only [kd_sF, kd_sA, gA_sF, gA_sA, gF_sF, gF_sA, List.length_set, reduceIte, and_true, and_false, true_and, false_and, Nat.reduceEqDiff, Int.reduceEq, hs.o1, hs.o31]); first | done | omega)) only [rF_ok, wF_ok, oK_ok, lA_ok, rA_ok, wA_ok, cI_ok, cV_ok, cL_ok, cR_ok, kd_sF, kd_sA, gA_sF, gF_sA, gF_sF, gA_sA, bk_0, bk_1, List.length_set, reduceIte, and_true, and_false, true_and, false_and, ne_eq, not_true_eq_false, not_false_eq_true, Int.toNat_natCast, Int.reduceToNat, Nat.reduceEqDiff, Int.reduceEq, Int.reduceLT, Int.reduceLE, Int.reduceAdd, Int.reduceSub, Int.reduceMul, Int.reduceNeg, hs.o1, hs.o31, h6 (Or.inl w)]
  rw [if_neg w, if_neg w]
  by_cases w : what = 7
  · rw [if_pos w, if_pos w]
    have t11 : (gA s 8).getD 1 0 = needD D := by rw [t1]; rfl
    simp (disch := ((try simp only [kd_sF, kd_sA, gA_sF, gA_sA, gF_sF, gF_sA, List.length_set, reduceIte, and_true, and_false, true_and, false_and, Nat.reduceEqDiff, Int.reduceEq, p1]); first | done | omega)) only [rF_ok, wF_ok, oK_ok, lA_ok, rA_ok, wA_ok, cI_ok, cV_ok, cL_ok, cR_ok, kd_sF, kd_sA, gA_sF, gF_sA, gF_sF, gA_sA, bk_0, bk_1, List.length_set, reduceIte, and_true, and_false, true_and, false_and, ne_eq, not_true_eq_false, not_false_eq_true, Int.toNat_natCast, Int.reduceToNat, Nat.reduceEqDiff, Int.reduceEq, Int.reduceLT, Int.reduceLE, Int.reduceAdd, Int.reduceSub, Int.reduceMul, Int.reduceNeg, p1, k4']
    rcases hth with e | e
    · rw [e]; rfl
    · rw [e, if_neg (show ¬ ((1 : Int) = 0) by decide)]
      simp (disch := ((try simp only [kd_sF, kd_sA, gA_sF, gA_sA, gF_sF, gF_sA, List.length_set, reduceIte, and_true, and_false, true_and, false_and, Nat.reduceEqDiff, Int.reduceEq, hs.o1, hs.o31, hs.o3]); first | done | omega)) only [rF_ok, wF_ok, oK_ok, lA_ok, rA_ok, wA_ok, cI_ok, cV_ok, cL_ok, cR_ok, kd_sF, kd_sA, gA_sF, gF_sA, gF_sF, gA_sA, bk_0, bk_1, List.length_set, reduceIte, and_true, and_false, true_and, false_and, ne_eq, not_true_eq_false, not_false_eq_true, Int.toNat_natCast, Int.reduceToNat, Nat.reduceEqDiff, Int.reduceEq, Int.reduceLT, Int.reduceLE, Int.reduceAdd, Int.reduceSub, Int.reduceMul, Int.reduceNeg, hs.o1, hs.o31, hs.o3, h6 (Or.inr w), t11]
      by_cases g : gpK D k < needD D
      · rw [if_pos g, if_neg (by omega)]
      · rw [if_neg g, if_pos (by omega)]
  rw [if_neg w, if_neg w]
  by_cases w : what = 8
  · rw [if_pos w, if_pos w]
    simp (disch := ((try simp only [kd_sF, kd_sA, gA_sF, gA_sA, gF_sF, gF_sA, List.length_set, reduceIte, and_true, and_false, true_and, false_and, Nat.reduceEqDiff, Int.reduceEq, p1, p2]); first | done | omega)) only [rF_ok, wF_ok, oK_ok, lA_ok, rA_ok, wA_ok, cI_ok, cV_ok, cL_ok, cR_ok, kd_sF, kd_sA, gA_sF, gF_sA, gF_sF, gA_sA, bk_0, bk_1, List.length_set, reduceIte, and_true, and_false, true_and, false_and, ne_eq, not_true_eq_false, not_false_eq_true, Int.toNat_natCast, Int.reduceToNat, Nat.reduceEqDiff, Int.reduceEq, Int.reduceLT, Int.reduceLE, Int.reduceAdd, Int.reduceSub, Int.reduceMul, Int.reduceNeg, p1, p2, k3', c_centresOf (d := d + 1) (p := p + 1) (n := kLen k) p3 (by omega) (by omega)]
    rw [cenN_congr k5']
  rw [if_neg w, if_neg w]
  by_cases w : what = 9
  · rw [if_pos w, if_pos w]
    simp (disch := ((try simp only [kd_sF, kd_sA, gA_sF, gA_sA, gF_sF, gF_sA, List.length_set, reduceIte, and_true, and_false, true_and, false_and, Nat.reduceEqDiff, Int.reduceEq, p1, p2]); first | done | omega)) only [rF_ok, wF_ok, oK_ok, lA_ok, rA_ok, wA_ok, cI_ok, cV_ok, cL_ok, cR_ok, kd_sF, kd_sA, gA_sF, gF_sA, gF_sF, gA_sA, bk_0, bk_1, List.length_set, reduceIte, and_true, and_false, true_and, false_and, ne_eq, not_true_eq_false, not_false_eq_true, Int.toNat_natCast, Int.reduceToNat, Nat.reduceEqDiff, Int.reduceEq, Int.reduceLT, Int.reduceLE, Int.reduceAdd, Int.reduceSub, Int.reduceMul, Int.reduceNeg, p1, p2, k3', c_leanOf (d := d + 1) (p := p + 1) (n := kLen k) p3 (by omega) (by omega)]
    rw [leanN_congr k5']
  rw [if_neg w, if_neg w]
  by_cases w : what = 10
  · rw [if_pos w, if_pos w]
    simp (disch := ((try simp only [kd_sF, kd_sA, gA_sF, gA_sA, gF_sF, gF_sA, List.length_set, reduceIte, and_true, and_false, true_and, false_and, Nat.reduceEqDiff, Int.reduceEq, p1, p2]); first | done | omega)) only [rF_ok, wF_ok, oK_ok, lA_ok, rA_ok, wA_ok, cI_ok, cV_ok, cL_ok, cR_ok, kd_sF, kd_sA, gA_sF, gF_sA, gF_sF, gA_sA, bk_0, bk_1, List.length_set, reduceIte, and_true, and_false, true_and, false_and, ne_eq, not_true_eq_false, not_false_eq_true, Int.toNat_natCast, Int.reduceToNat, Nat.reduceEqDiff, Int.reduceEq, Int.reduceLT, Int.reduceLE, Int.reduceAdd, Int.reduceSub, Int.reduceMul, Int.reduceNeg, p1, p2, k3', c_twistsOf (d := d) (p := p + 1) (n := kLen k) p3 (by omega) (by omega)]
    rw [twN_congr k5']
  rw [if_neg w, if_neg w]
  by_cases w : what = 11
  · rw [if_pos w, if_pos w]
    simp (disch := ((try simp only [kd_sF, kd_sA, gA_sF, gA_sA, gF_sF, gF_sA, List.length_set, reduceIte, and_true, and_false, true_and, false_and, Nat.reduceEqDiff, Int.reduceEq, p1, p2]); first | done | omega)) only [rF_ok, wF_ok, oK_ok, lA_ok, rA_ok, wA_ok, cI_ok, cV_ok, cL_ok, cR_ok, kd_sF, kd_sA, gA_sF, gF_sA, gF_sF, gA_sA, bk_0, bk_1, List.length_set, reduceIte, and_true, and_false, true_and, false_and, ne_eq, not_true_eq_false, not_false_eq_true, Int.toNat_natCast, Int.reduceToNat, Nat.reduceEqDiff, Int.reduceEq, Int.reduceLT, Int.reduceLE, Int.reduceAdd, Int.reduceSub, Int.reduceMul, Int.reduceNeg, p1, p2, k3', c_leftOf (d := d) (p := p + 1) (n := kLen k) p3 (by omega) (by omega)]
    rw [lefN_congr k5']
  rw [if_neg w, if_neg w]
  simp (disch := ((try simp only [kd_sF, kd_sA, gA_sF, gA_sA, gF_sF, gF_sA, List.length_set, reduceIte, and_true, and_false, true_and, false_and, Nat.reduceEqDiff, Int.reduceEq, p1]); first | done | omega)) only [rF_ok, wF_ok, oK_ok, lA_ok, rA_ok, wA_ok, cI_ok, cV_ok, cL_ok, cR_ok, kd_sF, kd_sA, gA_sF, gF_sA, gF_sF, gA_sA, bk_0, bk_1, List.length_set, reduceIte, and_true, and_false, true_and, false_and, ne_eq, not_true_eq_false, not_false_eq_true, Int.toNat_natCast, Int.reduceToNat, Nat.reduceEqDiff, Int.reduceEq, Int.reduceLT, Int.reduceLE, Int.reduceAdd, Int.reduceSub, Int.reduceMul, Int.reduceNeg, p1, k3', wi_sm]
  by_cases w : what - 12 < kLen k
  · rw [if_pos w, if_pos w]
    have e := k5' (what - 12).toNat (by omega)
    have e' : (gA s (p + 1)).getD (what - 12).toNat 0 = pF k (what - 12).toNat := e
    simp (disch := ((try simp only [kd_sF, kd_sA, gA_sF, gA_sA, gF_sF, gF_sA, List.length_set, reduceIte, and_true, and_false, true_and, false_and, Nat.reduceEqDiff, Int.reduceEq, p1, p2, p3]); first | done | omega)) only [rF_ok, wF_ok, oK_ok, lA_ok, rA_ok, wA_ok, cI_ok, cV_ok, cL_ok, cR_ok, kd_sF, kd_sA, gA_sF, gF_sA, gF_sF, gA_sA, bk_0, bk_1, List.length_set, reduceIte, and_true, and_false, true_and, false_and, ne_eq, not_true_eq_false, not_false_eq_true, Int.toNat_natCast, Int.reduceToNat, Nat.reduceEqDiff, Int.reduceEq, Int.reduceLT, Int.reduceLE, Int.reduceAdd, Int.reduceSub, Int.reduceMul, Int.reduceNeg, p1, p2, p3, e']
  · rw [if_neg w, if_neg w]
theorem cc_of {q what : Int} (hw : what < 2147483648) (R : RepC a s) (W : wfA a) : Gl (GI fun x s' => x = aOf a.1 q what ∧ RepC a s') (X11_of (d + 4) s 1 q what) := by
  have hs := R.1
  rw [e_X11_of]
  unfold aOf
  simp (disch := ((try simp only [kd_sF, kd_sA, gA_sF, gA_sA, gF_sF, gF_sA, List.length_set, reduceIte, and_true, and_false, true_and, false_and, Nat.reduceEqDiff, Int.reduceEq, hs.o1, hs.o3]); first | done | omega)) only [rF_ok, wF_ok, oK_ok, lA_ok, rA_ok, wA_ok, cI_ok, cV_ok, cL_ok, cR_ok, kd_sF, kd_sA, gA_sF, gF_sA, gF_sF, gA_sA, bk_0, bk_1, List.length_set, reduceIte, and_true, and_false, true_and, false_and, ne_eq, not_true_eq_false, not_false_eq_true, Int.toNat_natCast, Int.reduceToNat, Nat.reduceEqDiff, Int.reduceEq, Int.reduceLT, Int.reduceLE, Int.reduceAdd, Int.reduceSub, Int.reduceMul, Int.reduceNeg, hs.o1, hs.o3]
  by_cases hq : isKn a.1 q
  · have hq' := hq
    unfold isKn at hq'
    have wk := wfKn_q W.1 hq
    obtain ⟨p, hp⟩ : ∃ p : Int, p = 3 + 11 + 2 * q := ⟨_, rfl⟩
    have KN : ∀ s', DrC s' 3 a.1 → KnC s' p (knQ a.1 q) := fun s' h => by rw [hp]; exact h.kn hq
    rw [c_knotAt1 R.2.1 W.1 hq, ← hp, cR_ok, if_neg (show ¬ (p = 0) by omega), if_pos hq']
    by_cases w1 : what < 0
    · rw [if_pos w1]
      unfold ofK
      rw [if_pos w1]
      exact reI ⟨rfl, R⟩
    rw [if_neg w1]
    have dir : ∀ s', RepC a s' → ShC s' → (what = 5 → gF s' 31 5 = tkK a.1 (knQ a.1 q)) → ((what = 6 ∨ what = 7) → gF s' 31 6 = gpK a.1 (knQ a.1 q)) → Gl (GI fun x s' => x = ofK a.1 (knQ a.1 q) what ∧ RepC a s') (X11_of_44 (d + 4) s' 1 what p) := by
      intro s' R' hs' h5 h6
      rw [c_of44 (d := d + 2) hw (by omega) hs' (KN s' R'.2.1) wk R'.2.1.2.2.2.2.1 h5 h6]
      exact reI ⟨rfl, R'⟩
    by_cases w2 : what < 5
    · rw [if_pos w2]
      exact dir s R hs (fun e => by omega) (fun e => by omega)
    rw [if_neg w2]
    by_cases w3 : 7 < what
    · rw [if_pos w3]
      exact dir s R hs (fun e => by omega) (fun e => by omega)
    rw [if_neg w3]
    simp (disch := ((try simp only [kd_sF, kd_sA, gA_sF, gA_sA, gF_sF, gF_sA, List.length_set, reduceIte, and_true, and_false, true_and, false_and, Nat.reduceEqDiff, Int.reduceEq, hs.o1]); first | done | omega)) only [rF_ok, wF_ok, oK_ok, lA_ok, rA_ok, wA_ok, cI_ok, cV_ok, cL_ok, cR_ok, kd_sF, kd_sA, gA_sF, gF_sA, gF_sF, gA_sA, bk_0, bk_1, List.length_set, reduceIte, and_true, and_false, true_and, false_and, ne_eq, not_true_eq_false, not_false_eq_true, Int.toNat_natCast, Int.reduceToNat, Nat.reduceEqDiff, Int.reduceEq, Int.reduceLT, Int.reduceLE, Int.reduceAdd, Int.reduceSub, Int.reduceMul, Int.reduceNeg, hs.o1]
    have hl8 := W.1.1.1
    refine biV (c_weigh (d := d) (p := p) (D := 3) hs.j R.2.1 W.1 (by decide) (KN s R.2.1) wk (by omega)) fun s2 hev ⟨j1, j2, j3⟩ => ?_
    have hs2 : ShC s2 := hs.ev hev rfl
    exact dir s2 (R.jr W j1 hs2) hs2 (fun _ => j2) (fun _ => j3)
  · rw [c_knotAt0 R.2.1 hq, cR_ok, if_pos rfl, if_neg (show ¬ (0 ≤ q ∧ q < (a.1.1.length : Int)) from hq)]
    exact reI ⟨rfl, R⟩
theorem cc_asks {q pl what : Int} (R : RepC a s) (W : wfA a) : Gl (GI fun x s' => x = aAsks a.1 q pl what ∧ RepC a s') (X11_asks (d + 4) s 1 q pl what) := by
  have hs := R.1
  rw [e_X11_asks]
  unfold aAsks
  simp (disch := ((try simp only [kd_sF, kd_sA, gA_sF, gA_sA, gF_sF, gF_sA, List.length_set, reduceIte, and_true, and_false, true_and, false_and, Nat.reduceEqDiff, Int.reduceEq, hs.o1, hs.o3]); first | done | omega)) only [rF_ok, wF_ok, oK_ok, lA_ok, rA_ok, wA_ok, cI_ok, cV_ok, cL_ok, cR_ok, kd_sF, kd_sA, gA_sF, gF_sA, gF_sF, gA_sA, bk_0, bk_1, List.length_set, reduceIte, and_true, and_false, true_and, false_and, ne_eq, not_true_eq_false, not_false_eq_true, Int.toNat_natCast, Int.reduceToNat, Nat.reduceEqDiff, Int.reduceEq, Int.reduceLT, Int.reduceLE, Int.reduceAdd, Int.reduceSub, Int.reduceMul, Int.reduceNeg, hs.o1, hs.o3]
  by_cases hq : isKn a.1 q
  · have hq' := hq
    unfold isKn at hq'
    have wk := wfKn_q W.1 hq
    obtain ⟨p, hp⟩ : ∃ p : Int, p = 3 + 11 + 2 * q := ⟨_, rfl⟩
    have KN : ∀ s', DrC s' 3 a.1 → KnC s' p (knQ a.1 q) := fun s' h => by rw [hp]; exact h.kn hq
    rw [c_knotAt1 R.2.1 W.1 hq, ← hp, cR_ok, if_neg (show ¬ (p = 0) by omega)]
    obtain ⟨⟨p1, p2, p3, p4⟩, -, -, -, p5, -, -⟩ := KN s R.2.1
    by_cases hp : 0 ≤ pl ∧ pl ≤ 2
    · rw [c_isPlace1 hp, cI_ok, if_neg (show ¬ ((1 : Int) = 0) by decide)]
      simp (disch := ((try simp only [kd_sF, kd_sA, gA_sF, gA_sA, gF_sF, gF_sA, List.length_set, reduceIte, and_true, and_false, true_and, false_and, Nat.reduceEqDiff, Int.reduceEq, p1]); first | done | omega)) only [rF_ok, wF_ok, oK_ok, lA_ok, rA_ok, wA_ok, cI_ok, cV_ok, cL_ok, cR_ok, kd_sF, kd_sA, gA_sF, gF_sA, gF_sF, gA_sA, bk_0, bk_1, List.length_set, reduceIte, and_true, and_false, true_and, false_and, ne_eq, not_true_eq_false, not_false_eq_true, Int.toNat_natCast, Int.reduceToNat, Nat.reduceEqDiff, Int.reduceEq, Int.reduceLT, Int.reduceLE, Int.reduceAdd, Int.reduceSub, Int.reduceMul, Int.reduceNeg, p1, p5]
      by_cases hl : kLen (knQ a.1 q) < 12
      · rw [if_pos (show (kLen (knQ a.1 q) : Int) < 12 by omega), if_pos ⟨hq', hp, hl⟩]
        simp (disch := ((try simp only [kd_sF, kd_sA, gA_sF, gA_sA, gF_sF, gF_sA, List.length_set, reduceIte, and_true, and_false, true_and, false_and, Nat.reduceEqDiff, Int.reduceEq, hs.o1]); first | done | omega)) only [rF_ok, wF_ok, oK_ok, lA_ok, rA_ok, wA_ok, cI_ok, cV_ok, cL_ok, cR_ok, kd_sF, kd_sA, gA_sF, gF_sA, gF_sF, gA_sA, bk_0, bk_1, List.length_set, reduceIte, and_true, and_false, true_and, false_and, ne_eq, not_true_eq_false, not_false_eq_true, Int.toNat_natCast, Int.reduceToNat, Nat.reduceEqDiff, Int.reduceEq, Int.reduceLT, Int.reduceLE, Int.reduceAdd, Int.reduceSub, Int.reduceMul, Int.reduceNeg, hs.o1]
        refine biV (c_askNext (d := d) (D := 3) hs.j R.2.1 W.1 (KN s R.2.1) wk hp) fun s2 hev ⟨j1, j2, j3, j4, _, _⟩ => ?_
        have hs2 : ShC s2 := hs.ev hev rfl
        have R2 := R.jr W j1 hs2
        by_cases w : what = 0
        · rw [if_pos w, if_pos w]
          simp (disch := ((try simp only [kd_sF, kd_sA, gA_sF, gA_sA, gF_sF, gF_sA, List.length_set, reduceIte, and_true, and_false, true_and, false_and, Nat.reduceEqDiff, Int.reduceEq, hs2.o1, hs2.o31]); first | done | omega)) only [rF_ok, wF_ok, oK_ok, lA_ok, rA_ok, wA_ok, cI_ok, cV_ok, cL_ok, cR_ok, kd_sF, kd_sA, gA_sF, gF_sA, gF_sF, gA_sA, bk_0, bk_1, List.length_set, reduceIte, and_true, and_false, true_and, false_and, ne_eq, not_true_eq_false, not_false_eq_true, Int.toNat_natCast, Int.reduceToNat, Nat.reduceEqDiff, Int.reduceEq, Int.reduceLT, Int.reduceLE, Int.reduceAdd, Int.reduceSub, Int.reduceMul, Int.reduceNeg, hs2.o1, hs2.o31, j2]
          exact reI ⟨rfl, R2⟩
        rw [if_neg w, if_neg w]
        by_cases w : what = 1
        · rw [if_pos w, if_pos w]
          simp (disch := ((try simp only [kd_sF, kd_sA, gA_sF, gA_sA, gF_sF, gF_sA, List.length_set, reduceIte, and_true, and_false, true_and, false_and, Nat.reduceEqDiff, Int.reduceEq, hs2.o1, hs2.o31]); first | done | omega)) only [rF_ok, wF_ok, oK_ok, lA_ok, rA_ok, wA_ok, cI_ok, cV_ok, cL_ok, cR_ok, kd_sF, kd_sA, gA_sF, gF_sA, gF_sF, gA_sA, bk_0, bk_1, List.length_set, reduceIte, and_true, and_false, true_and, false_and, ne_eq, not_true_eq_false, not_false_eq_true, Int.toNat_natCast, Int.reduceToNat, Nat.reduceEqDiff, Int.reduceEq, Int.reduceLT, Int.reduceLE, Int.reduceAdd, Int.reduceSub, Int.reduceMul, Int.reduceNeg, hs2.o1, hs2.o31, j3]
          exact reI ⟨rfl, R2⟩
        rw [if_neg w, if_neg w]
        by_cases w : what = 2
        · rw [if_pos w, if_pos w]
          simp (disch := ((try simp only [kd_sF, kd_sA, gA_sF, gA_sA, gF_sF, gF_sA, List.length_set, reduceIte, and_true, and_false, true_and, false_and, Nat.reduceEqDiff, Int.reduceEq, hs2.o1, hs2.o31]); first | done | omega)) only [rF_ok, wF_ok, oK_ok, lA_ok, rA_ok, wA_ok, cI_ok, cV_ok, cL_ok, cR_ok, kd_sF, kd_sA, gA_sF, gF_sA, gF_sF, gA_sA, bk_0, bk_1, List.length_set, reduceIte, and_true, and_false, true_and, false_and, ne_eq, not_true_eq_false, not_false_eq_true, Int.toNat_natCast, Int.reduceToNat, Nat.reduceEqDiff, Int.reduceEq, Int.reduceLT, Int.reduceLE, Int.reduceAdd, Int.reduceSub, Int.reduceMul, Int.reduceNeg, hs2.o1, hs2.o31, j4]
          have hb := brA_bd (cls := clsD a.1) (mood := moodD a.1) (th := (knQ a.1 q).2.1) (side := ((knQ a.1 q).1 + kLen (knQ a.1 q)) % 2) (k := kLen (knQ a.1 q)) (bef := lastP (knQ a.1 q)) (pl := pl)
          split
          · rename_i e
            exact reI ⟨e.symm, R2⟩
          · exact reI ⟨by omega, R2⟩
        rw [if_neg w, if_neg w]
        exact reI ⟨rfl, R2⟩
      · rw [if_neg (show ¬ ((kLen (knQ a.1 q) : Int) < 12) by omega), if_neg (fun e => hl e.2.2)]
        exact reI ⟨rfl, R⟩
    · rw [c_isPlace0 (by omega), cI_ok, if_pos rfl, if_neg (fun e => hp e.2.1)]
      exact reI ⟨rfl, R⟩
  · rw [c_knotAt0 R.2.1 hq, cR_ok, if_pos rfl, if_neg (fun e => hq e.1)]
    exact reI ⟨rfl, R⟩
theorem fr_dig {n : Nat} {i : Int} (hn : n < 64) (hi : 0 ≤ i ∧ i ≤ 2) : wi (andI (shrI n (wi (2 * i))) 3 - 1) = ((n : Nat) : Int) / 4 ^ i.toNat % 4 - 1 := by
  obtain ⟨j, rfl⟩ := Int.eq_ofNat_of_zero_le hi.1
  have e0 : wi (2 * (j : Int)) = ((2 * j : Nat) : Int) := by rw [wi_sm (by omega) (by omega)]; omega
  rw [e0, shr_n (by omega) (by omega)]
  have hd : n / 2 ^ (2 * j) ≤ n := Nat.div_le_self _ _
  have e1 : ((n / 2 ^ (2 * j) : Nat) : Int) = (n : Int) / 4 ^ j := by
    rw [Nat.pow_mul]
    push_cast
    rfl
  rw [Int.toNat_natCast, ← e1]
  generalize n / 2 ^ (2 * j) = m at hd ⊢
  rw [and3 (by omega) (by omega), wi_sm (by omega) (by omega)]
theorem cc_front {q i : Int} (R : RepC a s) (W : wfA a) : Gl (GI fun x s' => x = aFront a.1 q i ∧ RepC a s') (X11_front (d + 1) s 1 q i) := by
  have hs := R.1
  rw [e_X11_front]
  unfold aFront
  simp (disch := ((try simp only [kd_sF, kd_sA, gA_sF, gA_sA, gF_sF, gF_sA, List.length_set, reduceIte, and_true, and_false, true_and, false_and, Nat.reduceEqDiff, Int.reduceEq, hs.o1, hs.o3]); first | done | omega)) only [rF_ok, wF_ok, oK_ok, lA_ok, rA_ok, wA_ok, cI_ok, cV_ok, cL_ok, cR_ok, kd_sF, kd_sA, gA_sF, gF_sA, gF_sF, gA_sA, bk_0, bk_1, List.length_set, reduceIte, and_true, and_false, true_and, false_and, ne_eq, not_true_eq_false, not_false_eq_true, Int.toNat_natCast, Int.reduceToNat, Nat.reduceEqDiff, Int.reduceEq, Int.reduceLT, Int.reduceLE, Int.reduceAdd, Int.reduceSub, Int.reduceMul, Int.reduceNeg, hs.o1, hs.o3]
  by_cases hq : isKn a.1 q
  · have hq' := hq
    unfold isKn at hq'
    have wk := wfKn_q W.1 hq
    obtain ⟨p, hp⟩ : ∃ p : Int, p = 3 + 11 + 2 * q := ⟨_, rfl⟩
    have KN : ∀ s', DrC s' 3 a.1 → KnC s' p (knQ a.1 q) := fun s' h => by rw [hp]; exact h.kn hq
    rw [c_knotAt1 R.2.1 W.1 hq, ← hp, cR_ok, if_neg (show ¬ (p = 0) by omega)]
    obtain ⟨⟨p1, p2, p3, p4⟩, q0, -, -, q3, -, q5⟩ := KN s R.2.1
    by_cases w1 : i < 0
    · rw [if_pos w1, if_neg (fun e => by omega)]; exact reI ⟨rfl, R⟩
    rw [if_neg w1]
    by_cases w2 : i < 3
    · rw [if_pos w2, if_pos ⟨hq', by omega, by omega⟩]
      have hpl : ∀ k, k < kLen (knQ a.1 q) → pl3 (af s (p + 1) k) := fun k hk => by rw [q5 k hk]; exact wk.2.2.2.2.2.1 k hk
      have ef := c_frontOf (d := d) (p := p + 1) (st := (knQ a.1 q).1) (n := kLen (knQ a.1 q)) p3 (by have := wk.2.2.2.2.1; omega) (by have := wk.2.2.2.2.1; omega) wk.1 hpl
      have hb := frN_bd (st := (knQ a.1 q).1) hpl
      rw [frN_congr q5] at ef hb
      simp (disch := ((try simp only [kd_sF, kd_sA, gA_sF, gA_sA, gF_sF, gF_sA, List.length_set, reduceIte, and_true, and_false, true_and, false_and, Nat.reduceEqDiff, Int.reduceEq, p1, p2]); first | done | omega)) only [rF_ok, wF_ok, oK_ok, lA_ok, rA_ok, wA_ok, cI_ok, cV_ok, cL_ok, cR_ok, kd_sF, kd_sA, gA_sF, gF_sA, gF_sF, gA_sA, bk_0, bk_1, List.length_set, reduceIte, and_true, and_false, true_and, false_and, ne_eq, not_true_eq_false, not_false_eq_true, Int.toNat_natCast, Int.reduceToNat, Nat.reduceEqDiff, Int.reduceEq, Int.reduceLT, Int.reduceLE, Int.reduceAdd, Int.reduceSub, Int.reduceMul, Int.reduceNeg, p1, p2, q0, q3, ef]
      rw [e_X11_frontPlace, cI_ok]
      obtain ⟨n, hn⟩ := Int.eq_ofNat_of_zero_le hb.1
      rw [hn] at hb ⊢
      exact reI ⟨fr_dig (by omega) (by omega), R⟩
    · rw [if_neg w2, if_neg (fun e => by omega)]; exact reI ⟨rfl, R⟩
  · rw [c_knotAt0 R.2.1 hq, cR_ok, if_pos rfl, if_neg (fun e => hq e.1)]
    exact reI ⟨rfl, R⟩
end CS
