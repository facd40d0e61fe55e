/-! ===== the class's paper: what fits ===== -/
section CFT
variable {cls : List Cl} {mood th : Int} {n d : Nat} {s : St} {dr : Dr} {mi : Int}
theorem mir_sw {x y : Int} (hx : pl3 x) (hy : pl3 y) : mir x = y ↔ x = mir y := by
  rcases hx with rfl | rfl | rfl <;> rcases hy with rfl | rfl | rfl <;> decide
theorem smD_in (W : wfDr dr) {j : Nat} (hj : j < dr.2.2.1.length) : (0 ≤ smD dr j ∧ smD dr j < 12) ∧ pl3 (spD dr j) := W.2.2.1.2 _ (gdMem (a := (0, 0)) hj)
theorem c_isFitting {i : Nat} (hs : ShC s) (R : DrC s 3 dr) (W : wfDr dr) (hn : 3 ≤ n ∧ n ≤ 12) (Wd : WdC cls mood th n s) (hi : i < (prW cls mood th n).length) (hmi : mi = 0 ∨ mi = 1) : X4_isFitting (d + 2) s 78 3 n mi i = some ([(0, if fitB (smD dr) (spD dr) dr.2.2.1.length mi n (plN n ((prW cls mood th n).getD i 0)) then 1 else 0)], s) := by
  have hu : (prW cls mood th n).getD i 0 < WN n := prU_mem (gdMem (a := 0) hi)
  obtain ⟨-, -, -, ⟨r1, r2⟩, -⟩ := R
  have hc := W.2.2.1.1
  generalize hU : (prW cls mood th n).getD i 0 = U at *
  generalize hX : (if fitB (smD dr) (spD dr) dr.2.2.1.length mi n (plN n U) then (1 : Int) else 0) = X
  rw [e_X4_isFitting]
  refine lpF (T := fun r => r = some ([(0, X)], s)) (fun j (_ : Unit) => X4_isFitting_3 (d + 2) s 78 3 n mi i j) (fun j _ => fitB (smD dr) (spD dr) j mi n (plN n U) = true) dr.2.2.1.length ?_ ?_ 0 () (by omega) rfl
  · intro j _ hj hf hT
    obtain ⟨a1, a2⟩ := r2 j hj
    obtain ⟨m1, m2⟩ := smD_in W hj
    have a1' : (gA s 6).getD j 0 = smD dr j := a1
    have a2' : (gA s 7).getD j 0 = spD dr j := a2
    have hstep : fitB (smD dr) (spD dr) (j + 1) mi n (plN n U) = decide (smD dr j < n → (if mi = 1 then mir (plN n U (smD dr j).toNat) else plN n U (smD dr j).toNat) = spD dr j) := by
      unfold fitB at hf ⊢
      rw [allN, hf, Bool.true_and]
    have no : fitB (smD dr) (spD dr) (j + 1) mi n (plN n U) = false → X = 0 := by
      intro h
      rw [← hX]
      cases hq : fitB (smD dr) (spD dr) dr.2.2.1.length mi n (plN n U) with
      | false => rfl
      | true =>
        have h2 : fitB (smD dr) (spD dr) (j + 1) mi n (plN n U) = true := allN_iff.mpr fun k hk => allN_iff.mp hq k (by omega)
        rw [h2] at h
        cases h
    have key : ∀ w : Int, (w = if mi = 1 then mir (spD dr j) else spD dr j) → Gl (fun r => r = some ([(0, X)], s)) (X4_isFitting_45 (d + 2) s 78 3 n mi i j (smD dr j) w) := by
      intro w hw
      rw [e_X4_isFitting_45]
      by_cases k1 : smD dr j < n
      · rw [if_pos k1]
        have pi := c_placeIn (d := d) (k := (smD dr j).toNat) hs hn Wd hi (by omega)
        rw [hU, i2n m1.1] at pi
        simp (disch := ((try simp only [kd_sF, kd_sA, gA_sF, gA_sA, gF_sF, gF_sA, List.length_set, reduceIte, and_true, and_false, true_and, false_and, Nat.reduceEqDiff, Int.reduceEq, hs.o78]); first | done | omega)) only [rF_ok, wF_ok, oK_ok, lA_ok, rA_ok, wA_ok, cI_ok, cV_ok, cL_ok, cR_ok, kd_sF, kd_sA, gA_sF, gF_sA, gF_sF, gA_sA, bk_0, bk_1, List.length_set, reduceIte, and_true, and_false, true_and, false_and, ne_eq, not_true_eq_false, not_false_eq_true, Int.toNat_natCast, Int.reduceToNat, Nat.reduceEqDiff, Int.reduceEq, Int.reduceLT, Int.reduceLE, Int.reduceAdd, Int.reduceSub, Int.reduceMul, Int.reduceNeg, hs.o78, pi]
        have hpl := plN_pl hu (smD dr j).toNat
        have eq1 : (plN n U (smD dr j).toNat = w) ↔ ((if mi = 1 then mir (plN n U (smD dr j).toNat) else plN n U (smD dr j).toNat) = spD dr j) := by
          rw [hw]
          rcases hmi with rfl | rfl
          · simp
          · simp only [reduceIte]
            exact (mir_sw hpl m2).symm
        by_cases k2 : plN n U (smD dr j).toNat = w
        · rw [if_pos k2, wi_sc (by omega)]
          exact hT () (by rw [hstep, decide_eq_true (fun _ => eq1.mp k2)])
        · rw [if_neg k2]
          rw [no (by rw [hstep, decide_eq_false (fun q => k2 (eq1.mpr (q k1)))])]
          exact rfl
      · rw [if_neg k1, wi_sc (by omega)]
        exact hT () (by rw [hstep, decide_eq_true (fun q => absurd q k1)])
    rw [e_X4_isFitting_3]
    rcases hmi with rfl | rfl
    · simp (disch := ((try simp only [kd_sF, kd_sA, gA_sF, gA_sA, gF_sF, gF_sA, List.length_set, reduceIte, and_true, and_false, true_and, false_and, Nat.reduceEqDiff, Int.reduceEq, hs.o3]); first | done | omega)) only [rF_ok, wF_ok, oK_ok, lA_ok, rA_ok, wA_ok, cI_ok, cV_ok, cL_ok, cR_ok, kd_sF, kd_sA, gA_sF, gF_sA, gF_sF, gA_sA, bk_0, bk_1, List.length_set, reduceIte, and_true, and_false, true_and, false_and, ne_eq, not_true_eq_false, not_false_eq_true, Int.toNat_natCast, Int.reduceToNat, Nat.reduceEqDiff, Int.reduceEq, Int.reduceLT, Int.reduceLE, Int.reduceAdd, Int.reduceSub, Int.reduceMul, Int.reduceNeg, hs.o3, r1, Int.ofNat_lt, hj, a1', a2']
      exact key _ rfl
    · simp (disch := ((try simp only [kd_sF, kd_sA, gA_sF, gA_sA, gF_sF, gF_sA, List.length_set, reduceIte, and_true, and_false, true_and, false_and, Nat.reduceEqDiff, Int.reduceEq, hs.o3]); first | done | omega)) only [rF_ok, wF_ok, oK_ok, lA_ok, rA_ok, wA_ok, cI_ok, cV_ok, cL_ok, cR_ok, kd_sF, kd_sA, gA_sF, gF_sA, gF_sF, gA_sA, bk_0, bk_1, List.length_set, reduceIte, and_true, and_false, true_and, false_and, ne_eq, not_true_eq_false, not_false_eq_true, Int.toNat_natCast, Int.reduceToNat, Nat.reduceEqDiff, Int.reduceEq, Int.reduceLT, Int.reduceLE, Int.reduceAdd, Int.reduceSub, Int.reduceMul, Int.reduceNeg, hs.o3, r1, Int.ofNat_lt, hj, a1', a2', c_mirrored m2]
      exact key _ rfl
  · intro _ hf
    rw [e_X4_isFitting_3]
    simp (disch := ((try simp only [kd_sF, kd_sA, gA_sF, gA_sA, gF_sF, gF_sA, List.length_set, reduceIte, and_true, and_false, true_and, false_and, Nat.reduceEqDiff, Int.reduceEq, hs.o3]); first | done | omega)) only [rF_ok, wF_ok, oK_ok, lA_ok, rA_ok, wA_ok, cI_ok, cV_ok, cL_ok, cR_ok, kd_sF, kd_sA, gA_sF, gF_sA, gF_sF, gA_sA, bk_0, bk_1, List.length_set, reduceIte, and_true, and_false, true_and, false_and, ne_eq, not_true_eq_false, not_false_eq_true, Int.toNat_natCast, Int.reduceToNat, Nat.reduceEqDiff, Int.reduceEq, Int.reduceLT, Int.reduceLE, Int.reduceAdd, Int.reduceSub, Int.reduceMul, Int.reduceNeg, hs.o3, r1, Int.lt_irrefl]
    rw [← hX, hf]
    exact rfl
/-- the words of the first i that fit -/
def ftT (dr : Dr) (mi : Int) (n : Nat) (L : List Nat) : List Nat := L.filter fun u => fitB (smD dr) (spD dr) dr.2.2.1.length mi n (plN n u)
theorem ftT_1 {L : List Nat} {u : Nat} (h : fitB (smD dr) (spD dr) dr.2.2.1.length mi n (plN n u) = true) : ftT dr mi n (L ++ [u]) = ftT dr mi n L ++ [u] := by
  unfold ftT; rw [List.filter_append]; simp [h]
theorem ftT_0 {L : List Nat} {u : Nat} (h : fitB (smD dr) (spD dr) dr.2.2.1.length mi n (plN n u) = false) : ftT dr mi n (L ++ [u]) = ftT dr mi n L := by
  unfold ftT; rw [List.filter_append]; simp [h]
theorem ftT_len {L : List Nat} : (ftT dr mi n L).length ≤ L.length := List.length_filter_le _ _
theorem c_countFitting (hs : ShC s) (R : DrC s 3 dr) (W : wfDr dr) (hn : 3 ≤ n ∧ n ≤ 12) (Wd : WdC cls mood th n s) (hmi : mi = 0 ∨ mi = 1) : X4_countFitting (d + 3) s 78 3 n mi = some ([(0, ((ftT dr mi n (prW cls mood th n)).length : Int))], s) := by
  have hb := SLn_bd n (by omega) hn.1
  have c1 := Wd.2.1
  have hlen := Wd.1
  rw [e_X4_countFitting]
  refine lpG (T := fun r => r = some ([(0, ((ftT dr mi n (prW cls mood th n)).length : Int))], s)) (fun i a => X4_countFitting_6 (d + 3) s 78 3 n mi a i) (fun i a => a = ((ftT dr mi n ((prW cls mood th n).take i)).length : Int)) (prW cls mood th n).length ?_ ?_ 0 0 (by omega) rfl
  · intro T i a hi ha hT
    have hl := ftT_len (dr := dr) (mi := mi) (n := n) (L := (prW cls mood th n).take i)
    rw [List.length_take] at hl
    rw [e_X4_countFitting_6]
    simp (disch := ((try simp only [kd_sF, kd_sA, gA_sF, gA_sA, gF_sF, gF_sA, List.length_set, reduceIte, and_true, and_false, true_and, false_and, Nat.reduceEqDiff, Int.reduceEq, hs.o78]); first | done | omega)) only [rF_ok, wF_ok, oK_ok, lA_ok, rA_ok, wA_ok, cI_ok, cV_ok, cL_ok, cR_ok, kd_sF, kd_sA, gA_sF, gF_sA, gF_sF, gA_sA, bk_0, bk_1, List.length_set, reduceIte, and_true, and_false, true_and, false_and, ne_eq, not_true_eq_false, not_false_eq_true, Int.toNat_natCast, Int.reduceToNat, Nat.reduceEqDiff, Int.reduceEq, Int.reduceLT, Int.reduceLE, Int.reduceAdd, Int.reduceSub, Int.reduceMul, Int.reduceNeg, hs.o78, c1, Int.ofNat_lt, hi, c_isFitting hs R W hn Wd hi hmi]
    cases hf : fitB (smD dr) (spD dr) dr.2.2.1.length mi n (plN n ((prW cls mood th n).getD i 0)) with
    | false =>
      simp only [Bool.false_eq_true, reduceIte]
      rw [wi_sm (by omega) (by omega), wi_sc (by omega)]
      exact hT _ (by rw [getD_take_s hi, ftT_0 hf, ha]; omega)
    | true =>
      simp only [reduceIte, Int.reduceEq]
      rw [wi_sm (by omega) (by omega), wi_sc (by omega)]
      exact hT _ (by rw [getD_take_s hi, ftT_1 hf, List.length_append, ha]; simp)
  · intro a ha
    rw [e_X4_countFitting_6]
    simp (disch := ((try simp only [kd_sF, kd_sA, gA_sF, gA_sA, gF_sF, gF_sA, List.length_set, reduceIte, and_true, and_false, true_and, false_and, Nat.reduceEqDiff, Int.reduceEq, hs.o78]); first | done | omega)) only [rF_ok, wF_ok, oK_ok, lA_ok, rA_ok, wA_ok, cI_ok, cV_ok, cL_ok, cR_ok, kd_sF, kd_sA, gA_sF, gF_sA, gF_sF, gA_sA, bk_0, bk_1, List.length_set, reduceIte, and_true, and_false, true_and, false_and, ne_eq, not_true_eq_false, not_false_eq_true, Int.toNat_natCast, Int.reduceToNat, Nat.reduceEqDiff, Int.reduceEq, Int.reduceLT, Int.reduceLE, Int.reduceAdd, Int.reduceSub, Int.reduceMul, Int.reduceNeg, hs.o78, c1, Int.lt_irrefl]
    rw [ha, List.take_length]
    exact rfl
/-- which proper word is the fitting one of that number -/
theorem c_fittingAt {num : Nat} (hs : ShC s) (R : DrC s 3 dr) (W : wfDr dr) (hn : 3 ≤ n ∧ n ≤ 12) (Wd : WdC cls mood th n s) (hmi : mi = 0 ∨ mi = 1) : ∃ x : Int, X4_fittingAt (d + 3) s 78 3 n mi num = some ([(0, x)], s) ∧ ((x = -1 ∧ (ftT dr mi n (prW cls mood th n))[num]? = none) ∨ ∃ i : Nat, x = i ∧ i < (prW cls mood th n).length ∧ (ftT dr mi n (prW cls mood th n))[num]? = some ((prW cls mood th n).getD i 0)) := by
  have hb := SLn_bd n (by omega) hn.1
  have c1 := Wd.2.1
  have hlen := Wd.1
  rw [e_X4_fittingAt]
  refine lpF (T := fun r => ∃ x : Int, r = some ([(0, x)], s) ∧ ((x = -1 ∧ (ftT dr mi n (prW cls mood th n))[num]? = none) ∨ ∃ i : Nat, x = i ∧ i < (prW cls mood th n).length ∧ (ftT dr mi n (prW cls mood th n))[num]? = some ((prW cls mood th n).getD i 0))) (fun i a => X4_fittingAt_6 (d + 3) s 78 3 n mi num a i) (fun i a => a = ((ftT dr mi n ((prW cls mood th n).take i)).length : Int) ∧ a ≤ num) (prW cls mood th n).length ?_ ?_ 0 0 (by omega) ⟨rfl, by omega⟩
  · intro i a hi ⟨ha, han⟩ hT
    have hl := ftT_len (dr := dr) (mi := mi) (n := n) (L := (prW cls mood th n).take i)
    rw [List.length_take] at hl
    rw [e_X4_fittingAt_6]
    simp (disch := ((try simp only [kd_sF, kd_sA, gA_sF, gA_sA, gF_sF, gF_sA, List.length_set, reduceIte, and_true, and_false, true_and, false_and, Nat.reduceEqDiff, Int.reduceEq, hs.o78]); first | done | omega)) only [rF_ok, wF_ok, oK_ok, lA_ok, rA_ok, wA_ok, cI_ok, cV_ok, cL_ok, cR_ok, kd_sF, kd_sA, gA_sF, gF_sA, gF_sF, gA_sA, bk_0, bk_1, List.length_set, reduceIte, and_true, and_false, true_and, false_and, ne_eq, not_true_eq_false, not_false_eq_true, Int.toNat_natCast, Int.reduceToNat, Nat.reduceEqDiff, Int.reduceEq, Int.reduceLT, Int.reduceLE, Int.reduceAdd, Int.reduceSub, Int.reduceMul, Int.reduceNeg, hs.o78, c1, Int.ofNat_lt, hi, c_isFitting hs R W hn Wd hi hmi]
    cases hf : fitB (smD dr) (spD dr) dr.2.2.1.length mi n (plN n ((prW cls mood th n).getD i 0)) with
    | false =>
      simp only [Bool.false_eq_true, reduceIte]
      rw [wi_sc (by omega)]
      exact hT _ ⟨by rw [getD_take_s hi, ftT_0 hf, ha], han⟩
    | true =>
      simp only [reduceIte, Int.reduceEq]
      by_cases e : a = num
      · rw [if_pos e]
        refine ⟨i, rfl, Or.inr ⟨i, rfl, hi, ?_⟩⟩
        have hsp : prW cls mood th n = (prW cls mood th n).take (i + 1) ++ (prW cls mood th n).drop (i + 1) := (List.take_append_drop _ _).symm
        have h2 : ftT dr mi n (prW cls mood th n) = ftT dr mi n ((prW cls mood th n).take i) ++ ([(prW cls mood th n).getD i 0] ++ ftT dr mi n ((prW cls mood th n).drop (i + 1))) := by
          conv => lhs; rw [hsp]
          rw [← List.append_assoc, ← ftT_1 hf, ← getD_take_s hi]
          unfold ftT
          rw [List.filter_append]
        rw [h2, List.getElem?_append_right (by omega), show num - (ftT dr mi n ((prW cls mood th n).take i)).length = 0 by omega]
        rfl
      · rw [if_neg e, wi_sm (by omega) (by omega), wi_sc (by omega)]
        exact hT _ ⟨by rw [getD_take_s hi, ftT_1 hf, List.length_append, ha]; simp, by omega⟩
  · intro a ⟨ha, han⟩
    rw [e_X4_fittingAt_6]
    simp (disch := ((try simp only [kd_sF, kd_sA, gA_sF, gA_sA, gF_sF, gF_sA, List.length_set, reduceIte, and_true, and_false, true_and, false_and, Nat.reduceEqDiff, Int.reduceEq, hs.o78]); first | done | omega)) only [rF_ok, wF_ok, oK_ok, lA_ok, rA_ok, wA_ok, cI_ok, cV_ok, cL_ok, cR_ok, kd_sF, kd_sA, gA_sF, gF_sA, gF_sF, gA_sA, bk_0, bk_1, List.length_set, reduceIte, and_true, and_false, true_and, false_and, ne_eq, not_true_eq_false, not_false_eq_true, Int.toNat_natCast, Int.reduceToNat, Nat.reduceEqDiff, Int.reduceEq, Int.reduceLT, Int.reduceLE, Int.reduceAdd, Int.reduceSub, Int.reduceMul, Int.reduceNeg, hs.o78, c1, Int.lt_irrefl]
    rw [List.take_length] at ha
    exact ⟨-1, rfl, Or.inl ⟨rfl, List.getElem?_eq_none (by omega)⟩⟩
end CFT
