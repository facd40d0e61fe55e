/-! ===== the class's questions over its paper ===== -/
def aWays (D : Dr) (n c : Int) : Int := if 3 ≤ n ∧ n ≤ 12 then waysL c n.toNat (prD D n.toNat) else -1
def aWord (D : Dr) (n i k : Int) : Int := if (3 ≤ n ∧ n ≤ 12) ∧ 0 ≤ i ∧ (0 ≤ k ∧ k < n) then wordL n.toNat k.toNat (prD D n.toNat)[i.toNat]? else -1
def aRank (D : Dr) (q : Int) : Int := if (0 ≤ q ∧ q < (D.1.length : Int)) ∧ (3 ≤ kLen (knQ D q) ∧ kLen (knQ D q) ≤ 12) then rankL (pF (knQ D q)) (kLen (knQ D q)) (prD D (kLen (knQ D q))) else -1
def aBest (D : Dr) (cloth what : Int) : Int := if (1 ≤ cloth ∧ cloth ≤ 200) ∧ 0 ≤ what then bestA what (bestTo (clsD D) (moodD D) (thickD D) (needD D) cloth 10) else -1
def aChange (D : Dr) (q what : Int) : Int := if (0 ≤ q ∧ q < (D.1.length : Int)) ∧ (3 ≤ kLen (knQ D q) ∧ kLen (knQ D q) ≤ 12) ∧ (0 ≤ what ∧ what ≤ (kLen (knQ D q) : Int)) then chA (kLen (knQ D q)) what (chL (pF (knQ D q)) (kLen (knQ D q)) (prD D (kLen (knQ D q)))) else -1
def aAlike (D : Dr) (n what : Int) : Int := if (3 ≤ n ∧ n ≤ 12) ∧ (0 ≤ what ∧ what ≤ 1) then alA n.toNat what (prD D n.toNat) else -1
def aFits (D : Dr) (n mi i k : Int) : Int := if (3 ≤ n ∧ n ≤ 12) ∧ (0 ≤ mi ∧ mi ≤ 1) ∧ -1 ≤ i ∧ (i = -1 ∨ (0 ≤ k ∧ k < n)) then fitA n.toNat i k (ftD D mi n.toNat) else -1
def aLook (D : Dr) (n mi : Int) : Int := if (3 ≤ n ∧ n ≤ 12) ∧ (0 ≤ mi ∧ mi ≤ 1) then lookA n.toNat (ftD D mi n.toNat) else -1
/-- only looked -/
def Qk (s s' : St) : Prop := ShC s' ∧ FrP s s' ∧ PgC s'
section CQ
variable {s s1 s2 : St} {a : Ab} {d : Nat}
theorem Qk.w {A : List Int} (h : Qk s s1) (g : FrW A s1 s2) (hs : ShC s2) (hA : A.all (fun x => [87, 88].any fun y => y == x) = true) : Qk s s2 := by
  obtain ⟨h1, h2, h3⟩ := h
  have k78 : kd s1 78 = 8 := h1.o78.1
  have g' : FrW [87, 88] s1 s2 := g.mono hA
  have F := g'.k
  exact ⟨hs, h2.tr ⟨g.1, fun p k h6 h8 hk => g.2.1 p k h6 hk (fun e => h8 (e.1 ▸ k78)), g'.2.2.mono (by decide)⟩, h3.k F (fun k a b => g.2.1 78 k (by rw [k78]; decide) (by omega) (by omega)) (by decide) (by decide) (by decide)⟩
theorem Qk.r (h : Qk s s1) (R : RepC a s) (W : wfA a) : RepC a s1 := R.k W h.2.1.k h.1 ⟨h.2.2, by unfold WbC; rw [h.2.1.2.2 76 (by decide)]; exact R.2.2.2.2.2.2.2.2.2⟩ (by decide) (by decide)
theorem RepC.pg (R : RepC a s) : PgW s := R.2.2.2.2.2.2.2.2
theorem c_iwl (n : Int) : X11_isWordLength d s n = some ([(0, if 3 ≤ n ∧ n ≤ 12 then 1 else 0)], s) := by
  rw [e_X11_isWordLength]
  by_cases h1 : n < 3
  · rw [if_pos h1, if_neg (by omega)]
  · rw [if_neg h1]
    by_cases h2 : 12 < n
    · rw [if_pos h2, if_neg (by omega)]
    · rw [if_neg h2, if_pos (by omega)]
theorem c_prq {n : Nat} (R : RepC a s) (W : wfA a) (hn : 3 ≤ n ∧ n ≤ 12) : Gl (GV fun s' => Qk s s' ∧ WdC (clsD a.1) (moodD a.1) (thickD a.1) n s') (X4_prepare (d + 28) s 78 3 n) :=
  wkV (c_prepare R.1 R.2.1 W.1 R.pg.1 hn) fun _ _ ⟨q1, q2, q3, q4⟩ => ⟨⟨q1, q2, q3⟩, q4⟩
theorem cc_ways {n c : Int} (R : RepC a s) (W : wfA a) : Gl (GI fun x s' => x = aWays a.1 n c ∧ RepC a s') (X11_ways (d + 30) s 1 n c) := by
  have hs := R.1
  rw [e_X11_ways, c_iwl, cI_ok]
  unfold aWays
  by_cases h : 3 ≤ n ∧ n ≤ 12
  · rw [if_pos h, if_pos h, if_neg (show ¬ ((1 : Int) = 0) by decide)]
    obtain ⟨m, rfl⟩ := Int.eq_ofNat_of_zero_le (show 0 ≤ n by omega)
    rw [Int.toNat_natCast]
    simp (disch := ((try simp only [kd_sF, kd_sA, gA_sF, gA_sA, gF_sF, gF_sA, List.length_set, reduceIte, and_true, and_false, true_and, false_and, Nat.reduceEqDiff, Int.reduceEq, hs.o1]); first | done | omega)) only [rF_ok, wF_ok, oK_ok, lA_ok, rA_ok, wA_ok, cI_ok, cV_ok, cL_ok, cR_ok, kd_sF, kd_sA, gA_sF, gF_sA, gF_sF, gA_sA, bk_0, bk_1, List.length_set, reduceIte, and_true, and_false, true_and, false_and, ne_eq, not_true_eq_false, not_false_eq_true, Int.toNat_natCast, Int.reduceToNat, Nat.reduceEqDiff, Int.reduceEq, Int.reduceLT, Int.reduceLE, Int.reduceAdd, Int.reduceSub, Int.reduceMul, Int.reduceNeg, hs.o1]
    refine biV (c_prq (d := d + 1) R W (by omega)) fun s2 _ ⟨q1, q4⟩ => ?_
    have h2 := q1.1
    simp (disch := ((try simp only [kd_sF, kd_sA, gA_sF, gA_sA, gF_sF, gF_sA, List.length_set, reduceIte, and_true, and_false, true_and, false_and, Nat.reduceEqDiff, Int.reduceEq, h2.o1]); first | done | omega)) only [rF_ok, wF_ok, oK_ok, lA_ok, rA_ok, wA_ok, cI_ok, cV_ok, cL_ok, cR_ok, kd_sF, kd_sA, gA_sF, gF_sA, gF_sF, gA_sA, bk_0, bk_1, List.length_set, reduceIte, and_true, and_false, true_and, false_and, ne_eq, not_true_eq_false, not_false_eq_true, Int.toNat_natCast, Int.reduceToNat, Nat.reduceEqDiff, Int.reduceEq, Int.reduceLT, Int.reduceLE, Int.reduceAdd, Int.reduceSub, Int.reduceMul, Int.reduceNeg, h2.o1]
    refine biI (c_howMany (d := d + 27) h2 (by omega) q4) fun x s3 _ ⟨e1, e2, e3⟩ => ?_
    exact reI ⟨e1, (q1.w e3.w e2 (by decide)).r R W⟩
  · rw [if_neg h, if_neg h, if_pos rfl]
    exact reI ⟨rfl, R⟩
theorem cc_word {n i k : Int} (R : RepC a s) (W : wfA a) : Gl (GI fun x s' => x = aWord a.1 n i k ∧ RepC a s') (X11_word (d + 30) s 1 n i k) := by
  have hs := R.1
  rw [e_X11_word, c_iwl, cI_ok]
  unfold aWord
  by_cases h : 3 ≤ n ∧ n ≤ 12
  · rw [if_pos h, if_neg (show ¬ ((1 : Int) = 0) by decide)]
    obtain ⟨m, rfl⟩ := Int.eq_ofNat_of_zero_le (show 0 ≤ n by omega)
    rw [Int.toNat_natCast]
    by_cases h1 : k < 0
    · rw [if_pos h1, if_neg (by omega)]; exact reI ⟨rfl, R⟩
    rw [if_neg h1]
    by_cases h2 : k < m
    · rw [if_pos h2]
      simp (disch := ((try simp only [kd_sF, kd_sA, gA_sF, gA_sA, gF_sF, gF_sA, List.length_set, reduceIte, and_true, and_false, true_and, false_and, Nat.reduceEqDiff, Int.reduceEq, hs.o1]); first | done | omega)) only [rF_ok, wF_ok, oK_ok, lA_ok, rA_ok, wA_ok, cI_ok, cV_ok, cL_ok, cR_ok, kd_sF, kd_sA, gA_sF, gF_sA, gF_sF, gA_sA, bk_0, bk_1, List.length_set, reduceIte, and_true, and_false, true_and, false_and, ne_eq, not_true_eq_false, not_false_eq_true, Int.toNat_natCast, Int.reduceToNat, Nat.reduceEqDiff, Int.reduceEq, Int.reduceLT, Int.reduceLE, Int.reduceAdd, Int.reduceSub, Int.reduceMul, Int.reduceNeg, hs.o1]
      refine biV (c_prq (d := d + 1) R W (by omega)) fun s2 _ ⟨q1, q4⟩ => ?_
      have hs2 := q1.1
      have R2 := q1.r R W
      by_cases h3 : i < 0
      · rw [if_pos h3, if_neg (by omega)]; exact reI ⟨rfl, R2⟩
      rw [if_neg h3, if_pos (by omega)]
      have l83 : (gA s2 83).length = 13 := hs2.2.1 83 (by decide) (by decide)
      have c1 := q4.2.1
      obtain ⟨j, rfl⟩ := Int.eq_ofNat_of_zero_le (show 0 ≤ i by omega)
      obtain ⟨l, rfl⟩ := Int.eq_ofNat_of_zero_le (show 0 ≤ k by omega)
      simp (disch := ((try simp only [kd_sF, kd_sA, gA_sF, gA_sA, gF_sF, gF_sA, List.length_set, reduceIte, and_true, and_false, true_and, false_and, Nat.reduceEqDiff, Int.reduceEq, hs2.o1, hs2.o78]); first | done | omega)) only [rF_ok, wF_ok, oK_ok, lA_ok, rA_ok, wA_ok, cI_ok, cV_ok, cL_ok, cR_ok, kd_sF, kd_sA, gA_sF, gF_sA, gF_sF, gA_sA, bk_0, bk_1, List.length_set, reduceIte, and_true, and_false, true_and, false_and, ne_eq, not_true_eq_false, not_false_eq_true, Int.toNat_natCast, Int.reduceToNat, Nat.reduceEqDiff, Int.reduceEq, Int.reduceLT, Int.reduceLE, Int.reduceAdd, Int.reduceSub, Int.reduceMul, Int.reduceNeg, hs2.o1, hs2.o78, c1, Int.ofNat_lt]
      unfold prD
      by_cases h4 : j < (prW (clsD a.1) (moodD a.1) (thickD a.1) m).length
      · rw [if_pos h4, c_placeIn (d := d + 28) hs2 (by omega) q4 h4 (by omega), cI_ok]
        refine reI ⟨?_, R2⟩
        rw [List.getElem?_eq_getElem h4, List.getD_eq_getElem?_getD, List.getElem?_eq_getElem h4]
        rfl
      · rw [if_neg h4]
        refine reI ⟨?_, R2⟩
        rw [List.getElem?_eq_none (by omega)]
        rfl
    · rw [if_neg h2, if_neg (by omega)]; exact reI ⟨rfl, R⟩
  · rw [if_neg h, if_pos rfl, if_neg (fun e => h e.1)]
    exact reI ⟨rfl, R⟩
theorem cc_alike {n what : Int} (R : RepC a s) (W : wfA a) : Gl (GI fun x s' => x = aAlike a.1 n what ∧ RepC a s') (X11_alike (d + 30) s 1 n what) := by
  have hs := R.1
  rw [e_X11_alike, c_iwl, cI_ok]
  unfold aAlike
  by_cases h : 3 ≤ n ∧ n ≤ 12
  · rw [if_pos h, if_neg (show ¬ ((1 : Int) = 0) by decide)]
    obtain ⟨m, rfl⟩ := Int.eq_ofNat_of_zero_le (show 0 ≤ n by omega)
    rw [Int.toNat_natCast]
    by_cases h1 : what < 0
    · rw [if_pos h1, if_neg (by omega)]; exact reI ⟨rfl, R⟩
    rw [if_neg h1]
    by_cases h2 : 1 < what
    · rw [if_pos h2, if_neg (by omega)]; exact reI ⟨rfl, R⟩
    rw [if_neg h2, if_pos (by omega)]
    simp (disch := ((try simp only [kd_sF, kd_sA, gA_sF, gA_sA, gF_sF, gF_sA, List.length_set, reduceIte, and_true, and_false, true_and, false_and, Nat.reduceEqDiff, Int.reduceEq, hs.o1]); first | done | omega)) only [rF_ok, wF_ok, oK_ok, lA_ok, rA_ok, wA_ok, cI_ok, cV_ok, cL_ok, cR_ok, kd_sF, kd_sA, gA_sF, gF_sA, gF_sF, gA_sA, bk_0, bk_1, List.length_set, reduceIte, and_true, and_false, true_and, false_and, ne_eq, not_true_eq_false, not_false_eq_true, Int.toNat_natCast, Int.reduceToNat, Nat.reduceEqDiff, Int.reduceEq, Int.reduceLT, Int.reduceLE, Int.reduceAdd, Int.reduceSub, Int.reduceMul, Int.reduceNeg, hs.o1]
    refine biV (c_prq (d := d + 1) R W (by omega)) fun s2 _ ⟨q1, q4⟩ => ?_
    have hs2 := q1.1
    simp (disch := ((try simp only [kd_sF, kd_sA, gA_sF, gA_sA, gF_sF, gF_sA, List.length_set, reduceIte, and_true, and_false, true_and, false_and, Nat.reduceEqDiff, Int.reduceEq, hs2.o1]); first | done | omega)) only [rF_ok, wF_ok, oK_ok, lA_ok, rA_ok, wA_ok, cI_ok, cV_ok, cL_ok, cR_ok, kd_sF, kd_sA, gA_sF, gF_sA, gF_sF, gA_sA, bk_0, bk_1, List.length_set, reduceIte, and_true, and_false, true_and, false_and, ne_eq, not_true_eq_false, not_false_eq_true, Int.toNat_natCast, Int.reduceToNat, Nat.reduceEqDiff, Int.reduceEq, Int.reduceLT, Int.reduceLE, Int.reduceAdd, Int.reduceSub, Int.reduceMul, Int.reduceNeg, hs2.o1]
    refine biV (c_countFronts (d := d + 27) hs2 (by omega) q4) fun s3 _ ⟨e1, e2, e3, e4⟩ => ?_
    have R3 := (q1.w e2 e1 (by decide)).r R W
    unfold alA prD
    by_cases h3 : what = 0
    · rw [if_pos h3, if_pos h3]
      simp (disch := ((try simp only [kd_sF, kd_sA, gA_sF, gA_sA, gF_sF, gF_sA, List.length_set, reduceIte, and_true, and_false, true_and, false_and, Nat.reduceEqDiff, Int.reduceEq, e1.o1, e1.o78]); first | done | omega)) only [rF_ok, wF_ok, oK_ok, lA_ok, rA_ok, wA_ok, cI_ok, cV_ok, cL_ok, cR_ok, kd_sF, kd_sA, gA_sF, gF_sA, gF_sF, gA_sA, bk_0, bk_1, List.length_set, reduceIte, and_true, and_false, true_and, false_and, ne_eq, not_true_eq_false, not_false_eq_true, Int.toNat_natCast, Int.reduceToNat, Nat.reduceEqDiff, Int.reduceEq, Int.reduceLT, Int.reduceLE, Int.reduceAdd, Int.reduceSub, Int.reduceMul, Int.reduceNeg, e1.o1, e1.o78]
      exact reI ⟨e3, R3⟩
    · rw [if_neg h3, if_neg h3]
      simp (disch := ((try simp only [kd_sF, kd_sA, gA_sF, gA_sA, gF_sF, gF_sA, List.length_set, reduceIte, and_true, and_false, true_and, false_and, Nat.reduceEqDiff, Int.reduceEq, e1.o1, e1.o78]); first | done | omega)) only [rF_ok, wF_ok, oK_ok, lA_ok, rA_ok, wA_ok, cI_ok, cV_ok, cL_ok, cR_ok, kd_sF, kd_sA, gA_sF, gF_sA, gF_sF, gA_sA, bk_0, bk_1, List.length_set, reduceIte, and_true, and_false, true_and, false_and, ne_eq, not_true_eq_false, not_false_eq_true, Int.toNat_natCast, Int.reduceToNat, Nat.reduceEqDiff, Int.reduceEq, Int.reduceLT, Int.reduceLE, Int.reduceAdd, Int.reduceSub, Int.reduceMul, Int.reduceNeg, e1.o1, e1.o78]
      exact reI ⟨e4, R3⟩
  · rw [if_neg h, if_pos rfl, if_neg (fun e => h e.1)]
    exact reI ⟨rfl, R⟩
theorem cc_look {n mi : Int} (R : RepC a s) (W : wfA a) : Gl (GI fun x s' => x = aLook a.1 n mi ∧ RepC a s') (X11_look (d + 32) s 1 n mi) := by
  have hs := R.1
  rw [e_X11_look, c_iwl, cI_ok]
  unfold aLook
  by_cases h : 3 ≤ n ∧ n ≤ 12
  · rw [if_pos h, if_neg (show ¬ ((1 : Int) = 0) by decide)]
    obtain ⟨m, rfl⟩ := Int.eq_ofNat_of_zero_le (show 0 ≤ n by omega)
    rw [Int.toNat_natCast]
    by_cases h1 : mi < 0
    · rw [if_pos h1, if_neg (by omega)]; exact reI ⟨rfl, R⟩
    rw [if_neg h1]
    by_cases h2 : 1 < mi
    · rw [if_pos h2, if_neg (by omega)]; exact reI ⟨rfl, R⟩
    rw [if_neg h2, if_pos (by omega)]
    simp (disch := ((try simp only [kd_sF, kd_sA, gA_sF, gA_sA, gF_sF, gF_sA, List.length_set, reduceIte, and_true, and_false, true_and, false_and, Nat.reduceEqDiff, Int.reduceEq, hs.o1]); first | done | omega)) only [rF_ok, wF_ok, oK_ok, lA_ok, rA_ok, wA_ok, cI_ok, cV_ok, cL_ok, cR_ok, kd_sF, kd_sA, gA_sF, gF_sA, gF_sF, gA_sA, bk_0, bk_1, List.length_set, reduceIte, and_true, and_false, true_and, false_and, ne_eq, not_true_eq_false, not_false_eq_true, Int.toNat_natCast, Int.reduceToNat, Nat.reduceEqDiff, Int.reduceEq, Int.reduceLT, Int.reduceLE, Int.reduceAdd, Int.reduceSub, Int.reduceMul, Int.reduceNeg, hs.o1]
    refine biV (c_prq (d := d + 3) R W (by omega)) fun s2 _ ⟨q1, q4⟩ => ?_
    have hs2 := q1.1
    have R2 := (q1.r R W).2.1
    have fin : ∀ x : Int, (x = 0 ∨ x = 1) → mi = x → Gl (GI fun y s' => y = lookA m (ftD a.1 mi m) ∧ RepC a s') (cI (X4_whereToLook (d + 31) s2 78 3 m x) fun x6 s3 => some ([(0, x6)], s3)) := by
      intro x hx e
      refine biI (c_whereToLook (d := d + 28) hs2 R2 W.1 (by omega) q4 hx) fun y s3 _ ⟨e1, e2, e3⟩ => ?_
      exact reI ⟨by rw [e1, e]; rfl, (q1.w e3.w e2 (by decide)).r R W⟩
    simp (disch := ((try simp only [kd_sF, kd_sA, gA_sF, gA_sA, gF_sF, gF_sA, List.length_set, reduceIte, and_true, and_false, true_and, false_and, Nat.reduceEqDiff, Int.reduceEq, hs2.o1]); first | done | omega)) only [rF_ok, wF_ok, oK_ok, lA_ok, rA_ok, wA_ok, cI_ok, cV_ok, cL_ok, cR_ok, kd_sF, kd_sA, gA_sF, gF_sA, gF_sF, gA_sA, bk_0, bk_1, List.length_set, reduceIte, and_true, and_false, true_and, false_and, ne_eq, not_true_eq_false, not_false_eq_true, Int.toNat_natCast, Int.reduceToNat, Nat.reduceEqDiff, Int.reduceEq, Int.reduceLT, Int.reduceLE, Int.reduceAdd, Int.reduceSub, Int.reduceMul, Int.reduceNeg, hs2.o1]
    by_cases h3 : mi = 1
    · rw [if_pos h3]
      exact fin 1 (Or.inr rfl) h3
    · rw [if_neg h3]
      exact fin 0 (Or.inl rfl) (by omega)
  · rw [if_neg h, if_pos rfl, if_neg (fun e => h e.1)]
    exact reI ⟨rfl, R⟩
end CQ
