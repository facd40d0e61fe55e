/-! ===== the class: the call hands, and what was drawn ===== -/
def aDrawn (a : Ab) (what : Int) : Int := match a.2.2.2.2.2.2 with
  | none => -1
  | some h => if what < 0 then -1 else if what = 0 then h.1 else if what = 1 then h.2.1 else if what - 2 < h.2.2.length then h.2.2.getD (what - 2).toNat 0 else -1
section CHE
variable {s : St} {a : Ab} {d : Nat} {cls : List Cl} {mood th need : Int}
theorem c_deal {m n : Nat} {seed : Int} (hs : ShC s) (hm : 3 ≤ m ∧ m ≤ 12) (hn : n ≤ 100) (hsd : 0 ≤ seed ∧ seed < 1000003) (Wd : WdC cls mood th m s) : Gl (GV fun s' => HdR cls mood th need m seed s n s') (X1_deal (d + 4) s 89 seed n m 78 need) := by
  have k89 : kd s 89 = 5 := hs.o89.1
  rw [e_X1_deal]
  simp (disch := ((try simp only [kd_sF, kd_sA, gA_sF, gA_sA, gF_sF, gF_sA, List.length_set, reduceIte, and_true, and_false, true_and, false_and, Nat.reduceEqDiff, Int.reduceEq, k89]); first | done | omega)) only [rF_ok, wF_ok, oK_ok, lA_ok, rA_ok, wA_ok, cI_ok, cV_ok, cL_ok, cR_ok, kd_sF, kd_sA, gA_sF, gF_sA, gF_sF, gA_sA, bk_0, bk_1, List.length_set, reduceIte, and_true, and_false, true_and, false_and, ne_eq, not_true_eq_false, not_false_eq_true, Int.toNat_natCast, Int.reduceToNat, Nat.reduceEqDiff, Int.reduceEq, Int.reduceLT, Int.reduceLE, Int.reduceAdd, Int.reduceSub, Int.reduceMul, Int.reduceNeg, k89]
  have I0 : HdR cls mood th need m seed s 0 (sF (sF (sF (sF (sF s 89 0 seed) 89 1 m) 89 2 0) 89 3 0) 89 4 (-1)) := by
    refine ⟨((((hs.sF (by rw [k89]; decide)).sF ?_).sF ?_).sF ?_).sF ?_, (((((FrK.sF (by decide)).tr (FrK.sF (by decide))).tr (FrK.sF (by decide))).tr (FrK.sF (by decide))).tr (FrK.sF (by decide))), ?_, ?_, ?_, ?_, gF_eq _ _ _ _, fun h => absurd h (by omega)⟩
    · simp only [kd_sF, k89]; decide
    · simp only [kd_sF, k89]; decide
    · simp only [kd_sF, k89]; decide
    · simp only [kd_sF, k89]; decide
    · rw [gF_nk (by decide), gF_nk (by decide), gF_nk (by decide), gF_nk (by decide), gF_eq]; rfl
    · rw [gF_nk (by decide), gF_nk (by decide), gF_nk (by decide), gF_eq]
    · rw [gF_nk (by decide), gF_nk (by decide), gF_eq]; rfl
    · rw [gF_nk (by decide), gF_eq]; rfl
  generalize sF (sF (sF (sF (sF s 89 0 seed) 89 1 m) 89 2 0) 89 3 0) 89 4 (-1) = S at I0
  refine lpG (fun h s1 => X1_deal_28 (d + 4) s1 89 n m 78 need h) (fun h s1 => HdR cls mood th need m seed s h s1) n ?_ ?_ 0 S (by omega) I0
  · intro T h s1 hh I hT
    exact c_deal28 hm hn hh hsd Wd I fun s' I' => hT s' I'
  · intro s1 I
    rw [e_X1_deal_28, if_neg (Int.lt_irrefl _)]
    exact reV I
theorem cc_hands {seed n m : Int} (R : RepC a s) (W : wfA a) : Gl (GI fun x s' => x = (aHands a seed n m).1 ∧ RepC (aHands a seed n m).2 s') (X11_hands (d + 30) s 1 seed n m) := by
  have hs := R.1
  have no : ¬ ((0 ≤ seed ∧ seed ≤ 1000000) ∧ (1 ≤ n ∧ n ≤ 100) ∧ (3 ≤ m ∧ m ≤ 12)) → Gl (GI fun x s' => x = (aHands a seed n m).1 ∧ RepC (aHands a seed n m).2 s') (cI (X11_refused (d + 29) s 1 (-1)) fun x1 s1 => some ([(0, x1)], s1)) := by
    intro h
    unfold aHands
    rw [if_neg h]
    exact cc_ref (Or.inl rfl) R W fun _ _ => rfl
  rw [e_X11_hands]
  simp (disch := ((try simp only [kd_sF, kd_sA, gA_sF, gA_sA, gF_sF, gF_sA, List.length_set, reduceIte, and_true, and_false, true_and, false_and, Nat.reduceEqDiff, Int.reduceEq, hs.o1]); first | done | omega)) only [rF_ok, wF_ok, oK_ok, lA_ok, rA_ok, wA_ok, cI_ok, cV_ok, cL_ok, cR_ok, kd_sF, kd_sA, gA_sF, gF_sA, gF_sF, gA_sA, bk_0, bk_1, List.length_set, reduceIte, and_true, and_false, true_and, false_and, ne_eq, not_true_eq_false, not_false_eq_true, Int.toNat_natCast, Int.reduceToNat, Nat.reduceEqDiff, Int.reduceEq, Int.reduceLT, Int.reduceLE, Int.reduceAdd, Int.reduceSub, Int.reduceMul, Int.reduceNeg, hs.o1]
  by_cases h1 : seed < 0
  · rw [if_pos h1]; exact no (by omega)
  rw [if_neg h1]
  by_cases h2 : 1000000 < seed
  · rw [if_pos h2]; exact no (by omega)
  rw [if_neg h2]
  by_cases h3 : n < 1
  · rw [if_pos h3]; exact no (by omega)
  rw [if_neg h3]
  by_cases h4 : 100 < n
  · rw [if_pos h4]; exact no (by omega)
  rw [if_neg h4, c_iwl, cI_ok]
  by_cases h5 : 3 ≤ m ∧ m ≤ 12
  · rw [if_pos h5, if_neg (show ¬ ((1 : Int) = 0) by decide)]
    obtain ⟨M, rfl⟩ := Int.eq_ofNat_of_zero_le (show 0 ≤ m by omega)
    obtain ⟨N, rfl⟩ := Int.eq_ofNat_of_zero_le (show 0 ≤ n by omega)
    unfold aHands
    rw [if_pos (by omega), Int.toNat_natCast, Int.toNat_natCast]
    simp (disch := ((try simp only [kd_sF, kd_sA, gA_sF, gA_sA, gF_sF, gF_sA, List.length_set, reduceIte, and_true, and_false, true_and, false_and, Nat.reduceEqDiff, Int.reduceEq, hs.o1]); first | done | omega)) only [rF_ok, wF_ok, oK_ok, lA_ok, rA_ok, wA_ok, cI_ok, cV_ok, cL_ok, cR_ok, kd_sF, kd_sA, gA_sF, gF_sA, gF_sF, gA_sA, bk_0, bk_1, List.length_set, reduceIte, and_true, and_false, true_and, false_and, ne_eq, not_true_eq_false, not_false_eq_true, Int.toNat_natCast, Int.reduceToNat, Nat.reduceEqDiff, Int.reduceEq, Int.reduceLT, Int.reduceLE, Int.reduceAdd, Int.reduceSub, Int.reduceMul, Int.reduceNeg, hs.o1]
    refine biV (c_prq (d := d + 1) R W (by omega)) fun s2 _ ⟨q1, q4⟩ => ?_
    have hs2 := q1.1
    have R2 := q1.r R W
    have t1 : gA s2 8 = [moodD a.1, needD a.1, thickD a.1] := R2.2.1.2.2.2.2.1
    have t11 : (gA s2 8).getD 1 0 = needD a.1 := by rw [t1]; rfl
    simp (disch := ((try simp only [kd_sF, kd_sA, gA_sF, gA_sA, gF_sF, gF_sA, List.length_set, reduceIte, and_true, and_false, true_and, false_and, Nat.reduceEqDiff, Int.reduceEq, hs2.o1, hs2.o3]); first | done | omega)) only [rF_ok, wF_ok, oK_ok, lA_ok, rA_ok, wA_ok, cI_ok, cV_ok, cL_ok, cR_ok, kd_sF, kd_sA, gA_sF, gF_sA, gF_sF, gA_sA, bk_0, bk_1, List.length_set, reduceIte, and_true, and_false, true_and, false_and, ne_eq, not_true_eq_false, not_false_eq_true, Int.toNat_natCast, Int.reduceToNat, Nat.reduceEqDiff, Int.reduceEq, Int.reduceLT, Int.reduceLE, Int.reduceAdd, Int.reduceSub, Int.reduceMul, Int.reduceNeg, hs2.o1, hs2.o3, t11]
    refine biV (c_deal (d := d + 25) (need := needD a.1) hs2 (by omega) (by omega) (by omega) q4) fun s3 _ ⟨i1, i2, i3, i4, i5, i6, i7, i8⟩ => ?_
    have k89 : kd s3 89 = 5 := i1.o89.1
    simp (disch := ((try simp only [kd_sF, kd_sA, gA_sF, gA_sA, gF_sF, gF_sA, List.length_set, reduceIte, and_true, and_false, true_and, false_and, Nat.reduceEqDiff, Int.reduceEq, i1.o1, k89]); first | done | omega)) only [rF_ok, wF_ok, oK_ok, lA_ok, rA_ok, wA_ok, cI_ok, cV_ok, cL_ok, cR_ok, kd_sF, kd_sA, gA_sF, gF_sA, gF_sF, gA_sA, bk_0, bk_1, List.length_set, reduceIte, and_true, and_false, true_and, false_and, ne_eq, not_true_eq_false, not_false_eq_true, Int.toNat_natCast, Int.reduceToNat, Nat.reduceEqDiff, Int.reduceEq, Int.reduceLT, Int.reduceLE, Int.reduceAdd, Int.reduceSub, Int.reduceMul, Int.reduceNeg, i1.o1, k89, i5]
    generalize hH : hdN (clsD a.1) (moodD a.1) (thickD a.1) (needD a.1) M seed N = H at *
    have R3 : RepC (a.1, a.2.1, a.2.2.1, a.2.2.2.1, a.2.2.2.2.1, a.2.2.2.2.2.1, some (H.2.1, H.2.2, (List.range M).map (dealF (lcgI seed (M * (N - 1)))))) s3 := by
      obtain ⟨r1, r2, r3, r4, r5, r6, r7, r8, r9⟩ := R2
      refine ⟨i1, r2.k W.1 i2 (by decide) (by decide), r3.k W.2.1 i2 (by decide) (by decide), r4.k r1.o10.1 i2 (by decide) (by decide) (by decide), r5.k r1.o1.1 i2 (by decide) (by decide) (by decide), r6.k r1.o1.1 r1.o75.1 i2 (by decide) (by decide), ?_, ?_, r9.k2 r1.o78.1 i2 (by decide) (by decide) (by decide)⟩
      · unfold RfC
        rw [i2.2.2 97 (by decide)]
        exact r7
      · refine ⟨?_, i6, i7, fun k hk => ?_⟩
        · rw [i4]
          simp
        · have hk2 : k < M := by simpa using hk
          rw [i8 (by omega) k hk2, List.getD_eq_getElem?_getD]
          simp [hk2]
    obtain ⟨s', e1, e2⟩ := c_granted (d := d + 29) R3 (by
      obtain ⟨w1, w2, w3, w4, w5⟩ := W
      refine ⟨w1, w2, w3, w4, fun x hx => ?_⟩
      cases hx
      simp
      omega) H.1
    rw [e1, cI_ok]
    exact reI ⟨rfl, e2⟩
  · rw [if_neg h5, if_pos rfl]
    simp (disch := ((try simp only [kd_sF, kd_sA, gA_sF, gA_sA, gF_sF, gF_sA, List.length_set, reduceIte, and_true, and_false, true_and, false_and, Nat.reduceEqDiff, Int.reduceEq, hs.o1]); first | done | omega)) only [rF_ok, wF_ok, oK_ok, lA_ok, rA_ok, wA_ok, cI_ok, cV_ok, cL_ok, cR_ok, kd_sF, kd_sA, gA_sF, gF_sA, gF_sF, gA_sA, bk_0, bk_1, List.length_set, reduceIte, and_true, and_false, true_and, false_and, ne_eq, not_true_eq_false, not_false_eq_true, Int.toNat_natCast, Int.reduceToNat, Nat.reduceEqDiff, Int.reduceEq, Int.reduceLT, Int.reduceLE, Int.reduceAdd, Int.reduceSub, Int.reduceMul, Int.reduceNeg, hs.o1]
    exact no (by omega)
theorem cc_drawn {what : Int} (hw : what < 2147483648) (R : RepC a s) (W : wfA a) : Gl (GI fun x s' => x = aDrawn a what ∧ RepC a s') (X11_drawn d s 1 what) := by
  have hs := R.1
  have k89 : kd s 89 = 5 := hs.o89.1
  have l90 : (gA s 90).length = 12 := hs.2.1 90 (by decide) (by decide)
  have r8 := R.2.2.2.2.2.2.2.1
  have w5 := W.2.2.2.2
  rw [e_X11_drawn]
  unfold aDrawn
  simp (disch := ((try simp only [kd_sF, kd_sA, gA_sF, gA_sA, gF_sF, gF_sA, List.length_set, reduceIte, and_true, and_false, true_and, false_and, Nat.reduceEqDiff, Int.reduceEq, hs.o1, k89]); first | done | omega)) only [rF_ok, wF_ok, oK_ok, lA_ok, rA_ok, wA_ok, cI_ok, cV_ok, cL_ok, cR_ok, kd_sF, kd_sA, gA_sF, gF_sA, gF_sF, gA_sA, bk_0, bk_1, List.length_set, reduceIte, and_true, and_false, true_and, false_and, ne_eq, not_true_eq_false, not_false_eq_true, Int.toNat_natCast, Int.reduceToNat, Nat.reduceEqDiff, Int.reduceEq, Int.reduceLT, Int.reduceLE, Int.reduceAdd, Int.reduceSub, Int.reduceMul, Int.reduceNeg, hs.o1, k89]
  match hh : a.2.2.2.2.2.2, r8, w5 with
  | none, r8, _ =>
    have r8' : gF s 89 1 = 0 := r8
    simp (disch := ((try simp only [kd_sF, kd_sA, gA_sF, gA_sA, gF_sF, gF_sA, List.length_set, reduceIte, and_true, and_false, true_and, false_and, Nat.reduceEqDiff, Int.reduceEq, hs.o1, k89]); first | done | omega)) only [rF_ok, wF_ok, oK_ok, lA_ok, rA_ok, wA_ok, cI_ok, cV_ok, cL_ok, cR_ok, kd_sF, kd_sA, gA_sF, gF_sA, gF_sF, gA_sA, bk_0, bk_1, List.length_set, reduceIte, and_true, and_false, true_and, false_and, ne_eq, not_true_eq_false, not_false_eq_true, Int.toNat_natCast, Int.reduceToNat, Nat.reduceEqDiff, Int.reduceEq, Int.reduceLT, Int.reduceLE, Int.reduceAdd, Int.reduceSub, Int.reduceMul, Int.reduceNeg, hs.o1, k89, r8']
    exact reI ⟨rfl, R⟩
  | some h, r8, w5 =>
    obtain ⟨g1, g2, g3, g4⟩ := r8
    have hl := w5 h rfl
    simp (disch := ((try simp only [kd_sF, kd_sA, gA_sF, gA_sA, gF_sF, gF_sA, List.length_set, reduceIte, and_true, and_false, true_and, false_and, Nat.reduceEqDiff, Int.reduceEq, hs.o1, k89]); first | done | omega)) only [rF_ok, wF_ok, oK_ok, lA_ok, rA_ok, wA_ok, cI_ok, cV_ok, cL_ok, cR_ok, kd_sF, kd_sA, gA_sF, gF_sA, gF_sF, gA_sA, bk_0, bk_1, List.length_set, reduceIte, and_true, and_false, true_and, false_and, ne_eq, not_true_eq_false, not_false_eq_true, Int.toNat_natCast, Int.reduceToNat, Nat.reduceEqDiff, Int.reduceEq, Int.reduceLT, Int.reduceLE, Int.reduceAdd, Int.reduceSub, Int.reduceMul, Int.reduceNeg, hs.o1, k89, g1, if_neg (show ¬ ((h.2.2.length : Int) = 0) by omega)]
    by_cases w0 : what < 0
    · rw [if_pos w0, if_pos w0]; exact reI ⟨rfl, R⟩
    rw [if_neg w0, if_neg w0]
    by_cases w1 : what = 0
    · rw [if_pos w1, if_pos w1]
      exact reI ⟨g2, R⟩
    rw [if_neg w1, if_neg w1]
    by_cases w2 : what = 1
    · rw [if_pos w2, if_pos w2]
      exact reI ⟨g3, R⟩
    rw [if_neg w2, if_neg w2, wi_sm (by omega) (by omega)]
    simp (disch := ((try simp only [kd_sF, kd_sA, gA_sF, gA_sA, gF_sF, gF_sA, List.length_set, reduceIte, and_true, and_false, true_and, false_and, Nat.reduceEqDiff, Int.reduceEq, hs.o1, hs.o89]); first | done | omega)) only [rF_ok, wF_ok, oK_ok, lA_ok, rA_ok, wA_ok, cI_ok, cV_ok, cL_ok, cR_ok, kd_sF, kd_sA, gA_sF, gF_sA, gF_sF, gA_sA, bk_0, bk_1, List.length_set, reduceIte, and_true, and_false, true_and, false_and, ne_eq, not_true_eq_false, not_false_eq_true, Int.toNat_natCast, Int.reduceToNat, Nat.reduceEqDiff, Int.reduceEq, Int.reduceLT, Int.reduceLE, Int.reduceAdd, Int.reduceSub, Int.reduceMul, Int.reduceNeg, hs.o1, hs.o89, g1]
    by_cases w3 : what - 2 < h.2.2.length
    · rw [if_pos w3, if_pos w3]
      exact reI ⟨g4 _ (by omega), R⟩
    · rw [if_neg w3, if_neg w3]; exact reI ⟨rfl, R⟩
end CHE
