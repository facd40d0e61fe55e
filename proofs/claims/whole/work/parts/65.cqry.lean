/-! ===== the class's questions over its paper: rank, change, best, fits ===== -/
theorem unlN_cg {f g h : Nat → Int} {n : Nat} (e : ∀ k, k < n → g k = h k) : unlN f g n = unlN f h n := by
  unfold unlN
  exact sumN_congr fun k hk => by rw [e k hk]
theorem rankL_cg {g h : Nat → Int} {n : Nat} {L : List Nat} (e : ∀ k, k < n → g k = h k) : rankL g n L = rankL h n L := by
  unfold rankL
  congr 1
  congr 1
  funext u
  rw [unlN_cg e]
theorem chL_cg {g h : Nat → Int} {n : Nat} {L : List Nat} (e : ∀ k, k < n → g k = h k) : chL g n L = chL h n L := by
  unfold chL
  congr 1
  funext a u
  unfold chS
  rw [unlN_cg e]
section CR
variable {s : St} {a : Ab} {d : Nat}
theorem DrC.kn {D q : Int} {dr : Dr} (R : DrC s D dr) (hq : isKn dr q) : KnC s (D + 11 + 2 * q) (knQ dr q) := by
  have h := R.2.1.2 q.toNat (by unfold isKn at hq; omega)
  rw [i2n hq.1] at h
  exact h
theorem wfKn_q {dr : Dr} {q : Int} (W : wfDr dr) (hq : isKn dr q) : wfKn (knQ dr q) := W.1.2 _ (gdMem (a := k0) (by unfold isKn at hq; omega))
theorem cc_rank {q : Int} (R : RepC a s) (W : wfA a) : Gl (GI fun x s' => x = aRank a.1 q ∧ RepC a s') (X11_rank (d + 30) s 1 q) := by
  have hs := R.1
  rw [e_X11_rank]
  unfold aRank
  simp (disch := ((try simp only [kd_sF, kd_sA, gA_sF, gA_sA, gF_sF, gF_sA, List.length_set, reduceIte, and_true, and_false, true_and, false_and, Nat.reduceEqDiff, Int.reduceEq, hs.o1, hs.o3]); first | done | omega)) only [rF_ok, wF_ok, oK_ok, lA_ok, rA_ok, wA_ok, cI_ok, cV_ok, cL_ok, cR_ok, kd_sF, kd_sA, gA_sF, gF_sA, gF_sF, gA_sA, bk_0, bk_1, List.length_set, reduceIte, and_true, and_false, true_and, false_and, ne_eq, not_true_eq_false, not_false_eq_true, Int.toNat_natCast, Int.reduceToNat, Nat.reduceEqDiff, Int.reduceEq, Int.reduceLT, Int.reduceLE, Int.reduceAdd, Int.reduceSub, Int.reduceMul, Int.reduceNeg, hs.o1, hs.o3]
  by_cases hq : isKn a.1 q
  · have hq' := hq
    unfold isKn at hq'
    obtain ⟨p, hp⟩ : ∃ p : Int, p = 3 + 11 + 2 * q := ⟨_, rfl⟩
    have KN : ∀ s', DrC s' 3 a.1 → KnC s' p (knQ a.1 q) := fun s' h => by rw [hp]; exact h.kn hq
    rw [c_knotAt1 R.2.1 W.1 hq, ← hp, cR_ok, if_neg (show ¬ (p = 0) by omega)]
    obtain ⟨⟨p1, p2, p3, p4⟩, -, -, -, p5, -, -⟩ := KN s R.2.1
    have wk := wfKn_q W.1 hq
    simp (disch := ((try simp only [kd_sF, kd_sA, gA_sF, gA_sA, gF_sF, gF_sA, List.length_set, reduceIte, and_true, and_false, true_and, false_and, Nat.reduceEqDiff, Int.reduceEq, p1]); first | done | omega)) only [rF_ok, wF_ok, oK_ok, lA_ok, rA_ok, wA_ok, cI_ok, cV_ok, cL_ok, cR_ok, kd_sF, kd_sA, gA_sF, gF_sA, gF_sF, gA_sA, bk_0, bk_1, List.length_set, reduceIte, and_true, and_false, true_and, false_and, ne_eq, not_true_eq_false, not_false_eq_true, Int.toNat_natCast, Int.reduceToNat, Nat.reduceEqDiff, Int.reduceEq, Int.reduceLT, Int.reduceLE, Int.reduceAdd, Int.reduceSub, Int.reduceMul, Int.reduceNeg, p1, p5]
    rw [c_iwl, cI_ok]
    by_cases h : 3 ≤ kLen (knQ a.1 q) ∧ kLen (knQ a.1 q) ≤ 12
    · rw [if_pos (show 3 ≤ (kLen (knQ a.1 q) : Int) ∧ (kLen (knQ a.1 q) : Int) ≤ 12 by omega), if_neg (show ¬ ((1 : Int) = 0) by decide), if_pos ⟨hq', h⟩]
      simp (disch := ((try simp only [kd_sF, kd_sA, gA_sF, gA_sA, gF_sF, gF_sA, List.length_set, reduceIte, and_true, and_false, true_and, false_and, Nat.reduceEqDiff, Int.reduceEq, hs.o1, p1]); first | done | omega)) only [rF_ok, wF_ok, oK_ok, lA_ok, rA_ok, wA_ok, cI_ok, cV_ok, cL_ok, cR_ok, kd_sF, kd_sA, gA_sF, gF_sA, gF_sF, gA_sA, bk_0, bk_1, List.length_set, reduceIte, and_true, and_false, true_and, false_and, ne_eq, not_true_eq_false, not_false_eq_true, Int.toNat_natCast, Int.reduceToNat, Nat.reduceEqDiff, Int.reduceEq, Int.reduceLT, Int.reduceLE, Int.reduceAdd, Int.reduceSub, Int.reduceMul, Int.reduceNeg, hs.o1, p1, p5]
      refine biV (c_prq (d := d + 1) R W h) fun s2 _ ⟨q1, q4⟩ => ?_
      have hs2 := q1.1
      have R2 := q1.r R W
      obtain ⟨⟨t1, t2, t3, t4⟩, -, -, -, t5, -, t6⟩ := KN s2 R2.2.1
      have e1 := c_find (d := d + 28) (q := p + 1) hs2 h q4 t3 (by omega) (fun k hk => by rw [t6 k hk]; exact wk.2.2.2.2.2.1 k hk)
      rw [rankL_cg t6] at e1
      simp (disch := ((try simp only [kd_sF, kd_sA, gA_sF, gA_sA, gF_sF, gF_sA, List.length_set, reduceIte, and_true, and_false, true_and, false_and, Nat.reduceEqDiff, Int.reduceEq, hs2.o1, t1, t2]); first | done | omega)) only [rF_ok, wF_ok, oK_ok, lA_ok, rA_ok, wA_ok, cI_ok, cV_ok, cL_ok, cR_ok, kd_sF, kd_sA, gA_sF, gF_sA, gF_sF, gA_sA, bk_0, bk_1, List.length_set, reduceIte, and_true, and_false, true_and, false_and, ne_eq, not_true_eq_false, not_false_eq_true, Int.toNat_natCast, Int.reduceToNat, Nat.reduceEqDiff, Int.reduceEq, Int.reduceLT, Int.reduceLE, Int.reduceAdd, Int.reduceSub, Int.reduceMul, Int.reduceNeg, hs2.o1, t1, t2, t5, e1]
      exact reI ⟨rfl, R2⟩
    · rw [if_neg (show ¬ (3 ≤ (kLen (knQ a.1 q) : Int) ∧ (kLen (knQ a.1 q) : Int) ≤ 12) by omega), if_pos rfl, if_neg (fun e => h e.2)]
      exact reI ⟨rfl, R⟩
  · rw [c_knotAt0 R.2.1 hq, cR_ok, if_pos rfl, if_neg (fun e => hq e.1)]
    exact reI ⟨rfl, R⟩
theorem cc_change {q what : Int} (R : RepC a s) (W : wfA a) : Gl (GI fun x s' => x = aChange a.1 q what ∧ RepC a s') (X11_change (d + 31) s 1 q what) := by
  have hs := R.1
  rw [e_X11_change]
  unfold aChange
  simp (disch := ((try simp only [kd_sF, kd_sA, gA_sF, gA_sA, gF_sF, gF_sA, List.length_set, reduceIte, and_true, and_false, true_and, false_and, Nat.reduceEqDiff, Int.reduceEq, hs.o1, hs.o3]); first | done | omega)) only [rF_ok, wF_ok, oK_ok, lA_ok, rA_ok, wA_ok, cI_ok, cV_ok, cL_ok, cR_ok, kd_sF, kd_sA, gA_sF, gF_sA, gF_sF, gA_sA, bk_0, bk_1, List.length_set, reduceIte, and_true, and_false, true_and, false_and, ne_eq, not_true_eq_false, not_false_eq_true, Int.toNat_natCast, Int.reduceToNat, Nat.reduceEqDiff, Int.reduceEq, Int.reduceLT, Int.reduceLE, Int.reduceAdd, Int.reduceSub, Int.reduceMul, Int.reduceNeg, hs.o1, hs.o3]
  by_cases hq : isKn a.1 q
  · have hq' := hq
    unfold isKn at hq'
    obtain ⟨p, hp⟩ : ∃ p : Int, p = 3 + 11 + 2 * q := ⟨_, rfl⟩
    have KN : ∀ s', DrC s' 3 a.1 → KnC s' p (knQ a.1 q) := fun s' h => by rw [hp]; exact h.kn hq
    rw [c_knotAt1 R.2.1 W.1 hq, ← hp, cR_ok, if_neg (show ¬ (p = 0) by omega)]
    obtain ⟨⟨p1, p2, p3, p4⟩, -, -, -, p5, -, -⟩ := KN s R.2.1
    by_cases w1 : what < 0
    · rw [if_pos w1, if_neg (fun e => by omega)]
      exact reI ⟨rfl, R⟩
    rw [if_neg w1]
    simp (disch := ((try simp only [kd_sF, kd_sA, gA_sF, gA_sA, gF_sF, gF_sA, List.length_set, reduceIte, and_true, and_false, true_and, false_and, Nat.reduceEqDiff, Int.reduceEq, p1]); first | done | omega)) only [rF_ok, wF_ok, oK_ok, lA_ok, rA_ok, wA_ok, cI_ok, cV_ok, cL_ok, cR_ok, kd_sF, kd_sA, gA_sF, gF_sA, gF_sF, gA_sA, bk_0, bk_1, List.length_set, reduceIte, and_true, and_false, true_and, false_and, ne_eq, not_true_eq_false, not_false_eq_true, Int.toNat_natCast, Int.reduceToNat, Nat.reduceEqDiff, Int.reduceEq, Int.reduceLT, Int.reduceLE, Int.reduceAdd, Int.reduceSub, Int.reduceMul, Int.reduceNeg, p1, p5]
    by_cases w2 : (kLen (knQ a.1 q) : Int) < what
    · rw [if_pos w2, if_neg (fun e => by omega)]
      exact reI ⟨rfl, R⟩
    rw [if_neg w2, c_iwl, cI_ok]
    by_cases h : 3 ≤ kLen (knQ a.1 q) ∧ kLen (knQ a.1 q) ≤ 12
    · rw [if_pos (show 3 ≤ (kLen (knQ a.1 q) : Int) ∧ (kLen (knQ a.1 q) : Int) ≤ 12 by omega), if_neg (show ¬ ((1 : Int) = 0) by decide), if_pos ⟨hq', h, by omega, by omega⟩]
      simp (disch := ((try simp only [kd_sF, kd_sA, gA_sF, gA_sA, gF_sF, gF_sA, List.length_set, reduceIte, and_true, and_false, true_and, false_and, Nat.reduceEqDiff, Int.reduceEq, hs.o1, p1]); first | done | omega)) only [rF_ok, wF_ok, oK_ok, lA_ok, rA_ok, wA_ok, cI_ok, cV_ok, cL_ok, cR_ok, kd_sF, kd_sA, gA_sF, gF_sA, gF_sF, gA_sA, bk_0, bk_1, List.length_set, reduceIte, and_true, and_false, true_and, false_and, ne_eq, not_true_eq_false, not_false_eq_true, Int.toNat_natCast, Int.reduceToNat, Nat.reduceEqDiff, Int.reduceEq, Int.reduceLT, Int.reduceLE, Int.reduceAdd, Int.reduceSub, Int.reduceMul, Int.reduceNeg, hs.o1, p1, p5]
      refine biV (c_prq (d := d + 2) R W h) fun s2 _ ⟨q1, q4⟩ => ?_
      have hs2 := q1.1
      have R2 := q1.r R W
      obtain ⟨⟨t1, t2, t3, t4⟩, -, -, -, t5, -, t6⟩ := KN s2 R2.2.1
      simp (disch := ((try simp only [kd_sF, kd_sA, gA_sF, gA_sA, gF_sF, gF_sA, List.length_set, reduceIte, and_true, and_false, true_and, false_and, Nat.reduceEqDiff, Int.reduceEq, hs2.o1, hs2.o78, t1, t2]); first | done | omega)) only [rF_ok, wF_ok, oK_ok, lA_ok, rA_ok, wA_ok, cI_ok, cV_ok, cL_ok, cR_ok, kd_sF, kd_sA, gA_sF, gF_sA, gF_sF, gA_sA, bk_0, bk_1, List.length_set, reduceIte, and_true, and_false, true_and, false_and, ne_eq, not_true_eq_false, not_false_eq_true, Int.toNat_natCast, Int.reduceToNat, Nat.reduceEqDiff, Int.reduceEq, Int.reduceLT, Int.reduceLE, Int.reduceAdd, Int.reduceSub, Int.reduceMul, Int.reduceNeg, hs2.o1, hs2.o78, t1, t2, t5]
      refine biI (c_near (d := d + 28) (q := p + 1) hs2 h q4 t3 (by omega)) fun x s3 _ ⟨e1, e2, e3⟩ => ?_
      have R3 := (q1.w e2 e1 (by decide)).r R W
      have W3 := FrW.wd q4 e2 (by decide)
      obtain ⟨⟨u1, -⟩, -, -, -, u5, -, -⟩ := KN s3 R3.2.1
      unfold NrR at e3
      rw [List.take_length, chL_cg t6] at e3
      unfold chA prD
      rcases e3 with ⟨g1, g2⟩ | ⟨g1, g2, g3, g4, c, g5, g6, g7⟩
      · rw [if_pos g2]
        have : prW (clsD a.1) (moodD a.1) (thickD a.1) (kLen (knQ a.1 q)) = [] := List.eq_nil_of_length_eq_zero g1
        rw [this, if_pos (show (chL (pF (knQ a.1 q)) (kLen (knQ a.1 q)) []).1 = -1 from rfl)]
        exact reI ⟨g2, R3⟩
      · rw [if_neg (show ¬ (x = -1) by omega), if_neg g2]
        by_cases w3 : what = 0
        · rw [if_pos w3, if_pos w3]
          exact reI ⟨g4, R3⟩
        · rw [if_neg w3, if_neg w3]
          have e5 := c_placeIn (d := d + 29) (k := (what - 1).toNat) e1 h W3 g5 (by omega)
          rw [i2n (by omega)] at e5
          simp (disch := ((try simp only [kd_sF, kd_sA, gA_sF, gA_sA, gF_sF, gF_sA, List.length_set, reduceIte, and_true, and_false, true_and, false_and, Nat.reduceEqDiff, Int.reduceEq, e1.o1, e1.o78, u1]); first | done | omega)) only [rF_ok, wF_ok, oK_ok, lA_ok, rA_ok, wA_ok, cI_ok, cV_ok, cL_ok, cR_ok, kd_sF, kd_sA, gA_sF, gF_sA, gF_sF, gA_sA, bk_0, bk_1, List.length_set, reduceIte, and_true, and_false, true_and, false_and, ne_eq, not_true_eq_false, not_false_eq_true, Int.toNat_natCast, Int.reduceToNat, Nat.reduceEqDiff, Int.reduceEq, Int.reduceLT, Int.reduceLE, Int.reduceAdd, Int.reduceSub, Int.reduceMul, Int.reduceNeg, e1.o1, e1.o78, u1, u5, g6, wi_sm, e5]
          refine reI ⟨?_, R3⟩
          rw [← g7, Int.toNat_natCast]
    · rw [if_neg (show ¬ (3 ≤ (kLen (knQ a.1 q) : Int) ∧ (kLen (knQ a.1 q) : Int) ≤ 12) by omega), if_pos rfl, if_neg (fun e => h e.2.1)]
      exact reI ⟨rfl, R⟩
  · rw [c_knotAt0 R.2.1 hq, cR_ok, if_pos rfl, if_neg (fun e => hq e.1)]
    exact reI ⟨rfl, R⟩
theorem cc_best {cloth what : Int} (hw : what < 2147483648) (R : RepC a s) (W : wfA a) : Gl (GI fun x s' => x = aBest a.1 cloth what ∧ RepC a s') (X11_best (d + 30) s 1 cloth what) := by
  have hs := R.1
  rw [e_X11_best]
  unfold aBest
  by_cases h1 : cloth < 1
  · rw [if_pos h1, if_neg (by omega)]; exact reI ⟨rfl, R⟩
  rw [if_neg h1]
  by_cases h2 : 200 < cloth
  · rw [if_pos h2, if_neg (by omega)]; exact reI ⟨rfl, R⟩
  rw [if_neg h2]
  by_cases h3 : what < 0
  · rw [if_pos h3, if_neg (by omega)]; exact reI ⟨rfl, R⟩
  rw [if_neg h3, if_pos (by omega)]
  simp (disch := ((try simp only [kd_sF, kd_sA, gA_sF, gA_sA, gF_sF, gF_sA, List.length_set, reduceIte, and_true, and_false, true_and, false_and, Nat.reduceEqDiff, Int.reduceEq, hs.o1]); first | done | omega)) only [rF_ok, wF_ok, oK_ok, lA_ok, rA_ok, wA_ok, cI_ok, cV_ok, cL_ok, cR_ok, kd_sF, kd_sA, gA_sF, gF_sA, gF_sF, gA_sA, bk_0, bk_1, List.length_set, reduceIte, and_true, and_false, true_and, false_and, ne_eq, not_true_eq_false, not_false_eq_true, Int.toNat_natCast, Int.reduceToNat, Nat.reduceEqDiff, Int.reduceEq, Int.reduceLT, Int.reduceLE, Int.reduceAdd, Int.reduceSub, Int.reduceMul, Int.reduceNeg, hs.o1]
  refine biI (c_chooseBest (d := d) hs R.2.1 W.1 R.pg.1) fun x s2 _ ⟨q1, q2, q3, q4, m, q5⟩ => ?_
  have Q : Qk s s2 := ⟨q1, q2, q3⟩
  have R2 := Q.r R W
  generalize hB : bestTo (clsD a.1) (moodD a.1) (thickD a.1) (needD a.1) cloth 10 = B at q5 ⊢
  unfold bestA
  rcases q5 with ⟨g1, g2⟩ | ⟨g1, g2, -, -, n, i, u, hn, hx, hc, hi, hu, hb⟩
  · rw [if_pos g2, if_pos g1]; exact reI ⟨rfl, R2⟩
  · rw [if_neg g2, if_neg g1]
    have Wd := q4 n hn.1 hn.2
    rw [hb, hx]
    simp (disch := ((try simp only [kd_sF, kd_sA, gA_sF, gA_sA, gF_sF, gF_sA, List.length_set, reduceIte, and_true, and_false, true_and, false_and, Nat.reduceEqDiff, Int.reduceEq, q1.o1, q1.o78]); first | done | omega)) only [rF_ok, wF_ok, oK_ok, lA_ok, rA_ok, wA_ok, cI_ok, cV_ok, cL_ok, cR_ok, kd_sF, kd_sA, gA_sF, gF_sA, gF_sF, gA_sA, bk_0, bk_1, List.length_set, reduceIte, and_true, and_false, true_and, false_and, ne_eq, not_true_eq_false, not_false_eq_true, Int.toNat_natCast, Int.reduceToNat, Nat.reduceEqDiff, Int.reduceEq, Int.reduceLT, Int.reduceLE, Int.reduceAdd, Int.reduceSub, Int.reduceMul, Int.reduceNeg, q1.o1, q1.o78, hc]
    by_cases w0 : what = 0
    · rw [if_pos w0, if_pos w0]; exact reI ⟨rfl, R2⟩
    rw [if_neg w0, if_neg w0]
    by_cases w1 : what = 1
    · rw [if_pos w1, if_pos w1]
      refine biI (c_leanIn (d := d + 27) q1 hn Wd hi) fun y s3 _ ⟨e1, e2, e3⟩ => ?_
      exact reI ⟨by rw [e1, hu], (Q.w e3.w e2 (by decide)).r R W⟩
    rw [if_neg w1, if_neg w1]
    by_cases w2 : what = 2
    · rw [if_pos w2, if_pos w2]
      refine biI (c_twistsIn (d := d + 27) q1 hn Wd hi) fun y s3 _ ⟨e1, e2, e3⟩ => ?_
      exact reI ⟨by rw [e1, hu], (Q.w e3.w e2 (by decide)).r R W⟩
    rw [if_neg w2, if_neg w2]
    by_cases w3 : what = 3
    · rw [if_pos w3, if_pos w3]
      simp (disch := ((try simp only [kd_sF, kd_sA, gA_sF, gA_sA, gF_sF, gF_sA, List.length_set, reduceIte, and_true, and_false, true_and, false_and, Nat.reduceEqDiff, Int.reduceEq, q1.o1, q1.o78]); first | done | omega)) only [rF_ok, wF_ok, oK_ok, lA_ok, rA_ok, wA_ok, cI_ok, cV_ok, cL_ok, cR_ok, kd_sF, kd_sA, gA_sF, gF_sA, gF_sF, gA_sA, bk_0, bk_1, List.length_set, reduceIte, and_true, and_false, true_and, false_and, ne_eq, not_true_eq_false, not_false_eq_true, Int.toNat_natCast, Int.reduceToNat, Nat.reduceEqDiff, Int.reduceEq, Int.reduceLT, Int.reduceLE, Int.reduceAdd, Int.reduceSub, Int.reduceMul, Int.reduceNeg, q1.o1, q1.o78, c_takesIn (d := d + 28) q1 hn Wd hi]
      exact reI ⟨by rw [hu], R2⟩
    rw [if_neg w3, if_neg w3, wi_sm (by omega) (by omega)]
    by_cases w4 : what - 4 < n
    · have e5 := c_placeIn (d := d + 28) (k := (what - 4).toNat) q1 hn Wd hi (by omega)
      rw [i2n (by omega)] at e5
      rw [if_pos w4, if_pos w4]
      simp (disch := ((try simp only [kd_sF, kd_sA, gA_sF, gA_sA, gF_sF, gF_sA, List.length_set, reduceIte, and_true, and_false, true_and, false_and, Nat.reduceEqDiff, Int.reduceEq, q1.o1, q1.o78]); first | done | omega)) only [rF_ok, wF_ok, oK_ok, lA_ok, rA_ok, wA_ok, cI_ok, cV_ok, cL_ok, cR_ok, kd_sF, kd_sA, gA_sF, gF_sA, gF_sF, gA_sA, bk_0, bk_1, List.length_set, reduceIte, and_true, and_false, true_and, false_and, ne_eq, not_true_eq_false, not_false_eq_true, Int.toNat_natCast, Int.reduceToNat, Nat.reduceEqDiff, Int.reduceEq, Int.reduceLT, Int.reduceLE, Int.reduceAdd, Int.reduceSub, Int.reduceMul, Int.reduceNeg, q1.o1, q1.o78, e5]
      exact reI ⟨by rw [hu], R2⟩
    · rw [if_neg w4, if_neg w4]; exact reI ⟨rfl, R2⟩
theorem cc_fits {n mi i k : Int} (R : RepC a s) (W : wfA a) : Gl (GI fun x s' => x = aFits a.1 n mi i k ∧ RepC a s') (X11_fits (d + 32) s 1 n mi i k) := by
  have hs := R.1
  rw [e_X11_fits, c_iwl, cI_ok]
  unfold aFits
  by_cases h : 3 ≤ n ∧ n ≤ 12
  · rw [if_pos h, if_neg (show ¬ ((1 : Int) = 0) by decide)]
    obtain ⟨m, rfl⟩ := Int.eq_ofNat_of_zero_le (show 0 ≤ n by omega)
    rw [Int.toNat_natCast]
    by_cases h1 : mi < 0
    · rw [if_pos h1, if_neg (by omega)]; exact reI ⟨rfl, R⟩
    rw [if_neg h1]
    by_cases h2 : 1 < mi
    · rw [if_pos h2, if_neg (by omega)]; exact reI ⟨rfl, R⟩
    rw [if_neg h2]
    by_cases h3 : i < -1
    · rw [if_pos h3, if_neg (by omega)]; exact reI ⟨rfl, R⟩
    rw [if_neg h3]
    simp (disch := ((try simp only [kd_sF, kd_sA, gA_sF, gA_sA, gF_sF, gF_sA, List.length_set, reduceIte, and_true, and_false, true_and, false_and, Nat.reduceEqDiff, Int.reduceEq, hs.o1]); first | done | omega)) only [rF_ok, wF_ok, oK_ok, lA_ok, rA_ok, wA_ok, cI_ok, cV_ok, cL_ok, cR_ok, kd_sF, kd_sA, gA_sF, gF_sA, gF_sF, gA_sA, bk_0, bk_1, List.length_set, reduceIte, and_true, and_false, true_and, false_and, ne_eq, not_true_eq_false, not_false_eq_true, Int.toNat_natCast, Int.reduceToNat, Nat.reduceEqDiff, Int.reduceEq, Int.reduceLT, Int.reduceLE, Int.reduceAdd, Int.reduceSub, Int.reduceMul, Int.reduceNeg, hs.o1]
    refine biV (c_prq (d := d + 3) R W (by omega)) fun s2 _ ⟨q1, q4⟩ => ?_
    have hs2 := q1.1
    have R2 := q1.r R W
    unfold fitA
    by_cases h4 : i = -1
    · rw [if_pos h4, if_pos ⟨h, by omega, by omega, Or.inl h4⟩, if_pos h4]
      simp (disch := ((try simp only [kd_sF, kd_sA, gA_sF, gA_sA, gF_sF, gF_sA, List.length_set, reduceIte, and_true, and_false, true_and, false_and, Nat.reduceEqDiff, Int.reduceEq, hs2.o1]); first | done | omega)) only [rF_ok, wF_ok, oK_ok, lA_ok, rA_ok, wA_ok, cI_ok, cV_ok, cL_ok, cR_ok, kd_sF, kd_sA, gA_sF, gF_sA, gF_sF, gA_sA, bk_0, bk_1, List.length_set, reduceIte, and_true, and_false, true_and, false_and, ne_eq, not_true_eq_false, not_false_eq_true, Int.toNat_natCast, Int.reduceToNat, Nat.reduceEqDiff, Int.reduceEq, Int.reduceLT, Int.reduceLE, Int.reduceAdd, Int.reduceSub, Int.reduceMul, Int.reduceNeg, hs2.o1]
      by_cases h5 : mi = 1
      · rw [if_pos h5]
        simp (disch := ((try simp only [kd_sF, kd_sA, gA_sF, gA_sA, gF_sF, gF_sA, List.length_set, reduceIte, and_true, and_false, true_and, false_and, Nat.reduceEqDiff, Int.reduceEq, hs2.o78]); first | done | omega)) only [rF_ok, wF_ok, oK_ok, lA_ok, rA_ok, wA_ok, cI_ok, cV_ok, cL_ok, cR_ok, kd_sF, kd_sA, gA_sF, gF_sA, gF_sF, gA_sA, bk_0, bk_1, List.length_set, reduceIte, and_true, and_false, true_and, false_and, ne_eq, not_true_eq_false, not_false_eq_true, Int.toNat_natCast, Int.reduceToNat, Nat.reduceEqDiff, Int.reduceEq, Int.reduceLT, Int.reduceLE, Int.reduceAdd, Int.reduceSub, Int.reduceMul, Int.reduceNeg, hs2.o78, c_countFitting (d := d + 28) hs2 R2.2.1 W.1 (show 3 ≤ m ∧ m ≤ 12 by omega) q4 (Or.inr rfl)]
        exact reI ⟨by rw [h5]; rfl, R2⟩
      · rw [if_neg h5]
        simp (disch := ((try simp only [kd_sF, kd_sA, gA_sF, gA_sA, gF_sF, gF_sA, List.length_set, reduceIte, and_true, and_false, true_and, false_and, Nat.reduceEqDiff, Int.reduceEq, hs2.o78]); first | done | omega)) only [rF_ok, wF_ok, oK_ok, lA_ok, rA_ok, wA_ok, cI_ok, cV_ok, cL_ok, cR_ok, kd_sF, kd_sA, gA_sF, gF_sA, gF_sF, gA_sA, bk_0, bk_1, List.length_set, reduceIte, and_true, and_false, true_and, false_and, ne_eq, not_true_eq_false, not_false_eq_true, Int.toNat_natCast, Int.reduceToNat, Nat.reduceEqDiff, Int.reduceEq, Int.reduceLT, Int.reduceLE, Int.reduceAdd, Int.reduceSub, Int.reduceMul, Int.reduceNeg, hs2.o78, c_countFitting (d := d + 28) hs2 R2.2.1 W.1 (show 3 ≤ m ∧ m ≤ 12 by omega) q4 (Or.inl rfl)]
        exact reI ⟨by rw [show mi = 0 by omega]; rfl, R2⟩
    · rw [if_neg h4, if_neg h4]
      obtain ⟨j, rfl⟩ := Int.eq_ofNat_of_zero_le (show 0 ≤ i by omega)
      have fin : ∀ x : Int, (x = 0 ∨ x = 1) → mi = x → Gl (GI fun y s' => y = (if (3 ≤ (m : Int) ∧ (m : Int) ≤ 12) ∧ (0 ≤ mi ∧ mi ≤ 1) ∧ -1 ≤ (j : Int) ∧ ((j : Int) = -1 ∨ (0 ≤ k ∧ k < (m : Int))) then wordL m k.toNat (ftD a.1 mi m)[j]? else -1) ∧ RepC a s') (X11_fits_82 (d + 32) s2 1 m j k 78 3 m x) := by
        intro x hx e
        obtain ⟨y, e1, e2⟩ := c_fittingAt (d := d + 28) (num := j) hs2 R2.2.1 W.1 (show 3 ≤ m ∧ m ≤ 12 by omega) q4 hx
        rw [e_X11_fits_82]
        simp (disch := ((try simp only [kd_sF, kd_sA, gA_sF, gA_sA, gF_sF, gF_sA, List.length_set, reduceIte, and_true, and_false, true_and, false_and, Nat.reduceEqDiff, Int.reduceEq, hs2.o78]); first | done | omega)) only [rF_ok, wF_ok, oK_ok, lA_ok, rA_ok, wA_ok, cI_ok, cV_ok, cL_ok, cR_ok, kd_sF, kd_sA, gA_sF, gF_sA, gF_sF, gA_sA, bk_0, bk_1, List.length_set, reduceIte, and_true, and_false, true_and, false_and, ne_eq, not_true_eq_false, not_false_eq_true, Int.toNat_natCast, Int.reduceToNat, Nat.reduceEqDiff, Int.reduceEq, Int.reduceLT, Int.reduceLE, Int.reduceAdd, Int.reduceSub, Int.reduceMul, Int.reduceNeg, hs2.o78, e1]
        rw [← e] at e2
        have e3 : ftT a.1 mi m (prW (clsD a.1) (moodD a.1) (thickD a.1) m) = ftD a.1 mi m := rfl
        rw [e3] at e2
        rcases e2 with ⟨y1, y2⟩ | ⟨l, y1, y2, y3⟩
        · rw [if_pos y1, y2]
          refine reI ⟨?_, R2⟩
          split <;> rfl
        · rw [if_neg (show ¬ (y = -1) by omega)]
          by_cases w1 : k < 0
          · rw [if_pos w1, if_neg (by omega)]; exact reI ⟨rfl, R2⟩
          rw [if_neg w1]
          by_cases w2 : k < m
          · rw [if_pos w2, if_pos ⟨h, by omega, by omega, Or.inr (by omega)⟩, y1, y3]
            have e5 := c_placeIn (d := d + 30) (k := k.toNat) hs2 (show 3 ≤ m ∧ m ≤ 12 by omega) q4 y2 (by omega)
            rw [i2n (by omega)] at e5
            simp (disch := ((try simp only [kd_sF, kd_sA, gA_sF, gA_sA, gF_sF, gF_sA, List.length_set, reduceIte, and_true, and_false, true_and, false_and, Nat.reduceEqDiff, Int.reduceEq, hs2.o1, hs2.o78]); first | done | omega)) only [rF_ok, wF_ok, oK_ok, lA_ok, rA_ok, wA_ok, cI_ok, cV_ok, cL_ok, cR_ok, kd_sF, kd_sA, gA_sF, gF_sA, gF_sF, gA_sA, bk_0, bk_1, List.length_set, reduceIte, and_true, and_false, true_and, false_and, ne_eq, not_true_eq_false, not_false_eq_true, Int.toNat_natCast, Int.reduceToNat, Nat.reduceEqDiff, Int.reduceEq, Int.reduceLT, Int.reduceLE, Int.reduceAdd, Int.reduceSub, Int.reduceMul, Int.reduceNeg, hs2.o1, hs2.o78, e5]
            exact reI ⟨rfl, R2⟩
          · rw [if_neg w2, if_neg (by omega)]; exact reI ⟨rfl, R2⟩
      simp (disch := ((try simp only [kd_sF, kd_sA, gA_sF, gA_sA, gF_sF, gF_sA, List.length_set, reduceIte, and_true, and_false, true_and, false_and, Nat.reduceEqDiff, Int.reduceEq, hs2.o1]); first | done | omega)) only [rF_ok, wF_ok, oK_ok, lA_ok, rA_ok, wA_ok, cI_ok, cV_ok, cL_ok, cR_ok, kd_sF, kd_sA, gA_sF, gF_sA, gF_sF, gA_sA, bk_0, bk_1, List.length_set, reduceIte, and_true, and_false, true_and, false_and, ne_eq, not_true_eq_false, not_false_eq_true, Int.toNat_natCast, Int.reduceToNat, Nat.reduceEqDiff, Int.reduceEq, Int.reduceLT, Int.reduceLE, Int.reduceAdd, Int.reduceSub, Int.reduceMul, Int.reduceNeg, hs2.o1]
      by_cases h5 : mi = 1
      · rw [if_pos h5]; exact fin 1 (Or.inr rfl) h5
      · rw [if_neg h5]; exact fin 0 (Or.inl rfl) (by omega)
  · rw [if_neg h, if_pos rfl, if_neg (fun e => h e.1)]
    exact reI ⟨rfl, R⟩
end CR
