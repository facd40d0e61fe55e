/-! ===== the class's leans and twists on paper; what the next move asks ===== -/
section CNX
variable {cls : List Cl} {mood th : Int} {n d : Nat} {s : St} {dr : Dr} {D p : Int} {k : Kn}
theorem c_leanIn {i : Nat} (hs : ShC s) (hn : 3 ≤ n ∧ n ≤ 12) (Wd : WdC cls mood th n s) (hi : i < (prW cls mood th n).length) : Gl (GI fun x s' => x = absI (leanN (plN n ((prW cls mood th n).getD i 0)) n) ∧ ShC s' ∧ FrX [87] s s') (X4_leanIn (d + 2) s 78 n i) := by
  rw [e_X4_leanIn]
  simp (disch := ((try simp only [kd_sF, kd_sA, gA_sF, gA_sA, gF_sF, gF_sA, List.length_set, reduceIte, and_true, and_false, true_and, false_and, Nat.reduceEqDiff, Int.reduceEq, hs.o78]); first | done | omega)) only [rF_ok, wF_ok, oK_ok, lA_ok, rA_ok, wA_ok, cI_ok, cV_ok, cL_ok, cR_ok, kd_sF, kd_sA, gA_sF, gF_sA, gF_sF, gA_sA, bk_0, bk_1, List.length_set, reduceIte, and_true, and_false, true_and, false_and, ne_eq, not_true_eq_false, not_false_eq_true, Int.toNat_natCast, Int.reduceToNat, Nat.reduceEqDiff, Int.reduceEq, Int.reduceLT, Int.reduceLE, Int.reduceAdd, Int.reduceSub, Int.reduceMul, Int.reduceNeg, hs.o78]
  refine biV (c_spell (d := d) hs hn Wd hi) fun s1 _ ⟨h1, h2, h3⟩ => ?_
  have l87 : (gA s1 87).length = 12 := h1.2.1 87 (by decide) (by decide)
  have k87 : kd s1 87 = 20 := h1.1 87 (by decide) (by decide)
  have hlb := leanN_bd (plN n ((prW cls mood th n).getD i 0)) n
  have hc := c_leanOf (d := d + 1) (n := n) k87 (by omega) (by omega)
  rw [leanN_congr h3] at hc
  have ha : wi (absI (leanN (plN n ((prW cls mood th n).getD i 0)) n)) = absI (leanN (plN n ((prW cls mood th n).getD i 0)) n) := by
    have : -100 ≤ absI (leanN (plN n ((prW cls mood th n).getD i 0)) n) ∧ absI (leanN (plN n ((prW cls mood th n).getD i 0)) n) ≤ 100 := by unfold absI; split <;> omega
    exact wi_sm (by omega) (by omega)
  simp (disch := ((try simp only [kd_sF, kd_sA, gA_sF, gA_sA, gF_sF, gF_sA, List.length_set, reduceIte, and_true, and_false, true_and, false_and, Nat.reduceEqDiff, Int.reduceEq, h1.o78]); first | done | omega)) only [rF_ok, wF_ok, oK_ok, lA_ok, rA_ok, wA_ok, cI_ok, cV_ok, cL_ok, cR_ok, kd_sF, kd_sA, gA_sF, gF_sA, gF_sF, gA_sA, bk_0, bk_1, List.length_set, reduceIte, and_true, and_false, true_and, false_and, ne_eq, not_true_eq_false, not_false_eq_true, Int.toNat_natCast, Int.reduceToNat, Nat.reduceEqDiff, Int.reduceEq, Int.reduceLT, Int.reduceLE, Int.reduceAdd, Int.reduceSub, Int.reduceMul, Int.reduceNeg, h1.o78, hc, ha]
  exact reI ⟨rfl, h1, h2⟩
theorem c_twistsIn {i : Nat} (hs : ShC s) (hn : 3 ≤ n ∧ n ≤ 12) (Wd : WdC cls mood th n s) (hi : i < (prW cls mood th n).length) : Gl (GI fun x s' => x = twN (plN n ((prW cls mood th n).getD i 0)) n ∧ ShC s' ∧ FrX [87] s s') (X4_twistsIn (d + 2) s 78 n i) := by
  rw [e_X4_twistsIn]
  simp (disch := ((try simp only [kd_sF, kd_sA, gA_sF, gA_sA, gF_sF, gF_sA, List.length_set, reduceIte, and_true, and_false, true_and, false_and, Nat.reduceEqDiff, Int.reduceEq, hs.o78]); first | done | omega)) only [rF_ok, wF_ok, oK_ok, lA_ok, rA_ok, wA_ok, cI_ok, cV_ok, cL_ok, cR_ok, kd_sF, kd_sA, gA_sF, gF_sA, gF_sF, gA_sA, bk_0, bk_1, List.length_set, reduceIte, and_true, and_false, true_and, false_and, ne_eq, not_true_eq_false, not_false_eq_true, Int.toNat_natCast, Int.reduceToNat, Nat.reduceEqDiff, Int.reduceEq, Int.reduceLT, Int.reduceLE, Int.reduceAdd, Int.reduceSub, Int.reduceMul, Int.reduceNeg, hs.o78]
  refine biV (c_spell (d := d) hs hn Wd hi) fun s1 _ ⟨h1, h2, h3⟩ => ?_
  have l87 : (gA s1 87).length = 12 := h1.2.1 87 (by decide) (by decide)
  have k87 : kd s1 87 = 20 := h1.1 87 (by decide) (by decide)
  have hc := c_twistsOf (d := d) (n := n) k87 (by omega) (by omega)
  rw [twN_congr h3] at hc
  simp (disch := ((try simp only [kd_sF, kd_sA, gA_sF, gA_sA, gF_sF, gF_sA, List.length_set, reduceIte, and_true, and_false, true_and, false_and, Nat.reduceEqDiff, Int.reduceEq, h1.o78]); first | done | omega)) only [rF_ok, wF_ok, oK_ok, lA_ok, rA_ok, wA_ok, cI_ok, cV_ok, cL_ok, cR_ok, kd_sF, kd_sA, gA_sF, gF_sA, gF_sF, gA_sA, bk_0, bk_1, List.length_set, reduceIte, and_true, and_false, true_and, false_and, ne_eq, not_true_eq_false, not_false_eq_true, Int.toNat_natCast, Int.reduceToNat, Nat.reduceEqDiff, Int.reduceEq, Int.reduceLT, Int.reduceLE, Int.reduceAdd, Int.reduceSub, Int.reduceMul, Int.reduceNeg, h1.o78, hc]
  exact reI ⟨rfl, h1, h2⟩
theorem c_askNext {pl : Int} (J : ShJ s) (R : DrC s D dr) (W : wfDr dr) (K : KnC s p k) (wk : wfKn k) (hpl : 0 ≤ pl ∧ pl ≤ 2) : Gl (GV fun s' => JR s s' ∧ gF s' 31 2 = tkQ (clsD dr) (moodD dr) k.2.1 ((k.1 + kLen k) % 2) (kLen k) (lastP k) pl ∧ gF s' 31 3 = gpA (clsD dr) (moodD dr) k.2.1 ((k.1 + kLen k) % 2) (kLen k) (lastP k) pl ∧ gF s' 31 4 = brA (clsD dr) (moodD dr) k.2.1 ((k.1 + kLen k) % 2) (kLen k) (lastP k) pl ∧ gF s' 31 5 = gF s 31 5 ∧ gF s' 31 6 = gF s 31 6) (X2_askNext (d + 3) s 31 D p pl) := by
  obtain ⟨q, e1, hL⟩ := c_lawInForce (d := d + 2) R W
  obtain ⟨⟨h1, ⟨-, -, -, -, f7, -⟩, -, -, -, -, ⟨k5, l5⟩, -⟩, -, -, -, t1, -⟩ := R
  have hm := W.2.2.2.1.1
  obtain ⟨w1, w2, w3, w4, w5, w6, w7, w8⟩ := wk
  have kJ : kd s 31 = 6 := J.1
  have aA0 : (gA s (D + 5)).getD 0 0 = moodD dr := by rw [t1]; rfl
  have sd := c_side (d := d + 2) (j := kLen k) w1 (by omega) K
  have lp := c_lastPlace (d := d + 2) K w5
  have hb : -1 ≤ lastP k ∧ lastP k ≤ 2 := by
    unfold lastP
    by_cases e : kLen k = 0
    · rw [if_pos e]; omega
    · rw [if_neg e]
      have := w6 (kLen k - 1) (by omega)
      unfold pl3 at this
      omega
  obtain ⟨⟨a1, a2, a3, a4⟩, a5, a6, a7, a8, a9, a10⟩ := K
  rw [e_X2_askNext]
  simp (disch := ((try simp only [kd_sF, kd_sA, gA_sF, gA_sA, gF_sF, gF_sA, List.length_set, reduceIte, and_true, and_false, true_and, false_and, Nat.reduceEqDiff, Int.reduceEq, h1, f7, k5, l5, kJ, a1]); first | done | omega)) only [rF_ok, wF_ok, oK_ok, lA_ok, rA_ok, wA_ok, cI_ok, cV_ok, cL_ok, cR_ok, kd_sF, kd_sA, gA_sF, gF_sA, gF_sF, gA_sA, bk_0, bk_1, List.length_set, reduceIte, and_true, and_false, true_and, false_and, ne_eq, not_true_eq_false, not_false_eq_true, Int.toNat_natCast, Int.reduceToNat, Nat.reduceEqDiff, Int.reduceEq, Int.reduceLT, Int.reduceLE, Int.reduceAdd, Int.reduceSub, Int.reduceMul, Int.reduceNeg, h1, f7, k5, l5, kJ, a1, a8, e1, a6, aA0, sd, lp]
  refine biV (c_ask (d := d) (mood := moodD dr) (th := k.2.1) (side := (k.1 + kLen k) % 2) (k := (kLen k : Int)) (bef := lastP k) (pl := pl) J hL hm (by omega) (by omega) (by omega) hb hpl) fun s2 h2 ⟨q1, q2, q3, q4⟩ => ?_
  exact reV ⟨JR.ev J h2 rfl (by decide) rfl q1, q2, q3, q4, (ev_pv h2 rfl).2.2.2.2.1 31 5 (by rw [J.1]; rfl), (ev_pv h2 rfl).2.2.2.2.1 31 6 (by rw [J.1]; rfl)⟩
end CNX
