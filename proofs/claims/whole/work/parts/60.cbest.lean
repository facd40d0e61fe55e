/-! ===== the class's paper: the best word, one word more ===== -/
section CBS
variable {cls : List Cl} {mood th need cloth : Int} {n d : Nat} {s : St}
theorem c_best25 {T : Res → Prop} {i : Nat} {a : BA} {x m : Int} (hs : ShC s) (hn : 3 ≤ n ∧ n ≤ 12) (Wd : WdC cls mood th n s) (hi : i < (prW cls mood th n).length) (k3 : kd s 3 = 4) (f3 : gF s 3 7 = 8) (k8 : kd s 8 = 20) (l8 : (gA s 8).length = 3) (n8 : (gA s 8).getD 1 0 = need) (hB : BsR cls mood th a x m (gF s 78 14)) (hT : ∀ s' x' m', ShC s' → FrW [87] s s' → BsR cls mood th (bstep cls mood th need cloth n a ((prW cls mood th n).getD i 0)) x' m' (gF s' 78 14) → Gl T (X4_chooseBest_25 (d + 2) s' 78 3 cloth x' m' n (wi ((i : Int) + 1)))) : Gl T (X4_chooseBest_25 (d + 2) s 78 3 cloth x m n i) := by
  have l83 : (gA s 83).length = 13 := hs.2.1 83 (by decide) (by decide)
  have c1 := Wd.2.1
  have tk := c_takesIn (d := d) hs hn Wd hi
  have gp := c_gripsIn (d := d) hs hn Wd hi
  have sp := c_spell (d := d) hs hn Wd hi
  obtain ⟨u, hu⟩ : ∃ u, u = (prW cls mood th n).getD i 0 := ⟨_, rfl⟩
  rw [← hu] at tk gp sp hT
  rw [e_X4_chooseBest_25]
  simp (disch := ((try simp only [kd_sF, kd_sA, gA_sF, gA_sA, gF_sF, gF_sA, List.length_set, reduceIte, and_true, and_false, true_and, false_and, Nat.reduceEqDiff, Int.reduceEq, hs.o78]); first | done | omega)) only [rF_ok, wF_ok, oK_ok, lA_ok, rA_ok, wA_ok, cI_ok, cV_ok, cL_ok, cR_ok, kd_sF, kd_sA, gA_sF, gF_sA, gF_sF, gA_sA, bk_0, bk_1, List.length_set, reduceIte, and_true, and_false, true_and, false_and, ne_eq, not_true_eq_false, not_false_eq_true, Int.toNat_natCast, Int.reduceToNat, Nat.reduceEqDiff, Int.reduceEq, Int.reduceLT, Int.reduceLE, Int.reduceAdd, Int.reduceSub, Int.reduceMul, Int.reduceNeg, hs.o78, c1, Int.ofNat_lt, hi, tk]
  by_cases t1 : cloth < tkS cls mood th n u
  · rw [if_pos t1]
    exact hT s x m hs (FrW.rf _ _) (hB.skip (fun e => by omega))
  rw [if_neg t1]
  simp (disch := ((try simp only [kd_sF, kd_sA, gA_sF, gA_sA, gF_sF, gF_sA, List.length_set, reduceIte, and_true, and_false, true_and, false_and, Nat.reduceEqDiff, Int.reduceEq, hs.o78, k3, f3, k8, l8]); first | done | omega)) only [rF_ok, wF_ok, oK_ok, lA_ok, rA_ok, wA_ok, cI_ok, cV_ok, cL_ok, cR_ok, kd_sF, kd_sA, gA_sF, gF_sA, gF_sF, gA_sA, bk_0, bk_1, List.length_set, reduceIte, and_true, and_false, true_and, false_and, ne_eq, not_true_eq_false, not_false_eq_true, Int.toNat_natCast, Int.reduceToNat, Nat.reduceEqDiff, Int.reduceEq, Int.reduceLT, Int.reduceLE, Int.reduceAdd, Int.reduceSub, Int.reduceMul, Int.reduceNeg, hs.o78, k3, f3, k8, l8, gp, n8]
  by_cases t2 : gpS cls mood th n u < need
  · rw [if_pos t2]
    exact hT s x m hs (FrW.rf _ _) (hB.skip (fun e => by omega))
  rw [if_neg t2]
  refine biV sp fun s1 _ ⟨h1, h2, h3⟩ => ?_
  have l87 : (gA s1 87).length = 12 := h1.2.1 87 (by decide) (by decide)
  have k87 : kd s1 87 = 20 := h1.1 87 (by decide) (by decide)
  have k78 : kd s1 78 = 8 := h1.1 78 (by decide) (by decide)
  have k78' : kd s 78 = 8 := hs.1 78 (by decide) (by decide)
  have f14 : gF s1 78 14 = gF s 78 14 := h2.2.1 78 14 (by rw [k78']; decide) (by decide)
  have ct := c_twistsOf (d := d) (n := n) k87 (by omega) (by omega)
  have cl := c_leanOf (d := d + 1) (n := n) k87 (by omega) (by omega)
  rw [twN_congr h3] at ct
  rw [leanN_congr h3] at cl
  have tb := twN_bd (plN n u) n
  have lb := absI_bd (leanN_bd (plN n u) n)
  have em : wi (twN (plN n u) n - wi (16 * wi (absI (leanN (plN n u) n)))) = mrt n u := by
    rw [wi_sm (x := absI _) (by omega) (by omega), wi_sm (x := 16 * _) (by omega) (by omega)]
    exact wi_sm (by omega) (by omega)
  simp (disch := ((try simp only [kd_sF, kd_sA, gA_sF, gA_sA, gF_sF, gF_sA, List.length_set, reduceIte, and_true, and_false, true_and, false_and, Nat.reduceEqDiff, Int.reduceEq, h1.o78]); first | done | omega)) only [rF_ok, wF_ok, oK_ok, lA_ok, rA_ok, wA_ok, cI_ok, cV_ok, cL_ok, cR_ok, kd_sF, kd_sA, gA_sF, gF_sA, gF_sF, gA_sA, bk_0, bk_1, List.length_set, reduceIte, and_true, and_false, true_and, false_and, ne_eq, not_true_eq_false, not_false_eq_true, Int.toNat_natCast, Int.reduceToNat, Nat.reduceEqDiff, Int.reduceEq, Int.reduceLT, Int.reduceLE, Int.reduceAdd, Int.reduceSub, Int.reduceMul, Int.reduceNeg, h1.o78, ct, cl]
  rw [em]
  have tkn := fun (e : x = -1 ∨ m < mrt n u) => hT (sF s1 78 14 i) n (mrt n u) (h1.sF (by rw [k78]; decide)) (h2.w.tr (FrW.sF (by decide))) (by rw [gF_eq]; exact hB.take hn hi hu (by omega) e)
  by_cases t3 : x = -1
  · rw [if_pos t3]; exact tkn (Or.inl t3)
  · rw [if_neg t3]
    by_cases t4 : m < mrt n u
    · rw [if_pos t4]; exact tkn (Or.inr t4)
    · rw [if_neg t4]
      exact hT s1 x m h1 h2.w (by rw [f14]; exact hB.keep hn.2 (fun e => e.elim t3 t4))
end CBS
