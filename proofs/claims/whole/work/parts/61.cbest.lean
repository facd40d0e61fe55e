/-! ===== the class's paper: the best word, one length more ===== -/
section CBT
variable {cls : List Cl} {mood th need cloth : Int} {n d : Nat} {s : St}
theorem c_bestn {T : Res → Prop} {a : BA} {x m : Int} (hs : ShC s) (hn : 3 ≤ n ∧ n ≤ 12) (Wd : WdC cls mood th n s) (k3 : kd s 3 = 4) (f3 : gF s 3 7 = 8) (k8 : kd s 8 = 20) (l8 : (gA s 8).length = 3) (n8 : (gA s 8).getD 1 0 = need) (hB : BsR cls mood th a x m (gF s 78 14)) (hT : ∀ s' x' m', ShC s' → FrW [87] s s' → BsR cls mood th ((prW cls mood th n).foldl (bstep cls mood th need cloth n) a) x' m' (gF s' 78 14) → Gl T (X4_chooseBest_8 (d + 2) s' 78 3 cloth x' m' (wi ((n : Int) + 1)))) : Gl T (X4_chooseBest_25 (d + 2) s 78 3 cloth x m n 0) := by
  have hb := SLn_bd n (by omega) hn.1
  have hlen := Wd.1
  refine lpG (fun i (b : St × Int × Int) => X4_chooseBest_25 (d + 2) b.1 78 3 cloth b.2.1 b.2.2 n i) (fun i b => ShC b.1 ∧ FrW [87] s b.1 ∧ BsR cls mood th (((prW cls mood th n).take i).foldl (bstep cls mood th need cloth n) a) b.2.1 b.2.2 (gF b.1 78 14)) (prW cls mood th n).length ?_ ?_ 0 (s, x, m) (by omega) ⟨hs, FrW.rf _ _, hB⟩
  · intro T i ⟨s1, x1, m1⟩ hi ⟨i1, i2, i3⟩ hT1
    dsimp only at i1 i2 i3 ⊢
    have g8 : gA s1 8 = gA s 8 := i2.2.2 8 (by decide)
    refine c_best25 (need := need) i1 hn (FrW.wd Wd i2 (by decide)) hi (by rw [i2.1]; exact k3) (by rw [i2.2.1 3 7 (by rw [k3]; decide) (by decide) (by decide)]; exact f3) (by rw [i2.1]; exact k8) (by rw [g8]; exact l8) (by rw [g8]; exact n8) i3 fun s' x' m' j1 j2 j3 => ?_
    rw [wi_sm (by omega) (by omega)]
    refine hT1 (s', x', m') ⟨j1, i2.tr j2, ?_⟩
    dsimp only
    rw [getD_take_s hi, List.foldl_append]
    exact j3
  · intro ⟨s1, x1, m1⟩ ⟨i1, i2, i3⟩
    dsimp only at i1 i2 i3 ⊢
    have l83 : (gA s1 83).length = 13 := i1.2.1 83 (by decide) (by decide)
    have c1 := (FrW.wd Wd i2 (by decide)).2.1
    rw [List.take_length] at i3
    rw [e_X4_chooseBest_25]
    simp (disch := ((try simp only [kd_sF, kd_sA, gA_sF, gA_sA, gF_sF, gF_sA, List.length_set, reduceIte, and_true, and_false, true_and, false_and, Nat.reduceEqDiff, Int.reduceEq, i1.o78]); first | done | omega)) only [rF_ok, wF_ok, oK_ok, lA_ok, rA_ok, wA_ok, cI_ok, cV_ok, cL_ok, cR_ok, kd_sF, kd_sA, gA_sF, gF_sA, gF_sF, gA_sA, bk_0, bk_1, List.length_set, reduceIte, and_true, and_false, true_and, false_and, ne_eq, not_true_eq_false, not_false_eq_true, Int.toNat_natCast, Int.reduceToNat, Nat.reduceEqDiff, Int.reduceEq, Int.reduceLT, Int.reduceLE, Int.reduceAdd, Int.reduceSub, Int.reduceMul, Int.reduceNeg, i1.o78, c1, Int.lt_irrefl]
    exact hT s1 x1 m1 i1 i2 i3
end CBT
