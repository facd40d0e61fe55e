/-! ===== the class: terms ===== -/
section CZ
variable {s s' s1 : St} {a : Ab} {d : Nat} {dr : Dr}
theorem c_terms38 {what v lo hi : Int} (hw : what = 0 ∨ what = 1 ∨ what = 2) (hlo : lo = if what = 2 then 1 else 0) (hhi : hi = if what = 1 then 99 else 9) (R : RepC a s) (W : wfA a) : Gl (GI fun x s' => x = (aTerms a what v).1 ∧ RepC (aTerms a what v).2 s') (X11_terms_38 (d + 1) s 1 what v lo hi) := by
  have hs := R.1
  have k8 : kd s 8 = 20 := hs.1 8 (by decide) (by decide)
  have l8 : (gA s 8).length = 3 := hs.2.1 8 (by decide) (by decide)
  obtain ⟨-, ⟨k1, k2⟩, ⟨b1, b2⟩, ⟨s1, s2⟩, t1, ⟨l1, l2⟩, f1⟩ := id R.2.1
  have t1' : gA s 8 = [moodD a.1, needD a.1, thickD a.1] := t1
  rw [e_X11_terms_38]
  unfold aTerms
  rw [← hlo, ← hhi]
  by_cases h1 : v < lo
  · rw [if_pos h1, if_neg (by omega)]
    simp (disch := ((try simp only [kd_sF, kd_sA, gA_sF, gA_sA, gF_sF, gF_sA, List.length_set, reduceIte, and_true, and_false, true_and, false_and, Nat.reduceEqDiff, Int.reduceEq, hs.o1]); first | done | omega)) only [rF_ok, wF_ok, oK_ok, lA_ok, rA_ok, wA_ok, cI_ok, cV_ok, cL_ok, cR_ok, kd_sF, kd_sA, gA_sF, gF_sA, gF_sF, gA_sA, bk_0, bk_1, List.length_set, reduceIte, and_true, and_false, true_and, false_and, ne_eq, not_true_eq_false, not_false_eq_true, Int.toNat_natCast, Int.reduceToNat, Nat.reduceEqDiff, Int.reduceEq, Int.reduceLT, Int.reduceLE, Int.reduceAdd, Int.reduceSub, Int.reduceMul, Int.reduceNeg, hs.o1]
    exact cc_ref (by decide) R W fun _ _ => rfl
  rw [if_neg h1]
  by_cases h2 : hi < v
  · rw [if_pos h2, if_neg (by omega)]
    simp (disch := ((try simp only [kd_sF, kd_sA, gA_sF, gA_sA, gF_sF, gF_sA, List.length_set, reduceIte, and_true, and_false, true_and, false_and, Nat.reduceEqDiff, Int.reduceEq, hs.o1]); first | done | omega)) only [rF_ok, wF_ok, oK_ok, lA_ok, rA_ok, wA_ok, cI_ok, cV_ok, cL_ok, cR_ok, kd_sF, kd_sA, gA_sF, gF_sA, gF_sF, gA_sA, bk_0, bk_1, List.length_set, reduceIte, and_true, and_false, true_and, false_and, ne_eq, not_true_eq_false, not_false_eq_true, Int.toNat_natCast, Int.reduceToNat, Nat.reduceEqDiff, Int.reduceEq, Int.reduceLT, Int.reduceLE, Int.reduceAdd, Int.reduceSub, Int.reduceMul, Int.reduceNeg, hs.o1]
    exact cc_ref (by decide) R W fun _ _ => rfl
  rw [if_neg h2, if_pos (by omega)]
  simp (disch := ((try simp only [kd_sF, kd_sA, gA_sF, gA_sA, gF_sF, gF_sA, List.length_set, reduceIte, and_true, and_false, true_and, false_and, Nat.reduceEqDiff, Int.reduceEq, hs.o1, hs.o3, hs.o10]); first | done | omega)) only [rF_ok, wF_ok, oK_ok, lA_ok, rA_ok, wA_ok, cI_ok, cV_ok, cL_ok, cR_ok, kd_sF, kd_sA, gA_sF, gF_sA, gF_sF, gA_sA, bk_0, bk_1, List.length_set, reduceIte, and_true, and_false, true_and, false_and, ne_eq, not_true_eq_false, not_false_eq_true, Int.toNat_natCast, Int.reduceToNat, Nat.reduceEqDiff, Int.reduceEq, Int.reduceLT, Int.reduceLE, Int.reduceAdd, Int.reduceSub, Int.reduceMul, Int.reduceNeg, hs.o1, hs.o3, hs.o10]
  have hs2 : ShC (sA s 8 ((gA s 8).set what.toNat v)) := hs.sA (by rw [List.length_set]) (by rw [k8]; decide)
  have e1 : (gA s 8).set what.toNat v = [(setTm a.1.2.2.2.1 what v).1, (setTm a.1.2.2.2.1 what v).2.1, (setTm a.1.2.2.2.1 what v).2.2] := by
    rw [t1']
    rcases hw with rfl | rfl | rfl <;> rfl
  have e2 : (gA s 8).getD what.toNat 0 = getTm a.1.2.2.2.1 what := by
    rw [t1']
    rcases hw with rfl | rfl | rfl <;> rfl
  have D2 : DrC (sA s 8 ((gA s 8).set what.toNat v)) 3 (a.1.1, a.1.2.1, a.1.2.2.1, setTm a.1.2.2.2.1 what v, a.1.2.2.2.2) := by
    refine R.2.1.re hs2 (fun _ => rfl) (fun _ _ _ _ => rfl) (fun x hx => gA_ne (by omega)) rfl rfl ⟨b1, fun i hi => ?_⟩ ⟨s1, fun i hi => ?_⟩ ((gA_eq _ _ _).trans e1) f1
    · unfold af; rw [gA_ne (by decide)]; exact b2 i hi
    · unfold af; rw [gA_ne (by decide), gA_ne (by decide)]; exact s2 i hi
  have wf : wfDr (a.1.1, a.1.2.1, a.1.2.2.1, setTm a.1.2.2.2.1 what v, a.1.2.2.2.2) := by
    refine ⟨W.1.1, W.1.2.1, W.1.2.2.1, ?_, W.1.2.2.2.2⟩
    have w := W.1.2.2.2.1
    unfold moodD needD thickD at w ⊢
    dsimp only
    unfold setTm
    rcases hw with rfl | rfl | rfl
    · rw [if_pos rfl]; simp at hlo hhi; dsimp only; omega
    · rw [if_neg (by decide), if_pos rfl]; simp at hlo hhi; dsimp only; omega
    · rw [if_neg (by decide), if_neg (by decide)]; simp at hlo hhi; dsimp only; omega
  obtain ⟨R3, hs3⟩ := R.settle W hs2 (FrK.sA (P := []) (A := [8]) _ (by decide)) (by decide) (by decide) (fun _ _ => rfl) (by decide) D2
  rw [e_X9_clear, e2]
  simp (disch := ((try simp only [kd_sF, kd_sA, gA_sF, gA_sA, gF_sF, gF_sA, List.length_set, reduceIte, and_true, and_false, true_and, false_and, Nat.reduceEqDiff, Int.reduceEq, hs.o1, hs.o10]); first | done | omega)) only [rF_ok, wF_ok, oK_ok, lA_ok, rA_ok, wA_ok, cI_ok, cV_ok, cL_ok, cR_ok, kd_sF, kd_sA, gA_sF, gF_sA, gF_sF, gA_sA, bk_0, bk_1, List.length_set, reduceIte, and_true, and_false, true_and, false_and, ne_eq, not_true_eq_false, not_false_eq_true, Int.toNat_natCast, Int.reduceToNat, Nat.reduceEqDiff, Int.reduceEq, Int.reduceLT, Int.reduceLE, Int.reduceAdd, Int.reduceSub, Int.reduceMul, Int.reduceNeg, hs.o1, hs.o10]
  exact cc_grant R3 (wfA_dh W wf) fun _ _ => rfl
theorem cc_terms {what v : Int} (R : RepC a s) (W : wfA a) : Gl (GI fun x s' => x = (aTerms a what v).1 ∧ RepC (aTerms a what v).2 s') (X11_terms (d + 1) s 1 what v) := by
  have hs := R.1
  have no : ¬ (0 ≤ what ∧ what ≤ 2) → Gl (GI fun x s' => x = (aTerms a what v).1 ∧ RepC (aTerms a what v).2 s') (cI (X11_refused d s 1 (-1)) fun x1 s1 => some ([(0, x1)], s1)) := by
    intro h
    unfold aTerms
    rw [if_neg (fun e => h e.1)]
    exact cc_ref (by decide) R W fun _ _ => rfl
  rw [e_X11_terms]
  simp (disch := ((try simp only [kd_sF, kd_sA, gA_sF, gA_sA, gF_sF, gF_sA, List.length_set, reduceIte, and_true, and_false, true_and, false_and, Nat.reduceEqDiff, Int.reduceEq, hs.o1]); first | done | omega)) only [rF_ok, wF_ok, oK_ok, lA_ok, rA_ok, wA_ok, cI_ok, cV_ok, cL_ok, cR_ok, kd_sF, kd_sA, gA_sF, gF_sA, gF_sF, gA_sA, bk_0, bk_1, List.length_set, reduceIte, and_true, and_false, true_and, false_and, ne_eq, not_true_eq_false, not_false_eq_true, Int.toNat_natCast, Int.reduceToNat, Nat.reduceEqDiff, Int.reduceEq, Int.reduceLT, Int.reduceLE, Int.reduceAdd, Int.reduceSub, Int.reduceMul, Int.reduceNeg, hs.o1]
  by_cases h1 : what < 0
  · rw [if_pos h1]; exact no (by omega)
  rw [if_neg h1]
  by_cases h2 : 2 < what
  · rw [if_pos h2]; exact no (by omega)
  rw [if_neg h2]
  have hw : what = 0 ∨ what = 1 ∨ what = 2 := by omega
  rcases hw with rfl | rfl | rfl
  · exact c_terms38 (Or.inl rfl) rfl rfl R W
  · exact c_terms38 (Or.inr (Or.inl rfl)) rfl rfl R W
  · exact c_terms38 (Or.inr (Or.inr rfl)) rfl rfl R W
end CZ
