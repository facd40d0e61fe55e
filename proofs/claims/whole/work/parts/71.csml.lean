/-! ===== the class: knot, terms, force, sights, boys, the tape's end ===== -/
section CW
variable {a : Ab} {D : Dr} {v : Int}
theorem wfA_st (W : wfA a) : wfA (setSt a v) := W
theorem wfA_refu (W : wfA a) : wfA (refu a v).2 := W
theorem wfA_dh (W : wfA a) (h : wfDr D) : wfA (setHi (setDr a D) []) := ⟨h, W.2.1, ⟨by simp [setHi], fun x hx => absurd hx (by simp [setHi])⟩, W.2.2.2⟩
theorem wfA_d (W : wfA a) (h : wfDr D) (hk : D.1.length = a.1.1.length) : wfA (setDr a D) := ⟨h, W.2.1, ⟨W.2.2.1.1, fun x hx => ⟨(W.2.2.1.2 x hx).1, (W.2.2.1.2 x hx).2.1.trans hk.symm, (W.2.2.1.2 x hx).2.2⟩⟩, W.2.2.2⟩
theorem wfA_tp {t : List Int} (W : wfA a) (h : t.length ≤ 400 ∧ ∀ b ∈ t, 0 ≤ b ∧ b < 256) : wfA (setTp a t) := ⟨W.1, W.2.1, W.2.2.1, h, W.2.2.2.2⟩
end CW
section CX
variable {s s' : St} {a : Ab} {d : Nat}
theorem DrC.log {v : Int} {dr : Dr} (R : DrC s 3 dr) (hs : ShC (sF s 10 0 v)) : DrC (sF s 10 0 v) 3 dr :=
  R.kns (K' := dr.1) hs (fun _ => rfl) (fun k _ _ => gF_np (by decide)) (fun p k hp _ => gF_np (by omega)) (fun _ _ => rfl) ((gF_np (by decide)).trans R.2.1.1) (fun i hi => (R.2.1.2 i hi).fr ⟨rfl, rfl⟩ (fun j _ => gF_np (by omega)) rfl)
/-- the end of calls that settle: the log is cleared -/
theorem RepC.settle {D : Dr} {P A : List Int} {s1 : St} (R : RepC a s) (W : wfA a) (hs1 : ShC s1) (F : FrK [] P A s s1) (hP : ∀ x ∈ P, x < 98 ∧ x ≠ 30 ∧ x ≠ 89 ∧ x ≠ 90 ∧ x ≠ 78 ∧ x ≠ 75) (hA : ∀ x ∈ A, x < 98 ∧ x ≠ 30 ∧ x ≠ 89 ∧ x ≠ 90 ∧ (x < 79 ∨ 86 < x) ∧ x ≠ 76) (h1 : ∀ k, k < 100 → gF s1 1 k = gF s 1 k) (h2 : (2 : Int) ∉ A ∧ (97 : Int) ∉ A) (hD : DrC s1 3 D) : RepC (setHi (setDr a D) []) (sF s1 10 0 0) ∧ ShC (sF s1 10 0 0) := by
  have hs := R.1
  have k10 : kd s1 10 = 13 := hs1.o10.1
  have hs3 : ShC (sF s1 10 0 0) := hs1.sF (by rw [k10]; decide)
  have F1 : FrK [] (10 :: P) A s s1 := ⟨F.1, fun p k hp h2 h3 => F.2.1 p k (fun hm => hp (List.mem_cons_of_mem _ hm)) h2 h3, F.2.2⟩
  have F' : FrK [] (10 :: P) A s (sF s1 10 0 0) := F1.tr (FrK.sF List.mem_cons_self)
  have hP' : ∀ x ∈ 10 :: P, x < 98 ∧ x ≠ 30 ∧ x ≠ 89 ∧ x ≠ 90 ∧ x ≠ 78 ∧ x ≠ 75 := fun x hx => by
    rcases List.mem_cons.mp hx with e | e
    · rw [e]; decide
    · exact hP x e
  refine ⟨?_, hs3⟩
  obtain ⟨-, -, -, -, ⟨t1, t2⟩, ⟨g1, g2, g3, g4⟩, r7, -, r9⟩ := id R
  have g : ∀ k, k < 100 → gF (sF s1 10 0 0) 1 k = gF s 1 k := fun k hk => (gF_np (by decide)).trans (h1 k hk)
  refine R.up W F' hs3 (by decide) (fun x hx => ?_) (r9.k2 hs.o78.1 F' (by decide) (fun x hx => ⟨(hP' x hx).1, (hP' x hx).2.2.2.2.1⟩) (fun x hx => ⟨(hA x hx).1, (hA x hx).2.2.2.2⟩)) (hD.log hs3) (LgC.nil (gF_eq _ _ _ _)) ⟨(g 1 (by decide)).trans t1, fun i hi => ?_⟩ ⟨(g 12 (by decide)).trans g1, (g 14 (by decide)).trans g2, (g 13 (by decide)).trans g3, (F'.2.1 75 3 (fun hm => (hP' 75 hm).2.2.2.2.2 rfl) List.not_mem_nil (by decide)).trans g4⟩ ?_
  · rcases List.mem_append.mp hx with e | e
    · exact ⟨(hP' x e).1, (hP' x e).2.1, (hP' x e).2.2.1, (hP' x e).2.2.2.1⟩
    · exact ⟨(hA x e).1, (hA x e).2.1, (hA x e).2.2.1, (hA x e).2.2.2.1⟩
  · unfold af; rw [F'.2.2 2 h2.1]; exact t2 i hi
  · unfold RfC; rw [F'.2.2 97 h2.2]; exact r7
theorem cc_knot {st th cl : Int} (R : RepC a s) (W : wfA a) : Gl (GI fun x s' => x = (aKnot a st th cl).1 ∧ RepC (aKnot a st th cl).2 s') (X11_knot (d + 2) s 1 st th cl) := by
  have hs := R.1
  rw [e_X11_knot, c_knotCanBe, cI_ok]
  unfold aKnot
  by_cases h : (0 ≤ st ∧ st ≤ 1) ∧ (1 ≤ th ∧ th ≤ 9) ∧ (1 ≤ cl ∧ cl ≤ 200)
  · rw [if_pos h, if_pos h, if_neg (show ¬ ((1 : Int) = 0) by decide)]
    by_cases hl : a.1.1.length < 8
    · rw [if_pos hl]
      obtain ⟨s1, e1, e2, e3, e4, e5⟩ := c_addKnot1 (d := d) (st := st) (th := th) (cl := cl) hs R.2.1 hl
      have f1 : gF s1 3 1 = ((a.1.1 ++ [(st, th, cl, 0, [])]).length : Int) := e5.2.1.1
      rw [List.length_append] at f1
      simp (disch := ((try simp only [kd_sF, kd_sA, gA_sF, gA_sA, gF_sF, gF_sA, List.length_set, reduceIte, and_true, and_false, true_and, false_and, Nat.reduceEqDiff, Int.reduceEq, hs.o1, hs.o3]); first | done | omega)) only [rF_ok, wF_ok, oK_ok, lA_ok, rA_ok, wA_ok, cI_ok, cV_ok, cL_ok, cR_ok, kd_sF, kd_sA, gA_sF, gF_sA, gF_sF, gA_sA, bk_0, bk_1, List.length_set, reduceIte, and_true, and_false, true_and, false_and, ne_eq, not_true_eq_false, not_false_eq_true, Int.toNat_natCast, Int.reduceToNat, Nat.reduceEqDiff, Int.reduceEq, Int.reduceLT, Int.reduceLE, Int.reduceAdd, Int.reduceSub, Int.reduceMul, Int.reduceNeg, hs.o1, hs.o3, e1]
      simp (disch := ((try simp only [kd_sF, kd_sA, gA_sF, gA_sA, gF_sF, gF_sA, List.length_set, reduceIte, and_true, and_false, true_and, false_and, Nat.reduceEqDiff, Int.reduceEq, e2.o1, e2.o3, e2.o10]); first | done | omega)) only [rF_ok, wF_ok, oK_ok, lA_ok, rA_ok, wA_ok, cI_ok, cV_ok, cL_ok, cR_ok, kd_sF, kd_sA, gA_sF, gF_sA, gF_sF, gA_sA, bk_0, bk_1, List.length_set, reduceIte, and_true, and_false, true_and, false_and, ne_eq, not_true_eq_false, not_false_eq_true, Int.toNat_natCast, Int.reduceToNat, Nat.reduceEqDiff, Int.reduceEq, Int.reduceLT, Int.reduceLE, Int.reduceAdd, Int.reduceSub, Int.reduceMul, Int.reduceNeg, e2.o1, e2.o3, e2.o10]
      rw [e_X9_clear]
      obtain ⟨R3, hs3⟩ := R.settle W e2 e3 (by decide) (by decide) (fun k _ => e4 1 k (Or.inl rfl)) (by decide) e5
      simp (disch := ((try simp only [kd_sF, kd_sA, gA_sF, gA_sA, gF_sF, gF_sA, List.length_set, reduceIte, and_true, and_false, true_and, false_and, Nat.reduceEqDiff, Int.reduceEq, hs3.o1, hs3.o3, e2.o1, e2.o3, e2.o10]); first | done | omega)) only [rF_ok, wF_ok, oK_ok, lA_ok, rA_ok, wA_ok, cI_ok, cV_ok, cL_ok, cR_ok, kd_sF, kd_sA, gA_sF, gF_sA, gF_sF, gA_sA, bk_0, bk_1, List.length_set, reduceIte, and_true, and_false, true_and, false_and, ne_eq, not_true_eq_false, not_false_eq_true, Int.toNat_natCast, Int.reduceToNat, Nat.reduceEqDiff, Int.reduceEq, Int.reduceLT, Int.reduceLE, Int.reduceAdd, Int.reduceSub, Int.reduceMul, Int.reduceNeg, hs3.o1, hs3.o3, e2.o1, e2.o3, e2.o10, f1]
      rw [show wi ((((a.1.1.length + [(st, th, cl, (0 : Int), ([] : List Int))].length : Nat) : Int)) - 1) = (a.1.1.length : Int) by simp only [List.length_cons, List.length_nil]; rw [wi_sm (by omega) (by omega)]; omega]
      exact cc_grant R3 (wfA_dh W ⟨wfKns_app W.1.1 hl (wfKn_new h), W.1.2⟩) fun _ _ => rfl
    · rw [if_neg hl]
      simp (disch := ((try simp only [kd_sF, kd_sA, gA_sF, gA_sA, gF_sF, gF_sA, List.length_set, reduceIte, and_true, and_false, true_and, false_and, Nat.reduceEqDiff, Int.reduceEq, hs.o1, hs.o3]); first | done | omega)) only [rF_ok, wF_ok, oK_ok, lA_ok, rA_ok, wA_ok, cI_ok, cV_ok, cL_ok, cR_ok, kd_sF, kd_sA, gA_sF, gF_sA, gF_sF, gA_sA, bk_0, bk_1, List.length_set, reduceIte, and_true, and_false, true_and, false_and, ne_eq, not_true_eq_false, not_false_eq_true, Int.toNat_natCast, Int.reduceToNat, Nat.reduceEqDiff, Int.reduceEq, Int.reduceLT, Int.reduceLE, Int.reduceAdd, Int.reduceSub, Int.reduceMul, Int.reduceNeg, hs.o1, hs.o3, c_addKnot0 (d := d) (st := st) (th := th) (cl := cl) hs R.2.1 hl]
      exact cc_ref (by decide) R W fun _ _ => rfl
  · rw [if_neg h, if_neg h, if_pos rfl]
    simp (disch := ((try simp only [kd_sF, kd_sA, gA_sF, gA_sA, gF_sF, gF_sA, List.length_set, reduceIte, and_true, and_false, true_and, false_and, Nat.reduceEqDiff, Int.reduceEq, hs.o1]); first | done | omega)) only [rF_ok, wF_ok, oK_ok, lA_ok, rA_ok, wA_ok, cI_ok, cV_ok, cL_ok, cR_ok, kd_sF, kd_sA, gA_sF, gF_sA, gF_sF, gA_sA, bk_0, bk_1, List.length_set, reduceIte, and_true, and_false, true_and, false_and, ne_eq, not_true_eq_false, not_false_eq_true, Int.toNat_natCast, Int.reduceToNat, Nat.reduceEqDiff, Int.reduceEq, Int.reduceLT, Int.reduceLE, Int.reduceAdd, Int.reduceSub, Int.reduceMul, Int.reduceNeg, hs.o1]
    exact cc_ref (by decide) R W fun _ _ => rfl
end CX
