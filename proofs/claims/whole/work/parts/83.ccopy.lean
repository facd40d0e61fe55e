/-! ===== the class: a drawer is copied whole ===== -/
section CCQ
variable {s s' s0 : St} {D E : Int} {d : Nat} {dr : Dr}
theorem ScR.dis {l : Int} {cls : List Cl} (h : ScR s l cls) (hD : ShD s D) (p : Int) (h1 : l ≤ p) (h2 : p ≤ l + 8) : ¬ (D ≤ p ∧ p ≤ D + 26) := by
  intro ⟨a1, a2⟩
  obtain ⟨⟨n, m, hsc, -⟩, -⟩ := h
  by_cases e : D ≤ l
  · have := hD.kin l e (by omega)
    rw [hsc.1] at this
    revert this
    decide
  · have := hsc.2.2.1 (D - l) (by omega) (by omega)
    rw [show l + (D - l) = D by omega, hD.1] at this
    revert this
    decide
theorem ScR.cp {l : Int} {cls : List Cl} (h : ScR s l cls) (hD : ShD s D) (C : CpF D s s') : ScR s' l cls :=
  h.fr (fun p _ _ => C.1 p) (fun k _ => (C.2 l (h.dis hD l (by omega) (by omega))).1 k) (fun p q1 q2 => (C.2 p (h.dis hD p q1 q2)).2)
/-- the log was copied -/
def LgK (D E : Int) (s s' : St) : Prop := gF s' (D + 7) 0 = gF s (E + 7) 0 ∧ gA s' (D + 8) = gA s (E + 8) ∧ gA s' (D + 9) = gA s (E + 9) ∧ gA s' (D + 10) = gA s (E + 10)
theorem LgK.c {H : Hi} {K : List Kn} (h : LgK D E s s') (L : LgC s (E + 7) H K) : LgC s' (D + 7) H K := by
  refine ⟨h.1.trans L.1, fun i hi => ?_⟩
  have := L.2 i hi
  unfold af at this ⊢
  rw [show D + 7 + 1 = D + 8 by omega, show D + 7 + 2 = D + 9 by omega, show D + 7 + 3 = D + 10 by omega, h.2.1, h.2.2.1, h.2.2.2]
  rw [show E + 7 + 1 = E + 8 by omega, show E + 7 + 2 = E + 9 by omega, show E + 7 + 3 = E + 10 by omega] at this
  exact this
theorem c_cpLog (hD : ShD s D) (hE : ShD s E) (hne : D + 26 < E ∨ E + 26 < D) : ∃ s', X9_copyFrom d s (D + 7) (E + 7) = some ([], s') ∧ s' = sA (sA (sA (sF s (D + 7) 0 (gF s (E + 7) 0)) (D + 8) (gA s (E + 8))) (D + 9) (gA s (E + 9))) (D + 10) (gA s (E + 10)) := by
  obtain ⟨-, -, -, -, -, -, -, -, ⟨a1, a2, a3, a4⟩, a5, -⟩ := hD
  obtain ⟨-, -, -, -, -, -, -, -, ⟨b1, b2, b3, b4⟩, b5, -⟩ := hE
  obtain ⟨a8, l8⟩ := a5 8 (by decide) (by decide)
  obtain ⟨a9, l9⟩ := a5 9 (by decide) (by decide)
  obtain ⟨a10, l10⟩ := a5 10 (by decide) (by decide)
  obtain ⟨b8, m8⟩ := b5 8 (by decide) (by decide)
  obtain ⟨b9, m9⟩ := b5 9 (by decide) (by decide)
  obtain ⟨b10, m10⟩ := b5 10 (by decide) (by decide)
  have n1 : ¬ (E + 7 = D + 7) := by omega
  have n2 : ¬ (E + 9 = D + 8) := by omega
  have n3 : ¬ (D + 9 = D + 8) := by omega
  have n4 : ¬ (E + 10 = D + 9) := by omega
  have n5 : ¬ (E + 10 = D + 8) := by omega
  have n6 : ¬ (D + 10 = D + 9) := by omega
  have n7 : ¬ (D + 10 = D + 8) := by omega
  refine ⟨_, ?_, rfl⟩
  rw [e_X9_copyFrom]
  simp (disch := ((try simp only [kd_sF, kd_sA, gA_sF, gA_sA, gF_sF, gF_sA, reduceIte, and_true, and_false, true_and, false_and, Nat.reduceEqDiff, Int.reduceEq, a1, a2, a3, a4, b1, b2, b3, b4, a8, a9, a10, b8, b9, b10, l8, l9, l10, m8, m9, m10, n1, n2, n3, n4, n5, n6, n7]); first | done | omega)) only [rF_ok, wF_ok, aC_ok, kd_sF, kd_sA, gA_sF, gF_sA, gF_sF, gA_sA, reduceIte, and_true, and_false, true_and, false_and, Int.reduceToNat, Nat.reduceEqDiff, Int.reduceEq, Int.reduceLT, Int.reduceLE, Int.reduceAdd, a1, a2, a3, a4, b1, b2, b3, b4, n1, n2, n3, n4, n5, n6, n7]
  rw [cpL_all m8 l8, cpL_all m9 l9, cpL_all m10 l10]
theorem c_cp124 {T : Res → Prop} (hS : ShD s D) (C : CpF D s0 s) (hS0 : ShD s0 D) (R : DrC s0 E dr) (W : wfDr dr) (hne : D + 26 < E ∨ E + 26 < D) (hc : gF s D 9 = dr.2.2.2.2.1.length) (hT : ∀ s1, CpF D s0 s1 → ShD s1 D → (∀ p k, gF s1 p k = gF s p k) → (∀ x, x ≠ D + 6 → gA s1 x = gA s x) → (∀ j, j < dr.2.2.2.2.1.length → af s1 (D + 6) j = af s0 (E + 6) j) → Gl T (X0_copyFrom_124 (d + 1) s1 D E dr.2.2.2.2.1.length)) : Gl T (X0_copyFrom_124 (d + 1) s D E 0) := by
  have h6 := W.2.2.2.2.1.1
  refine lpG (fun i s1 => X0_copyFrom_124 (d + 1) s1 D E i) (fun i s1 => CpF D s0 s1 ∧ ShD s1 D ∧ (∀ p k, gF s1 p k = gF s p k) ∧ (∀ x, x ≠ D + 6 → gA s1 x = gA s x) ∧ ∀ j, j < i → af s1 (D + 6) j = af s0 (E + 6) j) dr.2.2.2.2.1.length ?_ ?_ 0 s (by omega) ⟨C, hS, fun _ _ => rfl, fun _ _ => rfl, fun j hj => by omega⟩
  · intro T i s1 hi ⟨i1, i2, i3, i4, i5⟩ hT1
    have kD : kd s1 D = 4 := i2.1
    have kE : kd s1 E = 4 := (i1.1 E).trans R.1.1
    have f8 : gF s1 D 8 = D + 6 := i2.2.1.2.2.2.2.2.1
    have e8 : gF s1 E 8 = E + 6 := ((i1.2 E (by omega)).1 8).trans R.1.2.1.2.2.2.2.2.1
    obtain ⟨kD6, lD6⟩ := i2.2.2.2.2.2.2.2.1
    obtain ⟨kE6, lE6⟩ := R.1.2.2.2.2.2.2.2.1
    rw [← i1.1] at kE6
    rw [← (i1.2 (E + 6) (by omega)).2] at lE6
    have f9 : gF s1 D 9 = dr.2.2.2.2.1.length := (i3 D 9).trans hc
    obtain ⟨g1, g2⟩ := R.2.2.2.2.2.1.2 i hi
    have aE : (gA s1 (E + 6)).getD i 0 = af s0 (E + 6) i := by rw [(i1.2 (E + 6) (by omega)).2]; rfl
    have k11 : kd s1 (af s0 (E + 6) i) = 11 := by
      rw [i1.1]
      obtain ⟨⟨n, m, hsc, -⟩, -⟩ := g2
      exact hsc.1
    rw [e_X0_copyFrom_124]
    simp (disch := ((try simp only [kd_sF, kd_sA, gA_sF, gA_sA, gF_sF, gF_sA, List.length_set, reduceIte, and_true, and_false, true_and, false_and, Nat.reduceEqDiff, Int.reduceEq, kD, kE, f8, e8, kD6, lD6, kE6, lE6]); first | done | omega)) only [rF_ok, wF_ok, oK_ok, lA_ok, rA_ok, wA_ok, cI_ok, cV_ok, cL_ok, cR_ok, kd_sF, kd_sA, gA_sF, gF_sA, gF_sF, gA_sA, bk_0, bk_1, List.length_set, reduceIte, and_true, and_false, true_and, false_and, ne_eq, not_true_eq_false, not_false_eq_true, Int.toNat_natCast, Int.reduceToNat, Nat.reduceEqDiff, Int.reduceEq, Int.reduceLT, Int.reduceLE, Int.reduceAdd, Int.reduceSub, Int.reduceMul, Int.reduceNeg, kD, kE, f8, e8, kD6, lD6, kE6, lE6, f9, Int.ofNat_lt, hi, aE, rk_ok, k11, wi_sm]
    refine hT1 _ ⟨i1.tr (CpF.sA (by omega)), i2.wA (by omega) (by rw [List.length_set]), fun p k => i3 p k, fun x hx => by rw [gA_ne hx]; exact i4 x hx, fun j hj => ?_⟩
    unfold af
    rw [gA_eq, setD_getD (by omega)]
    by_cases e : i = j
    · rw [if_pos e, ← e]
    · rw [if_neg e]; exact i5 j (by omega)
  · intro s1 ⟨i1, i2, i3, i4, i5⟩
    exact hT s1 i1 i2 i3 i4 i5
set_option maxHeartbeats 4000000 in
theorem c_cpE {X : St} (hS : ShD s D) (R : DrC s E dr) (W : wfDr dr) (hne : D + 26 < E ∨ E + 26 < D) (CX : CpF D s X) (SX : ShD X D) (X1 : gF X D 1 = dr.1.length) (X3 : gF X D 3 = dr.2.1.length) (X6 : gF X D 6 = dr.2.2.1.length) (X9 : gF X D 9 = dr.2.2.2.2.1.length) (A2 : gA X (D + 2) = gA s (E + 2)) (A3 : gA X (D + 3) = gA s (E + 3)) (A4 : gA X (D + 4) = gA s (E + 4)) (A5 : gA X (D + 5) = gA s (E + 5)) (KX : ∀ j, j < dr.1.length → KnC X (D + 11 + 2 * (j : Int)) (dr.1.getD j k0)) : Gl (GV fun s' => CpF D s s' ∧ DrC s' D dr ∧ LgK D E s s') (X0_copyFrom_124 (d + 1) X D E 0) := by
  have kE : kd s E = 4 := R.1.1
  have h8 := W.1.1
  obtain ⟨-, ⟨c1, c2⟩, ⟨b1, b2⟩, ⟨s1, s2⟩, t1, ⟨l1, l2⟩, f1⟩ := id R
  have nDE : ¬ (E = D) := by omega
  have g11 : gF s E 11 = E + 7 := R.1.2.1.2.2.2.2.2.2
  refine c_cp124 (d := d) SX CX hS R W hne X9 fun s4 q1 q2 q3 q4 q5 => ?_
  have kD4' : kd s4 D = 4 := q2.1
  have kE4' : kd s4 E = 4 := (q1.1 E).trans kE
  have x9 : gF s4 D 9 = dr.2.2.2.2.1.length := (q3 D 9).trans X9
  have x10 : gF s4 E 10 = dr.2.2.2.2.2 := ((q1.2 E (by omega)).1 10).trans f1
  have d11' : gF s4 D 11 = D + 7 := q2.2.1.2.2.2.2.2.2
  have g11' : gF s4 E 11 = E + 7 := ((q1.2 E (by omega)).1 11).trans g11
  have k7 : kd s4 (D + 7) = 13 := q2.2.2.2.2.2.2.2.2.1.1
  have S5 : ShD (sF s4 D 10 dr.2.2.2.2.2) D := q2.wF (by omega)
  have C5 : CpF D s (sF s4 D 10 dr.2.2.2.2.2) := q1.tr (CpF.sF (by omega))
  have SE5 : ShD (sF s4 D 10 dr.2.2.2.2.2) E := R.1.fr (fun p _ _ => C5.1 p) (fun p j h1 h2 _ => (C5.2 p (by omega)).1 j) (C5.2 _ (by omega)).2 (fun p h1 h2 => by rw [(C5.2 p (by omega)).2])
  obtain ⟨s6, y1, y2⟩ := c_cpLog (d := d) S5 SE5 hne
  rw [e_X0_copyFrom_124]
  simp (disch := ((try simp only [kd_sF, kd_sA, gA_sF, gA_sA, gF_sF, gF_sA, List.length_set, reduceIte, and_true, and_false, true_and, false_and, Nat.reduceEqDiff, Int.reduceEq, kD4', kE4', k7]); first | done | omega)) only [rF_ok, wF_ok, oK_ok, lA_ok, rA_ok, wA_ok, cI_ok, cV_ok, cL_ok, cR_ok, kd_sF, kd_sA, gA_sF, gF_sA, gF_sF, gA_sA, bk_0, bk_1, List.length_set, reduceIte, and_true, and_false, true_and, false_and, ne_eq, not_true_eq_false, not_false_eq_true, Int.toNat_natCast, Int.reduceToNat, Nat.reduceEqDiff, Int.reduceEq, Int.reduceLT, Int.reduceLE, Int.reduceAdd, Int.reduceSub, Int.reduceMul, Int.reduceNeg, kD4', kE4', k7, x9, Int.lt_irrefl, x10, d11', g11', nDE, y1]
  have C6 : CpF D s s6 := by
    rw [y2]
    exact C5.tr ((((CpF.sF (by omega)).tr (CpF.sA (by omega))).tr (CpF.sA (by omega))).tr (CpF.sA (by omega)))
  obtain ⟨-, -, -, -, -, -, -, -, -, z5, -⟩ := id S5
  obtain ⟨-, -, -, -, -, -, -, -, -, w5, -⟩ := id SE5
  have S6 : ShD s6 D := by
    rw [y2]
    refine ((S5.wL.wA (by omega) ?_).wA (by omega) ?_).wA (by omega) ?_
    · rw [gA_sF (s := sF s4 D 10 dr.2.2.2.2.2), (w5 8 (by decide) (by decide)).2, (z5 8 (by decide) (by decide)).2]
    · rw [gA_ne (by omega), gA_sF (s := sF s4 D 10 dr.2.2.2.2.2), (w5 9 (by decide) (by decide)).2, (z5 9 (by decide) (by decide)).2]
    · rw [gA_ne (by omega), gA_ne (by omega), gA_sF (s := sF s4 D 10 dr.2.2.2.2.2), (w5 10 (by decide) (by decide)).2, (z5 10 (by decide) (by decide)).2]
  have fD : ∀ k, k ≠ 10 → gF s6 D k = gF X D k := fun k hk => by rw [y2, gF_sA, gF_sA, gF_sA, gF_np (by omega), gF_nk hk]; exact q3 D k
  have fK : ∀ p k, D + 11 ≤ p → gF s6 p k = gF X p k := fun p k hp => by rw [y2, gF_sA, gF_sA, gF_sA, gF_np (by omega), gF_np (by omega)]; exact q3 p k
  have aX : ∀ x, x ≠ D + 6 → x ≠ D + 8 → x ≠ D + 9 → x ≠ D + 10 → gA s6 x = gA X x := fun x h1 h2 h3 h4 => by rw [y2, gA_ne h4, gA_ne h3, gA_ne h2, gA_sF, gA_sF]; exact q4 x h1
  have lE : ∀ p, E ≤ p → p ≤ E + 26 → gA (sF s4 D 10 dr.2.2.2.2.2) p = gA s p ∧ ∀ k, gF (sF s4 D 10 dr.2.2.2.2.2) p k = gF s p k := fun p h1 h2 => ⟨(C5.2 p (by omega)).2, (C5.2 p (by omega)).1⟩
  refine reV ⟨C6, ⟨S6, ⟨(fD 1 (by decide)).trans X1, fun i hi => ?_⟩, ⟨(fD 3 (by decide)).trans X3, fun i hi => ?_⟩, ⟨(fD 6 (by decide)).trans X6, fun i hi => ?_⟩, ?_, ⟨(fD 9 (by decide)).trans X9, fun t ht => ?_⟩, ?_⟩, ?_, ?_, ?_, ?_⟩
  · exact (KX i hi).fr ⟨(C6.1 _).trans (CX.1 _).symm, (C6.1 _).trans (CX.1 _).symm⟩ (fun j _ => fK _ j (by omega)) (aX _ (by omega) (by omega) (by omega) (by omega))
  · unfold af; rw [aX _ (by omega) (by omega) (by omega) (by omega), A2]; exact b2 i hi
  · unfold af; rw [aX _ (by omega) (by omega) (by omega) (by omega), A3, aX _ (by omega) (by omega) (by omega) (by omega), A4]; exact s2 i hi
  · rw [aX _ (by omega) (by omega) (by omega) (by omega), A5]; exact t1
  · have e : af s6 (D + 6) t = af s (E + 6) t := by
      unfold af
      rw [y2, gA_ne (by omega), gA_ne (by omega), gA_ne (by omega), gA_sF, gA_sF]
      exact q5 t ht
    rw [e]
    exact ⟨(l2 t ht).1, (l2 t ht).2.cp hS C6⟩
  · rw [y2, gF_sA, gF_sA, gF_sA, gF_np (by omega), gF_eq]
  · rw [y2, gF_sA, gF_sA, gF_sA, gF_eq, (lE (E + 7) (by omega) (by omega)).2]
  · rw [y2, gA_ne (by omega), gA_ne (by omega), gA_eq, (lE (E + 8) (by omega) (by omega)).1]
  · rw [y2, gA_ne (by omega), gA_eq, (lE (E + 9) (by omega) (by omega)).1]
  · rw [y2, gA_eq, (lE (E + 10) (by omega) (by omega)).1]
set_option maxHeartbeats 4000000 in
theorem c_copyFrom (hS : ShD s D) (R : DrC s E dr) (W : wfDr dr) (hne : D + 26 < E ∨ E + 26 < D) : Gl (GV fun s' => CpF D s s' ∧ DrC s' D dr ∧ LgK D E s s') (X0_copyFrom (d + 1) s D E) := by
  have kD : kd s D = 4 := hS.1
  have kE : kd s E = 4 := R.1.1
  have h8 := W.1.1
  obtain ⟨-, ⟨c1, c2⟩, ⟨b1, b2⟩, ⟨s1, s2⟩, t1, ⟨l1, l2⟩, f1⟩ := id R
  have nDE : ¬ (E = D) := by omega
  rw [e_X0_copyFrom]
  simp (disch := ((try simp only [kd_sF, kd_sA, gA_sF, gA_sA, gF_sF, gF_sA, List.length_set, reduceIte, and_true, and_false, true_and, false_and, Nat.reduceEqDiff, Int.reduceEq, kD, kE]); first | done | omega)) only [rF_ok, wF_ok, oK_ok, lA_ok, rA_ok, wA_ok, cI_ok, cV_ok, cL_ok, cR_ok, kd_sF, kd_sA, gA_sF, gF_sA, gF_sF, gA_sA, bk_0, bk_1, List.length_set, reduceIte, and_true, and_false, true_and, false_and, ne_eq, not_true_eq_false, not_false_eq_true, Int.toNat_natCast, Int.reduceToNat, Nat.reduceEqDiff, Int.reduceEq, Int.reduceLT, Int.reduceLE, Int.reduceAdd, Int.reduceSub, Int.reduceMul, Int.reduceNeg, kD, kE, c1]
  have hS1 : ShD (sF s D 1 dr.1.length) D := hS.wF (by omega)
  have C1 : CpF D s (sF s D 1 dr.1.length) := CpF.sF (by omega)
  have R1 : DrC (sF s D 1 dr.1.length) E dr := by
    refine ⟨R.1.fr (fun _ _ _ => rfl) (fun p j h1 h2 _ => gF_np (by omega)) rfl (fun _ _ _ => rfl), ⟨(gF_np nDE).trans c1, fun i hi => (c2 i hi).fr ⟨rfl, rfl⟩ (fun j _ => gF_np (by omega)) rfl⟩, ⟨(gF_np nDE).trans b1, b2⟩, ⟨(gF_np nDE).trans s1, s2⟩, t1, ⟨(gF_np nDE).trans l1, fun t ht => ⟨(l2 t ht).1, (l2 t ht).2.cp hS C1⟩⟩, (gF_np nDE).trans f1⟩
  refine c_cp10 (d := d) hS1 R1 W hne (gF_eq _ _ _ _) fun s3 i1 i2 i3 i4 => ?_
  have C3 := C1.tr i1
  have e1 : gF s3 D 1 = dr.1.length := (i3 1).trans (gF_eq _ _ _ _)
  have eE : ∀ p, E ≤ p → p ≤ E + 26 → (∀ k, gF s3 p k = gF s p k) ∧ gA s3 p = gA s p := fun p h1 h2 => C3.2 p (by omega)
  have fE : ∀ k, gF s3 E k = gF s E k := (eE E (by omega) (by omega)).1
  have kD3 : kd s3 D = 4 := i2.1
  have kE3 : kd s3 E = 4 := (C3.1 E).trans kE
  obtain ⟨-, ⟨d0, d2, d4, d5, d7, d8, d11⟩, -, ⟨kD2, lD2⟩, ⟨kD3', lD3⟩, ⟨kD4, lD4⟩, ⟨kD5, lD5⟩, -, -, -, -⟩ := id i2
  obtain ⟨-, ⟨g0, g2, g4, g5, g7, g8, g11⟩, -, ⟨kE2, lE2⟩, ⟨kE3', lE3⟩, ⟨kE4, lE4⟩, ⟨kE5, lE5⟩, -, -, -, -⟩ := id R.1
  rw [← fE] at g2 g4 g5 g7
  rw [← C3.1] at kE2 kE3' kE4 kE5
  rw [← (eE (E + 2) (by omega) (by omega)).2] at lE2
  rw [← (eE (E + 3) (by omega) (by omega)).2] at lE3
  rw [← (eE (E + 4) (by omega) (by omega)).2] at lE4
  rw [← (eE (E + 5) (by omega) (by omega)).2] at lE5
  rw [← fE] at b1 s1 l1 f1
  have n1 : ¬ (E + 3 = D + 2) := by omega
  have n2 : ¬ (D + 3 = D + 2) := by omega
  have n3 : ¬ (E + 4 = D + 3) := by omega
  have n4 : ¬ (E + 4 = D + 2) := by omega
  have n5 : ¬ (D + 4 = D + 3) := by omega
  have n6 : ¬ (D + 4 = D + 2) := by omega
  have n7 : ¬ (E + 5 = D + 4) := by omega
  have n8 : ¬ (E + 5 = D + 3) := by omega
  have n9 : ¬ (E + 5 = D + 2) := by omega
  have n10 : ¬ (D + 5 = D + 4) := by omega
  have n11 : ¬ (D + 5 = D + 3) := by omega
  have n12 : ¬ (D + 5 = D + 2) := by omega
  rw [e_X0_copyFrom_10]
  simp (disch := ((try simp only [kd_sF, kd_sA, gA_sF, gA_sA, gF_sF, gF_sA, reduceIte, and_true, and_false, true_and, false_and, Nat.reduceEqDiff, Int.reduceEq, kD3, kE3, d2, d4, d5, d7, g2, g4, g5, g7, kD2, lD2, kD3', lD3, kD4, lD4, kD5, lD5, kE2, lE2, kE3', lE3, kE4, lE4, kE5, lE5, nDE, n1, n2, n3, n4, n5, n6, n7, n8, n9, n10, n11, n12]); first | done | omega)) only [rF_ok, wF_ok, aC_ok, kd_sF, kd_sA, gA_sF, gF_sA, gF_sF, gA_sA, reduceIte, and_true, and_false, true_and, false_and, Int.reduceToNat, Nat.reduceEqDiff, Int.reduceEq, Int.reduceLT, Int.reduceLE, Int.reduceAdd, kD3, kE3, d2, d4, d5, d7, g2, g4, g5, g7, nDE, n1, n2, n3, n4, n5, n6, n7, n8, n9, n10, n11, n12, e1, Int.lt_irrefl, b1, s1, l1]
  rw [cpL_all lE2 lD2, cpL_all lE3 lD3, cpL_all lE4 lD4, cpL_all lE5 lD5]
  generalize hX : sF (sA (sA (sA (sF (sA (sF s3 D 3 dr.2.1.length) (D + 2) (gA s3 (E + 2))) D 6 dr.2.2.1.length) (D + 3) (gA s3 (E + 3))) (D + 4) (gA s3 (E + 4))) (D + 5) (gA s3 (E + 5))) D 9 dr.2.2.2.2.1.length = X
  have CX : CpF D s3 X := by
    rw [← hX]
    exact (((((((CpF.sF (by omega)).tr (CpF.sA (by omega))).tr (CpF.sF (by omega))).tr (CpF.sA (by omega))).tr (CpF.sA (by omega))).tr (CpF.sA (by omega))).tr (CpF.sF (by omega)))
  have SX : ShD X D := by
    rw [← hX]
    have h1 : ShD (sF s3 D 3 dr.2.1.length) D := i2.wF (by omega)
    have h2 := h1.wA (p := D + 2) (l := gA s3 (E + 2)) (by omega) (by rw [gA_sF, lE2, lD2])
    have h3 := h2.wF (k := 6) (v := (dr.2.2.1.length : Int)) (by omega)
    have h4 := h3.wA (p := D + 3) (l := gA s3 (E + 3)) (by omega) (by rw [gA_sF, gA_ne (by omega), gA_sF, lE3, lD3])
    have h5 := h4.wA (p := D + 4) (l := gA s3 (E + 4)) (by omega) (by rw [gA_ne (by omega), gA_sF, gA_ne (by omega), gA_sF, lE4, lD4])
    have h6 := h5.wA (p := D + 5) (l := gA s3 (E + 5)) (by omega) (by rw [gA_ne (by omega), gA_ne (by omega), gA_sF, gA_ne (by omega), gA_sF, lE5, lD5])
    exact h6.wF (by omega)
  have X1 : gF X D 1 = dr.1.length := by rw [← hX]; simp only [gF_sF, gF_sA, Nat.reduceEqDiff, and_false, and_true, reduceIte]; exact e1
  have X3 : gF X D 3 = dr.2.1.length := by rw [← hX]; simp only [gF_sF, gF_sA, Nat.reduceEqDiff, and_false, and_true, reduceIte]
  have X6 : gF X D 6 = dr.2.2.1.length := by rw [← hX]; simp only [gF_sF, gF_sA, Nat.reduceEqDiff, and_false, and_true, reduceIte]
  have X9 : gF X D 9 = dr.2.2.2.2.1.length := by rw [← hX]; exact gF_eq _ _ _ _
  have A2 : gA X (D + 2) = gA s (E + 2) := by rw [← hX, ← (eE (E + 2) (by omega) (by omega)).2, gA_sF, gA_ne (by omega), gA_ne (by omega), gA_ne (by omega), gA_sF, gA_eq]
  have A3 : gA X (D + 3) = gA s (E + 3) := by rw [← hX, ← (eE (E + 3) (by omega) (by omega)).2, gA_sF, gA_ne (by omega), gA_ne (by omega), gA_eq]
  have A4 : gA X (D + 4) = gA s (E + 4) := by rw [← hX, ← (eE (E + 4) (by omega) (by omega)).2, gA_sF, gA_ne (by omega), gA_eq]
  have A5 : gA X (D + 5) = gA s (E + 5) := by rw [← hX, ← (eE (E + 5) (by omega) (by omega)).2, gA_sF, gA_eq]
  have KX : ∀ j, j < dr.1.length → KnC X (D + 11 + 2 * (j : Int)) (dr.1.getD j k0) := fun j hj => (i4 j hj).fr ⟨CX.1 _, CX.1 _⟩ (fun l _ => by rw [← hX]; simp only [gF_sF, gF_sA, show ¬ (D + 11 + 2 * (j : Int) = D) by omega, false_and, reduceIte]) (by rw [← hX, gA_sF, gA_ne (by omega), gA_ne (by omega), gA_ne (by omega), gA_sF, gA_ne (by omega), gA_sF])
  exact c_cpE (d := d) hS R W hne (C3.tr CX) SX X1 X3 X6 X9 A2 A3 A4 A5 KX
end CCQ
