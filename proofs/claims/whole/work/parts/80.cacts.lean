/-! ===== the class: draw, undo; what acts leave is well formed ===== -/
section CAD
variable {s s' : St} {a : Ab} {d : Nat} {dr : Dr}
/-- the log first, then one knot -/
theorem RepC.one2 {q kind pl : Int} {k' : Kn} {T : Res → Prop} {K : St → Res} (R : RepC a s) (W : wfA a) (hq : 0 ≤ q ∧ q < (a.1.1.length : Int)) (hu : unKn kind pl k' = knQ a.1 q) (hT : ∀ s1, ShC s1 → KnC s1 (3 + 11 + 2 * q) (knQ a.1 q) → (∀ s', ShC s' → FrK [] [3 + 11 + 2 * q] [3 + 11 + 2 * q + 1] s1 s' → KnC s' (3 + 11 + 2 * q) k' → RepC (setK a q k' kind) s' ∧ FrK [6] kQs aQs s s') → Gl T (K s1)) : Gl T (cV (X9_add (d + 1) s 10 kind q pl) K) := by
  have hs := R.1
  have h8 := W.1.1.1
  obtain ⟨m1, m2⟩ := kq_in (q := q) (by omega)
  have hL := R.2.2.2.1
  refine biV (c_logAdd (d := d) (K' := a.1.1.set q.toNat k') hs hL W.2.2.1.1 hq (by rw [List.length_set]) (unK_set hq hu)) fun s1 _ ⟨e1, e2, e3⟩ => ?_
  have D1 := R.2.1.lg e1 e2
  refine hT s1 e1 (D1.kn hq) fun s' h1 F K' => ?_
  have F2 : FrK [6] kQs aQs s s' := (e2.mono (by decide) (by decide) (by decide)).tr (F.mono2 (by simp) (fun x hx => by rw [List.mem_singleton.mp hx]; exact m1) (fun x hx => by rw [List.mem_singleton.mp hx]; exact m2))
  exact ⟨R.act W F2 h1 (D1.set1 W.1 h1 hq F K') (e3.k e1.o10.1 F List.not_mem_nil (by simp; omega) (by simp; omega)), F2⟩
theorem c_drawBack {q : Int} (R : RepC a s) (W : wfA a) : Gl (GI fun x s' => x = (dDrw a q).1 ∧ RepC (dDrw a q).2 s' ∧ FrK [6] kQs aQs s s') (X8_drawBack (d + 3) s 34 q) := by
  have hs := R.1
  rw [e_X8_drawBack]
  unfold dDrw
  simp (disch := ((try simp only [kd_sF, kd_sA, gA_sF, gA_sA, gF_sF, gF_sA, List.length_set, reduceIte, and_true, and_false, true_and, false_and, Nat.reduceEqDiff, Int.reduceEq, hs.o34, hs.o3]); first | done | omega)) only [rF_ok, wF_ok, oK_ok, lA_ok, rA_ok, wA_ok, cI_ok, cV_ok, cL_ok, cR_ok, kd_sF, kd_sA, gA_sF, gF_sA, gF_sF, gA_sA, bk_0, bk_1, List.length_set, reduceIte, and_true, and_false, true_and, false_and, ne_eq, not_true_eq_false, not_false_eq_true, Int.toNat_natCast, Int.reduceToNat, Nat.reduceEqDiff, Int.reduceEq, Int.reduceLT, Int.reduceLE, Int.reduceAdd, Int.reduceSub, Int.reduceMul, Int.reduceNeg, hs.o34, hs.o3]
  by_cases hq : 0 ≤ q ∧ q < (a.1.1.length : Int)
  · obtain ⟨p, hp⟩ : ∃ p : Int, p = 3 + 11 + 2 * q := ⟨_, rfl⟩
    rw [if_neg (fun e => e hq), c_knotAt1 R.2.1 W.1 hq, ← hp, cR_ok, if_neg (show ¬ (p = 0) by omega)]
    have KK := R.2.1.kn hq
    have wk := wfKn_q W.1 hq
    rw [← hp] at KK
    have h8 := W.1.1.1
    obtain ⟨⟨k1, k2, k3, k4⟩, g0, g1, g2, g3, g4, g5⟩ := id KK
    generalize hk : knQ a.1 q = k at *
    have hl := wk.2.2.2.2.1
    simp (disch := ((try simp only [kd_sF, kd_sA, gA_sF, gA_sA, gF_sF, gF_sA, List.length_set, reduceIte, and_true, and_false, true_and, false_and, Nat.reduceEqDiff, Int.reduceEq, k1]); first | done | omega)) only [rF_ok, wF_ok, oK_ok, lA_ok, rA_ok, wA_ok, cI_ok, cV_ok, cL_ok, cR_ok, kd_sF, kd_sA, gA_sF, gF_sA, gF_sF, gA_sA, bk_0, bk_1, List.length_set, reduceIte, and_true, and_false, true_and, false_and, ne_eq, not_true_eq_false, not_false_eq_true, Int.toNat_natCast, Int.reduceToNat, Nat.reduceEqDiff, Int.reduceEq, Int.reduceLT, Int.reduceLE, Int.reduceAdd, Int.reduceSub, Int.reduceMul, Int.reduceNeg, k1, g3]
    by_cases c : kLen k = 0
    · rw [if_pos c, if_pos (show (kLen k : Int) = 0 by omega)]
      exact reI ⟨rfl, R, FrK.rf _ _ _ _⟩
    rw [if_neg c, if_neg (show ¬ ((kLen k : Int) = 0) by omega)]
    rcases wk.2.2.2.1 with t0 | t1
    · rw [if_neg (show ¬ (k.2.2.2.1 = 1) by rw [t0]; decide)]
      rw [t0] at g4
      simp (disch := ((try simp only [kd_sF, kd_sA, gA_sF, gA_sA, gF_sF, gF_sA, List.length_set, reduceIte, and_true, and_false, true_and, false_and, Nat.reduceEqDiff, Int.reduceEq, hs.o34, hs.o3, hs.o10, k1]); first | done | omega)) only [rF_ok, wF_ok, oK_ok, lA_ok, rA_ok, wA_ok, cI_ok, cV_ok, cL_ok, cR_ok, kd_sF, kd_sA, gA_sF, gF_sA, gF_sF, gA_sA, bk_0, bk_1, List.length_set, reduceIte, and_true, and_false, true_and, false_and, ne_eq, not_true_eq_false, not_false_eq_true, Int.toNat_natCast, Int.reduceToNat, Nat.reduceEqDiff, Int.reduceEq, Int.reduceLT, Int.reduceLE, Int.reduceAdd, Int.reduceSub, Int.reduceMul, Int.reduceNeg, hs.o34, hs.o3, hs.o10, k1, g4, c_lastPlace (d := d + 2) KK hl]
      rw [e_X8_drawBack_50]
      simp (disch := ((try simp only [kd_sF, kd_sA, gA_sF, gA_sA, gF_sF, gF_sA, List.length_set, reduceIte, and_true, and_false, true_and, false_and, Nat.reduceEqDiff, Int.reduceEq, hs.o10]); first | done | omega)) only [rF_ok, wF_ok, oK_ok, lA_ok, rA_ok, wA_ok, cI_ok, cV_ok, cL_ok, cR_ok, kd_sF, kd_sA, gA_sF, gF_sA, gF_sF, gA_sA, bk_0, bk_1, List.length_set, reduceIte, and_true, and_false, true_and, false_and, ne_eq, not_true_eq_false, not_false_eq_true, Int.toNat_natCast, Int.reduceToNat, Nat.reduceEqDiff, Int.reduceEq, Int.reduceLT, Int.reduceLE, Int.reduceAdd, Int.reduceSub, Int.reduceMul, Int.reduceNeg, hs.o10]
      refine R.one2 (d := d + 1) (k' := knPop k) W hq (by rw [un_dr0 c wk.2.2.2.2.2.1, hk]) fun s1 h1 K1 fin => ?_
      rw [hk, ← hp] at K1
      rw [← hp] at fin
      obtain ⟨⟨l1, l2, l3, l4⟩, m0, m1, m2, m3, m4, m5⟩ := id K1
      rw [t0] at m4
      simp (disch := ((try simp only [kd_sF, kd_sA, gA_sF, gA_sA, gF_sF, gF_sA, List.length_set, reduceIte, and_true, and_false, true_and, false_and, Nat.reduceEqDiff, Int.reduceEq, l1]); first | done | omega)) only [rF_ok, wF_ok, oK_ok, lA_ok, rA_ok, wA_ok, cI_ok, cV_ok, cL_ok, cR_ok, kd_sF, kd_sA, gA_sF, gF_sA, gF_sF, gA_sA, bk_0, bk_1, List.length_set, reduceIte, and_true, and_false, true_and, false_and, ne_eq, not_true_eq_false, not_false_eq_true, Int.toNat_natCast, Int.reduceToNat, Nat.reduceEqDiff, Int.reduceEq, Int.reduceLT, Int.reduceLE, Int.reduceAdd, Int.reduceSub, Int.reduceMul, Int.reduceNeg, l1, m4]
      rw [e_X3_pop]
      simp (disch := ((try simp only [kd_sF, kd_sA, gA_sF, gA_sA, gF_sF, gF_sA, List.length_set, reduceIte, and_true, and_false, true_and, false_and, Nat.reduceEqDiff, Int.reduceEq, l1]); first | done | omega)) only [rF_ok, wF_ok, oK_ok, lA_ok, rA_ok, wA_ok, cI_ok, cV_ok, cL_ok, cR_ok, kd_sF, kd_sA, gA_sF, gF_sA, gF_sF, gA_sA, bk_0, bk_1, List.length_set, reduceIte, and_true, and_false, true_and, false_and, ne_eq, not_true_eq_false, not_false_eq_true, Int.toNat_natCast, Int.reduceToNat, Nat.reduceEqDiff, Int.reduceEq, Int.reduceLT, Int.reduceLE, Int.reduceAdd, Int.reduceSub, Int.reduceMul, Int.reduceNeg, l1, m3, if_pos (show 0 < (kLen k : Int) by omega), wi_sm]
      obtain ⟨r1, r2⟩ := fin _ (h1.sF (by rw [l1]; decide)) (FrK.sF (by simp)) (K1.pop c)
      exact reI ⟨rfl, r1, r2⟩
    · rw [if_pos t1]
      rw [t1] at g4
      simp (disch := ((try simp only [kd_sF, kd_sA, gA_sF, gA_sA, gF_sF, gF_sA, List.length_set, reduceIte, and_true, and_false, true_and, false_and, Nat.reduceEqDiff, Int.reduceEq, hs.o34, hs.o3, hs.o10, k1]); first | done | omega)) only [rF_ok, wF_ok, oK_ok, lA_ok, rA_ok, wA_ok, cI_ok, cV_ok, cL_ok, cR_ok, kd_sF, kd_sA, gA_sF, gF_sA, gF_sF, gA_sA, bk_0, bk_1, List.length_set, reduceIte, and_true, and_false, true_and, false_and, ne_eq, not_true_eq_false, not_false_eq_true, Int.toNat_natCast, Int.reduceToNat, Nat.reduceEqDiff, Int.reduceEq, Int.reduceLT, Int.reduceLE, Int.reduceAdd, Int.reduceSub, Int.reduceMul, Int.reduceNeg, hs.o34, hs.o3, hs.o10, k1, g4]
      rw [e_X8_drawBack_50]
      simp (disch := ((try simp only [kd_sF, kd_sA, gA_sF, gA_sA, gF_sF, gF_sA, List.length_set, reduceIte, and_true, and_false, true_and, false_and, Nat.reduceEqDiff, Int.reduceEq, hs.o10]); first | done | omega)) only [rF_ok, wF_ok, oK_ok, lA_ok, rA_ok, wA_ok, cI_ok, cV_ok, cL_ok, cR_ok, kd_sF, kd_sA, gA_sF, gF_sA, gF_sF, gA_sA, bk_0, bk_1, List.length_set, reduceIte, and_true, and_false, true_and, false_and, ne_eq, not_true_eq_false, not_false_eq_true, Int.toNat_natCast, Int.reduceToNat, Nat.reduceEqDiff, Int.reduceEq, Int.reduceLT, Int.reduceLE, Int.reduceAdd, Int.reduceSub, Int.reduceMul, Int.reduceNeg, hs.o10]
      refine R.one2 (d := d + 1) (k' := knThr k 0) W hq (by rw [un_dr1 t1, hk]) fun s1 h1 K1 fin => ?_
      rw [hk, ← hp] at K1
      rw [← hp] at fin
      obtain ⟨⟨l1, l2, l3, l4⟩, m0, m1, m2, m3, m4, m5⟩ := id K1
      rw [t1] at m4
      simp (disch := ((try simp only [kd_sF, kd_sA, gA_sF, gA_sA, gF_sF, gF_sA, List.length_set, reduceIte, and_true, and_false, true_and, false_and, Nat.reduceEqDiff, Int.reduceEq, l1]); first | done | omega)) only [rF_ok, wF_ok, oK_ok, lA_ok, rA_ok, wA_ok, cI_ok, cV_ok, cL_ok, cR_ok, kd_sF, kd_sA, gA_sF, gF_sA, gF_sF, gA_sA, bk_0, bk_1, List.length_set, reduceIte, and_true, and_false, true_and, false_and, ne_eq, not_true_eq_false, not_false_eq_true, Int.toNat_natCast, Int.reduceToNat, Nat.reduceEqDiff, Int.reduceEq, Int.reduceLT, Int.reduceLE, Int.reduceAdd, Int.reduceSub, Int.reduceMul, Int.reduceNeg, l1, m4, m3]
      obtain ⟨r1, r2⟩ := fin _ (h1.sF (by rw [l1]; decide)) (FrK.sF (by simp)) (K1.thr (x := 0))
      exact reI ⟨rfl, r1, r2⟩
  · rw [if_pos hq, c_knotAt0 R.2.1 hq, cR_ok, if_pos rfl]
    exact reI ⟨rfl, R, FrK.rf _ _ _ _⟩
theorem c_undoLatest (R : RepC a s) (W : wfA a) : Gl (GI fun x s' => x = (dUnd a).1 ∧ RepC (dUnd a).2 s') (X8_undoLatest (d + 3) s 34) := by
  have hs := R.1
  have L := R.2.2.2.1
  have f0 := L.1
  have h16 := W.2.2.1.1
  have h8 := W.1.1.1
  have k10 : kd s 10 = 13 := hs.o10.1
  have l12 : (gA s 12).length = 16 := hs.2.1 12 (by decide) (by decide)
  rw [e_X8_undoLatest]
  unfold dUnd
  simp (disch := ((try simp only [kd_sF, kd_sA, gA_sF, gA_sA, gF_sF, gF_sA, List.length_set, reduceIte, and_true, and_false, true_and, false_and, Nat.reduceEqDiff, Int.reduceEq, hs.o34, hs.o3, hs.o10]); first | done | omega)) only [rF_ok, wF_ok, oK_ok, lA_ok, rA_ok, wA_ok, cI_ok, cV_ok, cL_ok, cR_ok, kd_sF, kd_sA, gA_sF, gF_sA, gF_sF, gA_sA, bk_0, bk_1, List.length_set, reduceIte, and_true, and_false, true_and, false_and, ne_eq, not_true_eq_false, not_false_eq_true, Int.toNat_natCast, Int.reduceToNat, Nat.reduceEqDiff, Int.reduceEq, Int.reduceLT, Int.reduceLE, Int.reduceAdd, Int.reduceSub, Int.reduceMul, Int.reduceNeg, hs.o34, hs.o3, hs.o10, f0]
  by_cases hn : a.2.2.1.length = 0
  · rw [if_neg (show ¬ (0 < (a.2.2.1.length : Int)) by omega), if_pos hn, e_X8_undoLatest_37, if_pos rfl]
    exact reI ⟨rfl, R⟩
  rw [if_pos (show 0 < (a.2.2.1.length : Int) by omega), if_neg hn]
  obtain ⟨i1, i2, i3⟩ := L.2 (a.2.2.1.length - 1) (by omega)
  have wH := W.2.2.1.2 _ (gdMem (a := (0, [])) (show a.2.2.1.length - 1 < a.2.2.1.length by omega))
  rw [nxK_ge (by omega)] at i3
  have eN : ((a.2.2.1.length : Int) - 1).toNat = a.2.2.1.length - 1 := by omega
  have a1 : (gA s 11).getD (a.2.2.1.length - 1) 0 = (a.2.2.1.getD (a.2.2.1.length - 1) (0, [])).1 := i1
  obtain ⟨q, hq0⟩ : ∃ q, af s (10 + 2) (a.2.2.1.length - 1) = q := ⟨_, rfl⟩
  obtain ⟨pl, hpl⟩ : ∃ pl, af s (10 + 3) (a.2.2.1.length - 1) = pl := ⟨_, rfl⟩
  rw [i1, hq0, hpl] at i3
  rw [hq0] at i2
  have a2 : (gA s 12).getD (a.2.2.1.length - 1) 0 = q := hq0
  have a3 : (gA s 13).getD (a.2.2.1.length - 1) 0 = pl := hpl
  generalize hE : a.2.2.1.getD (a.2.2.1.length - 1) (0, []) = E at *
  have hq : 0 ≤ q ∧ q < (a.1.1.length : Int) := i2
  obtain ⟨p, hp⟩ : ∃ p : Int, p = 3 + 11 + 2 * q := ⟨_, rfl⟩
  simp (disch := ((try simp only [kd_sF, kd_sA, gA_sF, gA_sA, gF_sF, gF_sA, List.length_set, reduceIte, and_true, and_false, true_and, false_and, Nat.reduceEqDiff, Int.reduceEq, hs.o34, hs.o3, hs.o10]); first | done | omega)) only [rF_ok, wF_ok, oK_ok, lA_ok, rA_ok, wA_ok, cI_ok, cV_ok, cL_ok, cR_ok, kd_sF, kd_sA, gA_sF, gF_sA, gF_sF, gA_sA, bk_0, bk_1, List.length_set, reduceIte, and_true, and_false, true_and, false_and, ne_eq, not_true_eq_false, not_false_eq_true, Int.toNat_natCast, Int.reduceToNat, Nat.reduceEqDiff, Int.reduceEq, Int.reduceLT, Int.reduceLE, Int.reduceAdd, Int.reduceSub, Int.reduceMul, Int.reduceNeg, hs.o34, hs.o3, hs.o10, f0, wi_sm, eN, a2]
  rw [c_knotAt1 R.2.1 W.1 hq, ← hp, cR_ok, e_X8_undoLatest_37, if_neg (show ¬ (p = 0) by omega)]
  have l11 : (gA s 11).length = 16 := hs.2.1 11 (by decide) (by decide)
  have l13 : (gA s 13).length = 16 := hs.2.1 13 (by decide) (by decide)
  simp (disch := ((try simp only [kd_sF, kd_sA, gA_sF, gA_sA, gF_sF, gF_sA, List.length_set, reduceIte, and_true, and_false, true_and, false_and, Nat.reduceEqDiff, Int.reduceEq, hs.o10]); first | done | omega)) only [rF_ok, wF_ok, oK_ok, lA_ok, rA_ok, wA_ok, cI_ok, cV_ok, cL_ok, cR_ok, kd_sF, kd_sA, gA_sF, gF_sA, gF_sF, gA_sA, bk_0, bk_1, List.length_set, reduceIte, and_true, and_false, true_and, false_and, ne_eq, not_true_eq_false, not_false_eq_true, Int.toNat_natCast, Int.reduceToNat, Nat.reduceEqDiff, Int.reduceEq, Int.reduceLT, Int.reduceLE, Int.reduceAdd, Int.reduceSub, Int.reduceMul, Int.reduceNeg, hs.o10, f0, wi_sm, eN, a1, a3]
  have hs1 : ShC (sF s 10 0 ((a.2.2.1.length : Int) - 1)) := hs.sF (by rw [k10]; decide)
  have L1 := L.pop (K' := E.2) hn (by rw [hE]) wH.2.1
  have D1 : DrC (sF s 10 0 ((a.2.2.1.length : Int) - 1)) 3 a.1 := R.2.1.log hs1
  have F1 : FrK [6] kQs aQs s (sF s 10 0 ((a.2.2.1.length : Int) - 1)) := FrK.sF (by decide)
  generalize sF s 10 0 ((a.2.2.1.length : Int) - 1) = S1 at *
  have KK := D1.kn hq
  rw [← hp] at KK
  have wk := wfKn_q W.1 hq
  obtain ⟨⟨k1, k2, k3, k4⟩, g0, g1, g2, g3, g4, g5⟩ := id KK
  unfold unK at i3
  have ek : a.1.1.getD q.toNat k0 = knQ a.1 q := rfl
  rw [ek] at i3
  have wk' : wfKn (unKn E.1 pl (knQ a.1 q)) := by
    have := wH.1.2 (E.2.getD q.toNat k0) (gdMem (by rw [wH.2.1]; omega))
    rw [i3, gdSet (by omega), if_pos rfl] at this
    exact this
  generalize hk : knQ a.1 q = k at *
  have hl := wk.2.2.2.2.1
  obtain ⟨m1, m2⟩ := kq_in (q := q) (by omega)
  have fin : ∀ s', ShC s' → FrK [] [p] [p + 1] S1 s' → KnC s' p (unKn E.1 pl k) → Gl (GI fun x s' => x = (E.1, setHi (setDr a (E.2, a.1.2)) a.2.2.1.dropLast).1 ∧ RepC (E.1, setHi (setDr a (E.2, a.1.2)) a.2.2.1.dropLast).2 s') (some ([(0, E.1)], s')) := by
    intro s' h1 F2 K2
    rw [hp] at F2 K2
    have D2 := D1.set1 W.1 h1 hq F2 K2
    rw [← i3] at D2
    refine reI ⟨rfl, R.act W (F1.tr (F2.mono2 (by simp) (fun x hx => by rw [List.mem_singleton.mp hx]; exact m1) (fun x hx => by rw [List.mem_singleton.mp hx]; exact m2))) h1 D2 ?_⟩
    exact L1.k hs1.o10.1 F2 List.not_mem_nil (by simp; omega) (by simp; omega)
  have kb := wH.2.2
  unfold unKn at fin wk'
  by_cases e0 : E.1 = 0
  · rw [if_pos e0] at fin ⊢
    rw [e_X3_pop]
    by_cases z : kLen k = 0
    · simp (disch := ((try simp only [kd_sF, kd_sA, gA_sF, gA_sA, gF_sF, gF_sA, List.length_set, reduceIte, and_true, and_false, true_and, false_and, Nat.reduceEqDiff, Int.reduceEq, k1]); first | done | omega)) only [rF_ok, wF_ok, oK_ok, lA_ok, rA_ok, wA_ok, cI_ok, cV_ok, cL_ok, cR_ok, kd_sF, kd_sA, gA_sF, gF_sA, gF_sF, gA_sA, bk_0, bk_1, List.length_set, reduceIte, and_true, and_false, true_and, false_and, ne_eq, not_true_eq_false, not_false_eq_true, Int.toNat_natCast, Int.reduceToNat, Nat.reduceEqDiff, Int.reduceEq, Int.reduceLT, Int.reduceLE, Int.reduceAdd, Int.reduceSub, Int.reduceMul, Int.reduceNeg, k1, g3, if_neg (show ¬ (0 < (kLen k : Int)) by omega)]
      have ez : knPop k = k := by
        unfold knPop
        have : k.2.2.2.2 = [] := List.eq_nil_of_length_eq_zero z
        rw [this]
        show (k.1, k.2.1, k.2.2.1, k.2.2.2.1, ([] : List Int)) = k
        rw [← this]
      have := fin S1 hs1 (FrK.rf _ _ _ _) (by rw [ez]; exact KK)
      exact this
    · simp (disch := ((try simp only [kd_sF, kd_sA, gA_sF, gA_sA, gF_sF, gF_sA, List.length_set, reduceIte, and_true, and_false, true_and, false_and, Nat.reduceEqDiff, Int.reduceEq, k1]); first | done | omega)) only [rF_ok, wF_ok, oK_ok, lA_ok, rA_ok, wA_ok, cI_ok, cV_ok, cL_ok, cR_ok, kd_sF, kd_sA, gA_sF, gF_sA, gF_sF, gA_sA, bk_0, bk_1, List.length_set, reduceIte, and_true, and_false, true_and, false_and, ne_eq, not_true_eq_false, not_false_eq_true, Int.toNat_natCast, Int.reduceToNat, Nat.reduceEqDiff, Int.reduceEq, Int.reduceLT, Int.reduceLE, Int.reduceAdd, Int.reduceSub, Int.reduceMul, Int.reduceNeg, k1, g3, if_pos (show 0 < (kLen k : Int) by omega), wi_sm]
      have := fin _ (hs1.sF (by rw [k1]; decide)) (FrK.sF (by simp)) (KK.pop z)
      exact this
  rw [if_neg e0] at fin wk' ⊢
  by_cases e1 : E.1 = 1
  · rw [if_pos e1] at fin ⊢
    have := fin _ (hs1.sF (by rw [k1]; decide)) (FrK.sF (by simp)) (KK.thr (x := 0))
    simp (disch := ((try simp only [kd_sF, kd_sA, gA_sF, gA_sA, gF_sF, gF_sA, List.length_set, reduceIte, and_true, and_false, true_and, false_and, Nat.reduceEqDiff, Int.reduceEq, k1]); first | done | omega)) only [rF_ok, wF_ok, oK_ok, lA_ok, rA_ok, wA_ok, cI_ok, cV_ok, cL_ok, cR_ok, kd_sF, kd_sA, gA_sF, gF_sA, gF_sF, gA_sA, bk_0, bk_1, List.length_set, reduceIte, and_true, and_false, true_and, false_and, ne_eq, not_true_eq_false, not_false_eq_true, Int.toNat_natCast, Int.reduceToNat, Nat.reduceEqDiff, Int.reduceEq, Int.reduceLT, Int.reduceLE, Int.reduceAdd, Int.reduceSub, Int.reduceMul, Int.reduceNeg, k1]
    exact this
  rw [if_neg e1] at fin wk' ⊢
  by_cases e3 : E.1 = 3
  · rw [if_pos e3] at fin ⊢
    simp (disch := ((try simp only [kd_sF, kd_sA, gA_sF, gA_sA, gF_sF, gF_sA, List.length_set, reduceIte, and_true, and_false, true_and, false_and, Nat.reduceEqDiff, Int.reduceEq, k1]); first | done | omega)) only [rF_ok, wF_ok, oK_ok, lA_ok, rA_ok, wA_ok, cI_ok, cV_ok, cL_ok, cR_ok, kd_sF, kd_sA, gA_sF, gF_sA, gF_sF, gA_sA, bk_0, bk_1, List.length_set, reduceIte, and_true, and_false, true_and, false_and, ne_eq, not_true_eq_false, not_false_eq_true, Int.toNat_natCast, Int.reduceToNat, Nat.reduceEqDiff, Int.reduceEq, Int.reduceLT, Int.reduceLE, Int.reduceAdd, Int.reduceSub, Int.reduceMul, Int.reduceNeg, k1]
    refine biV (c_swap (d := d + 1) hs1 KK hl wk.2.2.2.2.2.1) fun s2 _ ⟨q1, q2, q3⟩ => ?_
    exact fin s2 q1 (q2.mono2 (by simp) (by simp) (by simp)) q3
  rw [if_neg e3] at fin wk' ⊢
  by_cases e4 : pl = -1
  · rw [if_pos e4] at fin ⊢
    have := fin _ (hs1.sF (by rw [k1]; decide)) (FrK.sF (by simp)) (KK.thr (x := 1))
    simp (disch := ((try simp only [kd_sF, kd_sA, gA_sF, gA_sA, gF_sF, gF_sA, List.length_set, reduceIte, and_true, and_false, true_and, false_and, Nat.reduceEqDiff, Int.reduceEq, k1]); first | done | omega)) only [rF_ok, wF_ok, oK_ok, lA_ok, rA_ok, wA_ok, cI_ok, cV_ok, cL_ok, cR_ok, kd_sF, kd_sA, gA_sF, gF_sA, gF_sF, gA_sA, bk_0, bk_1, List.length_set, reduceIte, and_true, and_false, true_and, false_and, ne_eq, not_true_eq_false, not_false_eq_true, Int.toNat_natCast, Int.reduceToNat, Nat.reduceEqDiff, Int.reduceEq, Int.reduceLT, Int.reduceLE, Int.reduceAdd, Int.reduceSub, Int.reduceMul, Int.reduceNeg, k1]
    exact this
  · rw [if_neg e4] at fin wk' ⊢
    have hl2 : kLen k < 12 := by
      have := wk'.2.2.2.2.1
      unfold kLen knPush at this
      rw [List.length_append] at this
      unfold kLen
      simp only [List.length_cons, List.length_nil] at this
      omega
    rw [e_X3_push]
    simp (disch := ((try simp only [kd_sF, kd_sA, gA_sF, gA_sA, gF_sF, gF_sA, List.length_set, reduceIte, and_true, and_false, true_and, false_and, Nat.reduceEqDiff, Int.reduceEq, k1, k2, k3, k4]); first | done | omega)) only [rF_ok, wF_ok, oK_ok, lA_ok, rA_ok, wA_ok, cI_ok, cV_ok, cL_ok, cR_ok, kd_sF, kd_sA, gA_sF, gF_sA, gF_sF, gA_sA, bk_0, bk_1, List.length_set, reduceIte, and_true, and_false, true_and, false_and, ne_eq, not_true_eq_false, not_false_eq_true, Int.toNat_natCast, Int.reduceToNat, Nat.reduceEqDiff, Int.reduceEq, Int.reduceLT, Int.reduceLE, Int.reduceAdd, Int.reduceSub, Int.reduceMul, Int.reduceNeg, k1, k2, k3, k4, g3, if_pos (show (kLen k : Int) < 12 by omega), wi_sm]
    exact fin _ ((hs1.sA (by rw [List.length_set]) (by rw [k3]; decide)).sF (by rw [kd_sA, k1]; decide)) ((FrK.sA _ (by simp)).tr (FrK.sF (by simp))) (KK.push hl2)
end CAD
