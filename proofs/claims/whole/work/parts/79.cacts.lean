/-! ===== the class: lay, through, draw, mirror ===== -/
section CAC
variable {s s' : St} {a : Ab} {d : Nat} {dr : Dr} {Ks Ls : List Nat} {P Q A B : List Int}
theorem FrK.mono2 (h : FrK Ks P A s s') (hk : ∀ x ∈ Ks, x ∈ Ls) (hq : ∀ x ∈ P, x ∈ Q) (ha : ∀ x ∈ A, x ∈ B) : FrK Ls Q B s s' := ⟨h.1, fun p k hp hl hr => h.2.1 p k (fun hm => hp (hq _ hm)) (fun hm => hl (hk _ hm)) hr, fun p hp => h.2.2 p fun hm => hp (ha _ hm)⟩
theorem DrC.lg (R : DrC s 3 dr) (hs' : ShC s') (F : FrK [] [10] [11, 12, 13] s s') : DrC s' 3 dr := by
  refine R.kns (K' := dr.1) hs' F.1 (fun k _ hk => F.2.1 3 k (by decide) List.not_mem_nil hk) (fun p k hp hk => F.2.1 p k (by simp; omega) List.not_mem_nil hk) (fun x hx => F.2.2 x (by simp; omega)) ((F.2.1 3 1 (by decide) List.not_mem_nil (by decide)).trans R.2.1.1) (fun i hi => ?_)
  exact (R.2.1.2 i hi).fr ⟨F.1 _, F.1 _⟩ (fun j hj => F.2.1 _ j (by simp; omega) List.not_mem_nil hj) (F.2.2 _ (by simp; omega))
theorem RepC.act {D' : Dr} {H' : Hi} (R : RepC a s) (W : wfA a) (F : FrK [6] kQs aQs s s') (hs' : ShC s') (hD : DrC s' 3 D') (hH : LgC s' 10 H' D'.1) : RepC (setHi (setDr a D') H') s' := by
  have hs := R.1
  obtain ⟨-, -, -, -, r5, r6, r7, -, r9⟩ := id R
  refine R.up W F hs' (by decide) (by decide) (r9.k2 hs.o78.1 F (by decide) (by decide) (by decide)) hD hH (r5.k hs.o1.1 F (by decide) (by decide) (by decide)) (r6.k hs.o1.1 hs.o75.1 F (by decide) (by decide)) ?_
  unfold RfC
  rw [F.2.2 97 (by decide)]
  exact r7
/-- one knot anew, then the log -/
theorem RepC.one {s1 : St} {q kind pl : Int} {k' : Kn} (R : RepC a s) (W : wfA a) (hq : 0 ≤ q ∧ q < (a.1.1.length : Int)) (hs1 : ShC s1) (F : FrK [] [3 + 11 + 2 * q] [3 + 11 + 2 * q + 1] s s1) (K : KnC s1 (3 + 11 + 2 * q) k') (hu : unKn kind pl k' = knQ a.1 q) : Gl (GV fun s' => RepC (setK a q k' kind) s' ∧ FrK [6] kQs aQs s s' ∧ KnC s' (3 + 11 + 2 * q) k') (X9_add (d + 1) s1 10 kind q pl) := by
  have hs := R.1
  have h8 := W.1.1.1
  obtain ⟨m1, m2⟩ := kq_in (q := q) (by omega)
  have hD := R.2.1.set1 W.1 hs1 hq F K
  have hL : LgC s1 10 a.2.2.1 a.1.1 := R.2.2.2.1.k hs.o10.1 F List.not_mem_nil (by simp; omega) (by simp; omega)
  refine wkV (c_logAdd (d := d) (K' := a.1.1.set q.toNat k') hs1 hL W.2.2.1.1 hq (by rw [List.length_set]) (unK_set hq hu)) fun s' _ ⟨e1, e2, e3⟩ => ?_
  have F2 : FrK [6] kQs aQs s s' := (F.mono2 (by simp) (fun x hx => by rw [List.mem_singleton.mp hx]; exact m1) (fun x hx => by rw [List.mem_singleton.mp hx]; exact m2)).tr (e2.mono (by decide) (by decide) (by decide))
  exact ⟨R.act W F2 e1 (hD.lg e1 e2) e3, F2, K.fr ⟨e2.1 _, e2.1 _⟩ (fun j hj => e2.2.1 _ j (by simp; omega) List.not_mem_nil hj) (e2.2.2 _ (by simp; omega))⟩
theorem RepC.kd (R : RepC a s) (W : wfA a) {q : Int} (hq : 0 ≤ q ∧ q < (a.1.1.length : Int)) : KnC s (3 + 11 + 2 * q) (knQ a.1 q) := R.2.1.kn hq
theorem c_putThrough {q : Int} (R : RepC a s) (W : wfA a) : Gl (GI fun x s' => x = (dThr a q).1 ∧ RepC (dThr a q).2 s' ∧ FrK [6] kQs aQs s s') (X8_putThrough (d + 3) s 34 q) := by
  have hs := R.1
  rw [e_X8_putThrough]
  unfold dThr
  simp (disch := ((try simp only [kd_sF, kd_sA, gA_sF, gA_sA, gF_sF, gF_sA, List.length_set, reduceIte, and_true, and_false, true_and, false_and, Nat.reduceEqDiff, Int.reduceEq, hs.o34, hs.o3]); first | done | omega)) only [rF_ok, wF_ok, oK_ok, lA_ok, rA_ok, wA_ok, cI_ok, cV_ok, cL_ok, cR_ok, kd_sF, kd_sA, gA_sF, gF_sA, gF_sF, gA_sA, bk_0, bk_1, List.length_set, reduceIte, and_true, and_false, true_and, false_and, ne_eq, not_true_eq_false, not_false_eq_true, Int.toNat_natCast, Int.reduceToNat, Nat.reduceEqDiff, Int.reduceEq, Int.reduceLT, Int.reduceLE, Int.reduceAdd, Int.reduceSub, Int.reduceMul, Int.reduceNeg, hs.o34, hs.o3]
  by_cases hq : 0 ≤ q ∧ q < (a.1.1.length : Int)
  · obtain ⟨p, hp⟩ : ∃ p : Int, p = 3 + 11 + 2 * q := ⟨_, rfl⟩
    rw [if_neg (fun e => e hq), c_knotAt1 R.2.1 W.1 hq, ← hp, cR_ok, if_neg (show ¬ (p = 0) by omega)]
    have KK := R.2.1.kn hq
    have wk := wfKn_q W.1 hq
    rw [← hp] at KK
    have h8 := W.1.1.1
    obtain ⟨⟨k1, k2, k3, k4⟩, g0, g1, g2, g3, g4, g5⟩ := id KK
    generalize hk : knQ a.1 q = k at *
    have no : Gl (GI fun x s' => x = ((-3, a) : Int × Ab).1 ∧ RepC ((-3, a) : Int × Ab).2 s' ∧ FrK [6] kQs aQs s s') (some ([(0, -3)], s)) := reI ⟨rfl, R, FrK.rf _ _ _ _⟩
    rcases wk.2.2.2.1 with t0 | t1
    · rw [t0] at g4
      have ec := c_canGoThrough (d := d + 1) (p := p + 1) (n := kLen k) (st := k.1) k3 (by have := wk.2.2.2.2.1; omega) (by have := wk.2.2.2.2.1; omega) wk.1 (fun j hj => by rw [g5 j hj]; exact wk.2.2.2.2.2.1 j hj)
      rw [canT_congr g5] at ec
      simp (disch := ((try simp only [kd_sF, kd_sA, gA_sF, gA_sA, gF_sF, gF_sA, List.length_set, reduceIte, and_true, and_false, true_and, false_and, Nat.reduceEqDiff, Int.reduceEq, k1, k2]); first | done | omega)) only [rF_ok, wF_ok, oK_ok, lA_ok, rA_ok, wA_ok, cI_ok, cV_ok, cL_ok, cR_ok, kd_sF, kd_sA, gA_sF, gF_sA, gF_sF, gA_sA, bk_0, bk_1, List.length_set, reduceIte, and_true, and_false, true_and, false_and, ne_eq, not_true_eq_false, not_false_eq_true, Int.toNat_natCast, Int.reduceToNat, Nat.reduceEqDiff, Int.reduceEq, Int.reduceLT, Int.reduceLE, Int.reduceAdd, Int.reduceSub, Int.reduceMul, Int.reduceNeg, k1, k2, g0, g3, g4, ec]
      by_cases c : canT k.1 (pF k) (kLen k) = true
      · rw [c, if_pos rfl, if_neg (show ¬ ((1 : Int) = 0) by decide), if_neg (show ¬ (k.2.2.2.1 = 1 ∨ true = false) by rw [t0]; decide)]
        have hs1 : ShC (sF s p 4 1) := hs.sF (by rw [k1]; decide)
        have K1 : KnC (sF s p 4 1) (3 + 11 + 2 * q) (knThr k 1) := by rw [← hp]; exact KK.thr
        have n34 : ¬ (34 = p) := by omega
        have n3 : ¬ (3 = p) := by omega
        simp (disch := ((try simp only [kd_sF, kd_sA, gA_sF, gA_sA, gF_sF, gF_sA, List.length_set, reduceIte, and_true, and_false, true_and, false_and, Nat.reduceEqDiff, Int.reduceEq, hs.o34, hs.o3, hs.o10, k1, n34, n3]); first | done | omega)) only [rF_ok, wF_ok, oK_ok, lA_ok, rA_ok, wA_ok, cI_ok, cV_ok, cL_ok, cR_ok, kd_sF, kd_sA, gA_sF, gF_sA, gF_sF, gA_sA, bk_0, bk_1, List.length_set, reduceIte, and_true, and_false, true_and, false_and, ne_eq, not_true_eq_false, not_false_eq_true, Int.toNat_natCast, Int.reduceToNat, Nat.reduceEqDiff, Int.reduceEq, Int.reduceLT, Int.reduceLE, Int.reduceAdd, Int.reduceSub, Int.reduceMul, Int.reduceNeg, hs.o34, hs.o3, hs.o10, k1, n34, n3]
        have F1 : FrK [] [3 + 11 + 2 * q] [3 + 11 + 2 * q + 1] s (sF s p 4 1) := by rw [hp]; exact FrK.sF (by simp)
        refine biV (R.one (d := d + 1) (kind := 1) (pl := -1) W hq hs1 F1 K1 (by rw [un_thr t0, hk])) fun s2 _ ⟨r1, r2, r3⟩ => ?_
        rw [← hp] at r3
        have q1 := r3.1.1
        have q3 := r3.2.2.2.2.1
        simp (disch := ((try simp only [kd_sF, kd_sA, gA_sF, gA_sA, gF_sF, gF_sA, List.length_set, reduceIte, and_true, and_false, true_and, false_and, Nat.reduceEqDiff, Int.reduceEq, q1]); first | done | omega)) only [rF_ok, wF_ok, oK_ok, lA_ok, rA_ok, wA_ok, cI_ok, cV_ok, cL_ok, cR_ok, kd_sF, kd_sA, gA_sF, gF_sA, gF_sF, gA_sA, bk_0, bk_1, List.length_set, reduceIte, and_true, and_false, true_and, false_and, ne_eq, not_true_eq_false, not_false_eq_true, Int.toNat_natCast, Int.reduceToNat, Nat.reduceEqDiff, Int.reduceEq, Int.reduceLT, Int.reduceLE, Int.reduceAdd, Int.reduceSub, Int.reduceMul, Int.reduceNeg, q1, q3]
        exact reI ⟨rfl, r1, r2⟩
      · rw [Bool.not_eq_true] at c
        rw [c, if_neg (show ¬ (false = true) by decide), if_pos rfl, if_pos (Or.inr rfl)]
        exact no
    · rw [t1] at g4
      simp (disch := ((try simp only [kd_sF, kd_sA, gA_sF, gA_sA, gF_sF, gF_sA, List.length_set, reduceIte, and_true, and_false, true_and, false_and, Nat.reduceEqDiff, Int.reduceEq, k1]); first | done | omega)) only [rF_ok, wF_ok, oK_ok, lA_ok, rA_ok, wA_ok, cI_ok, cV_ok, cL_ok, cR_ok, kd_sF, kd_sA, gA_sF, gF_sA, gF_sF, gA_sA, bk_0, bk_1, List.length_set, reduceIte, and_true, and_false, true_and, false_and, ne_eq, not_true_eq_false, not_false_eq_true, Int.toNat_natCast, Int.reduceToNat, Nat.reduceEqDiff, Int.reduceEq, Int.reduceLT, Int.reduceLE, Int.reduceAdd, Int.reduceSub, Int.reduceMul, Int.reduceNeg, k1, g4]
      rw [if_pos (Or.inl t1)]
      exact no
  · rw [if_pos hq, c_knotAt0 R.2.1 hq, cR_ok, if_pos rfl]
    exact reI ⟨rfl, R, FrK.rf _ _ _ _⟩
theorem c_turnOver {q : Int} (R : RepC a s) (W : wfA a) : Gl (GI fun x s' => x = (dMir a q).1 ∧ RepC (dMir a q).2 s' ∧ FrK [6] kQs aQs s s') (X8_turnOver (d + 3) s 34 q) := by
  have hs := R.1
  rw [e_X8_turnOver]
  unfold dMir
  simp (disch := ((try simp only [kd_sF, kd_sA, gA_sF, gA_sA, gF_sF, gF_sA, List.length_set, reduceIte, and_true, and_false, true_and, false_and, Nat.reduceEqDiff, Int.reduceEq, hs.o34, hs.o3]); first | done | omega)) only [rF_ok, wF_ok, oK_ok, lA_ok, rA_ok, wA_ok, cI_ok, cV_ok, cL_ok, cR_ok, kd_sF, kd_sA, gA_sF, gF_sA, gF_sF, gA_sA, bk_0, bk_1, List.length_set, reduceIte, and_true, and_false, true_and, false_and, ne_eq, not_true_eq_false, not_false_eq_true, Int.toNat_natCast, Int.reduceToNat, Nat.reduceEqDiff, Int.reduceEq, Int.reduceLT, Int.reduceLE, Int.reduceAdd, Int.reduceSub, Int.reduceMul, Int.reduceNeg, hs.o34, hs.o3]
  by_cases hq : 0 ≤ q ∧ q < (a.1.1.length : Int)
  · obtain ⟨p, hp⟩ : ∃ p : Int, p = 3 + 11 + 2 * q := ⟨_, rfl⟩
    rw [if_neg (fun e => e hq), c_knotAt1 R.2.1 W.1 hq, ← hp, cR_ok, if_neg (show ¬ (p = 0) by omega)]
    have KK := R.2.1.kn hq
    have wk := wfKn_q W.1 hq
    rw [← hp] at KK
    have k1 := KK.1.1
    generalize hk : knQ a.1 q = k at *
    simp (disch := ((try simp only [kd_sF, kd_sA, gA_sF, gA_sA, gF_sF, gF_sA, List.length_set, reduceIte, and_true, and_false, true_and, false_and, Nat.reduceEqDiff, Int.reduceEq, k1]); first | done | omega)) only [rF_ok, wF_ok, oK_ok, lA_ok, rA_ok, wA_ok, cI_ok, cV_ok, cL_ok, cR_ok, kd_sF, kd_sA, gA_sF, gF_sA, gF_sF, gA_sA, bk_0, bk_1, List.length_set, reduceIte, and_true, and_false, true_and, false_and, ne_eq, not_true_eq_false, not_false_eq_true, Int.toNat_natCast, Int.reduceToNat, Nat.reduceEqDiff, Int.reduceEq, Int.reduceLT, Int.reduceLE, Int.reduceAdd, Int.reduceSub, Int.reduceMul, Int.reduceNeg, k1]
    refine biV (c_swap (d := d + 1) hs KK wk.2.2.2.2.1 wk.2.2.2.2.2.1) fun s1 _ ⟨i1, i2, i3⟩ => ?_
    simp (disch := ((try simp only [kd_sF, kd_sA, gA_sF, gA_sA, gF_sF, gF_sA, List.length_set, reduceIte, and_true, and_false, true_and, false_and, Nat.reduceEqDiff, Int.reduceEq, i1.o34, i1.o3, i1.o10]); first | done | omega)) only [rF_ok, wF_ok, oK_ok, lA_ok, rA_ok, wA_ok, cI_ok, cV_ok, cL_ok, cR_ok, kd_sF, kd_sA, gA_sF, gF_sA, gF_sF, gA_sA, bk_0, bk_1, List.length_set, reduceIte, and_true, and_false, true_and, false_and, ne_eq, not_true_eq_false, not_false_eq_true, Int.toNat_natCast, Int.reduceToNat, Nat.reduceEqDiff, Int.reduceEq, Int.reduceLT, Int.reduceLE, Int.reduceAdd, Int.reduceSub, Int.reduceMul, Int.reduceNeg, i1.o34, i1.o3, i1.o10]
    rw [hp] at i3
    have F1 : FrK [] [3 + 11 + 2 * q] [3 + 11 + 2 * q + 1] s s1 := i2.mono2 (by simp) (by simp) (by rw [hp]; simp)
    refine biV (R.one (d := d + 1) (kind := 3) (pl := -1) W hq i1 F1 i3 (by rw [un_mir wk.2.2.2.2.2.1, hk])) fun s2 _ ⟨r1, r2, r3⟩ => ?_
    rw [← hp] at r3
    have q1 := r3.1.1
    have q3 := r3.2.2.2.2.1
    simp (disch := ((try simp only [kd_sF, kd_sA, gA_sF, gA_sA, gF_sF, gF_sA, List.length_set, reduceIte, and_true, and_false, true_and, false_and, Nat.reduceEqDiff, Int.reduceEq, q1]); first | done | omega)) only [rF_ok, wF_ok, oK_ok, lA_ok, rA_ok, wA_ok, cI_ok, cV_ok, cL_ok, cR_ok, kd_sF, kd_sA, gA_sF, gF_sA, gF_sF, gA_sA, bk_0, bk_1, List.length_set, reduceIte, and_true, and_false, true_and, false_and, ne_eq, not_true_eq_false, not_false_eq_true, Int.toNat_natCast, Int.reduceToNat, Nat.reduceEqDiff, Int.reduceEq, Int.reduceLT, Int.reduceLE, Int.reduceAdd, Int.reduceSub, Int.reduceMul, Int.reduceNeg, q1, q3]
    refine reI ⟨?_, r1, r2⟩
    unfold kLen knMir
    rw [List.length_map]
  · rw [if_pos hq, c_knotAt0 R.2.1 hq, cR_ok, if_pos rfl]
    exact reI ⟨rfl, R, FrK.rf _ _ _ _⟩
theorem c_layOn {q pl : Int} (R : RepC a s) (W : wfA a) : Gl (GI fun x s' => x = (dLay a q pl).1 ∧ RepC (dLay a q pl).2 s' ∧ FrK [6] kQs aQs s s') (X8_layOn (d + 4) s 34 q pl) := by
  have hs := R.1
  rw [e_X8_layOn]
  unfold dLay
  by_cases hpl : 0 ≤ pl ∧ pl ≤ 2
  · rw [if_neg (fun e => e hpl), c_isPlace1 hpl, cI_ok, if_neg (show ¬ ((1 : Int) = 0) by decide)]
    simp (disch := ((try simp only [kd_sF, kd_sA, gA_sF, gA_sA, gF_sF, gF_sA, List.length_set, reduceIte, and_true, and_false, true_and, false_and, Nat.reduceEqDiff, Int.reduceEq, hs.o34, hs.o3]); first | done | omega)) only [rF_ok, wF_ok, oK_ok, lA_ok, rA_ok, wA_ok, cI_ok, cV_ok, cL_ok, cR_ok, kd_sF, kd_sA, gA_sF, gF_sA, gF_sF, gA_sA, bk_0, bk_1, List.length_set, reduceIte, and_true, and_false, true_and, false_and, ne_eq, not_true_eq_false, not_false_eq_true, Int.toNat_natCast, Int.reduceToNat, Nat.reduceEqDiff, Int.reduceEq, Int.reduceLT, Int.reduceLE, Int.reduceAdd, Int.reduceSub, Int.reduceMul, Int.reduceNeg, hs.o34, hs.o3]
    by_cases hq : 0 ≤ q ∧ q < (a.1.1.length : Int)
    · obtain ⟨p, hp⟩ : ∃ p : Int, p = 3 + 11 + 2 * q := ⟨_, rfl⟩
      have h8 := W.1.1.1
      rw [if_neg (fun e => e hq), c_knotAt1 R.2.1 W.1 hq, ← hp, cR_ok, if_neg (show ¬ (p = 0) by omega)]
      have KN : ∀ s', DrC s' 3 a.1 → KnC s' p (knQ a.1 q) := fun s' h => by rw [hp]; exact h.kn hq
      have KK := KN s R.2.1
      have wk := wfKn_q W.1 hq
      obtain ⟨⟨k1, k2, k3, k4⟩, g0, g1, g2, g3, g4, g5⟩ := id KK
      generalize hk : knQ a.1 q = k at *
      have hl := wk.2.2.2.2.1
      rcases wk.2.2.2.1 with t0 | t1
      · rw [t0] at g4
        simp (disch := ((try simp only [kd_sF, kd_sA, gA_sF, gA_sA, gF_sF, gF_sA, List.length_set, reduceIte, and_true, and_false, true_and, false_and, Nat.reduceEqDiff, Int.reduceEq, k1]); first | done | omega)) only [rF_ok, wF_ok, oK_ok, lA_ok, rA_ok, wA_ok, cI_ok, cV_ok, cL_ok, cR_ok, kd_sF, kd_sA, gA_sF, gF_sA, gF_sF, gA_sA, bk_0, bk_1, List.length_set, reduceIte, and_true, and_false, true_and, false_and, ne_eq, not_true_eq_false, not_false_eq_true, Int.toNat_natCast, Int.reduceToNat, Nat.reduceEqDiff, Int.reduceEq, Int.reduceLT, Int.reduceLE, Int.reduceAdd, Int.reduceSub, Int.reduceMul, Int.reduceNeg, k1, g4, c_lastPlace (d := d + 3) KK hl]
        by_cases c1 : lastP k = pl
        · rw [if_pos c1, if_pos (Or.inr c1)]
          exact reI ⟨rfl, R, FrK.rf _ _ _ _⟩
        rw [if_neg c1, if_neg (show ¬ (k.2.2.2.1 = 1 ∨ lastP k = pl) from fun e => e.elim (by rw [t0]; decide) c1)]
        simp (disch := ((try simp only [kd_sF, kd_sA, gA_sF, gA_sA, gF_sF, gF_sA, List.length_set, reduceIte, and_true, and_false, true_and, false_and, Nat.reduceEqDiff, Int.reduceEq, k1]); first | done | omega)) only [rF_ok, wF_ok, oK_ok, lA_ok, rA_ok, wA_ok, cI_ok, cV_ok, cL_ok, cR_ok, kd_sF, kd_sA, gA_sF, gF_sA, gF_sF, gA_sA, bk_0, bk_1, List.length_set, reduceIte, and_true, and_false, true_and, false_and, ne_eq, not_true_eq_false, not_false_eq_true, Int.toNat_natCast, Int.reduceToNat, Nat.reduceEqDiff, Int.reduceEq, Int.reduceLT, Int.reduceLE, Int.reduceAdd, Int.reduceSub, Int.reduceMul, Int.reduceNeg, k1, g3]
        by_cases c2 : kLen k < 12
        · rw [if_pos (show (kLen k : Int) < 12 by omega), if_neg (fun e => e c2)]
          simp (disch := ((try simp only [kd_sF, kd_sA, gA_sF, gA_sA, gF_sF, gF_sA, List.length_set, reduceIte, and_true, and_false, true_and, false_and, Nat.reduceEqDiff, Int.reduceEq, hs.o34]); first | done | omega)) only [rF_ok, wF_ok, oK_ok, lA_ok, rA_ok, wA_ok, cI_ok, cV_ok, cL_ok, cR_ok, kd_sF, kd_sA, gA_sF, gF_sA, gF_sF, gA_sA, bk_0, bk_1, List.length_set, reduceIte, and_true, and_false, true_and, false_and, ne_eq, not_true_eq_false, not_false_eq_true, Int.toNat_natCast, Int.reduceToNat, Nat.reduceEqDiff, Int.reduceEq, Int.reduceLT, Int.reduceLE, Int.reduceAdd, Int.reduceSub, Int.reduceMul, Int.reduceNeg, hs.o34]
          refine biV (c_weigh (d := d) (p := p) (D := 3) hs.j R.2.1 W.1 (by decide) KK wk (by omega)) fun s4 hev ⟨j1, j2, j3⟩ => ?_
          have hs4 : ShC s4 := hs.ev hev rfl
          have R4 := R.jr W j1 hs4
          simp (disch := ((try simp only [kd_sF, kd_sA, gA_sF, gA_sA, gF_sF, gF_sA, List.length_set, reduceIte, and_true, and_false, true_and, false_and, Nat.reduceEqDiff, Int.reduceEq, hs4.o34]); first | done | omega)) only [rF_ok, wF_ok, oK_ok, lA_ok, rA_ok, wA_ok, cI_ok, cV_ok, cL_ok, cR_ok, kd_sF, kd_sA, gA_sF, gF_sA, gF_sF, gA_sA, bk_0, bk_1, List.length_set, reduceIte, and_true, and_false, true_and, false_and, ne_eq, not_true_eq_false, not_false_eq_true, Int.toNat_natCast, Int.reduceToNat, Nat.reduceEqDiff, Int.reduceEq, Int.reduceLT, Int.reduceLE, Int.reduceAdd, Int.reduceSub, Int.reduceMul, Int.reduceNeg, hs4.o34]
          refine biV (c_askNext (d := d) (D := 3) hs4.j R4.2.1 W.1 (KN s4 R4.2.1) wk hpl) fun s5 hev5 ⟨j4, j5, j6, j7, j8, _⟩ => ?_
          have hs5 : ShC s5 := hs4.ev hev5 rfl
          have R5 := R4.jr W j4 hs5
          have K5 := KN s5 R5.2.1
          obtain ⟨⟨l1, l2, l3, l4⟩, m0, m1, m2, m3, m4, m5⟩ := id K5
          have hb := brA_bd (cls := clsD a.1) (mood := moodD a.1) (th := k.2.1) (side := (k.1 + kLen k) % 2) (k := kLen k) (bef := lastP k) (pl := pl)
          have ht := tkQ_bd (cls := clsD a.1) (mood := moodD a.1) (th := k.2.1) (side := (k.1 + kLen k) % 2) (k := kLen k) (bef := lastP k) (pl := pl) (by have := wk.2.1; omega)
          have hs1 : 0 ≤ tkK a.1 k ∧ tkK a.1 k ≤ 240 := by
            have := sumN_bd (f := tkW (clsD a.1) (moodD a.1) k.2.1 k.1 (pF k)) (a := 0) (b := 20) (n := kLen k) (fun j _ => tkQ_bd (by have := wk.2.1; omega))
            unfold tkK
            omega
          have F05 : FrK [6] kQs aQs s s5 := (j1.k.tr j4.k).mono (by decide) (by decide) (by decide)
          simp (disch := ((try simp only [kd_sF, kd_sA, gA_sF, gA_sA, gF_sF, gF_sA, List.length_set, reduceIte, and_true, and_false, true_and, false_and, Nat.reduceEqDiff, Int.reduceEq, hs5.o34, hs5.o31]); first | done | omega)) only [rF_ok, wF_ok, oK_ok, lA_ok, rA_ok, wA_ok, cI_ok, cV_ok, cL_ok, cR_ok, kd_sF, kd_sA, gA_sF, gF_sA, gF_sF, gA_sA, bk_0, bk_1, List.length_set, reduceIte, and_true, and_false, true_and, false_and, ne_eq, not_true_eq_false, not_false_eq_true, Int.toNat_natCast, Int.reduceToNat, Nat.reduceEqDiff, Int.reduceEq, Int.reduceLT, Int.reduceLE, Int.reduceAdd, Int.reduceSub, Int.reduceMul, Int.reduceNeg, hs5.o34, hs5.o31, j7]
          generalize hB : brA (clsD a.1) (moodD a.1) k.2.1 ((k.1 + kLen k) % 2) (kLen k) (lastP k) pl = B at *
          generalize hT : tkQ (clsD a.1) (moodD a.1) k.2.1 ((k.1 + kLen k) % 2) (kLen k) (lastP k) pl = T at *
          by_cases c3 : B = 0
          · rw [if_pos c3]
            simp (disch := ((try simp only [kd_sF, kd_sA, gA_sF, gA_sA, gF_sF, gF_sA, List.length_set, reduceIte, and_true, and_false, true_and, false_and, Nat.reduceEqDiff, Int.reduceEq, hs5.o34, hs5.o31, l1]); first | done | omega)) only [rF_ok, wF_ok, oK_ok, lA_ok, rA_ok, wA_ok, cI_ok, cV_ok, cL_ok, cR_ok, kd_sF, kd_sA, gA_sF, gF_sA, gF_sF, gA_sA, bk_0, bk_1, List.length_set, reduceIte, and_true, and_false, true_and, false_and, ne_eq, not_true_eq_false, not_false_eq_true, Int.toNat_natCast, Int.reduceToNat, Nat.reduceEqDiff, Int.reduceEq, Int.reduceLT, Int.reduceLE, Int.reduceAdd, Int.reduceSub, Int.reduceMul, Int.reduceNeg, hs5.o34, hs5.o31, l1, j8, j2, j5, m2, wi_sm]
            by_cases c4 : k.2.2.1 < tkK a.1 k + T
            · rw [if_pos c4, if_pos (Or.inr c4)]
              exact reI ⟨rfl, R5, F05⟩
            rw [if_neg c4, if_neg (show ¬ (B = 1 ∨ k.2.2.1 < tkK a.1 k + T) by omega), e_X3_push]
            simp (disch := ((try simp only [kd_sF, kd_sA, gA_sF, gA_sA, gF_sF, gF_sA, List.length_set, reduceIte, and_true, and_false, true_and, false_and, Nat.reduceEqDiff, Int.reduceEq, l1, l2, l3, l4]); first | done | omega)) only [rF_ok, wF_ok, oK_ok, lA_ok, rA_ok, wA_ok, cI_ok, cV_ok, cL_ok, cR_ok, kd_sF, kd_sA, gA_sF, gF_sA, gF_sF, gA_sA, bk_0, bk_1, List.length_set, reduceIte, and_true, and_false, true_and, false_and, ne_eq, not_true_eq_false, not_false_eq_true, Int.toNat_natCast, Int.reduceToNat, Nat.reduceEqDiff, Int.reduceEq, Int.reduceLT, Int.reduceLE, Int.reduceAdd, Int.reduceSub, Int.reduceMul, Int.reduceNeg, l1, l2, l3, l4, m3, if_pos (show (kLen k : Int) < 12 by omega), wi_sm]
            have hsA : ShC (sA s5 (p + 1) ((gA s5 (p + 1)).set (kLen k) pl)) := hs5.sA (by rw [List.length_set]) (by rw [l3]; decide)
            have hs6 : ShC (sF (sA s5 (p + 1) ((gA s5 (p + 1)).set (kLen k) pl)) p 3 ((kLen k : Int) + 1)) := hsA.sF (by rw [kd_sA, l1]; decide)
            have K6 := K5.push (x := pl) c2
            have F1 : FrK [] [3 + 11 + 2 * q] [3 + 11 + 2 * q + 1] s5 (sF (sA s5 (p + 1) ((gA s5 (p + 1)).set (kLen k) pl)) p 3 ((kLen k : Int) + 1)) := by rw [hp]; exact (FrK.sA _ (by simp)).tr (FrK.sF (by simp))
            generalize sF (sA s5 (p + 1) ((gA s5 (p + 1)).set (kLen k) pl)) p 3 ((kLen k : Int) + 1) = S6 at *
            simp (disch := ((try simp only [kd_sF, kd_sA, gA_sF, gA_sA, gF_sF, gF_sA, List.length_set, reduceIte, and_true, and_false, true_and, false_and, Nat.reduceEqDiff, Int.reduceEq, hs6.o34, hs6.o3, hs6.o10]); first | done | omega)) only [rF_ok, wF_ok, oK_ok, lA_ok, rA_ok, wA_ok, cI_ok, cV_ok, cL_ok, cR_ok, kd_sF, kd_sA, gA_sF, gF_sA, gF_sF, gA_sA, bk_0, bk_1, List.length_set, reduceIte, and_true, and_false, true_and, false_and, ne_eq, not_true_eq_false, not_false_eq_true, Int.toNat_natCast, Int.reduceToNat, Nat.reduceEqDiff, Int.reduceEq, Int.reduceLT, Int.reduceLE, Int.reduceAdd, Int.reduceSub, Int.reduceMul, Int.reduceNeg, hs6.o34, hs6.o3, hs6.o10]
            rw [hp] at K6
            refine biV (R5.one (d := d + 2) (kind := 0) (pl := -1) W hq hs6 F1 K6 (by rw [un_lay, hk])) fun s7 _ ⟨r1, r2, r3⟩ => ?_
            rw [← hp] at r3
            have q1 := r3.1.1
            have q3 := r3.2.2.2.2.1
            simp (disch := ((try simp only [kd_sF, kd_sA, gA_sF, gA_sA, gF_sF, gF_sA, List.length_set, reduceIte, and_true, and_false, true_and, false_and, Nat.reduceEqDiff, Int.reduceEq, q1]); first | done | omega)) only [rF_ok, wF_ok, oK_ok, lA_ok, rA_ok, wA_ok, cI_ok, cV_ok, cL_ok, cR_ok, kd_sF, kd_sA, gA_sF, gF_sA, gF_sF, gA_sA, bk_0, bk_1, List.length_set, reduceIte, and_true, and_false, true_and, false_and, ne_eq, not_true_eq_false, not_false_eq_true, Int.toNat_natCast, Int.reduceToNat, Nat.reduceEqDiff, Int.reduceEq, Int.reduceLT, Int.reduceLE, Int.reduceAdd, Int.reduceSub, Int.reduceMul, Int.reduceNeg, q1, q3]
            refine reI ⟨?_, r1, F05.tr r2⟩
            unfold kLen knPush
            rw [List.length_append]
            rfl
          · rw [if_neg c3, if_pos (Or.inl (show B = 1 by omega))]
            exact reI ⟨rfl, R5, F05⟩
        · rw [if_neg (show ¬ ((kLen k : Int) < 12) by omega), if_pos c2]
          exact reI ⟨rfl, R, FrK.rf _ _ _ _⟩
      · rw [t1] at g4
        simp (disch := ((try simp only [kd_sF, kd_sA, gA_sF, gA_sA, gF_sF, gF_sA, List.length_set, reduceIte, and_true, and_false, true_and, false_and, Nat.reduceEqDiff, Int.reduceEq, k1]); first | done | omega)) only [rF_ok, wF_ok, oK_ok, lA_ok, rA_ok, wA_ok, cI_ok, cV_ok, cL_ok, cR_ok, kd_sF, kd_sA, gA_sF, gF_sA, gF_sF, gA_sA, bk_0, bk_1, List.length_set, reduceIte, and_true, and_false, true_and, false_and, ne_eq, not_true_eq_false, not_false_eq_true, Int.toNat_natCast, Int.reduceToNat, Nat.reduceEqDiff, Int.reduceEq, Int.reduceLT, Int.reduceLE, Int.reduceAdd, Int.reduceSub, Int.reduceMul, Int.reduceNeg, k1, g4]
        rw [if_pos (Or.inl t1)]
        exact reI ⟨rfl, R, FrK.rf _ _ _ _⟩
    · rw [if_pos hq, c_knotAt0 R.2.1 hq, cR_ok, if_pos rfl]
      exact reI ⟨rfl, R, FrK.rf _ _ _ _⟩
  · rw [if_pos hpl, c_isPlace0 (by omega), cI_ok, if_pos rfl]
    exact reI ⟨rfl, R, FrK.rf _ _ _ _⟩
end CAC
