/-! ===== the class: terms, force, sights, boys, the tape's end ===== -/
section CY
variable {s s' s1 : St} {a : Ab} {d : Nat} {dr : Dr}
theorem DrC.re {b : List Int} {sg : List (Int × Int)} {tm : Int × Int × Int} {f : Int} (R : DrC s 3 dr) (hs' : ShC s') (hk : ∀ p, kd s' p = kd s p) (hf : ∀ p k, p ≠ 3 → k < 100 → gF s' p k = gF s p k) (ha : ∀ x : Int, x < 5 ∨ 8 < x → gA s' x = gA s x) (h1 : gF s' 3 1 = gF s 3 1) (h9 : gF s' 3 9 = gF s 3 9) (hb : gF s' 3 3 = b.length ∧ ∀ i, i < b.length → af s' 5 i = b.getD i 0) (hsg : gF s' 3 6 = sg.length ∧ ∀ i, i < sg.length → af s' 6 i = (sg.getD i (0, 0)).1 ∧ af s' 7 i = (sg.getD i (0, 0)).2) (ht : gA s' 8 = [tm.1, tm.2.1, tm.2.2]) (hfc : gF s' 3 10 = f) : DrC s' 3 (dr.1, b, sg, tm, dr.2.2.2.2.1, f) := by
  obtain ⟨-, ⟨k1, k2⟩, -, -, -, ⟨l1, l2⟩, -⟩ := R
  refine ⟨hs'.d3, ⟨h1.trans k1, fun i hi => (k2 i hi).fr ⟨hk _, hk _⟩ (fun j hj => hf _ j (by omega) hj) (ha _ (by omega))⟩, hb, hsg, ht, ⟨h9.trans l1, fun t h => ?_⟩, hfc⟩
  have e : af s' (3 + 6) t = af s (3 + 6) t := by unfold af; rw [ha (3 + 6) (by decide)]
  rw [e]
  have h98 := (l2 t h).1
  exact ⟨h98, (l2 t h).2.fr (fun p _ _ => hk p) (fun k hk => hf _ k (by omega) hk) (fun p q1 q2 => ha p (by omega))⟩
theorem RepC.drw {D : Dr} (R : RepC a s) (W : wfA a) (hs1 : ShC s1) (F : FrK [] [3] [5, 6, 7, 8] s s1) (hD : DrC s1 3 D) (hk : D.1 = a.1.1) : RepC (setDr a D) s1 := by
  have hs := R.1
  obtain ⟨-, -, -, r4, r5, r6, r7, -, r9⟩ := id R
  refine R.up W F hs1 (by decide) (by decide) (r9.k2 hs.o78.1 F (by decide) (by decide) (by decide)) hD (by rw [hk]; exact r4.k hs.o10.1 F (by decide) (by decide) (by decide)) (r5.k hs.o1.1 F (by decide) (by decide) (by decide)) (r6.k hs.o1.1 hs.o75.1 F (by decide) (by decide)) ?_
  unfold RfC
  rw [F.2.2 97 (by decide)]
  exact r7
theorem cc_force {l : Int} (R : RepC a s) (W : wfA a) : Gl (GI fun x s' => x = (aForce a l).1 ∧ RepC (aForce a l).2 s') (X11_force (d + 1) s 1 l) := by
  have hs := R.1
  have k3 : kd s 3 = 4 := hs.o3.1
  obtain ⟨-, ⟨k1, k2⟩, ⟨b1, b2⟩, ⟨s1, s2⟩, t1, ⟨l1, l2⟩, f1⟩ := id R.2.1
  rw [e_X11_force]
  unfold aForce
  by_cases h1 : l < -1
  · rw [if_pos h1, if_neg (by omega)]
    simp (disch := ((try simp only [kd_sF, kd_sA, gA_sF, gA_sA, gF_sF, gF_sA, List.length_set, reduceIte, and_true, and_false, true_and, false_and, Nat.reduceEqDiff, Int.reduceEq, hs.o1]); first | done | omega)) only [rF_ok, wF_ok, oK_ok, lA_ok, rA_ok, wA_ok, cI_ok, cV_ok, cL_ok, cR_ok, kd_sF, kd_sA, gA_sF, gF_sA, gF_sF, gA_sA, bk_0, bk_1, List.length_set, reduceIte, and_true, and_false, true_and, false_and, ne_eq, not_true_eq_false, not_false_eq_true, Int.toNat_natCast, Int.reduceToNat, Nat.reduceEqDiff, Int.reduceEq, Int.reduceLT, Int.reduceLE, Int.reduceAdd, Int.reduceSub, Int.reduceMul, Int.reduceNeg, hs.o1]
    exact cc_ref (by decide) R W fun _ _ => rfl
  rw [if_neg h1]
  simp (disch := ((try simp only [kd_sF, kd_sA, gA_sF, gA_sA, gF_sF, gF_sA, List.length_set, reduceIte, and_true, and_false, true_and, false_and, Nat.reduceEqDiff, Int.reduceEq, hs.o1, hs.o3]); first | done | omega)) only [rF_ok, wF_ok, oK_ok, lA_ok, rA_ok, wA_ok, cI_ok, cV_ok, cL_ok, cR_ok, kd_sF, kd_sA, gA_sF, gF_sA, gF_sF, gA_sA, bk_0, bk_1, List.length_set, reduceIte, and_true, and_false, true_and, false_and, ne_eq, not_true_eq_false, not_false_eq_true, Int.toNat_natCast, Int.reduceToNat, Nat.reduceEqDiff, Int.reduceEq, Int.reduceLT, Int.reduceLE, Int.reduceAdd, Int.reduceSub, Int.reduceMul, Int.reduceNeg, hs.o1, hs.o3, l1]
  by_cases h2 : l < (a.1.2.2.2.2.1.length : Int)
  · rw [if_pos h2, if_pos (by omega)]
    simp (disch := ((try simp only [kd_sF, kd_sA, gA_sF, gA_sA, gF_sF, gF_sA, List.length_set, reduceIte, and_true, and_false, true_and, false_and, Nat.reduceEqDiff, Int.reduceEq, hs.o1, hs.o3]); first | done | omega)) only [rF_ok, wF_ok, oK_ok, lA_ok, rA_ok, wA_ok, cI_ok, cV_ok, cL_ok, cR_ok, kd_sF, kd_sA, gA_sF, gF_sA, gF_sF, gA_sA, bk_0, bk_1, List.length_set, reduceIte, and_true, and_false, true_and, false_and, ne_eq, not_true_eq_false, not_false_eq_true, Int.toNat_natCast, Int.reduceToNat, Nat.reduceEqDiff, Int.reduceEq, Int.reduceLT, Int.reduceLE, Int.reduceAdd, Int.reduceSub, Int.reduceMul, Int.reduceNeg, hs.o1, hs.o3, f1]
    have hs2 : ShC (sF s 3 10 l) := hs.sF (by rw [k3]; decide)
    have R2 : RepC (setDr a (a.1.1, a.1.2.1, a.1.2.2.1, a.1.2.2.2.1, a.1.2.2.2.2.1, l)) (sF s 3 10 l) := by
      refine R.drw W hs2 (FrK.sF (by decide)) ?_ rfl
      exact R.2.1.re hs2 (fun _ => rfl) (fun p k hp _ => gF_np hp) (fun _ _ => rfl) (gF_nk (by decide)) (gF_nk (by decide)) ⟨(gF_nk (by decide)).trans b1, b2⟩ ⟨(gF_nk (by decide)).trans s1, s2⟩ t1 (gF_eq _ _ _ _)
    refine cc_grant R2 (wfA_d W ⟨W.1.1, W.1.2.1, W.1.2.2.1, W.1.2.2.2.1, W.1.2.2.2.2.1, ?_⟩ rfl) fun _ _ => rfl
    show -1 ≤ l ∧ l < (a.1.2.2.2.2.1.length : Int)
    omega
  · rw [if_neg h2, if_neg (by omega)]
    exact cc_ref (by decide) R W fun _ _ => rfl
theorem cc_forget (R : RepC a s) (W : wfA a) : Gl (GI fun x s' => x = (aForget a).1 ∧ RepC (aForget a).2 s') (X11_forget d s 1) := by
  have hs := R.1
  have k3 : kd s 3 = 4 := hs.o3.1
  obtain ⟨-, ⟨k1, k2⟩, ⟨b1, b2⟩, ⟨s1, s2⟩, t1, ⟨l1, l2⟩, f1⟩ := id R.2.1
  rw [e_X11_forget]
  simp (disch := ((try simp only [kd_sF, kd_sA, gA_sF, gA_sA, gF_sF, gF_sA, List.length_set, reduceIte, and_true, and_false, true_and, false_and, Nat.reduceEqDiff, Int.reduceEq, hs.o1, hs.o3]); first | done | omega)) only [rF_ok, wF_ok, oK_ok, lA_ok, rA_ok, wA_ok, cI_ok, cV_ok, cL_ok, cR_ok, kd_sF, kd_sA, gA_sF, gF_sA, gF_sF, gA_sA, bk_0, bk_1, List.length_set, reduceIte, and_true, and_false, true_and, false_and, ne_eq, not_true_eq_false, not_false_eq_true, Int.toNat_natCast, Int.reduceToNat, Nat.reduceEqDiff, Int.reduceEq, Int.reduceLT, Int.reduceLE, Int.reduceAdd, Int.reduceSub, Int.reduceMul, Int.reduceNeg, hs.o1, hs.o3, s1]
  have hs2 : ShC (sF s 3 6 0) := hs.sF (by rw [k3]; decide)
  refine reI ⟨rfl, R.drw W hs2 (FrK.sF (by decide)) ?_ rfl⟩
  exact R.2.1.re hs2 (fun _ => rfl) (fun p k hp _ => gF_np hp) (fun _ _ => rfl) (gF_nk (by decide)) (gF_nk (by decide)) ⟨(gF_nk (by decide)).trans b1, b2⟩ ⟨gF_eq _ _ _ _, fun i hi => absurd hi (by simp)⟩ t1 ((gF_nk (by decide)).trans f1)
theorem cc_home (R : RepC a s) (W : wfA a) : Gl (GI fun x s' => x = (aHome a).1 ∧ RepC (aHome a).2 s') (X11_home d s 1) := by
  have hs := R.1
  have k3 : kd s 3 = 4 := hs.o3.1
  obtain ⟨-, ⟨k1, k2⟩, ⟨b1, b2⟩, ⟨s1, s2⟩, t1, ⟨l1, l2⟩, f1⟩ := id R.2.1
  rw [e_X11_home]
  simp (disch := ((try simp only [kd_sF, kd_sA, gA_sF, gA_sA, gF_sF, gF_sA, List.length_set, reduceIte, and_true, and_false, true_and, false_and, Nat.reduceEqDiff, Int.reduceEq, hs.o1, hs.o3]); first | done | omega)) only [rF_ok, wF_ok, oK_ok, lA_ok, rA_ok, wA_ok, cI_ok, cV_ok, cL_ok, cR_ok, kd_sF, kd_sA, gA_sF, gF_sA, gF_sF, gA_sA, bk_0, bk_1, List.length_set, reduceIte, and_true, and_false, true_and, false_and, ne_eq, not_true_eq_false, not_false_eq_true, Int.toNat_natCast, Int.reduceToNat, Nat.reduceEqDiff, Int.reduceEq, Int.reduceLT, Int.reduceLE, Int.reduceAdd, Int.reduceSub, Int.reduceMul, Int.reduceNeg, hs.o1, hs.o3, b1]
  have hs2 : ShC (sF s 3 3 0) := hs.sF (by rw [k3]; decide)
  refine reI ⟨rfl, R.drw W hs2 (FrK.sF (by decide)) ?_ rfl⟩
  exact R.2.1.re hs2 (fun _ => rfl) (fun p k hp _ => gF_np hp) (fun _ _ => rfl) (gF_nk (by decide)) (gF_nk (by decide)) ⟨gF_eq _ _ _ _, fun i hi => absurd hi (by simp)⟩ ⟨(gF_nk (by decide)).trans s1, s2⟩ t1 ((gF_nk (by decide)).trans f1)
theorem cc_boy {c : Int} (R : RepC a s) (W : wfA a) : Gl (GI fun x s' => x = (aBoy a c).1 ∧ RepC (aBoy a c).2 s') (X11_boy (d + 1) s 1 c) := by
  have hs := R.1
  have k3 : kd s 3 = 4 := hs.o3.1
  have k5 : kd s 5 = 20 := hs.1 5 (by decide) (by decide)
  have l5 : (gA s 5).length = 6 := hs.2.1 5 (by decide) (by decide)
  obtain ⟨-, ⟨k1, k2⟩, ⟨b1, b2⟩, ⟨s1, s2⟩, t1, ⟨l1, l2⟩, f1⟩ := id R.2.1
  rw [e_X11_boy]
  unfold aBoy
  by_cases h1 : c < 1
  · rw [if_pos h1, if_neg (by omega)]
    simp (disch := ((try simp only [kd_sF, kd_sA, gA_sF, gA_sA, gF_sF, gF_sA, List.length_set, reduceIte, and_true, and_false, true_and, false_and, Nat.reduceEqDiff, Int.reduceEq, hs.o1]); first | done | omega)) only [rF_ok, wF_ok, oK_ok, lA_ok, rA_ok, wA_ok, cI_ok, cV_ok, cL_ok, cR_ok, kd_sF, kd_sA, gA_sF, gF_sA, gF_sF, gA_sA, bk_0, bk_1, List.length_set, reduceIte, and_true, and_false, true_and, false_and, ne_eq, not_true_eq_false, not_false_eq_true, Int.toNat_natCast, Int.reduceToNat, Nat.reduceEqDiff, Int.reduceEq, Int.reduceLT, Int.reduceLE, Int.reduceAdd, Int.reduceSub, Int.reduceMul, Int.reduceNeg, hs.o1]
    exact cc_ref (by decide) R W fun _ _ => rfl
  rw [if_neg h1]
  by_cases h2 : 200 < c
  · rw [if_pos h2, if_neg (by omega)]
    simp (disch := ((try simp only [kd_sF, kd_sA, gA_sF, gA_sA, gF_sF, gF_sA, List.length_set, reduceIte, and_true, and_false, true_and, false_and, Nat.reduceEqDiff, Int.reduceEq, hs.o1]); first | done | omega)) only [rF_ok, wF_ok, oK_ok, lA_ok, rA_ok, wA_ok, cI_ok, cV_ok, cL_ok, cR_ok, kd_sF, kd_sA, gA_sF, gF_sA, gF_sF, gA_sA, bk_0, bk_1, List.length_set, reduceIte, and_true, and_false, true_and, false_and, ne_eq, not_true_eq_false, not_false_eq_true, Int.toNat_natCast, Int.reduceToNat, Nat.reduceEqDiff, Int.reduceEq, Int.reduceLT, Int.reduceLE, Int.reduceAdd, Int.reduceSub, Int.reduceMul, Int.reduceNeg, hs.o1]
    exact cc_ref (by decide) R W fun _ _ => rfl
  rw [if_neg h2, if_pos (by omega)]
  simp only [e_X0_addBoy]
  by_cases hl : a.1.2.1.length < 6
  · rw [if_pos hl]
    simp (disch := ((try simp only [kd_sF, kd_sA, gA_sF, gA_sA, gF_sF, gF_sA, List.length_set, reduceIte, and_true, and_false, true_and, false_and, Nat.reduceEqDiff, Int.reduceEq, hs.o1, hs.o3]); first | done | omega)) only [rF_ok, wF_ok, oK_ok, lA_ok, rA_ok, wA_ok, cI_ok, cV_ok, cL_ok, cR_ok, kd_sF, kd_sA, gA_sF, gF_sA, gF_sF, gA_sA, bk_0, bk_1, List.length_set, reduceIte, and_true, and_false, true_and, false_and, ne_eq, not_true_eq_false, not_false_eq_true, Int.toNat_natCast, Int.reduceToNat, Nat.reduceEqDiff, Int.reduceEq, Int.reduceLT, Int.reduceLE, Int.reduceAdd, Int.reduceSub, Int.reduceMul, Int.reduceNeg, hs.o1, hs.o3, b1, if_pos (show (a.1.2.1.length : Int) < 6 by omega), wi_sm]
    rw [show (a.1.2.1.length : Int) + 1 - 1 = a.1.2.1.length by omega]
    have hs2 : ShC (sA s 5 ((gA s 5).set a.1.2.1.length c)) := hs.sA (by rw [List.length_set]) (by rw [k5]; decide)
    have hs3 : ShC (sF (sA s 5 ((gA s 5).set a.1.2.1.length c)) 3 3 ((a.1.2.1.length : Int) + 1)) := hs2.sF (by rw [kd_sA, k3]; decide)
    have R3 : RepC (setDr a (a.1.1, a.1.2.1 ++ [c], a.1.2.2)) (sF (sA s 5 ((gA s 5).set a.1.2.1.length c)) 3 3 ((a.1.2.1.length : Int) + 1)) := by
      refine R.drw W hs3 ((FrK.sA _ (by decide)).tr (FrK.sF (by decide))) ?_ rfl
      refine R.2.1.re hs3 (fun _ => rfl) (fun p k hp _ => gF_np hp) (fun x hx => by rw [gA_sF]; exact gA_ne (by omega)) (gF_nk (by decide)) (gF_nk (by decide)) ⟨(gF_eq _ _ _ _).trans (by rw [List.length_append]; rfl), fun i hi => ?_⟩ ⟨(gF_nk (by decide)).trans s1, fun i hi => ?_⟩ (by rw [gA_sF, gA_ne (by decide)]; exact t1) ((gF_nk (by decide)).trans f1)
      · unfold af
        rw [gA_sF, gA_eq, setD_getD (by omega)]
        rw [List.length_append] at hi
        simp only [List.length_cons, List.length_nil] at hi
        by_cases e : a.1.2.1.length = i
        · rw [if_pos e, ← e, gdApp2]
        · rw [if_neg e, gdApp (by omega)]; exact b2 i (by omega)
      · unfold af
        rw [gA_sF, gA_ne (by decide), gA_sF, gA_ne (by decide)]
        exact s2 i hi
    refine cc_grant R3 (wfA_d W ⟨W.1.1, ⟨by rw [List.length_append]; simp; omega, fun x hx => ?_⟩, W.1.2.2⟩ rfl) fun _ _ => rfl
    rcases List.mem_append.mp hx with e | e
    · exact W.1.2.1.2 x e
    · rw [List.mem_singleton.mp e]; omega
  · rw [if_neg hl]
    simp (disch := ((try simp only [kd_sF, kd_sA, gA_sF, gA_sA, gF_sF, gF_sA, List.length_set, reduceIte, and_true, and_false, true_and, false_and, Nat.reduceEqDiff, Int.reduceEq, hs.o1, hs.o3]); first | done | omega)) only [rF_ok, wF_ok, oK_ok, lA_ok, rA_ok, wA_ok, cI_ok, cV_ok, cL_ok, cR_ok, kd_sF, kd_sA, gA_sF, gF_sA, gF_sF, gA_sA, bk_0, bk_1, List.length_set, reduceIte, and_true, and_false, true_and, false_and, ne_eq, not_true_eq_false, not_false_eq_true, Int.toNat_natCast, Int.reduceToNat, Nat.reduceEqDiff, Int.reduceEq, Int.reduceLT, Int.reduceLE, Int.reduceAdd, Int.reduceSub, Int.reduceMul, Int.reduceNeg, hs.o1, hs.o3, b1, if_neg (show ¬ ((a.1.2.1.length : Int) < 6) by omega)]
    exact cc_ref (by decide) R W fun _ _ => rfl
theorem cc_sight {k pl : Int} (R : RepC a s) (W : wfA a) : Gl (GI fun x s' => x = (aSight a k pl).1 ∧ RepC (aSight a k pl).2 s') (X11_sight (d + 1) s 1 k pl) := by
  have hs := R.1
  have k3 : kd s 3 = 4 := hs.o3.1
  have k6 : kd s 6 = 20 := hs.1 6 (by decide) (by decide)
  have k7 : kd s 7 = 20 := hs.1 7 (by decide) (by decide)
  have l6 : (gA s 6).length = 12 := hs.2.1 6 (by decide) (by decide)
  have l7 : (gA s 7).length = 12 := hs.2.1 7 (by decide) (by decide)
  obtain ⟨-, ⟨k1, k2⟩, ⟨b1, b2⟩, ⟨s1, s2⟩, t1, ⟨l1, l2⟩, f1⟩ := id R.2.1
  rw [e_X11_sight]
  unfold aSight
  by_cases h1 : k < 0
  · rw [if_pos h1, if_neg (by omega)]
    simp (disch := ((try simp only [kd_sF, kd_sA, gA_sF, gA_sA, gF_sF, gF_sA, List.length_set, reduceIte, and_true, and_false, true_and, false_and, Nat.reduceEqDiff, Int.reduceEq, hs.o1]); first | done | omega)) only [rF_ok, wF_ok, oK_ok, lA_ok, rA_ok, wA_ok, cI_ok, cV_ok, cL_ok, cR_ok, kd_sF, kd_sA, gA_sF, gF_sA, gF_sF, gA_sA, bk_0, bk_1, List.length_set, reduceIte, and_true, and_false, true_and, false_and, ne_eq, not_true_eq_false, not_false_eq_true, Int.toNat_natCast, Int.reduceToNat, Nat.reduceEqDiff, Int.reduceEq, Int.reduceLT, Int.reduceLE, Int.reduceAdd, Int.reduceSub, Int.reduceMul, Int.reduceNeg, hs.o1]
    exact cc_ref (by decide) R W fun _ _ => rfl
  rw [if_neg h1]
  by_cases h2 : k < 12
  · rw [if_pos h2]
    by_cases hp : 0 ≤ pl ∧ pl ≤ 2
    · rw [c_isPlace1 hp, cI_ok, if_neg (show ¬ ((1 : Int) = 0) by decide), if_pos (by omega)]
      simp only [e_X0_addSight]
      by_cases hl : a.1.2.2.1.length < 12
      · rw [if_pos hl]
        simp (disch := ((try simp only [kd_sF, kd_sA, gA_sF, gA_sA, gF_sF, gF_sA, List.length_set, reduceIte, and_true, and_false, true_and, false_and, Nat.reduceEqDiff, Int.reduceEq, hs.o1, hs.o3]); first | done | omega)) only [rF_ok, wF_ok, oK_ok, lA_ok, rA_ok, wA_ok, cI_ok, cV_ok, cL_ok, cR_ok, kd_sF, kd_sA, gA_sF, gF_sA, gF_sF, gA_sA, bk_0, bk_1, List.length_set, reduceIte, and_true, and_false, true_and, false_and, ne_eq, not_true_eq_false, not_false_eq_true, Int.toNat_natCast, Int.reduceToNat, Nat.reduceEqDiff, Int.reduceEq, Int.reduceLT, Int.reduceLE, Int.reduceAdd, Int.reduceSub, Int.reduceMul, Int.reduceNeg, hs.o1, hs.o3, s1, if_pos (show (a.1.2.2.1.length : Int) < 12 by omega), wi_sm]
        have hs2 : ShC (sA (sA s 6 ((gA s 6).set a.1.2.2.1.length k)) 7 ((gA s 7).set a.1.2.2.1.length pl)) := (hs.sA (by rw [List.length_set]) (by rw [k6]; decide)).sA (by rw [List.length_set, gA_ne (by decide)]) (by rw [kd_sA, k7]; decide)
        have hs3 : ShC (sF (sA (sA s 6 ((gA s 6).set a.1.2.2.1.length k)) 7 ((gA s 7).set a.1.2.2.1.length pl)) 3 6 ((a.1.2.2.1.length : Int) + 1)) := hs2.sF (by rw [kd_sA, kd_sA, k3]; decide)
        have R3 : RepC (setDr a (a.1.1, a.1.2.1, a.1.2.2.1 ++ [(k, pl)], a.1.2.2.2)) (sF (sA (sA s 6 ((gA s 6).set a.1.2.2.1.length k)) 7 ((gA s 7).set a.1.2.2.1.length pl)) 3 6 ((a.1.2.2.1.length : Int) + 1)) := by
          refine R.drw W hs3 (((FrK.sA _ (by decide)).tr (FrK.sA _ (by decide))).tr (FrK.sF (by decide))) ?_ rfl
          refine R.2.1.re hs3 (fun _ => rfl) (fun p k hp _ => gF_np hp) (fun x hx => by rw [gA_sF, gA_ne (by omega), gA_ne (by omega)]) (gF_nk (by decide)) (gF_nk (by decide)) ⟨(gF_nk (by decide)).trans b1, fun i hi => ?_⟩ ⟨(gF_eq _ _ _ _).trans (by rw [List.length_append]; rfl), fun i hi => ?_⟩ (by rw [gA_sF, gA_ne (by decide), gA_ne (by decide)]; exact t1) ((gF_nk (by decide)).trans f1)
          · unfold af
            rw [gA_sF, gA_ne (by decide), gA_ne (by decide)]
            exact b2 i hi
          · unfold af
            rw [gA_sF, gA_sF, gA_eq, gA_ne (by decide), gA_eq, setD_getD (by omega), setD_getD (by omega)]
            rw [List.length_append] at hi
            simp only [List.length_cons, List.length_nil] at hi
            by_cases e : a.1.2.2.1.length = i
            · rw [if_pos e, if_pos e, ← e, gdApp2]; exact ⟨rfl, rfl⟩
            · rw [if_neg e, if_neg e, gdApp (by omega)]; exact s2 i (by omega)
        refine cc_grant R3 (wfA_d W ⟨W.1.1, W.1.2.1, ⟨by show (a.1.2.2.1 ++ [(k, pl)]).length ≤ 12; rw [List.length_append]; simp; omega, fun x hx => ?_⟩, W.1.2.2.2⟩ rfl) fun _ _ => rfl
        rcases List.mem_append.mp hx with e | e
        · exact W.1.2.2.1.2 x e
        · rw [List.mem_singleton.mp e]; unfold pl3; show (0 ≤ k ∧ k < 12) ∧ (pl = 0 ∨ pl = 1 ∨ pl = 2); omega
      · rw [if_neg hl]
        simp (disch := ((try simp only [kd_sF, kd_sA, gA_sF, gA_sA, gF_sF, gF_sA, List.length_set, reduceIte, and_true, and_false, true_and, false_and, Nat.reduceEqDiff, Int.reduceEq, hs.o1, hs.o3]); first | done | omega)) only [rF_ok, wF_ok, oK_ok, lA_ok, rA_ok, wA_ok, cI_ok, cV_ok, cL_ok, cR_ok, kd_sF, kd_sA, gA_sF, gF_sA, gF_sF, gA_sA, bk_0, bk_1, List.length_set, reduceIte, and_true, and_false, true_and, false_and, ne_eq, not_true_eq_false, not_false_eq_true, Int.toNat_natCast, Int.reduceToNat, Nat.reduceEqDiff, Int.reduceEq, Int.reduceLT, Int.reduceLE, Int.reduceAdd, Int.reduceSub, Int.reduceMul, Int.reduceNeg, hs.o1, hs.o3, s1, if_neg (show ¬ ((a.1.2.2.1.length : Int) < 12) by omega)]
        exact cc_ref (by decide) R W fun _ _ => rfl
    · rw [c_isPlace0 (by omega), cI_ok, if_pos rfl, if_neg (by omega)]
      simp (disch := ((try simp only [kd_sF, kd_sA, gA_sF, gA_sA, gF_sF, gF_sA, List.length_set, reduceIte, and_true, and_false, true_and, false_and, Nat.reduceEqDiff, Int.reduceEq, hs.o1]); first | done | omega)) only [rF_ok, wF_ok, oK_ok, lA_ok, rA_ok, wA_ok, cI_ok, cV_ok, cL_ok, cR_ok, kd_sF, kd_sA, gA_sF, gF_sA, gF_sF, gA_sA, bk_0, bk_1, List.length_set, reduceIte, and_true, and_false, true_and, false_and, ne_eq, not_true_eq_false, not_false_eq_true, Int.toNat_natCast, Int.reduceToNat, Nat.reduceEqDiff, Int.reduceEq, Int.reduceLT, Int.reduceLE, Int.reduceAdd, Int.reduceSub, Int.reduceMul, Int.reduceNeg, hs.o1]
      exact cc_ref (by decide) R W fun _ _ => rfl
  · rw [if_neg h2, if_neg (by omega)]
    simp (disch := ((try simp only [kd_sF, kd_sA, gA_sF, gA_sA, gF_sF, gF_sA, List.length_set, reduceIte, and_true, and_false, true_and, false_and, Nat.reduceEqDiff, Int.reduceEq, hs.o1]); first | done | omega)) only [rF_ok, wF_ok, oK_ok, lA_ok, rA_ok, wA_ok, cI_ok, cV_ok, cL_ok, cR_ok, kd_sF, kd_sA, gA_sF, gF_sA, gF_sF, gA_sA, bk_0, bk_1, List.length_set, reduceIte, and_true, and_false, true_and, false_and, ne_eq, not_true_eq_false, not_false_eq_true, Int.toNat_natCast, Int.reduceToNat, Nat.reduceEqDiff, Int.reduceEq, Int.reduceLT, Int.reduceLE, Int.reduceAdd, Int.reduceSub, Int.reduceMul, Int.reduceNeg, hs.o1]
    exact cc_ref (by decide) R W fun _ _ => rfl
theorem cc_end {n : Int} (R : RepC a s) (W : wfA a) : Gl (GI fun x s' => x = (aEnd a n).1 ∧ RepC (aEnd a n).2 s') (X11_end d s 1 n) := by
  have hs := R.1
  have k1 : kd s 1 = 15 := hs.o1.1
  obtain ⟨-, -, -, -, ⟨t1, t2⟩, ⟨f1, f2, f3, f4⟩, r7, -, -⟩ := id R
  rw [e_X11_end]
  unfold aEnd
  by_cases h1 : n < 0
  · rw [if_pos h1, if_neg (by omega)]; exact reI ⟨rfl, R⟩
  rw [if_neg h1]
  simp (disch := ((try simp only [kd_sF, kd_sA, gA_sF, gA_sA, gF_sF, gF_sA, List.length_set, reduceIte, and_true, and_false, true_and, false_and, Nat.reduceEqDiff, Int.reduceEq, hs.o1]); first | done | omega)) only [rF_ok, wF_ok, oK_ok, lA_ok, rA_ok, wA_ok, cI_ok, cV_ok, cL_ok, cR_ok, kd_sF, kd_sA, gA_sF, gF_sA, gF_sF, gA_sA, bk_0, bk_1, List.length_set, reduceIte, and_true, and_false, true_and, false_and, ne_eq, not_true_eq_false, not_false_eq_true, Int.toNat_natCast, Int.reduceToNat, Nat.reduceEqDiff, Int.reduceEq, Int.reduceLT, Int.reduceLE, Int.reduceAdd, Int.reduceSub, Int.reduceMul, Int.reduceNeg, hs.o1, t1]
  by_cases h2 : (a.2.2.2.1.length : Int) < n
  · rw [if_pos h2, if_neg (by omega)]; exact reI ⟨rfl, R⟩
  rw [if_neg h2, if_pos (by omega)]
  refine reI ⟨rfl, R.m W (FrK.sF (by decide)) (hs.sF (by rw [k1]; decide)) ⟨(gF_eq _ _ _ _).trans (by rw [List.length_take]; omega), fun i hi => ?_⟩ ⟨(gF_nk (by decide)).trans f1, (gF_nk (by decide)).trans f2, (gF_nk (by decide)).trans f3, (gF_np (by decide)).trans f4⟩ r7⟩
  rw [List.length_take] at hi
  rw [List.getD_eq_getElem?_getD, List.getElem?_take, if_pos (by omega), ← List.getD_eq_getElem?_getD]
  exact t2 i (by omega)
end CY
