/-! ===== the reference: sight, terms, end, feed, knot, row, hands, drawn ===== -/
section MSQ
variable {s s' : St} {a : Ab} {d : Nat}
theorem RepM.k100 {D : Dr} (R : RepM a s) (hs : ShM s') (F : Fa [100] s s') (hf : ∀ k ∈ mFs, gF s' 98 k = gF s 98 k) (hD : DrR (kA s') D) : RepM (setDr a D) s' := by
  obtain ⟨r1, -, r3, r4, r5, r6, r7, r8, r9⟩ := id R
  exact R.up hs (fun p hp => F p (by revert p; decide)) (fun k hk => hf k (by revert k; decide)) hD (r4.fr (hf 33 (by decide)) (F 113 (by decide))) (r5.fr (hf 13 (by decide)) (F 105 (by decide))) (r6.fr fun k hk => hf k (by revert k; decide)) (r7.fr (F 99 (by decide)))
theorem mm_sight {k pl : Int} (R : RepM a s) (W : wfA a) : Gl (GI fun x s' => x = (aSight a k pl).1 ∧ RepM (aSight a k pl).2 s') (X12_sight (d + 1) s 98 k pl) := by
  have hs := R.1
  have n0 : (gA s 100).getD 171 0 = (a.1.2.2.1.length : Int) := R.2.1.2.2.1.1
  have h12 := W.1.2.2.1.1
  rw [e_X12_sight, lies_if, cI_ok]
  unfold aSight
  by_cases h1 : 0 ≤ k ∧ k ≤ 11
  · rw [if_pos h1, if_neg (show ¬ ((1 : Int) = 0) by decide), lies_if, cI_ok]
    by_cases h2 : 0 ≤ pl ∧ pl ≤ 2
    · rw [if_pos h2, if_pos ⟨⟨h1.1, by omega⟩, h2⟩, if_neg (show ¬ ((1 : Int) = 0) by decide)]
      simp (disch := ((try simp only [kd_sF, kd_sA, gA_sF, gA_sA, gF_sF, gF_sA, List.length_set, reduceIte, and_true, and_false, true_and, false_and, Nat.reduceEqDiff, Int.reduceEq, hs.kd, hs.ln, hs.fs, kMs, lMs]); first | done | omega)) only [rF_ok, wF_ok, oK_ok, lA_ok, rA_ok, wA_ok, cI_ok, cV_ok, cL_ok, cR_ok, kd_sF, kd_sA, gA_sF, gF_sA, gF_sF, gA_sA, bk_0, bk_1, List.length_set, reduceIte, and_true, and_false, true_and, false_and, ne_eq, not_true_eq_false, not_false_eq_true, Int.toNat_natCast, Int.reduceToNat, Nat.reduceEqDiff, Int.reduceEq, Int.reduceLT, Int.reduceLE, Int.reduceAdd, Int.reduceSub, Int.reduceMul, Int.reduceNeg, hs.kd, hs.ln, hs.fs, kMs, lMs, n0]
      by_cases h3 : a.1.2.2.1.length < 12
      · have et : ((143 : Int) + 2 * (a.1.2.2.1.length : Int)).toNat = 143 + 2 * a.1.2.2.1.length := by omega
        have eu : ((143 : Int) + 2 * (a.1.2.2.1.length : Int) + 1).toNat = 144 + 2 * a.1.2.2.1.length := by omega
        have es : (((gA s 100).set (143 + 2 * a.1.2.2.1.length) k).set (144 + 2 * a.1.2.2.1.length) pl).getD 171 0 = (a.1.2.2.1.length : Int) := by rw [set_ne (by omega), set_ne (by omega), n0]
        rw [if_pos h3, if_neg (show ¬ ((a.1.2.2.1.length : Int) = 12) by omega)]
        simp (disch := ((try simp only [kd_sF, kd_sA, gA_sF, gA_sA, gF_sF, gF_sA, List.length_set, reduceIte, and_true, and_false, true_and, false_and, Nat.reduceEqDiff, Int.reduceEq, hs.kd, hs.ln, hs.fs, kMs, lMs]); first | done | omega)) only [rF_ok, wF_ok, oK_ok, lA_ok, rA_ok, wA_ok, cI_ok, cV_ok, cL_ok, cR_ok, kd_sF, kd_sA, gA_sF, gF_sA, gF_sF, gA_sA, bk_0, bk_1, List.length_set, reduceIte, and_true, and_false, true_and, false_and, ne_eq, not_true_eq_false, not_false_eq_true, Int.toNat_natCast, Int.reduceToNat, Nat.reduceEqDiff, Int.reduceEq, Int.reduceLT, Int.reduceLE, Int.reduceAdd, Int.reduceSub, Int.reduceMul, Int.reduceNeg, hs.kd, hs.ln, hs.fs, kMs, lMs, wi_sm, et, eu, es, sA_ov]
        have e : ∀ j, kA (sA s 100 ((((gA s 100).set (143 + 2 * a.1.2.2.1.length) k).set (144 + 2 * a.1.2.2.1.length) pl).set 171 ((a.1.2.2.1.length : Int) + 1))) j = if 171 = j then (a.1.2.2.1.length : Int) + 1 else if 144 + 2 * a.1.2.2.1.length = j then pl else if 143 + 2 * a.1.2.2.1.length = j then k else kA s j := fun j => by
          unfold kA
          rw [gA_eq, setD_getD (by rw [List.length_set, List.length_set, hs.ln 100]; decide), setD_getD (by rw [List.length_set, hs.ln 100]; show _ < 5781; omega), setD_getD (by rw [hs.ln 100]; show _ < 5781; omega)]
        obtain ⟨d1, d2, d3, d4, d5, d6⟩ := R.2.1
        have R0 := R.kept (l := (((gA s 100).set (143 + 2 * a.1.2.2.1.length) k).set (144 + 2 * a.1.2.2.1.length) pl).set 171 ((a.1.2.2.1.length : Int) + 1)) (D := (a.1.1, a.1.2.1, a.1.2.2.1 ++ [(k, pl)], a.1.2.2.2)) (by rw [List.length_set, List.length_set, List.length_set]) (by
          refine ⟨d1.cg (wK_ok W.1.1) fun j hj => by rw [e, if_neg (by omega), if_neg (by omega), if_neg (by omega)], d2.cg W.1.2.1.1 fun j hj => by rw [e, if_neg (by omega), if_neg (by omega), if_neg (by omega)], ⟨by rw [e, if_pos rfl, List.length_append]; rfl, fun i hi => ?_⟩, d4.cg fun j hj => by rw [e, if_neg (by omega), if_neg (by omega), if_neg (by omega)], d5.cg (wL_ok W.1) fun j hj => by rw [e, if_neg (by omega), if_neg (by omega), if_neg (by omega)], by rw [e, if_neg (by omega), if_neg (by omega), if_neg (by omega)]; exact d6⟩
          rw [List.length_append] at hi
          have hi' : i < a.1.2.2.1.length + 1 := hi
          rw [gd_app (by omega)]
          by_cases ei : i = a.1.2.2.1.length
          · rw [if_pos ei]
            exact ⟨by rw [e, if_neg (by omega), if_neg (by omega), if_pos (by omega)], by rw [e, if_neg (by omega), if_pos (by omega)]⟩
          · rw [if_neg ei]
            exact ⟨by rw [e, if_neg (by omega), if_neg (by omega), if_neg (by omega)]; exact (d3.2 i (by omega)).1, by rw [e, if_neg (by omega), if_neg (by omega), if_neg (by omega)]; exact (d3.2 i (by omega)).2⟩)
        have g := mm_grant (d := d) (v := (a.1.2.2.1.length : Int) + 1) (K := fun x s' => some ([(0, x)], s')) R0 (fun _ _ => rfl)
        rw [oK_ok (R0.1.k98)] at g
        exact g
      · rw [if_neg h3, if_pos (by omega)]
        have g := mm_ref (d := d) (v := -5) (K := fun x s' => some ([(0, x)], s')) (by decide) R (fun _ _ => rfl)
        rw [oK_ok (R.1.k98)] at g
        exact g
    · rw [if_neg h2, if_neg (fun e => h2 e.2), if_pos rfl]
      exact mm_ref (d := d) (v := -1) (by decide) R (fun _ _ => rfl)
  · rw [if_neg h1, if_neg (fun e => h1 ⟨e.1.1, by omega⟩), if_pos rfl]
    exact mm_ref (d := d) (v := -1) (by decide) R (fun _ _ => rfl)
theorem m_isTerm {what v : Int} : X12_isTerm (d + 1) s what v = some ([(0, if (0 ≤ what ∧ what ≤ 2) ∧ ((if what = 2 then 1 else 0) ≤ v ∧ v ≤ (if what = 1 then 99 else 9)) then 1 else 0)], s) := by
  rw [e_X12_isTerm]
  by_cases h0 : what = 0
  · subst h0
    rw [if_pos rfl, lies_if, cI_ok, bk_ite]
    simp
  rw [if_neg h0]
  by_cases h1 : what = 1
  · subst h1
    rw [if_pos rfl, lies_if, cI_ok, bk_ite]
    simp
  rw [if_neg h1]
  by_cases h2 : what = 2
  · subst h2
    rw [if_pos rfl, lies_if, cI_ok, bk_ite]
    simp
  rw [if_neg h2, if_neg (fun e => by have := e.1; omega)]
theorem mm_terms {what v : Int} (R : RepM a s) (W : wfA a) : Gl (GI fun x s' => x = (aTerms a what v).1 ∧ RepM (aTerms a what v).2 s') (X12_terms (d + 2) s 98 what v) := by
  have hs := R.1
  rw [e_X12_terms, m_isTerm, cI_ok]
  unfold aTerms
  by_cases h : (0 ≤ what ∧ what ≤ 2) ∧ ((if what = 2 then 1 else 0) ≤ v ∧ v ≤ (if what = 1 then 99 else 9))
  · rw [if_pos h, if_pos h, if_neg (show ¬ ((1 : Int) = 0) by decide)]
    have hw := h.1
    obtain ⟨n, rfl⟩ := Int.eq_ofNat_of_zero_le hw.1
    have et : ((167 : Int) + (n : Int)).toNat = 167 + n := by omega
    simp (disch := ((try simp only [kd_sF, kd_sA, gA_sF, gA_sA, gF_sF, gF_sA, List.length_set, reduceIte, and_true, and_false, true_and, false_and, Nat.reduceEqDiff, Int.reduceEq, hs.kd, hs.ln, hs.fs, kMs, lMs]); first | done | omega)) only [rF_ok, wF_ok, oK_ok, lA_ok, rA_ok, wA_ok, cI_ok, cV_ok, cL_ok, cR_ok, kd_sF, kd_sA, gA_sF, gF_sA, gF_sF, gA_sA, bk_0, bk_1, List.length_set, reduceIte, and_true, and_false, true_and, false_and, ne_eq, not_true_eq_false, not_false_eq_true, Int.toNat_natCast, Int.reduceToNat, Nat.reduceEqDiff, Int.reduceEq, Int.reduceLT, Int.reduceLE, Int.reduceAdd, Int.reduceSub, Int.reduceMul, Int.reduceNeg, hs.kd, hs.ln, hs.fs, kMs, lMs, wi_sm, et]
    obtain ⟨d1, d2, d3, d4, d5, d6⟩ := R.2.1
    obtain ⟨t1, t2, t3⟩ := d4
    have eg : (gA s 100).getD (167 + n) 0 = getTm a.1.2.2.2.1 n := by
      unfold getTm
      have hn : n = 0 ∨ n = 1 ∨ n = 2 := by omega
      rcases hn with rfl | rfl | rfl
      · exact t1
      · exact t2
      · exact t3
    have e : ∀ j, kA (sA s 100 ((gA s 100).set (167 + n) v)) j = if 167 + n = j then v else kA s j := fun j => kA_set hs (by omega)
    have R0 := R.kept (l := (gA s 100).set (167 + n) v) (D := (a.1.1, a.1.2.1, a.1.2.2.1, setTm a.1.2.2.2.1 n v, a.1.2.2.2.2)) (by rw [List.length_set]) (by
      refine ⟨d1.cg (wK_ok W.1.1) fun j hj => by rw [e, if_neg (by omega)], d2.cg W.1.2.1.1 fun j hj => by rw [e, if_neg (by omega)], d3.cg W.1.2.2.1.1 fun j hj => by rw [e, if_neg (by omega)], ?_, d5.cg (wL_ok W.1) fun j hj => by rw [e, if_neg (by omega)], by rw [e, if_neg (by omega)]; exact d6⟩
      unfold TeR setTm
      rw [e, e, e]
      have hn : n = 0 ∨ n = 1 ∨ n = 2 := by omega
      rcases hn with rfl | rfl | rfl
      · exact ⟨rfl, t2, t3⟩
      · exact ⟨t1, rfl, t3⟩
      · exact ⟨t1, t2, rfl⟩)
    have g := mm_sett (d := d) (v := getTm a.1.2.2.2.1 n) (K := fun x s' => some ([(0, x)], s')) R0 (fun _ _ => rfl)
    rw [oK_ok (R0.1.k98)] at g
    rw [eg]
    exact g
  · rw [if_neg h, if_neg h, if_pos rfl]
    exact mm_ref (d := d + 1) (v := -1) (by decide) R (fun _ _ => rfl)
theorem RepM.tape {t : List Int} {n : Int} (R : RepM a s) (ht : TpM (sF s 98 13 n) t) : RepM (setTp a t) (sF s 98 13 n) := by
  have hs := R.1
  have ef : ∀ k : Nat, k ≠ 13 → gF (sF s 98 13 n) 98 k = gF s 98 k := fun k hk => gF_nk hk
  obtain ⟨r1, r2, r3, r4, r5, r6, r7, r8, r9⟩ := id R
  exact R.up (hs.sF (by decide)) (fun p hp => rfl) (fun k hk => ef k (by revert k; decide)) r2 (r4.fr (ef 33 (by decide)) rfl) ht (r6.fr fun k hk => ef k (by revert k; decide)) (r7.fr rfl)
theorem mm_end {n : Int} (R : RepM a s) (W : wfA a) : Gl (GI fun x s' => x = (aEnd a n).1 ∧ RepM (aEnd a n).2 s') (X12_end (d + 1) s 98 n) := by
  have hs := R.1
  obtain ⟨t1, t2⟩ := R.2.2.2.2.1
  rw [e_X12_end]
  unfold aEnd
  simp (disch := ((try simp only [kd_sF, kd_sA, gA_sF, gA_sA, gF_sF, gF_sA, List.length_set, reduceIte, and_true, and_false, true_and, false_and, Nat.reduceEqDiff, Int.reduceEq, hs.kd, hs.ln, hs.fs, kMs, lMs]); first | done | omega)) only [rF_ok, wF_ok, oK_ok, lA_ok, rA_ok, wA_ok, cI_ok, cV_ok, cL_ok, cR_ok, kd_sF, kd_sA, gA_sF, gF_sA, gF_sF, gA_sA, bk_0, bk_1, List.length_set, reduceIte, and_true, and_false, true_and, false_and, ne_eq, not_true_eq_false, not_false_eq_true, Int.toNat_natCast, Int.reduceToNat, Nat.reduceEqDiff, Int.reduceEq, Int.reduceLT, Int.reduceLE, Int.reduceAdd, Int.reduceSub, Int.reduceMul, Int.reduceNeg, hs.kd, hs.ln, hs.fs, kMs, lMs, t1, lies_if]
  by_cases h : 0 ≤ n ∧ n ≤ (a.2.2.2.1.length : Int)
  · rw [if_pos h, if_pos h, if_neg (show ¬ ((1 : Int) = 0) by decide)]
    refine reI ⟨rfl, R.tape ⟨?_, fun i hi => ?_⟩⟩
    · rw [gF_eq, List.length_take]
      omega
    · rw [List.length_take] at hi
      rw [gA_sF, t2 i (by omega), List.getD_eq_getElem?_getD, List.getD_eq_getElem?_getD, List.getElem?_take_of_lt (by omega)]
  · rw [if_neg h, if_neg h, if_pos rfl]
    exact reI ⟨rfl, R⟩
theorem five_set {l : List Int} {v w x y z : Int} (h : l.length = 5) : ((((l.set 0 v).set 1 w).set 2 x).set 3 y).set 4 z = [v, w, x, y, z] := by
  match l, h with
  | [_, _, _, _, _], _ => rfl
theorem by_at {v w x y z : Int} : ∀ k : Nat, k < 20 → (by4 v ++ by4 w ++ by4 x ++ by4 y ++ by4 z).getD k 0 = ([v, w, x, y, z].getD (k / 4) 0) / 2 ^ (24 - 8 * (k % 4)) % 256
  | 0, _ => rfl
  | 1, _ => rfl
  | 2, _ => rfl
  | 3, _ => rfl
  | 4, _ => rfl
  | 5, _ => rfl
  | 6, _ => rfl
  | 7, _ => rfl
  | 8, _ => rfl
  | 9, _ => rfl
  | 10, _ => rfl
  | 11, _ => rfl
  | 12, _ => rfl
  | 13, _ => rfl
  | 14, _ => rfl
  | 15, _ => rfl
  | 16, _ => rfl
  | 17, _ => rfl
  | 18, _ => rfl
  | 19, _ => rfl
  | k + 20, h => by omega
theorem wb_wb (x : Int) : wb (wb x) = wb x := Int.bmod_bmod ..
theorem wb_md (x : Int) : wb (x % 256) = wb x := Int.emod_bmod ..
theorem rg5 {v w x y z : Int} (hv : rg v ∧ rg w ∧ rg x ∧ rg y ∧ rg z) : ∀ k : Nat, rg ([v, w, x, y, z].getD k 0)
  | 0 => hv.1
  | 1 => hv.2.1
  | 2 => hv.2.2.1
  | 3 => hv.2.2.2.1
  | 4 => hv.2.2.2.2
  | k + 5 => by
    show rg 0
    unfold rg
    omega
theorem mm_feed {v w x y z : Int} (hv : rg v ∧ rg w ∧ rg x ∧ rg y ∧ rg z) (R : RepM a s) (W : wfA a) : Gl (GI fun r s' => r = (aFeed a v w x y z).1 ∧ RepM (aFeed a v w x y z).2 s') (X12_feed d s 98 v w x y z) := by
  have hs := R.1
  obtain ⟨t1, t2⟩ := R.2.2.2.2.1
  have hl := W.2.2.2.1.1
  rw [e_X12_feed]
  unfold aFeed
  simp (disch := ((try simp only [kd_sF, kd_sA, gA_sF, gA_sA, gF_sF, gF_sA, List.length_set, reduceIte, and_true, and_false, true_and, false_and, Nat.reduceEqDiff, Int.reduceEq, hs.kd, hs.ln, hs.fs, kMs, lMs]); first | done | omega)) only [rF_ok, wF_ok, oK_ok, lA_ok, rA_ok, wA_ok, cI_ok, cV_ok, cL_ok, cR_ok, kd_sF, kd_sA, gA_sF, gF_sA, gF_sF, gA_sA, bk_0, bk_1, List.length_set, reduceIte, and_true, and_false, true_and, false_and, ne_eq, not_true_eq_false, not_false_eq_true, Int.toNat_natCast, Int.reduceToNat, Nat.reduceEqDiff, Int.reduceEq, Int.reduceLT, Int.reduceLE, Int.reduceAdd, Int.reduceSub, Int.reduceMul, Int.reduceNeg, hs.kd, hs.ln, hs.fs, kMs, lMs, t1, wi_sm]
  by_cases h : a.2.2.2.1.length + 20 ≤ 400
  · rw [if_neg (show ¬ (400 < (a.2.2.2.1.length : Int) + 20) by omega), if_pos h]
    have e5 := five_set (v := v) (w := w) (x := x) (y := y) (z := z) (show (gA s 106).length = 5 from hs.ln 106)
    simp (disch := ((try simp only [kd_sF, kd_sA, gA_sF, gA_sA, gF_sF, gF_sA, List.length_set, reduceIte, and_true, and_false, true_and, false_and, Nat.reduceEqDiff, Int.reduceEq, hs.kd, hs.ln, hs.fs, kMs, lMs]); first | done | omega)) only [rF_ok, wF_ok, oK_ok, lA_ok, rA_ok, wA_ok, cI_ok, cV_ok, cL_ok, cR_ok, kd_sF, kd_sA, gA_sF, gF_sA, gF_sF, gA_sA, bk_0, bk_1, List.length_set, reduceIte, and_true, and_false, true_and, false_and, ne_eq, not_true_eq_false, not_false_eq_true, Int.toNat_natCast, Int.reduceToNat, Nat.reduceEqDiff, Int.reduceEq, Int.reduceLT, Int.reduceLE, Int.reduceAdd, Int.reduceSub, Int.reduceMul, Int.reduceNeg, hs.kd, hs.ln, hs.fs, kMs, lMs, sA_ov, e5]
    have hs1 : ShM (sA s 106 [v, w, x, y, z]) := hs.sA (by rw [hs.ln 106]; rfl)
    have R1 : RepM a (sA s 106 [v, w, x, y, z]) := R.fr hs1 (fun p hp => gA_ne (by revert p; decide)) (fun _ _ => rfl)
    have g106 : gA (sA s 106 [v, w, x, y, z]) 106 = [v, w, x, y, z] := gA_eq _ _ _
    generalize sA s 106 [v, w, x, y, z] = s1 at hs1 R1 g106
    clear e5
    obtain ⟨u1, u2⟩ := R1.2.2.2.2.1
    have r5 := rg5 hv
    refine lpG (fun k s => X12_feed_55 d s 98 k) (fun k s2 => ShM s2 ∧ Fa [105] s1 s2 ∧ (∀ j, gF s2 98 j = gF s1 98 j) ∧ (∀ i, i < a.2.2.2.1.length → (gA s2 105).getD i 0 = wb (a.2.2.2.1.getD i 0)) ∧ ∀ i, i < k → (gA s2 105).getD (a.2.2.2.1.length + i) 0 = wb ((by4 v ++ by4 w ++ by4 x ++ by4 y ++ by4 z).getD i 0)) 20 ?_ ?_ 0 s1 (by omega) ⟨hs1, Fa.rf _ _, fun _ => rfl, u2, fun i hi => by omega⟩
    · intro T k s2 hk ⟨i1, i2, i3, i4, i5⟩ hT
      have e13 : gF s2 98 13 = (a.2.2.2.1.length : Int) := by rw [i3]; exact u1
      have e106 : gA s2 106 = [v, w, x, y, z] := by rw [i2 106 (by decide), g106]
      have ed : Int.tdiv (k : Int) 4 = ((k / 4 : Nat) : Int) := rfl
      have em : Int.tmod (k : Int) 4 = ((k % 4 : Nat) : Int) := rfl
      have et : ((a.2.2.2.1.length : Int) + (k : Int)).toNat = a.2.2.2.1.length + k := by omega
      have l106 : (gA s2 106).length = 5 := by rw [e106]; rfl
      rw [e_X12_feed_55, if_pos (by omega)]
      simp (disch := ((try simp only [kd_sF, kd_sA, gA_sF, gA_sA, gF_sF, gF_sA, List.length_set, reduceIte, and_true, and_false, true_and, false_and, Nat.reduceEqDiff, Int.reduceEq, i1.kd, i1.ln, i1.fs, kMs, lMs, l106]); first | done | omega)) only [rF_ok, wF_ok, oK_ok, lA_ok, rA_ok, wA_ok, cI_ok, cV_ok, cL_ok, cR_ok, kd_sF, kd_sA, gA_sF, gF_sA, gF_sF, gA_sA, bk_0, bk_1, List.length_set, reduceIte, and_true, and_false, true_and, false_and, ne_eq, not_true_eq_false, not_false_eq_true, Int.toNat_natCast, Int.reduceToNat, Nat.reduceEqDiff, Int.reduceEq, Int.reduceLT, Int.reduceLE, Int.reduceAdd, Int.reduceSub, Int.reduceMul, Int.reduceNeg, i1.kd, i1.ln, i1.fs, kMs, lMs, l106, e13, ed, em, wi_sm, wi_sc, et, e106, if_neg (show ¬ ((4 : Int) = 0) by decide)]
      have eb : wb (wb (shrI ([v, w, x, y, z].getD (k / 4) 0) (24 - 8 * ((k % 4 : Nat) : Int)))) = wb ((by4 v ++ by4 w ++ by4 x ++ by4 y ++ by4 z).getD k 0) := by
        rw [show (24 : Int) - 8 * ((k % 4 : Nat) : Int) = ((24 - 8 * (k % 4) : Nat) : Int) by omega, wb_wb, shr_8 (r5 _) (by omega), by_at k hk, wb_md]
      rw [eb]
      have l105 : (gA s2 105).length = 400 := i1.ln 105
      refine hT _ ⟨i1.sA (by rw [List.length_set]), i2.tr (Fa.sA _ (by decide)), i3, fun i hi => ?_, fun i hi => ?_⟩
      · rw [gA_eq, set_ne (by omega)]
        exact i4 i hi
      · rw [gA_eq, setD_getD (by omega)]
        by_cases e : k = i
        · rw [if_pos (by omega), e]
        · rw [if_neg (by omega)]
          exact i5 i (by omega)
    · intro s2 ⟨i1, i2, i3, i4, i5⟩
      have e13 : gF s2 98 13 = (a.2.2.2.1.length : Int) := by rw [i3]; exact u1
      rw [e_X12_feed_55, if_neg (by decide)]
      simp (disch := ((try simp only [kd_sF, kd_sA, gA_sF, gA_sA, gF_sF, gF_sA, List.length_set, reduceIte, and_true, and_false, true_and, false_and, Nat.reduceEqDiff, Int.reduceEq, i1.kd, i1.ln, i1.fs, kMs, lMs]); first | done | omega)) only [rF_ok, wF_ok, oK_ok, lA_ok, rA_ok, wA_ok, cI_ok, cV_ok, cL_ok, cR_ok, kd_sF, kd_sA, gA_sF, gF_sA, gF_sF, gA_sA, bk_0, bk_1, List.length_set, reduceIte, and_true, and_false, true_and, false_and, ne_eq, not_true_eq_false, not_false_eq_true, Int.toNat_natCast, Int.reduceToNat, Nat.reduceEqDiff, Int.reduceEq, Int.reduceLT, Int.reduceLE, Int.reduceAdd, Int.reduceSub, Int.reduceMul, Int.reduceNeg, i1.kd, i1.ln, i1.fs, kMs, lMs, e13, wi_sm]
      have R2 : RepM (setTp a (a.2.2.2.1 ++ by4 v ++ by4 w ++ by4 x ++ by4 y ++ by4 z)) (sF s2 98 13 ((a.2.2.2.1.length : Int) + 20)) := by
        have hs3 : ShM (sF s2 98 13 ((a.2.2.2.1.length : Int) + 20)) := i1.sF (by decide)
        have ef : ∀ k : Nat, k ≠ 13 → gF (sF s2 98 13 ((a.2.2.2.1.length : Int) + 20)) 98 k = gF s1 98 k := fun k hk => (gF_nk hk).trans (i3 k)
        have ea : ∀ p : Int, p ≠ 105 → gA (sF s2 98 13 ((a.2.2.2.1.length : Int) + 20)) p = gA s1 p := fun p hp => i2 p (by simpa using hp)
        obtain ⟨r1, r2, r3, r4, r5, r6, r7, r8, r9⟩ := id R1
        refine R1.up hs3 (fun p hp => ea p (by revert p; decide)) (fun k hk => ef k (by revert k; decide)) (by rw [kA_fr (ea 100 (by decide))]; exact r2) (r4.fr (ef 33 (by decide)) (ea 113 (by decide))) ⟨?_, fun i hi => ?_⟩ (r6.fr fun k hk => ef k (by revert k; decide)) (r7.fr (ea 99 (by decide)))
        · rw [gF_eq]
          simp [by4]
        · rw [gA_sF]
          have hi' : i < a.2.2.2.1.length + 20 := by simpa [by4] using hi
          rw [show a.2.2.2.1 ++ by4 v ++ by4 w ++ by4 x ++ by4 y ++ by4 z = a.2.2.2.1 ++ (by4 v ++ by4 w ++ by4 x ++ by4 y ++ by4 z) by simp only [List.append_assoc]]
          by_cases e : i < a.2.2.2.1.length
          · rw [i4 i e, List.getD_eq_getElem?_getD, List.getD_eq_getElem?_getD, List.getElem?_append_left e]
          · have := i5 (i - a.2.2.2.1.length) (by omega)
            rw [show a.2.2.2.1.length + (i - a.2.2.2.1.length) = i by omega] at this
            rw [this, List.getD_eq_getElem?_getD (l := a.2.2.2.1 ++ _), List.getElem?_append_right (by omega), ← List.getD_eq_getElem?_getD]
      exact reI ⟨rfl, R2⟩
  · rw [if_pos (show 400 < (a.2.2.2.1.length : Int) + 20 by omega), if_neg h]
    exact reI ⟨rfl, R⟩
theorem mm_drawn {what : Int} (hw : rg what) (R : RepM a s) (W : wfA a) : Gl (GI fun x s' => x = aDrawn a what ∧ RepM a s') (X12_drawn (d + 1) s 98 what) := by
  have hs := R.1
  have r8 := R.2.2.2.2.2.2.2.1
  have w5 := W.2.2.2.2
  rw [e_X12_drawn]
  unfold aDrawn
  simp (disch := ((try simp only [kd_sF, kd_sA, gA_sF, gA_sA, gF_sF, gF_sA, List.length_set, reduceIte, and_true, and_false, true_and, false_and, Nat.reduceEqDiff, Int.reduceEq, hs.kd, hs.ln, hs.fs, kMs, lMs]); first | done | omega)) only [rF_ok, wF_ok, oK_ok, lA_ok, rA_ok, wA_ok, cI_ok, cV_ok, cL_ok, cR_ok, kd_sF, kd_sA, gA_sF, gF_sA, gF_sF, gA_sA, bk_0, bk_1, List.length_set, reduceIte, and_true, and_false, true_and, false_and, ne_eq, not_true_eq_false, not_false_eq_true, Int.toNat_natCast, Int.reduceToNat, Nat.reduceEqDiff, Int.reduceEq, Int.reduceLT, Int.reduceLE, Int.reduceAdd, Int.reduceSub, Int.reduceMul, Int.reduceNeg, hs.kd, hs.ln, hs.fs, kMs, lMs]
  match hh : a.2.2.2.2.2.2, r8, w5 with
  | none, r8, _ =>
    have r8' : gF s 98 59 = -1 := r8
    rw [if_pos r8']
    exact reI ⟨rfl, R⟩
  | some h, r8, w5 =>
    obtain ⟨q1, q2, q3, q4⟩ := r8
    have w := w5 h rfl
    rw [q1, if_neg (by omega), wi_sm (by omega) (by omega), lies_if, cI_ok]
    by_cases e : 0 ≤ what ∧ what ≤ 1 + (h.2.2.length : Int)
    · rw [if_pos e, if_neg (show ¬ ((1 : Int) = 0) by decide)]
      dsimp only
      rw [if_neg (show ¬ (what < 0) by omega)]
      by_cases e0 : what = 0
      · rw [if_pos e0, if_pos e0]
        simp (disch := ((try simp only [kd_sF, kd_sA, gA_sF, gA_sA, gF_sF, gF_sA, List.length_set, reduceIte, and_true, and_false, true_and, false_and, Nat.reduceEqDiff, Int.reduceEq, hs.kd, hs.ln, hs.fs, kMs, lMs]); first | done | omega)) only [rF_ok, wF_ok, oK_ok, lA_ok, rA_ok, wA_ok, cI_ok, cV_ok, cL_ok, cR_ok, kd_sF, kd_sA, gA_sF, gF_sA, gF_sF, gA_sA, bk_0, bk_1, List.length_set, reduceIte, and_true, and_false, true_and, false_and, ne_eq, not_true_eq_false, not_false_eq_true, Int.toNat_natCast, Int.reduceToNat, Nat.reduceEqDiff, Int.reduceEq, Int.reduceLT, Int.reduceLE, Int.reduceAdd, Int.reduceSub, Int.reduceMul, Int.reduceNeg, hs.kd, hs.ln, hs.fs, kMs, lMs, q2]
        exact reI ⟨rfl, R⟩
      rw [if_neg e0, if_neg e0]
      by_cases e1 : what = 1
      · rw [if_pos e1, if_pos e1]
        simp (disch := ((try simp only [kd_sF, kd_sA, gA_sF, gA_sA, gF_sF, gF_sA, List.length_set, reduceIte, and_true, and_false, true_and, false_and, Nat.reduceEqDiff, Int.reduceEq, hs.kd, hs.ln, hs.fs, kMs, lMs]); first | done | omega)) only [rF_ok, wF_ok, oK_ok, lA_ok, rA_ok, wA_ok, cI_ok, cV_ok, cL_ok, cR_ok, kd_sF, kd_sA, gA_sF, gF_sA, gF_sF, gA_sA, bk_0, bk_1, List.length_set, reduceIte, and_true, and_false, true_and, false_and, ne_eq, not_true_eq_false, not_false_eq_true, Int.toNat_natCast, Int.reduceToNat, Nat.reduceEqDiff, Int.reduceEq, Int.reduceLT, Int.reduceLE, Int.reduceAdd, Int.reduceSub, Int.reduceMul, Int.reduceNeg, hs.kd, hs.ln, hs.fs, kMs, lMs, q3]
        exact reI ⟨rfl, R⟩
      rw [if_neg e1, if_neg e1, if_pos (show what - 2 < (h.2.2.length : Int) by omega)]
      simp (disch := ((try simp only [kd_sF, kd_sA, gA_sF, gA_sA, gF_sF, gF_sA, List.length_set, reduceIte, and_true, and_false, true_and, false_and, Nat.reduceEqDiff, Int.reduceEq, hs.kd, hs.ln, hs.fs, kMs, lMs]); first | done | omega)) only [rF_ok, wF_ok, oK_ok, lA_ok, rA_ok, wA_ok, cI_ok, cV_ok, cL_ok, cR_ok, kd_sF, kd_sA, gA_sF, gF_sA, gF_sF, gA_sA, bk_0, bk_1, List.length_set, reduceIte, and_true, and_false, true_and, false_and, ne_eq, not_true_eq_false, not_false_eq_true, Int.toNat_natCast, Int.reduceToNat, Nat.reduceEqDiff, Int.reduceEq, Int.reduceLT, Int.reduceLE, Int.reduceAdd, Int.reduceSub, Int.reduceMul, Int.reduceNeg, hs.kd, hs.ln, hs.fs, kMs, lMs, wi_sm]
      exact reI ⟨q4 _ (by omega), R⟩
    · rw [if_neg e, if_pos rfl]
      dsimp only
      by_cases e0 : what < 0
      · rw [if_pos e0]
        exact reI ⟨rfl, R⟩
      · rw [if_neg e0, if_neg (show ¬ (what = 0) by omega), if_neg (show ¬ (what = 1) by omega), if_neg (by omega)]
        exact reI ⟨rfl, R⟩
theorem mm_hands {seed n m : Int} (R : RepM a s) (W : wfA a) : Gl (GI fun x s' => x = (aHands a seed n m).1 ∧ RepM (aHands a seed n m).2 s') (X12_hands (d + 48) s 98 seed n m) := by
  unfold aHands
  by_cases h : (0 ≤ seed ∧ seed ≤ 1000000) ∧ (1 ≤ n ∧ n ≤ 100) ∧ (3 ≤ m ∧ m ≤ 12)
  · obtain ⟨h1, h2, h3⟩ := id h
    rw [if_pos h]
    obtain ⟨m', rfl⟩ := Int.eq_ofNat_of_zero_le (show 0 ≤ m by omega)
    obtain ⟨n', rfl⟩ := Int.eq_ofNat_of_zero_le (show 0 ≤ n by omega)
    rw [Int.toNat_natCast, Int.toNat_natCast]
    obtain ⟨b0, b1, b2, b3, b4⟩ := R.bk W
    refine wkI (m_hands (d := d) (n := n') (m := m') R.1 b0 h1 (by omega) (by omega)) fun x s' hev ⟨F, g1, g2, g3, g4, g5, g6⟩ => ?_
    rw [b1, b2, b3, b4] at g1 g4 g5
    have hs' : ShM s' := R.1.ev hev rfl
    have ef : ∀ k ∈ [6, 13, 14, 33, 49], gF s' 98 k = gF s 98 k := by
      intro k hk
      simp only [List.mem_cons, List.not_mem_nil, or_false] at hk
      rcases hk with rfl | rfl | rfl | rfl | rfl
      · exact R.1.gf hev rfl rfl
      · exact R.1.gf hev rfl rfl
      · exact R.1.gf hev rfl rfl
      · exact R.1.gf hev rfl rfl
      · exact R.1.gf hev rfl rfl
    obtain ⟨r1, r2, r3, r4, r5, r6, r7, r8, r9⟩ := id R
    refine ⟨g1, hs', by rw [kA_fr (F 100 (by decide))]; exact r2, ⟨r3.1.fr (F 101 (by decide)) (F 102 (by decide)), r3.2.fr (F 101 (by decide)) (F 102 (by decide))⟩, r4.fr (ef 33 (by decide)) (F 113 (by decide)), r5.fr (ef 13 (by decide)) (F 105 (by decide)), ⟨g2, (ef 6 (by decide)).trans r6.2.1, (ef 14 (by decide)).trans r6.2.2.1, (ef 49 (by decide)).trans r6.2.2.2⟩, r7.fr (F 99 (by decide)), ⟨?_, g4, g5, fun k hk => ?_⟩, (F 104 (by decide)).trans r9⟩
    · rw [g3, List.length_map, List.length_range]
    · rw [List.length_map, List.length_range] at hk
      rw [g6 k hk, List.getD_eq_getElem?_getD, List.getElem?_map, List.getElem?_range hk]
      rfl
  · rw [if_neg h, e_X12_hands, lies_if, cI_ok]
    by_cases e1 : 0 ≤ seed ∧ seed ≤ 1000000
    · rw [if_pos e1, if_neg (show ¬ ((1 : Int) = 0) by decide), lies_if, cI_ok]
      by_cases e2 : 1 ≤ n ∧ n ≤ 100
      · rw [if_pos e2, if_neg (show ¬ ((1 : Int) = 0) by decide), long_if, if_neg (fun e => h ⟨e1, e2, e⟩), cI_ok, if_pos rfl]
        exact mm_ref (d := d + 47) (v := -1) (by decide) R (fun _ _ => rfl)
      · rw [if_neg e2, if_pos rfl]
        exact mm_ref (d := d + 47) (v := -1) (by decide) R (fun _ _ => rfl)
    · rw [if_neg e1, if_pos rfl]
      exact mm_ref (d := d + 47) (v := -1) (by decide) R (fun _ _ => rfl)
end MSQ
