/-! ===== the reference: undo, image, back ===== -/
section MIM
variable {s s' : St} {a : Ab} {d : Nat}
theorem gd_dropLast {α : Type} {l : List α} {i : Nat} {y : α} (h : i < l.length - 1) : l.dropLast.getD i y = l.getD i y := by
  rw [List.dropLast_eq_take, List.getD_eq_getElem?_getD, List.getD_eq_getElem?_getD, List.getElem?_take_of_lt h]
theorem mm_undo (R : RepM a s) (W : wfA a) : Gl (GI fun x s' => x = (aOut (dUnd a)).1 ∧ RepM (aOut (dUnd a)).2 s') (X12_undo (d + 1) s 98) := by
  have hs := R.1
  have hH := R.2.2.2.1
  have h33 : gF s 98 33 = a.2.2.1.length := hH.1
  have w16 := W.2.2.1.1
  rw [e_X12_undo, rF_ok (hs.k98), h33]
  unfold dUnd
  by_cases e : a.2.2.1.length = 0
  · rw [if_pos e, if_pos (by omega)]
    exact mm_ref (d := d) (v := -3) (by decide) R (fun _ _ => rfl)
  · rw [if_neg e, if_neg (show ¬ ((a.2.2.1.length : Int) = 0) by omega)]
    obtain ⟨n, hn⟩ : ∃ n, a.2.2.1.length = n + 1 := ⟨a.2.2.1.length - 1, by omega⟩
    simp (disch := ((try simp only [kd_sF, kd_sA, gA_sF, gA_sA, gF_sF, gF_sA, List.length_set, reduceIte, and_true, and_false, true_and, false_and, Nat.reduceEqDiff, Int.reduceEq, hs.kd, hs.ln, hs.fs, kMs, lMs]); first | done | omega)) only [rF_ok, wF_ok, oK_ok, lA_ok, rA_ok, wA_ok, cI_ok, cV_ok, cL_ok, cR_ok, kd_sF, kd_sA, gA_sF, gF_sA, gF_sF, gA_sA, bk_0, bk_1, List.length_set, reduceIte, and_true, and_false, true_and, false_and, ne_eq, not_true_eq_false, not_false_eq_true, Int.toNat_natCast, Int.reduceToNat, Nat.reduceEqDiff, Int.reduceEq, Int.reduceLT, Int.reduceLE, Int.reduceAdd, Int.reduceSub, Int.reduceMul, Int.reduceNeg, hs.kd, hs.ln, hs.fs, kMs, lMs, h33, wi_sm]
    have e1 : (a.2.2.1.length : Int) - 1 = (n : Int) := by omega
    rw [e1]
    obtain ⟨l1, l2⟩ := hH.2 n (by omega)
    have wl := W.2.2.1.2 _ (gdMem (a := (0, [])) (show n < a.2.2.1.length by omega))
    rw [show a.2.2.1.length - 1 = n by omega]
    have R1 : RepM (setHi a a.2.2.1.dropLast) (sF s 98 33 n) := by
      refine R.hist (hs.sF (by decide)) (fun _ _ => rfl) (fun j hj => gF_nk hj) ⟨by rw [gF_eq, List.length_dropLast]; omega, fun i hi => ?_⟩
      rw [List.length_dropLast] at hi
      rw [gd_dropLast hi]
      exact hH.2 i (by omega)
    have a113 : gA (sF s 98 33 n) 113 = gA s 113 := rfl
    generalize sF s 98 33 n = s1 at R1 a113 ⊢
    have hs1 := R1.1
    refine lpG (fun k s => X12_undo_35 (d + 1) s 98 (138 * n) k) (fun k s2 => ShM s2 ∧ Fa [100] s1 s2 ∧ (∀ j, gF s2 98 j = gF s1 98 j) ∧ ∀ j, kA s2 j = if j < k then lfA s n j else kA s1 j) 137 ?_ ?_ 0 s1 (by omega) ⟨hs1, Fa.rf _ _, fun _ => rfl, fun j => by rw [if_neg (by omega)]⟩
    · intro T k s2 hk ⟨i1, i2, i3, i4⟩ hT
      have et : (138 * (n : Int) + (k : Int)).toNat = 138 * n + k := by omega
      have e113 : (gA s2 113).getD (138 * n + k) 0 = lfA s n k := by rw [i2 113 (by decide), a113]; rfl
      rw [e_X12_undo_35, if_pos (by omega)]
      simp (disch := ((try simp only [kd_sF, kd_sA, gA_sF, gA_sA, gF_sF, gF_sA, List.length_set, reduceIte, and_true, and_false, true_and, false_and, Nat.reduceEqDiff, Int.reduceEq, i1.kd, i1.ln, i1.fs, kMs, lMs]); first | done | omega)) only [rF_ok, wF_ok, oK_ok, lA_ok, rA_ok, wA_ok, cI_ok, cV_ok, cL_ok, cR_ok, kd_sF, kd_sA, gA_sF, gF_sA, gF_sF, gA_sA, bk_0, bk_1, List.length_set, reduceIte, and_true, and_false, true_and, false_and, ne_eq, not_true_eq_false, not_false_eq_true, Int.toNat_natCast, Int.reduceToNat, Nat.reduceEqDiff, Int.reduceEq, Int.reduceLT, Int.reduceLE, Int.reduceAdd, Int.reduceSub, Int.reduceMul, Int.reduceNeg, i1.kd, i1.ln, i1.fs, kMs, lMs, wi_sm, wi_sc, et, e113]
      obtain ⟨p1, p2, p3⟩ := set_pf (i := k) (v := lfA s n k) i1 (by omega)
      refine hT _ ⟨p2, i2.tr p1, i3, fun j => ?_⟩
      rw [p3, i4]
      by_cases ej : k = j
      · rw [if_pos ej, if_pos (by omega), ej]
      · rw [if_neg ej]
        by_cases e2 : j < k
        · rw [if_pos e2, if_pos (by omega)]
        · rw [if_neg e2, if_neg (by omega)]
    · intro s2 ⟨i1, i2, i3, i4⟩
      have et : (138 * (n : Int) + 137).toNat = 138 * n + 137 := by omega
      have e113 : (gA s2 113).getD (138 * n + 137) 0 = lfA s n 137 := by rw [i2 113 (by decide), a113]; rfl
      rw [e_X12_undo_35, if_neg (by decide)]
      simp (disch := ((try simp only [kd_sF, kd_sA, gA_sF, gA_sA, gF_sF, gF_sA, List.length_set, reduceIte, and_true, and_false, true_and, false_and, Nat.reduceEqDiff, Int.reduceEq, i1.kd, i1.ln, i1.fs, kMs, lMs]); first | done | omega)) only [rF_ok, wF_ok, oK_ok, lA_ok, rA_ok, wA_ok, cI_ok, cV_ok, cL_ok, cR_ok, kd_sF, kd_sA, gA_sF, gF_sA, gF_sF, gA_sA, bk_0, bk_1, List.length_set, reduceIte, and_true, and_false, true_and, false_and, ne_eq, not_true_eq_false, not_false_eq_true, Int.toNat_natCast, Int.reduceToNat, Nat.reduceEqDiff, Int.reduceEq, Int.reduceLT, Int.reduceLE, Int.reduceAdd, Int.reduceSub, Int.reduceMul, Int.reduceNeg, i1.kd, i1.ln, i1.fs, kMs, lMs, wi_sm, et, e113, l2]
      have R2 : RepM (setDr (setHi a a.2.2.1.dropLast) ((a.2.2.1.getD n (0, [])).2, a.1.2)) s2 := by
        refine R1.k100 i1 i2 (fun k _ => i3 k) (R1.2.1.knots W.1 (l1.cg (wK_ok wl.1) fun j hj => ?_) fun j hj => ?_)
        · rw [i4, if_pos hj]
        · rw [i4, if_neg (by omega)]
      have g := mm_grant (d := d) (v := (a.2.2.1.getD n (0, [])).1) (K := fun x s' => some ([(0, x)], s')) R2 (fun _ _ => rfl)
      rw [oK_ok (R2.1.k98)] at g
      unfold aOut outA
      rw [if_neg (by dsimp only; omega)]
      exact g
theorem m_imgLoop {T : Res → Prop} {k : Nat} (hs : ShM s) (hk : k < 2) (hT : ∀ s', ShM s' → Fa [101] s s' → (∀ j, gF s' 98 j = gF s 98 j) → (∀ i, (gA s' 101).getD i 0 = if 5781 * k ≤ i ∧ i < 5781 * k + 5781 then kA s (i - 5781 * k) else (gA s 101).getD i 0) → Gl T (X12_image_17 (d + 1) s' 98 k 5781)) : Gl T (X12_image_17 (d + 1) s 98 k 0) := by
  refine lpG (fun j s => X12_image_17 (d + 1) s 98 k j) (fun j s2 => ShM s2 ∧ Fa [101] s s2 ∧ (∀ j, gF s2 98 j = gF s 98 j) ∧ ∀ i, (gA s2 101).getD i 0 = if 5781 * k ≤ i ∧ i < 5781 * k + j then kA s (i - 5781 * k) else (gA s 101).getD i 0) 5781 ?_ ?_ 0 s (by omega) ⟨hs, Fa.rf _ _, fun _ => rfl, fun j => by rw [if_neg (by omega)]⟩
  · intro T j s2 hj ⟨i1, i2, i3, i4⟩ hT
    have et : (5781 * (k : Int) + (j : Int)).toNat = 5781 * k + j := by omega
    have e100 : (gA s2 100).getD j 0 = kA s j := by rw [i2 100 (by decide)]; rfl
    have l101 : (gA s2 101).length = 11562 := i1.ln 101
    rw [e_X12_image_17, if_pos (by omega)]
    simp (disch := ((try simp only [kd_sF, kd_sA, gA_sF, gA_sA, gF_sF, gF_sA, List.length_set, reduceIte, and_true, and_false, true_and, false_and, Nat.reduceEqDiff, Int.reduceEq, i1.kd, i1.ln, i1.fs, kMs, lMs]); first | done | omega)) only [rF_ok, wF_ok, oK_ok, lA_ok, rA_ok, wA_ok, cI_ok, cV_ok, cL_ok, cR_ok, kd_sF, kd_sA, gA_sF, gF_sA, gF_sF, gA_sA, bk_0, bk_1, List.length_set, reduceIte, and_true, and_false, true_and, false_and, ne_eq, not_true_eq_false, not_false_eq_true, Int.toNat_natCast, Int.reduceToNat, Nat.reduceEqDiff, Int.reduceEq, Int.reduceLT, Int.reduceLE, Int.reduceAdd, Int.reduceSub, Int.reduceMul, Int.reduceNeg, i1.kd, i1.ln, i1.fs, kMs, lMs, wi_sm, wi_sc, et, e100]
    refine hT _ ⟨i1.sA (by rw [List.length_set]), i2.tr (Fa.sA _ (by decide)), i3, fun i => ?_⟩
    rw [gA_eq, setD_getD (by omega), i4]
    by_cases e : 5781 * k + j = i
    · rw [if_pos e, if_pos (by omega), show i - 5781 * k = j by omega]
    · rw [if_neg e]
      by_cases e2 : 5781 * k ≤ i ∧ i < 5781 * k + j
      · rw [if_pos e2, if_pos (by omega)]
      · rw [if_neg e2, if_neg (by omega)]
  · intro s2 ⟨i1, i2, i3, i4⟩
    exact hT s2 i1 i2 i3 i4
theorem ImR.keep {k k' : Nat} {o : Option Dr} (h : ImR s k' o) (W : wfIm o) (hk : k < 2 ∧ k' < 2 ∧ k' ≠ k) (e1 : ∀ i, (gA s' 101).getD i 0 = if 5781 * k ≤ i ∧ i < 5781 * k + 5781 then kA s (i - 5781 * k) else (gA s 101).getD i 0) (e2 : (gA s' 102).getD k' 0 = (gA s 102).getD k' 0) : ImR s' k' o := by
  match o, h, W with
  | none, h, _ => exact e2.trans h
  | some D, h, W =>
    refine ⟨e2.trans h.1, h.2.cg (W D rfl) fun j hj => ?_⟩
    unfold imA
    rw [e1, if_neg (by omega)]
theorem mm_image {k : Int} (R : RepM a s) (W : wfA a) : Gl (GI fun x s' => x = (aImage a k).1 ∧ RepM (aImage a k).2 s') (X12_image (d + 1) s 98 k) := by
  have hs := R.1
  rw [e_X12_image, lies_if, cI_ok]
  unfold aImage
  by_cases h : 0 ≤ k ∧ k ≤ 1
  · rw [if_pos h, if_pos h, if_neg (show ¬ ((1 : Int) = 0) by decide)]
    obtain ⟨k, rfl⟩ := Int.eq_ofNat_of_zero_le h.1
    refine m_imgLoop (k := k) hs (by omega) fun s2 i1 i2 i3 i4 => ?_
    have l102 : (gA s2 102).length = 2 := i1.ln 102
    rw [e_X12_image_17, if_neg (by decide)]
    simp (disch := ((try simp only [kd_sF, kd_sA, gA_sF, gA_sA, gF_sF, gF_sA, List.length_set, reduceIte, and_true, and_false, true_and, false_and, Nat.reduceEqDiff, Int.reduceEq, i1.kd, i1.ln, i1.fs, kMs, lMs]); first | done | omega)) only [rF_ok, wF_ok, oK_ok, lA_ok, rA_ok, wA_ok, cI_ok, cV_ok, cL_ok, cR_ok, kd_sF, kd_sA, gA_sF, gF_sA, gF_sF, gA_sA, bk_0, bk_1, List.length_set, reduceIte, and_true, and_false, true_and, false_and, ne_eq, not_true_eq_false, not_false_eq_true, Int.toNat_natCast, Int.reduceToNat, Nat.reduceEqDiff, Int.reduceEq, Int.reduceLT, Int.reduceLE, Int.reduceAdd, Int.reduceSub, Int.reduceMul, Int.reduceNeg, i1.kd, i1.ln, i1.fs, kMs, lMs]
    have R2 : RepM (setIm a k) (sA s2 102 ((gA s2 102).set k 1)) := by
      have ea : ∀ p : Int, p ≠ 101 → p ≠ 102 → gA (sA s2 102 ((gA s2 102).set k 1)) p = gA s p := fun p h1 h2 => (gA_ne h2).trans (i2 p (by simpa using h1))
      have f102 : gA s2 102 = gA s 102 := i2 102 (by decide)
      have ef : ∀ j : Nat, gF (sA s2 102 ((gA s2 102).set k 1)) 98 j = gF s 98 j := fun j => i3 j
      have own : ImR (sA s2 102 ((gA s2 102).set k 1)) k (some a.1) := by
        refine ⟨by rw [gA_eq, set_eq (by omega)], R.2.1.cg W.1 fun j hj => ?_⟩
        unfold imA
        rw [gA_ne (by decide), i4, if_pos (by omega), show 5781 * k + j - 5781 * k = j by omega]
      have oth : ∀ k' o, ImR s k' o → wfIm o → k' < 2 → k' ≠ k → ImR (sA s2 102 ((gA s2 102).set k 1)) k' o := fun k' o h1 h2 h3 h4 => h1.keep h2 ⟨by omega, h3, h4⟩ (fun i => by rw [gA_ne (by decide), i4]) (by rw [gA_eq, set_ne (fun e => h4 e.symm), f102])
      obtain ⟨r1, r2, r3, r4, r5, r6, r7, r8, r9⟩ := id R
      refine ⟨i1.sA (by rw [List.length_set]), by rw [kA_fr (ea 100 (by decide) (by decide))]; exact r2, ?_, r4.fr (ef 33) (ea 113 (by decide) (by decide)), r5.fr (ef 13) (ea 105 (by decide) (by decide)), r6.fr (fun j _ => ef j), r7.fr (ea 99 (by decide) (by decide)), r8.fr (fun j _ => ef j) (ea 125 (by decide) (by decide)), (ea 104 (by decide) (by decide)).trans r9⟩
      have hk : k = 0 ∨ k = 1 := by omega
      rcases hk with rfl | rfl
      · exact ⟨own, oth 1 _ r3.2 W.2.1.2 (by decide) (by decide)⟩
      · exact ⟨oth 0 _ r3.1 W.2.1.1 (by decide) (by decide), own⟩
    have g := mm_grant (d := d) (v := 0) (K := fun x s' => some ([(0, x)], s')) R2 (fun _ _ => rfl)
    rw [oK_ok (R2.1.k98)] at g
    exact g
  · rw [if_neg h, if_neg h, if_pos rfl]
    exact mm_ref (d := d) (v := -1) (by decide) R (fun _ _ => rfl)
theorem mm_back {k : Int} (R : RepM a s) (W : wfA a) : Gl (GI fun x s' => x = (aBack a k).1 ∧ RepM (aBack a k).2 s') (X12_back (d + 2) s 98 k) := by
  have hs := R.1
  rw [e_X12_back, lies_if, cI_ok]
  unfold aBack
  by_cases h : 0 ≤ k ∧ k ≤ 1
  · rw [if_pos h, if_pos h, if_neg (show ¬ ((1 : Int) = 0) by decide)]
    obtain ⟨k, rfl⟩ := Int.eq_ofNat_of_zero_le h.1
    have hI : ImR s k (imgA a k) ∧ wfIm (imgA a k) := by
      have hk : k = 0 ∨ k = 1 := by omega
      rcases hk with rfl | rfl
      · exact ⟨R.2.2.1.1, W.2.1.1⟩
      · exact ⟨R.2.2.1.2, W.2.1.2⟩
    simp (disch := ((try simp only [kd_sF, kd_sA, gA_sF, gA_sA, gF_sF, gF_sA, List.length_set, reduceIte, and_true, and_false, true_and, false_and, Nat.reduceEqDiff, Int.reduceEq, hs.kd, hs.ln, hs.fs, kMs, lMs]); first | done | omega)) only [rF_ok, wF_ok, oK_ok, lA_ok, rA_ok, wA_ok, cI_ok, cV_ok, cL_ok, cR_ok, kd_sF, kd_sA, gA_sF, gF_sA, gF_sF, gA_sA, bk_0, bk_1, List.length_set, reduceIte, and_true, and_false, true_and, false_and, ne_eq, not_true_eq_false, not_false_eq_true, Int.toNat_natCast, Int.reduceToNat, Nat.reduceEqDiff, Int.reduceEq, Int.reduceLT, Int.reduceLE, Int.reduceAdd, Int.reduceSub, Int.reduceMul, Int.reduceNeg, hs.kd, hs.ln, hs.fs, kMs, lMs]
    match ho : imgA a k, hI with
    | none, ⟨h1, _⟩ =>
      rw [if_pos (show (gA s 102).getD k 0 = 0 from h1)]
      have g := mm_ref (d := d + 1) (v := -2) (K := fun x s' => some ([(0, x)], s')) (by decide) R (fun _ _ => rfl)
      rw [oK_ok (hs.k98)] at g
      exact g
    | some D, ⟨h1, h2⟩ =>
      rw [if_neg (by rw [h1.1]; decide)]
      dsimp only
      refine lpG (fun j s => X12_back_33 (d + 2) s 98 k j) (fun j s2 => ShM s2 ∧ Fa [100] s s2 ∧ (∀ j, gF s2 98 j = gF s 98 j) ∧ ∀ i, kA s2 i = if i < j then imA s k i else kA s i) 5781 ?_ ?_ 0 s (by omega) ⟨hs, Fa.rf _ _, fun _ => rfl, fun j => by rw [if_neg (by omega)]⟩
      · intro T j s2 hj ⟨i1, i2, i3, i4⟩ hT
        have et : (5781 * (k : Int) + (j : Int)).toNat = 5781 * k + j := by omega
        have e101 : (gA s2 101).getD (5781 * k + j) 0 = imA s k j := by rw [i2 101 (by decide)]; rfl
        rw [e_X12_back_33, if_pos (by omega)]
        simp (disch := ((try simp only [kd_sF, kd_sA, gA_sF, gA_sA, gF_sF, gF_sA, List.length_set, reduceIte, and_true, and_false, true_and, false_and, Nat.reduceEqDiff, Int.reduceEq, i1.kd, i1.ln, i1.fs, kMs, lMs]); first | done | omega)) only [rF_ok, wF_ok, oK_ok, lA_ok, rA_ok, wA_ok, cI_ok, cV_ok, cL_ok, cR_ok, kd_sF, kd_sA, gA_sF, gF_sA, gF_sF, gA_sA, bk_0, bk_1, List.length_set, reduceIte, and_true, and_false, true_and, false_and, ne_eq, not_true_eq_false, not_false_eq_true, Int.toNat_natCast, Int.reduceToNat, Nat.reduceEqDiff, Int.reduceEq, Int.reduceLT, Int.reduceLE, Int.reduceAdd, Int.reduceSub, Int.reduceMul, Int.reduceNeg, i1.kd, i1.ln, i1.fs, kMs, lMs, wi_sm, wi_sc, et, e101]
        obtain ⟨p1, p2, p3⟩ := set_pf (i := j) (v := imA s k j) i1 hj
        refine hT _ ⟨p2, i2.tr p1, i3, fun i => ?_⟩
        rw [p3, i4]
        by_cases e : j = i
        · rw [if_pos e, if_pos (by omega), e]
        · rw [if_neg e]
          by_cases e2 : i < j
          · rw [if_pos e2, if_pos (by omega)]
          · rw [if_neg e2, if_neg (by omega)]
      · intro s2 ⟨i1, i2, i3, i4⟩
        rw [e_X12_back_33, if_neg (by decide)]
        have R2 : RepM (setDr a D) s2 := R.k100 i1 i2 (fun k _ => i3 k) (h1.2.cg (h2 D rfl) fun j hj => by rw [i4, if_pos hj])
        exact mm_sett (d := d) (v := 0) R2 (fun _ _ => rfl)
  · rw [if_neg h, if_neg h, if_pos rfl]
    exact mm_ref (d := d + 1) (v := -1) (by decide) R (fun _ _ => rfl)
end MIM
