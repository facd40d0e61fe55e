/-! ===== the class: the undo log ===== -/
section CLG
variable {s s' : St} {d : Nat} {H : Hi} {K K' : List Kn}
theorem nxK_lt {i : Nat} (h : i < H.length) : nxK H K i = (H.getD i (0, [])).2 := if_pos h
theorem nxK_ge {i : Nat} (h : ¬ i < H.length) : nxK H K i = K := if_neg h
theorem tail_gd {i : Nat} : H.tail.getD i (0, []) = H.getD (i + 1) (0, []) := by
  rw [List.getD_eq_getElem?_getD, List.getD_eq_getElem?_getD, List.getElem?_tail]
theorem c_drop (hs : ShC s) (L : LgC s 10 H K) (h16 : H.length = 16) : Gl (GV fun s' => ShC s' ∧ FrK [] [10] [11, 12, 13] s s' ∧ LgC s' 10 H.tail K) (X9_dropOldest d s 10) := by
  rw [e_X9_dropOldest]
  have sh : ∀ x : Int, (x = 11 ∨ x = 12 ∨ x = 13) → ∀ s1, ShC s1 → kd s1 x = 20 ∧ (gA s1 x).length = 16 := by
    intro x hx s1 h1
    rcases hx with rfl | rfl | rfl
    · exact ⟨h1.1 11 (by decide) (by decide), h1.2.1 11 (by decide) (by decide)⟩
    · exact ⟨h1.1 12 (by decide) (by decide), h1.2.1 12 (by decide) (by decide)⟩
    · exact ⟨h1.1 13 (by decide) (by decide), h1.2.1 13 (by decide) (by decide)⟩
  refine lpG (fun i s1 => X9_dropOldest_2 d s1 10 i) (fun i s1 => 1 ≤ i ∧ ShC s1 ∧ FrK [] [] [11, 12, 13] s s1 ∧ ∀ x : Int, (x = 11 ∨ x = 12 ∨ x = 13) → ∀ j, j < 16 → (gA s1 x).getD j 0 = if j < i - 1 then (gA s x).getD (j + 1) 0 else (gA s x).getD j 0) 16 ?_ ?_ 1 s (by omega) ⟨by omega, hs, FrK.rf _ _ _ _, fun x _ j _ => by rw [if_neg (by omega)]⟩
  · intro T i s1 hi ⟨i0, i1, i2, i3⟩ hT
    have l11 := (sh 11 (by simp) s1 i1).2
    have l12 := (sh 12 (by simp) s1 i1).2
    have l13 := (sh 13 (by simp) s1 i1).2
    have k11 := (sh 11 (by simp) s1 i1).1
    have k12 := (sh 12 (by simp) s1 i1).1
    have k13 := (sh 13 (by simp) s1 i1).1
    obtain ⟨p, rfl⟩ : ∃ p, i = p + 1 := ⟨i - 1, by omega⟩
    have e1 : (((p + 1 : Nat) : Int) - 1) = (p : Int) := by omega
    rw [e_X9_dropOldest_2, if_pos (by omega)]
    rw [wi_sm (by omega) (by omega), wi_sm (by omega) (by omega), e1]
    simp (disch := ((try simp only [kd_sF, kd_sA, gA_sF, gA_sA, gF_sF, gF_sA, List.length_set, reduceIte, and_true, and_false, true_and, false_and, Nat.reduceEqDiff, Int.reduceEq, i1.o10]); first | done | omega)) only [rF_ok, wF_ok, oK_ok, lA_ok, rA_ok, wA_ok, cI_ok, cV_ok, cL_ok, cR_ok, kd_sF, kd_sA, gA_sF, gF_sA, gF_sF, gA_sA, bk_0, bk_1, List.length_set, reduceIte, and_true, and_false, true_and, false_and, ne_eq, not_true_eq_false, not_false_eq_true, Int.toNat_natCast, Int.reduceToNat, Nat.reduceEqDiff, Int.reduceEq, Int.reduceLT, Int.reduceLE, Int.reduceAdd, Int.reduceSub, Int.reduceMul, Int.reduceNeg, i1.o10]
    refine hT _ ⟨by omega, ((i1.sA (by rw [List.length_set]) (by rw [k11]; decide)).sA (by rw [List.length_set, gA_ne (by decide)]) (by rw [kd_sA, k12]; decide)).sA (by rw [List.length_set, gA_ne (by decide), gA_ne (by decide)]) (by rw [kd_sA, kd_sA, k13]; decide), i2.tr (((FrK.sA _ (by decide)).tr (FrK.sA _ (by decide))).tr (FrK.sA _ (by decide))), fun x hx j hj => ?_⟩
    have st : ∀ l l0 : List Int, l.length = 16 → (∀ j, j < 16 → l.getD j 0 = if j < p + 1 - 1 then l0.getD (j + 1) 0 else l0.getD j 0) → (l.set p (l.getD (p + 1) 0)).getD j 0 = if j < p + 1 + 1 - 1 then l0.getD (j + 1) 0 else l0.getD j 0 := by
      intro l l0 hl h
      rw [setD_getD (by omega)]
      by_cases e : p = j
      · rw [if_pos e, if_pos (by omega), h (p + 1) (by omega), if_neg (by omega), e]
      · rw [if_neg e, h j hj]
        by_cases e2 : j < p + 1 - 1
        · rw [if_pos e2, if_pos (by omega)]
        · rw [if_neg e2, if_neg (by omega)]
    rcases hx with rfl | rfl | rfl
    · rw [gA_ne (by decide), gA_ne (by decide), gA_eq]
      exact st _ _ l11 (i3 11 (by simp))
    · rw [gA_ne (by decide), gA_eq]
      exact st _ _ l12 (i3 12 (by simp))
    · rw [gA_eq]
      exact st _ _ l13 (i3 13 (by simp))
  · intro s1 ⟨i0, i1, i2, i3⟩
    have k10 : kd s1 10 = 13 := i1.o10.1
    rw [e_X9_dropOldest_2, if_neg (by omega)]
    simp (disch := ((try simp only [kd_sF, kd_sA, gA_sF, gA_sA, gF_sF, gF_sA, List.length_set, reduceIte, and_true, and_false, true_and, false_and, Nat.reduceEqDiff, Int.reduceEq, k10]); first | done | omega)) only [rF_ok, wF_ok, oK_ok, lA_ok, rA_ok, wA_ok, cI_ok, cV_ok, cL_ok, cR_ok, kd_sF, kd_sA, gA_sF, gF_sA, gF_sF, gA_sA, bk_0, bk_1, List.length_set, reduceIte, and_true, and_false, true_and, false_and, ne_eq, not_true_eq_false, not_false_eq_true, Int.toNat_natCast, Int.reduceToNat, Nat.reduceEqDiff, Int.reduceEq, Int.reduceLT, Int.reduceLE, Int.reduceAdd, Int.reduceSub, Int.reduceMul, Int.reduceNeg, k10]
    have hl : H.tail.length = 15 := by rw [List.length_tail, h16]
    refine reV ⟨i1.sF (by rw [k10]; decide), (i2.mono (by decide) (by decide) (by decide)).tr (FrK.sF (by decide)), ?_, fun i hi => ?_⟩
    · rw [gF_eq, hl]; rfl
    · rw [hl] at hi
      have a1 : af (sF s1 10 0 15) (10 + 1) i = af s (10 + 1) (i + 1) := by
        show (gA s1 11).getD i 0 = (gA s 11).getD (i + 1) 0
        rw [i3 11 (by simp) i (by omega), if_pos (by omega)]
      have a2 : af (sF s1 10 0 15) (10 + 2) i = af s (10 + 2) (i + 1) := by
        show (gA s1 12).getD i 0 = (gA s 12).getD (i + 1) 0
        rw [i3 12 (by simp) i (by omega), if_pos (by omega)]
      have a3 : af (sF s1 10 0 15) (10 + 3) i = af s (10 + 3) (i + 1) := by
        show (gA s1 13).getD i 0 = (gA s 13).getD (i + 1) 0
        rw [i3 13 (by simp) i (by omega), if_pos (by omega)]
      have := L.2 (i + 1) (by omega)
      rw [a1, a2, a3, tail_gd]
      have en : nxK H.tail K (i + 1) = nxK H K (i + 1 + 1) := by
        unfold nxK
        rw [tail_gd, hl, h16]
        by_cases e : i + 1 < 15
        · rw [if_pos e, if_pos (by omega)]
        · rw [if_neg e, if_neg (by omega)]
      rw [en]
      exact this
theorem c_add13 {kind q pl : Int} (hs : ShC s) (L : LgC s 10 H K) (h16 : H.length < 16) (hq : 0 ≤ q ∧ q < (K.length : Int)) (hK : K'.length = K.length) (hu : unK kind q pl K' = K) : ∃ s', X9_add_13 d s 10 kind q pl = some ([], s') ∧ ShC s' ∧ FrK [] [10] [11, 12, 13] s s' ∧ LgC s' 10 (H ++ [(kind, K)]) K' := by
  have l11 : (gA s 11).length = 16 := hs.2.1 11 (by decide) (by decide)
  have l12 : (gA s 12).length = 16 := hs.2.1 12 (by decide) (by decide)
  have l13 : (gA s 13).length = 16 := hs.2.1 13 (by decide) (by decide)
  have k11 : kd s 11 = 20 := hs.1 11 (by decide) (by decide)
  have k12 : kd s 12 = 20 := hs.1 12 (by decide) (by decide)
  have k13 : kd s 13 = 20 := hs.1 13 (by decide) (by decide)
  have k10 : kd s 10 = 13 := hs.o10.1
  have f0 := L.1
  have hsA : ShC (sA (sA (sA s 11 ((gA s 11).set H.length kind)) 12 ((gA s 12).set H.length q)) 13 ((gA s 13).set H.length pl)) := ((hs.sA (by rw [List.length_set]) (by rw [k11]; decide)).sA (by rw [List.length_set, gA_ne (by decide)]) (by rw [kd_sA, k12]; decide)).sA (by rw [List.length_set, gA_ne (by decide), gA_ne (by decide)]) (by rw [kd_sA, kd_sA, k13]; decide)
  refine ⟨sF (sA (sA (sA s 11 ((gA s 11).set H.length kind)) 12 ((gA s 12).set H.length q)) 13 ((gA s 13).set H.length pl)) 10 0 ((H.length : Int) + 1), ?_, hsA.sF (by rw [kd_sA, kd_sA, kd_sA, k10]; decide), ((((FrK.sA _ (by decide)).tr (FrK.sA _ (by decide))).tr (FrK.sA _ (by decide))).tr (FrK.sF (by decide))), ?_, fun i hi => ?_⟩
  · rw [e_X9_add_13]
    simp (disch := ((try simp only [kd_sF, kd_sA, gA_sF, gA_sA, gF_sF, gF_sA, List.length_set, reduceIte, and_true, and_false, true_and, false_and, Nat.reduceEqDiff, Int.reduceEq, hs.o10]); first | done | omega)) only [rF_ok, wF_ok, oK_ok, lA_ok, rA_ok, wA_ok, cI_ok, cV_ok, cL_ok, cR_ok, kd_sF, kd_sA, gA_sF, gF_sA, gF_sF, gA_sA, bk_0, bk_1, List.length_set, reduceIte, and_true, and_false, true_and, false_and, ne_eq, not_true_eq_false, not_false_eq_true, Int.toNat_natCast, Int.reduceToNat, Nat.reduceEqDiff, Int.reduceEq, Int.reduceLT, Int.reduceLE, Int.reduceAdd, Int.reduceSub, Int.reduceMul, Int.reduceNeg, hs.o10, f0, wi_sm]
  · rw [gF_eq, List.length_append]; rfl
  · rw [List.length_append] at hi
    simp only [List.length_cons, List.length_nil] at hi
    have a1 : af (sF (sA (sA (sA s 11 ((gA s 11).set H.length kind)) 12 ((gA s 12).set H.length q)) 13 ((gA s 13).set H.length pl)) 10 0 ((H.length : Int) + 1)) (10 + 1) i = if H.length = i then kind else af s (10 + 1) i := by
      show (gA (sA (sA (sA s 11 ((gA s 11).set H.length kind)) 12 ((gA s 12).set H.length q)) 13 ((gA s 13).set H.length pl)) 11).getD i 0 = _
      rw [gA_ne (by decide), gA_ne (by decide), gA_eq, setD_getD (by omega)]
      rfl
    have a2 : af (sF (sA (sA (sA s 11 ((gA s 11).set H.length kind)) 12 ((gA s 12).set H.length q)) 13 ((gA s 13).set H.length pl)) 10 0 ((H.length : Int) + 1)) (10 + 2) i = if H.length = i then q else af s (10 + 2) i := by
      show (gA (sA (sA (sA s 11 ((gA s 11).set H.length kind)) 12 ((gA s 12).set H.length q)) 13 ((gA s 13).set H.length pl)) 12).getD i 0 = _
      rw [gA_ne (by decide), gA_eq, setD_getD (by omega)]
      rfl
    have a3 : af (sF (sA (sA (sA s 11 ((gA s 11).set H.length kind)) 12 ((gA s 12).set H.length q)) 13 ((gA s 13).set H.length pl)) 10 0 ((H.length : Int) + 1)) (10 + 3) i = if H.length = i then pl else af s (10 + 3) i := by
      show (gA (sA (sA (sA s 11 ((gA s 11).set H.length kind)) 12 ((gA s 12).set H.length q)) 13 ((gA s 13).set H.length pl)) 13).getD i 0 = _
      rw [gA_eq, setD_getD (by omega)]
      rfl
    rw [a1, a2, a3]
    by_cases e : H.length = i
    · rw [if_pos e, if_pos e, if_pos e, ← e, gdApp2]
      refine ⟨rfl, by omega, ?_⟩
      rw [nxK_ge (by rw [List.length_append]; simp), hu]
    · rw [if_neg e, if_neg e, if_neg e, gdApp (by omega)]
      have := L.2 i (by omega)
      refine ⟨this.1, by omega, ?_⟩
      rw [this.2.2]
      congr 1
      rw [nxK_lt (H := H ++ [(kind, K)]) (by rw [List.length_append]; simp; omega)]
      by_cases e2 : i + 1 < H.length
      · rw [nxK_lt e2, gdApp e2]
      · rw [nxK_ge e2, show i + 1 = H.length by omega, gdApp2]
theorem c_logAdd {kind q pl : Int} (hs : ShC s) (L : LgC s 10 H K) (h16 : H.length ≤ 16) (hq : 0 ≤ q ∧ q < (K.length : Int)) (hK : K'.length = K.length) (hu : unK kind q pl K' = K) : Gl (GV fun s' => ShC s' ∧ FrK [] [10] [11, 12, 13] s s' ∧ LgC s' 10 (pushH H kind K) K') (X9_add (d + 1) s 10 kind q pl) := by
  have f0 := L.1
  have k10 : kd s 10 = 13 := hs.o10.1
  rw [e_X9_add]
  unfold pushH
  simp (disch := ((try simp only [kd_sF, kd_sA, gA_sF, gA_sA, gF_sF, gF_sA, List.length_set, reduceIte, and_true, and_false, true_and, false_and, Nat.reduceEqDiff, Int.reduceEq, k10]); first | done | omega)) only [rF_ok, wF_ok, oK_ok, lA_ok, rA_ok, wA_ok, cI_ok, cV_ok, cL_ok, cR_ok, kd_sF, kd_sA, gA_sF, gF_sA, gF_sF, gA_sA, bk_0, bk_1, List.length_set, reduceIte, and_true, and_false, true_and, false_and, ne_eq, not_true_eq_false, not_false_eq_true, Int.toNat_natCast, Int.reduceToNat, Nat.reduceEqDiff, Int.reduceEq, Int.reduceLT, Int.reduceLE, Int.reduceAdd, Int.reduceSub, Int.reduceMul, Int.reduceNeg, k10, f0]
  by_cases e : H.length = 16
  · rw [if_pos (show (H.length : Int) = 16 by omega), if_pos e]
    refine biV (c_drop (d := d) hs L e) fun s1 _ ⟨i1, i2, i3⟩ => ?_
    obtain ⟨s2, e1, e2, e3, e4⟩ := c_add13 (d := d + 1) (K' := K') i1 i3 (by rw [List.length_tail]; omega) hq hK hu
    rw [e1]
    exact reV ⟨e2, i2.tr e3, e4⟩
  · rw [if_neg (show ¬ ((H.length : Int) = 16) by omega), if_neg e]
    obtain ⟨s2, e1, e2, e3, e4⟩ := c_add13 (d := d + 1) (K' := K') hs L (by omega) hq hK hu
    rw [e1]
    exact reV ⟨e2, e3, e4⟩
theorem LgC.pop (L : LgC s 10 H K) (hn : H.length ≠ 0) (hK : K' = (H.getD (H.length - 1) (0, [])).2) (hl : K'.length = K.length) : LgC (sF s 10 0 ((H.length : Int) - 1)) 10 H.dropLast K' := by
  have hl2 : H.dropLast.length = H.length - 1 := List.length_dropLast
  have gd : ∀ i, i < H.length - 1 → H.dropLast.getD i (0, []) = H.getD i (0, []) := fun i hi => by
    rw [List.getD_eq_getElem?_getD, List.getD_eq_getElem?_getD, List.getElem?_dropLast, if_pos hi]
  refine ⟨by rw [gF_eq, hl2]; omega, fun i hi => ?_⟩
  rw [hl2] at hi
  have := L.2 i (by omega)
  rw [gd i hi]
  refine ⟨this.1, ?_, ?_⟩
  · rw [hl]; exact this.2.1
  · rw [this.2.2]
    show unK _ _ _ _ = unK (af s (10 + 1) i) (af s (10 + 2) i) (af s (10 + 3) i) _
    congr 1
    rw [nxK_lt (show i + 1 < H.length by omega)]
    by_cases e2 : i + 1 < H.length - 1
    · rw [nxK_lt (by omega), gd _ e2]
    · rw [nxK_ge (by omega), hK, show i + 1 = H.length - 1 by omega]
end CLG
