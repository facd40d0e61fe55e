/-! ===== the class reads a clause, whole ===== -/
section CCM
variable {c v st : Nat → Int} {nt i l d : Nat} {s0 s s' : St} {C : Cd} {f fw lw : Int}
theorem c_206 {n : Nat} {h0 : Int} {x y : Cd × Dn} (W : TokW c v nt) (K : TokR c v st nt s) (hL : Lg (gF s 62 9) fw lw) (hn : n < 12) (hl : l ≤ 50) (hC : (C ++ x.1 ++ y.1).length ≤ 2 * l + nN c i) (B : ClB s0 s) (O : OtC n s0 s) (h3 : gF s 63 3 = (n : Int) + 1) (hE : (gA s 66).getD n 0 = kdC h0 ∧ (gA s 67).getD n 0 = 1 ∧ (gA s 68).getD n 0 = C.length ∧ (gA s 69).getD n 0 = (C.length + x.1.length : Nat)) (h : POk c nt s i l (C ++ x.1 ++ y.1) s) : Gl (GV fun s' => ClR c nt st s0 n C (if fw = 14 then pTm c v (pTest c v fw lw 8) i l h0 x y else pIf c (pTest c v fw lw 8) i l h0 1 x y) s') (X5_clause_206 (d + 23) s 62 n) := by
  have hs : ShC s := h.1.1
  have h6 := h.2.2.2.1
  have e2 := h.2.2.2.2.2.2.1
  have nb := nN_bd W h.2.1
  have hC256 : (C ++ x.1 ++ y.1).length ≤ 256 := by omega
  have l70 : (gA s 70).length = 12 := hs.2.1 70 (by decide) (by decide)
  have hl' : ((gA s 70).set n (gF s 63 2)).length = (gA s 70).length := List.length_set
  have B1 : ClB s (sA s 70 ((gA s 70).set n (gF s 63 2))) := ClB.w hs (by decide) hl'
  have h1 := h.w (x := 70) (by decide) hl'
  have O1 : OtC n s (sA s 70 ((gA s 70).set n (gF s 63 2))) := OtC.w (by omega)
  have E1 : (gA (sA s 70 ((gA s 70).set n (gF s 63 2))) 66).getD n 0 = kdC h0 ∧ (gA (sA s 70 ((gA s 70).set n (gF s 63 2))) 67).getD n 0 = 1 ∧ (gA (sA s 70 ((gA s 70).set n (gF s 63 2))) 68).getD n 0 = C.length ∧ (gA (sA s 70 ((gA s 70).set n (gF s 63 2))) 69).getD n 0 = (C.length + x.1.length : Nat) ∧ (gA (sA s 70 ((gA s 70).set n (gF s 63 2))) 70).getD n 0 = (C.length + x.1.length + y.1.length : Nat) := by
    refine ⟨by rw [gA_ne (by decide)]; exact hE.1, by rw [gA_ne (by decide)]; exact hE.2.1, by rw [gA_ne (by decide)]; exact hE.2.2.1, by rw [gA_ne (by decide)]; exact hE.2.2.2, ?_⟩
    rw [gA_eq, set_eq (by omega), e2]
    simp only [List.length_append]
  have h31 : gF (sA s 70 ((gA s 70).set n (gF s 63 2))) 63 3 = (n : Int) + 1 := h3
  rw [e_X5_clause_206]
  simp (disch := ((try simp only [kd_sF, kd_sA, gA_sF, gA_sA, gF_sF, gF_sA, List.length_set, reduceIte, and_true, and_false, true_and, false_and, Nat.reduceEqDiff, Int.reduceEq, hs.o62, hs.o63]); first | done | omega)) only [rF_ok, wF_ok, oK_ok, lA_ok, rA_ok, wA_ok, cI_ok, cV_ok, cL_ok, cR_ok, kd_sF, kd_sA, gA_sF, gF_sA, gF_sF, gA_sA, bk_0, bk_1, List.length_set, reduceIte, and_true, and_false, true_and, false_and, ne_eq, not_true_eq_false, not_false_eq_true, Int.toNat_natCast, Int.reduceToNat, Nat.reduceEqDiff, Int.reduceEq, Int.reduceLT, Int.reduceLE, Int.reduceAdd, Int.reduceSub, Int.reduceMul, Int.reduceNeg, hs.o62, hs.o63]
  generalize hX : sA s 70 ((gA s 70).set n (gF s 63 2)) = X at *
  have K1 := B1.tok K
  have L1 := B1.lg hL
  have h9 : gF s 62 9 = gF X 62 9 := B1.2.2.2.symm
  have h6X : gF X 62 6 = kI c nt i := h1.2.2.2.1
  have h6s : gF s 62 6 = gF X 62 6 := by rw [h6X]; exact h6
  have hsX : ShC X := h1.1.1
  have k318 : kI c nt i = 318 ↔ c i = 25 := kI_iff W (by rfl)
  rw [h9, h6]
  unfold Lg at L1
  by_cases ef : fw = 14
  · rw [if_pos ef, if_pos (show gF X 62 9 = 0 by omega)]
    unfold pTm
    by_cases e : c i = 25
    · rw [if_pos (k318.mpr e), if_pos e]
      refine gl_adv W K1 h1 (by omega) fun s1 g1 => ?_
      have hs1 : ShC s1 := g1.1.1
      have R1 := g1.1
      have l74 : (gA s1 74).length = 401 := hs1.2.1 74 (by decide) (by decide)
      have l67 : (gA s1 67).length = 12 := hs1.2.1 67 (by decide) (by decide)
      have en := (c_num K1 g1).1
      have q5 := g1.2.2.1
      have q6 := g1.2.2.2.1
      have qi := g1.2.1
      have hw := W.1
      have vb := W.2.2.2.1 (i + 1)
      have k256 : kI c nt (i + 1) = 256 ↔ c (i + 1) = 50 := kI_iff W (by rfl)
      have m1 := nN_mono (c := c) (i := i) (j := i + 1) (by omega)
      have m2 := nN_mono (c := c) (i := i + 1) (j := i + 2) (by omega)
      have hl2 : ((gA s1 67).set n (v (i + 1))).length = (gA s1 67).length := List.length_set
      have B2 : ClB s1 (sA s1 67 ((gA s1 67).set n (v (i + 1)))) := ClB.w hs1 (by decide) hl2
      have g2 := g1.re.w (x := 67) (by decide) hl2
      have O2 : OtC n s1 (sA s1 67 ((gA s1 67).set n (v (i + 1)))) := OtC.w (by omega)
      have E2 : (gA (sA s1 67 ((gA s1 67).set n (v (i + 1)))) 66).getD n 0 = kdC h0 ∧ (gA (sA s1 67 ((gA s1 67).set n (v (i + 1)))) 67).getD n 0 = v (i + 1) ∧ (gA (sA s1 67 ((gA s1 67).set n (v (i + 1)))) 68).getD n 0 = C.length ∧ (gA (sA s1 67 ((gA s1 67).set n (v (i + 1)))) 69).getD n 0 = (C.length + x.1.length : Nat) ∧ (gA (sA s1 67 ((gA s1 67).set n (v (i + 1)))) 70).getD n 0 = (C.length + x.1.length + y.1.length : Nat) := by
        refine ⟨by rw [gA_ne (by decide), R1.ar 66 (by decide)]; exact E1.1, by rw [gA_eq, set_eq (by omega)], by rw [gA_ne (by decide), R1.ar 68 (by decide)]; exact E1.2.2.1, by rw [gA_ne (by decide), R1.ar 69 (by decide)]; exact E1.2.2.2.1, by rw [gA_ne (by decide), R1.ar 70 (by decide)]; exact E1.2.2.2.2⟩
      have h32 : gF (sA s1 67 ((gA s1 67).set n (v (i + 1)))) 63 3 = (n : Int) + 1 := R1.2.2.2.2.trans h31
      have t2 : ((i + 1 : Nat) : Int).toNat = i + 1 := Int.toNat_natCast _
      have r5 : gF (sA s1 67 ((gA s1 67).set n (v (i + 1)))) 62 5 = ((i + 1 : Nat) : Int) := q5
      have B12 := (B.tr B1).tr (R1.cb.tr B2)
      have O12 := (O.tr O1).tr (OtC.tr (RdB.ot R1) O2)
      have K2 := (R1.cb.tr B2).tok K1
      have L2 : Lg (gF (sA s1 67 ((gA s1 67).set n (v (i + 1)))) 62 9) fw lw := (R1.cb.tr B2).lg (by unfold Lg; exact L1)
      simp (disch := ((try simp only [kd_sF, kd_sA, gA_sF, gA_sA, gF_sF, gF_sA, List.length_set, reduceIte, and_true, and_false, true_and, false_and, Nat.reduceEqDiff, Int.reduceEq, hs1.o62, hs1.o63]); first | done | omega)) only [rF_ok, wF_ok, oK_ok, lA_ok, rA_ok, wA_ok, cI_ok, cV_ok, cL_ok, cR_ok, kd_sF, kd_sA, gA_sF, gF_sA, gF_sF, gA_sA, bk_0, bk_1, List.length_set, reduceIte, and_true, and_false, true_and, false_and, ne_eq, not_true_eq_false, not_false_eq_true, Int.toNat_natCast, Int.reduceToNat, Nat.reduceEqDiff, Int.reduceEq, Int.reduceLT, Int.reduceLE, Int.reduceAdd, Int.reduceSub, Int.reduceMul, Int.reduceNeg, hs1.o62, hs1.o63, q5, q6, en]
      generalize sA s1 67 ((gA s1 67).set n (v (i + 1))) = X2 at *
      have no : Gl (GV fun s' => ClR c nt st s0 n C (.error (i + 1)) s') (cV (X5_fail (d + 22) X2 62) fun s4 => X5_clause_309 (d + 22 + 1) s4 62 n) := by
        refine gl_fail K2 hw g2 hC256 fun s3 q3 hz => ?_
        exact wkV (c_309F hn (B12.tr q3.1.cb) q3.re) fun s4 _ q4 => ⟨q4, hz⟩
      by_cases e5 : c (i + 1) = 50
      · rw [if_pos (k256.mpr e5)]
        by_cases e6 : v (i + 1) < 1
        · rw [if_pos e6, if_neg (show ¬ (c (i + 1) = 50 ∧ 1 ≤ v (i + 1) ∧ v (i + 1) ≤ 20) by omega)]
          exact no
        rw [if_neg e6]
        by_cases e7 : 20 < v (i + 1)
        · rw [if_pos e7, if_neg (show ¬ (c (i + 1) = 50 ∧ 1 ≤ v (i + 1) ∧ v (i + 1) ≤ 20) by omega)]
          exact no
        rw [if_neg e7, if_pos (show c (i + 1) = 50 ∧ 1 ≤ v (i + 1) ∧ v (i + 1) ≤ 20 by omega)]
        refine gl_adv W K2 g2 (by omega) fun s3 g3 => ?_
        have R3 := g3.1
        exact c_309 W (R3.cb.tok K2) (R3.cb.lg L2) hn hl (by omega) (B12.tr R3.cb) (O12.tr R3.ot) (R3.2.2.2.2.trans h32) ⟨by rw [R3.ar 66 (by decide)]; exact E2.1, by rw [R3.ar 67 (by decide)]; exact E2.2.1, by rw [R3.ar 68 (by decide)]; exact E2.2.2.1, by rw [R3.ar 69 (by decide)]; exact E2.2.2.2.1, by rw [R3.ar 70 (by decide)]; exact E2.2.2.2.2⟩ g3.re
      · rw [if_neg (fun x => e5 (k256.mp x)), if_neg (show ¬ (c (i + 1) = 50 ∧ 1 ≤ v (i + 1) ∧ v (i + 1) ≤ 20) from fun x => e5 x.1)]
        exact no
    · rw [if_neg (fun x => e (k318.mp x)), if_neg e]
      exact c_309 W K1 (by unfold Lg; exact L1) hn hl hC (B.tr B1) (O.tr O1) h31 E1 h1
  · rw [if_neg ef, if_neg (show ¬ (gF X 62 9 = 0) by omega)]
    exact c_309 W K1 (by unfold Lg; exact L1) hn hl hC (B.tr B1) (O.tr O1) h31 E1 h1
end CCM
