/-! ===== the class reads a text, whole ===== -/
section CRF
variable {s s' s0 : St} {t : List Int} {d : Nat} {fl fw lw : Int}
/-- what reading t tells -/
def rdT (t : List Int) (fw : Int) : Except Nat (List Cl) := pText (pCl (cTx t) (vTx t) fw) (cTx t) (tkF t 0).length
def rdA : List Int := [72, 73, 74, 64, 65, 66, 67, 68, 69, 70, 71]
theorem c_read (hs : ShC s) (T : TpR s t) (hb : ∀ b ∈ t, 0 ≤ b ∧ b < 256) (hL : Lg fl fw lw) : Gl (GI fun x s' => ShC s' ∧ FrK [] [62, 63] rdA s s' ∧ (match rdT t fw with
  | .ok cls => x = -1 ∧ ScR s' 63 cls
  | .error e => x = sTx t e ∧ 0 ≤ sTx t e)) (X5_read (d + 24) s 62 2 t.length fl) := by
  have hfl : fl = 0 ∨ fl = 1 := by unfold Lg at hL; omega
  have W := tokW T.2.2.1 hb
  rw [e_X5_read]
  simp (disch := ((try simp only [kd_sF, kd_sA, gA_sF, gA_sA, gF_sF, gF_sA, List.length_set, reduceIte, and_true, and_false, true_and, false_and, Nat.reduceEqDiff, Int.reduceEq, hs.o62]); first | done | omega)) only [rF_ok, wF_ok, oK_ok, lA_ok, rA_ok, wA_ok, cI_ok, cV_ok, cL_ok, cR_ok, kd_sF, kd_sA, gA_sF, gF_sA, gF_sF, gA_sA, bk_0, bk_1, List.length_set, reduceIte, and_true, and_false, true_and, false_and, ne_eq, not_true_eq_false, not_false_eq_true, Int.toNat_natCast, Int.reduceToNat, Nat.reduceEqDiff, Int.reduceEq, Int.reduceLT, Int.reduceLE, Int.reduceAdd, Int.reduceSub, Int.reduceMul, Int.reduceNeg, hs.o62]
  refine biV (c_scan (d := d + 21) hs T hb) fun s1 _ ⟨h1, h2, h3, K⟩ => ?_
  have k62 : kd s1 62 = 9 := h1.o62.1
  have k63 : kd s1 63 = 11 := h1.o63.1
  have l72 : (gA s1 72).length = 401 := h1.2.1 72 (by decide) (by decide)
  have a0 : (gA s1 72).getD 0 0 = kI (cTx t) (tkF t 0).length 0 := (K.2 0 (Nat.zero_le _)).1
  have bk1 : ∀ r : Res, bk fl r = r := fun r => bk_b hfl
  simp (disch := ((try simp only [kd_sF, kd_sA, gA_sF, gA_sA, gF_sF, gF_sA, List.length_set, reduceIte, and_true, and_false, true_and, false_and, Nat.reduceEqDiff, Int.reduceEq, h1.o62, h1.o63]); first | done | omega)) only [rF_ok, wF_ok, oK_ok, lA_ok, rA_ok, wA_ok, cI_ok, cV_ok, cL_ok, cR_ok, kd_sF, kd_sA, gA_sF, gF_sA, gF_sF, gA_sA, bk_0, bk_1, List.length_set, reduceIte, and_true, and_false, true_and, false_and, ne_eq, not_true_eq_false, not_false_eq_true, Int.toNat_natCast, Int.reduceToNat, Nat.reduceEqDiff, Int.reduceEq, Int.reduceLT, Int.reduceLE, Int.reduceAdd, Int.reduceSub, Int.reduceMul, Int.reduceNeg, h1.o62, h1.o63, bk1, a0]
  -- the state at the beginning
  have hsA : ShC (sF (sF (sF (sF (sF (sF (sF s1 62 9 fl) 62 5 0) 62 6 (kI (cTx t) (tkF t 0).length 0)) 62 7 (-1)) 62 8 0) 63 2 0) 63 3 0) := by
    refine ShC.sF (ShC.sF (ShC.sF (ShC.sF (ShC.sF (ShC.sF (h1.sF ?_) ?_) ?_) ?_) ?_) ?_) ?_
    · rw [k62]; decide
    · simp only [kd_sF, k62]; decide
    · simp only [kd_sF, k62]; decide
    · simp only [kd_sF, k62]; decide
    · simp only [kd_sF, k62]; decide
    · simp only [kd_sF, k63]; decide
    · simp only [kd_sF, k63]; decide
  have FA : FrK [] [62, 63] rdA s1 (sF (sF (sF (sF (sF (sF (sF s1 62 9 fl) 62 5 0) 62 6 (kI (cTx t) (tkF t 0).length 0)) 62 7 (-1)) 62 8 0) 63 2 0) 63 3 0) := ((((((FrK.sF (by decide)).tr (FrK.sF (by decide))).tr (FrK.sF (by decide))).tr (FrK.sF (by decide))).tr (FrK.sF (by decide))).tr (FrK.sF (by decide))).tr (FrK.sF (by decide))
  have g4 : gF (sF (sF (sF (sF (sF (sF (sF s1 62 9 fl) 62 5 0) 62 6 (kI (cTx t) (tkF t 0).length 0)) 62 7 (-1)) 62 8 0) 63 2 0) 63 3 0) 62 4 = gF s1 62 4 := by simp only [gF_sF, Int.reduceEq, Nat.reduceEqDiff, and_false, false_and, reduceIte]
  have g9 : gF (sF (sF (sF (sF (sF (sF (sF s1 62 9 fl) 62 5 0) 62 6 (kI (cTx t) (tkF t 0).length 0)) 62 7 (-1)) 62 8 0) 63 2 0) 63 3 0) 62 9 = fl := by simp only [gF_sF, Int.reduceEq, Nat.reduceEqDiff, and_false, false_and, reduceIte, and_true]
  have g5 : gF (sF (sF (sF (sF (sF (sF (sF s1 62 9 fl) 62 5 0) 62 6 (kI (cTx t) (tkF t 0).length 0)) 62 7 (-1)) 62 8 0) 63 2 0) 63 3 0) 62 5 = 0 := by simp only [gF_sF, Int.reduceEq, Nat.reduceEqDiff, and_false, false_and, reduceIte, and_true]
  have g6 : gF (sF (sF (sF (sF (sF (sF (sF s1 62 9 fl) 62 5 0) 62 6 (kI (cTx t) (tkF t 0).length 0)) 62 7 (-1)) 62 8 0) 63 2 0) 63 3 0) 62 6 = kI (cTx t) (tkF t 0).length 0 := by simp only [gF_sF, Int.reduceEq, Nat.reduceEqDiff, and_false, false_and, reduceIte, and_true]
  have g7 : gF (sF (sF (sF (sF (sF (sF (sF s1 62 9 fl) 62 5 0) 62 6 (kI (cTx t) (tkF t 0).length 0)) 62 7 (-1)) 62 8 0) 63 2 0) 63 3 0) 62 7 = -1 := by simp only [gF_sF, Int.reduceEq, Nat.reduceEqDiff, and_false, false_and, reduceIte, and_true]
  have g8 : gF (sF (sF (sF (sF (sF (sF (sF s1 62 9 fl) 62 5 0) 62 6 (kI (cTx t) (tkF t 0).length 0)) 62 7 (-1)) 62 8 0) 63 2 0) 63 3 0) 62 8 = 0 := by simp only [gF_sF, Int.reduceEq, Nat.reduceEqDiff, and_false, false_and, reduceIte, and_true]
  have g2 : gF (sF (sF (sF (sF (sF (sF (sF s1 62 9 fl) 62 5 0) 62 6 (kI (cTx t) (tkF t 0).length 0)) 62 7 (-1)) 62 8 0) 63 2 0) 63 3 0) 63 2 = 0 := by simp only [gF_sF, Int.reduceEq, Nat.reduceEqDiff, and_false, false_and, reduceIte, and_true]
  have aA : ∀ x, gA (sF (sF (sF (sF (sF (sF (sF s1 62 9 fl) 62 5 0) 62 6 (kI (cTx t) (tkF t 0).length 0)) 62 7 (-1)) 62 8 0) 63 2 0) 63 3 0) x = gA s1 x := fun _ => rfl
  generalize sF (sF (sF (sF (sF (sF (sF s1 62 9 fl) 62 5 0) 62 6 (kI (cTx t) (tkF t 0).length 0)) 62 7 (-1)) 62 8 0) 63 2 0) 63 3 0 = A at *
  have KA : TokR (cTx t) (vTx t) (sTx t) (tkF t 0).length A := ⟨g4.trans K.1, fun i hi => by rw [aA, aA, aA]; exact K.2 i hi⟩
  have hA : POk (cTx t) (tkF t 0).length A 0 0 [] A := ⟨RdB.rf hsA, Nat.zero_le _, g5, g6, g7, g8, g2, by simp, fun j hj => absurd hj (by simp)⟩
  have LA : Lg (gF A 62 9) fw lw := by rw [g9]; exact hL
  have F0 : FrK [] [62, 63] rdA s A := (h2.mono (by decide) (by decide) (by decide)).tr FA
  unfold rdT pText
  rw [e_X5_read_58, if_pos (by decide), if_neg (show ¬ ((1 : Int) = 0) by decide)]
  simp (disch := ((try simp only [kd_sF, kd_sA, gA_sF, gA_sA, gF_sF, gF_sA, List.length_set, reduceIte, and_true, and_false, true_and, false_and, Nat.reduceEqDiff, Int.reduceEq, hsA.o62]); first | done | omega)) only [rF_ok, wF_ok, oK_ok, lA_ok, rA_ok, wA_ok, cI_ok, cV_ok, cL_ok, cR_ok, kd_sF, kd_sA, gA_sF, gF_sA, gF_sF, gA_sA, bk_0, bk_1, List.length_set, reduceIte, and_true, and_false, true_and, false_and, ne_eq, not_true_eq_false, not_false_eq_true, Int.toNat_natCast, Int.reduceToNat, Nat.reduceEqDiff, Int.reduceEq, Int.reduceLT, Int.reduceLE, Int.reduceAdd, Int.reduceSub, Int.reduceMul, Int.reduceNeg, hsA.o62]
  refine biV (c_clause (d := d) (n := 0) W KA LA (by omega) (by omega) (by simp) hA) fun s2 _ q => ?_
  show Gl _ (AfR (d + 23) s2 0)
  have up : ∀ s3, ClB A s3 → FrK [] [62, 63] rdA s s3 := fun s3 b => F0.tr (b.2.1.mono (by decide) (by decide) (by decide))
  cases hr : pCl (cTx t) (vTx t) fw 0 0 with
  | error e' =>
    rw [hr] at q
    obtain ⟨⟨b2, q2⟩, hz⟩ := q
    have hs2 : ShC s2 := q2.1.1
    have z6 := q2.2.1
    unfold AfR
    simp (disch := ((try simp only [kd_sF, kd_sA, gA_sF, gA_sA, gF_sF, gF_sA, List.length_set, reduceIte, and_true, and_false, true_and, false_and, Nat.reduceEqDiff, Int.reduceEq, hs2.o62]); first | done | omega)) only [rF_ok, wF_ok, oK_ok, lA_ok, rA_ok, wA_ok, cI_ok, cV_ok, cL_ok, cR_ok, kd_sF, kd_sA, gA_sF, gF_sA, gF_sF, gA_sA, bk_0, bk_1, List.length_set, reduceIte, and_true, and_false, true_and, false_and, ne_eq, not_true_eq_false, not_false_eq_true, Int.toNat_natCast, Int.reduceToNat, Nat.reduceEqDiff, Int.reduceEq, Int.reduceLT, Int.reduceLE, Int.reduceAdd, Int.reduceSub, Int.reduceMul, Int.reduceNeg, hs2.o62, z6]
    exact wkI (c_58F (n := 0) b2 q2 (by omega) _) fun x s3 _ h => ⟨h.1.1, up s3 h.1, h.2, hz⟩
  | ok a =>
    rw [hr] at q
    obtain ⟨b2, q2, O2, E2, z3⟩ := q
    have hbc := bc_cl (show 0 ≤ 50 by omega) hr
    have E0 : EnA A [] := fun j hj => absurd hj (by simp)
    have := c_afR (d := d) W KA LA 11 [a.2.2] a.1 a.2.1 s2 rfl (by simp) hbc.2.2.1 (by rw [show call [a.2.2] = [] ++ ccode a.2.2 from call_app (L := [])]; simp only [List.nil_append]; have : nN (cTx t) 0 = 0 := rfl; omega) b2 (by rw [show call [a.2.2] = [] ++ ccode a.2.2 from call_app (L := [])]; exact q2) (EnA.app (L := []) E0 O2 E2) (by rw [z3]; rfl)
    refine wkI this fun x s3 _ h => ⟨h.1.1, up s3 h.1, ?_⟩
    exact h.2
end CRF
