/-! ===== the reference: the call wear ===== -/
section MWX
variable {s s' : St} {a : Ab} {d : Nat}
/-- what is told of the first j knots -/
def WrQ (a : Ab) (s0 : St) (j : Nat) (s : St) : Prop := RepM a s ∧ ∀ i, i < j → (gA s 122).getD i 0 = wFr a.1 i ∧ (gA s 123).getD i 0 = if wHo a.1 i then wTk a.1 i else 1000000
theorem kn_nat {i : Nat} : knQ a.1 (i : Int) = a.1.1.getD i k0 := rfl
theorem woP_len {K : Nat} {bt : Nat → Nat} {tk : Nat → Int} : ∀ (bl : List Int) (t : Nat), (woP K bt tk bl t).length = bl.length
  | [], _ => rfl
  | c :: r, t => by
    unfold woP
    rw [List.length_cons, List.length_cons, woP_len r]
theorem mm_wear {what : Int} (R : RepM a s) (W : wfA a) : Gl (GI fun x s' => x = aWear a.1 what ∧ RepM a s') (X12_wear (d + 49) s 98 what) := by
  have hs := R.1
  have n0 : (gA s 100).getD 170 0 = (a.1.2.1.length : Int) := R.2.1.2.1.1
  have h6 := W.1.2.1.1
  have h8 := W.1.1.1
  rw [e_X12_wear]
  unfold aWear
  simp (disch := ((try simp only [kd_sF, kd_sA, gA_sF, gA_sA, gF_sF, gF_sA, List.length_set, reduceIte, and_true, and_false, true_and, false_and, Nat.reduceEqDiff, Int.reduceEq, hs.kd, hs.ln, hs.fs, kMs, lMs]); first | done | omega)) only [rF_ok, wF_ok, oK_ok, lA_ok, rA_ok, wA_ok, cI_ok, cV_ok, cL_ok, cR_ok, kd_sF, kd_sA, gA_sF, gF_sA, gF_sF, gA_sA, bk_0, bk_1, List.length_set, reduceIte, and_true, and_false, true_and, false_and, ne_eq, not_true_eq_false, not_false_eq_true, Int.toNat_natCast, Int.reduceToNat, Nat.reduceEqDiff, Int.reduceEq, Int.reduceLT, Int.reduceLE, Int.reduceAdd, Int.reduceSub, Int.reduceMul, Int.reduceNeg, hs.kd, hs.ln, hs.fs, kMs, lMs, n0, lies_if]
  by_cases hw : 0 ≤ what ∧ what ≤ (a.1.2.1.length : Int)
  · rw [if_pos hw, if_pos hw, if_neg (show ¬ ((1 : Int) = 0) by decide)]
    refine lpG (fun q s => X12_wear_20 (d + 49) s 98 what q) (fun q s1 => WrQ a s q s1) a.1.1.length ?_ ?_ 0 s (by omega) ⟨R, fun i hi => by omega⟩
    · intro T q s1 hq ⟨R1, i2⟩ hT
      have hs1 := R1.1
      have hq' : isKn a.1 (q : Int) := by unfold isKn; omega
      have wk := wfKn_q W.1 hq'
      have e136 : (gA s1 100).getD 136 0 = (a.1.1.length : Int) := R1.cnt
      rw [e_X12_wear_20]
      simp (disch := ((try simp only [kd_sF, kd_sA, gA_sF, gA_sA, gF_sF, gF_sA, List.length_set, reduceIte, and_true, and_false, true_and, false_and, Nat.reduceEqDiff, Int.reduceEq, hs1.kd, hs1.ln, hs1.fs, kMs, lMs]); first | done | omega)) only [rF_ok, wF_ok, oK_ok, lA_ok, rA_ok, wA_ok, cI_ok, cV_ok, cL_ok, cR_ok, kd_sF, kd_sA, gA_sF, gF_sA, gF_sF, gA_sA, bk_0, bk_1, List.length_set, reduceIte, and_true, and_false, true_and, false_and, ne_eq, not_true_eq_false, not_false_eq_true, Int.toNat_natCast, Int.reduceToNat, Nat.reduceEqDiff, Int.reduceEq, Int.reduceLT, Int.reduceLE, Int.reduceAdd, Int.reduceSub, Int.reduceMul, Int.reduceNeg, hs1.kd, hs1.ln, hs1.fs, kMs, lMs, e136, if_pos (show (q : Int) < (a.1.1.length : Int) by omega)]
      have ho : wHo a.1 q = decide ((knQ a.1 (q : Int)).2.2.2.1 = 1 ∧ needD a.1 ≤ gpK a.1 (knQ a.1 (q : Int))) := by
        unfold wHo
        rw [← kn_nat]
        have := wk.2.2.2.1
        congr 1
        simp only [eq_iff_iff]
        constructor
        · intro h; exact ⟨by omega, h.2⟩
        · intro h; exact ⟨by omega, h.2⟩
      refine biI (mm_holds (d := d) R1 W hq') fun x s2 _ ⟨hx, L2, F2⟩ => ?_
      have hs2 := L2.1.1
      have end0 : ∀ (s3 : St) (v : Int), LkA a (knQ a.1 (q : Int)) s3 → (gA s3 122 = gA s1 122 ∧ gA s3 123 = gA s1 123) → v = (if wHo a.1 q then wTk a.1 q else 1000000) → Gl T (wA s3 123 20 (q : Int) v fun s4 => rF s4 98 16 46 fun x8 => oK s4 98 16 (cI (X12_frontOf (d + 48) s4 98) fun x9 s5 => wA s5 x8 20 (q : Int) x9 fun s6 => X12_wear_20 (d + 49) s6 98 what (wi ((q : Int) + 1)))) := by
        intro s3 v L3 g3 hv
        have hs3 := L3.1.1
        have L4 := L3.wr (p := 123) (l := (gA s3 123).set q v) (Or.inr rfl) (by rw [List.length_set])
        have l122 : (gA s3 122).length = 8 := hs3.ln 122
        have l123 : (gA s3 123).length = 8 := hs3.ln 123
        rw [wA_ok (hs3.k123) (by omega) (by rw [l123]; omega), Int.toNat_natCast]
        have g4 : gA (sA s3 123 ((gA s3 123).set q v)) 122 = gA s3 122 := gA_ne (by decide)
        have g5 : gA (sA s3 123 ((gA s3 123).set q v)) 123 = (gA s3 123).set q v := gA_eq _ _ _
        generalize sA s3 123 ((gA s3 123).set q v) = s4 at L4 g4 g5 ⊢
        have hs4 := L4.1.1
        have L5 := L4.wr (p := 122) (l := (gA s4 122).set q (frN (knQ a.1 (q : Int)).1 (pF (knQ a.1 (q : Int))) (kLen (knQ a.1 (q : Int))))) (Or.inl rfl) (by rw [List.length_set])
        rw [rF_ok (hs4.k98), show gF s4 98 46 = 122 from hs4.fs.2.2.2.2.2.2.2.2.2.2.2.2.2.2.2.2.2.2.2.2.2.2.2.1, oK_ok (hs4.k98), mm_fr (d := d + 47) L4 wk, cI_ok, wA_ok (hs4.k122) (by omega) (by rw [g4, l122]; omega), Int.toNat_natCast, wi_sc (by omega)]
        refine hT _ ⟨L5.1, fun i hi => ?_⟩
        rw [gA_eq, gA_ne (show (123 : Int) ≠ 122 by decide), g5, g4, setD_getD (by omega), setD_getD (by omega)]
        by_cases e : q = i
        · rw [if_pos e, if_pos e, hv, e]
          exact ⟨rfl, rfl⟩
        · rw [if_neg e, if_neg e, g3.1, g3.2]
          exact i2 i (by omega)
      by_cases h1 : (knQ a.1 (q : Int)).2.2.2.1 = 1 ∧ needD a.1 ≤ gpK a.1 (knQ a.1 (q : Int))
      · rw [if_pos h1] at hx
        rw [hx, if_neg (show ¬ ((1 : Int) = 0) by decide), oK_ok (hs2.k98)]
        refine biI (mm_takesAll (d := d + 1) L2 W wk) fun y s3 _ ⟨hy, L3, F3⟩ => ?_
        refine end0 s3 y L3 ⟨by rw [F3 122 (by decide), F2 122 (by decide)], by rw [F3 123 (by decide), F2 123 (by decide)]⟩ ?_
        rw [ho, decide_eq_true h1, if_pos rfl, hy]
        rfl
      · rw [if_neg h1] at hx
        rw [hx, if_pos rfl]
        refine end0 s2 1000000 L2 ⟨F2 122 (by decide), F2 123 (by decide)⟩ ?_
        rw [ho, decide_eq_false h1, if_neg (by decide)]
    · intro s1 ⟨R1, i2⟩
      have hs1 := R1.1
      have e136 : (gA s1 100).getD 136 0 = (a.1.1.length : Int) := R1.cnt
      rw [e_X12_wear_20]
      simp (disch := ((try simp only [kd_sF, kd_sA, gA_sF, gA_sA, gF_sF, gF_sA, List.length_set, reduceIte, and_true, and_false, true_and, false_and, Nat.reduceEqDiff, Int.reduceEq, hs1.kd, hs1.ln, hs1.fs, kMs, lMs]); first | done | omega)) only [rF_ok, wF_ok, oK_ok, lA_ok, rA_ok, wA_ok, cI_ok, cV_ok, cL_ok, cR_ok, kd_sF, kd_sA, gA_sF, gF_sA, gF_sF, gA_sA, bk_0, bk_1, List.length_set, reduceIte, and_true, and_false, true_and, false_and, ne_eq, not_true_eq_false, not_false_eq_true, Int.toNat_natCast, Int.reduceToNat, Nat.reduceEqDiff, Int.reduceEq, Int.reduceLT, Int.reduceLE, Int.reduceAdd, Int.reduceSub, Int.reduceMul, Int.reduceNeg, hs1.kd, hs1.ln, hs1.fs, kMs, lMs, e136, Int.lt_irrefl]
      have hs2 : ShM (sF s1 98 48 (-1)) := hs1.sF (by decide)
      have R2 : RepM a (sF s1 98 48 (-1)) := R1.fr hs2 (fun _ _ => rfl) (fun k hk => gF_nk (by revert k; decide))
      have g48 : gF (sF s1 98 48 (-1)) 98 48 = -1 := gF_eq _ _ _ _
      have i2' : ∀ i, i < a.1.1.length → (gA (sF s1 98 48 (-1)) 122).getD i 0 = wFr a.1 i ∧ (gA (sF s1 98 48 (-1)) 123).getD i 0 = if wHo a.1 i then wTk a.1 i else 1000000 := i2
      generalize sF s1 98 48 (-1) = s2 at hs2 R2 g48 i2' ⊢
      have T : WrT s2 a.1.1.length (fun i => if wHo a.1 i then wTk a.1 i else 1000000) (wFr a.1) a.1.2.1 := ⟨R2.2.1.1.1, h8, R2.2.1.2.1.1, h6, R2.2.1.2.1.2, fun q hq => (i2' q hq).1, fun q hq => (i2' q hq).2⟩
      obtain ⟨e, he⟩ : ∃ e, d + 48 = e + a.1.2.1.length := ⟨d + 48 - a.1.2.1.length, by omega⟩
      have hrec := m_tries (d := e) T a.1.2.1 [] 0 (-1, []) s2 ⟨hs2, Fa.rf _ _, fun _ _ => rfl, fun i hi => absurd hi (by simp), g48, fun i hi => absurd hi (by simp)⟩ (fun x hx => absurd hx (by simp)) (by simp) (fun i hi => by simp) (by simp)
      have eD := dfs_is (tk := wTk a.1) (tr := fun i => if wHo a.1 i then wTk a.1 i else 1000000) (btR (K := a.1.1.length) (ho := wHo a.1) (fr := wFr a.1)) h8 (fun q _ => rfl) a.1.2.1 [] 0 (-1, []) 0 (fun c hc => by have := W.1.2.1.2 c hc; omega) (fun q _ _ => by simp [iwP])
      have mb := (moP_nn (K := a.1.1.length) (bt := btN (wHo a.1) (wFr a.1)) (tk := wTk a.1) a.1.2.1 0).1
      rw [if_neg (by dsimp only; omega), Int.zero_add, List.nil_append] at eD
      rw [eD] at hrec
      have ew := woP_len (K := a.1.1.length) (bt := btN (wHo a.1) (wFr a.1)) (tk := wTk a.1) a.1.2.1 0
      rw [he]
      refine biV hrec fun s3 _ ⟨j1, j2, j3, _, j5, j6⟩ => ?_
      have R3 : RepM a s3 := R2.fr j1 (fun p hp => j2 p (by revert p; decide)) (fun k hk => j3 k (by revert k; decide))
      by_cases e0 : what = 0
      · rw [if_pos e0, if_pos e0]
        simp (disch := ((try simp only [kd_sF, kd_sA, gA_sF, gA_sA, gF_sF, gF_sA, List.length_set, reduceIte, and_true, and_false, true_and, false_and, Nat.reduceEqDiff, Int.reduceEq, j1.kd, j1.ln, j1.fs, kMs, lMs]); first | done | omega)) only [rF_ok, wF_ok, oK_ok, lA_ok, rA_ok, wA_ok, cI_ok, cV_ok, cL_ok, cR_ok, kd_sF, kd_sA, gA_sF, gF_sA, gF_sF, gA_sA, bk_0, bk_1, List.length_set, reduceIte, and_true, and_false, true_and, false_and, ne_eq, not_true_eq_false, not_false_eq_true, Int.toNat_natCast, Int.reduceToNat, Nat.reduceEqDiff, Int.reduceEq, Int.reduceLT, Int.reduceLE, Int.reduceAdd, Int.reduceSub, Int.reduceMul, Int.reduceNeg, j1.kd, j1.ln, j1.fs, kMs, lMs, j5]
        exact reI ⟨rfl, R3⟩
      · rw [if_neg e0, if_neg e0]
        simp (disch := ((try simp only [kd_sF, kd_sA, gA_sF, gA_sA, gF_sF, gF_sA, List.length_set, reduceIte, and_true, and_false, true_and, false_and, Nat.reduceEqDiff, Int.reduceEq, j1.kd, j1.ln, j1.fs, kMs, lMs]); first | done | omega)) only [rF_ok, wF_ok, oK_ok, lA_ok, rA_ok, wA_ok, cI_ok, cV_ok, cL_ok, cR_ok, kd_sF, kd_sA, gA_sF, gF_sA, gF_sF, gA_sA, bk_0, bk_1, List.length_set, reduceIte, and_true, and_false, true_and, false_and, ne_eq, not_true_eq_false, not_false_eq_true, Int.toNat_natCast, Int.reduceToNat, Nat.reduceEqDiff, Int.reduceEq, Int.reduceLT, Int.reduceLE, Int.reduceAdd, Int.reduceSub, Int.reduceMul, Int.reduceNeg, j1.kd, j1.ln, j1.fs, kMs, lMs, wi_sm]
        exact reI ⟨j6 _ (by rw [ew]; omega), R3⟩
  · rw [if_neg hw, if_neg hw, if_pos rfl]
    exact reI ⟨rfl, R⟩
end MWX
