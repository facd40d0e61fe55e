/-! ===== the class reads sums ===== -/
section CSO
variable {c v st : Nat → Int} {nt i l d : Nat} {s0 s : St} {C : Cd} {f fw lw : Int}
/-- one term, from where a part is read -/
theorem c_term {k : Nat} {dep w q : Int} {T : Res → Prop} (W : TokW c v nt) (K : TokR c v st nt s0) (hL : Lg (gF s0 62 9) fw lw) (hk : k ≤ 8) (hdep : dep = ((8 - k : Nat) : Int)) (IH : ∀ k', k = k' + 1 → SmOk c v st nt s0 fw lw k') (hl : l ≤ 50) (hC : C.length ≤ 2 * l + 133) (h : POk c nt s0 i l C s) (hq : ¬ (400 < q)) (hT2 : ∀ s', Pst c nt st s0 C (pTerm c v fw lw (brK c v fw lw k) i l) s' → Gl T (if w = -1 then X5_sum_135 (d + (2 * k + 3) + 1) s' 62 dep q else rF s' 62 9 0 fun x6 => oK s' x6 11 (cI (X7_emit (d + (2 * k + 3)) s' x6 w 0) fun _ s2 => X5_sum_135 (d + (2 * k + 3) + 1) s2 62 dep q))) : Gl T (X5_sum_7 (d + (2 * k + 3) + 1) s 62 dep w 1 q) := by
  have hs : ShC s := h.1.1
  rw [e_X5_sum_7, if_neg hq, if_neg (show ¬ ((1 : Int) = 0) by decide)]
  simp (disch := ((try simp only [kd_sF, kd_sA, gA_sF, gA_sA, gF_sF, gF_sA, List.length_set, reduceIte, and_true, and_false, true_and, false_and, Nat.reduceEqDiff, Int.reduceEq, hs.o62]); first | done | omega)) only [rF_ok, wF_ok, oK_ok, lA_ok, rA_ok, wA_ok, cI_ok, cV_ok, cL_ok, cR_ok, kd_sF, kd_sA, gA_sF, gF_sA, gF_sF, gA_sA, bk_0, bk_1, List.length_set, reduceIte, and_true, and_false, true_and, false_and, ne_eq, not_true_eq_false, not_false_eq_true, Int.toNat_natCast, Int.reduceToNat, Nat.reduceEqDiff, Int.reduceEq, Int.reduceLT, Int.reduceLE, Int.reduceAdd, Int.reduceSub, Int.reduceMul, Int.reduceNeg, hs.o62]
  have pp := c_part (d := d) (k := k) W K hL hk IH hl hC h
  rw [← hdep] at pp
  refine biV pp fun s2 _ h2 => ?_
  unfold pTerm at hT2
  cases hr : pPart c v fw lw (brK c v fw lw k) i l with
  | error e' =>
    rw [hr] at h2 hT2
    rw [c_sum27F h2.1]
    exact hT2 s2 h2
  | ok b =>
    rw [hr] at h2 hT2
    have hb := bn_part (bn_brK k) i l b hl hr
    exact c_s27 W K hL hk hdep IH hl hC (nt - b.1) 0 b s2 (Nat.le_refl _) (by omega) hb h2 hT2
theorem c_s135 {k : Nat} {dep : Int} {i0 l0 : Nat} (W : TokW c v nt) (K : TokR c v st nt s0) (hL : Lg (gF s0 62 9) fw lw) (hk : k ≤ 8) (hdep : dep = ((8 - k : Nat) : Int)) (IH : ∀ k', k = k' + 1 → SmOk c v st nt s0 fw lw k') (hl0 : l0 ≤ 50) (hC : C.length ≤ 2 * l0 + 133) : ∀ (m Q : Nat) (a : PV) (s : St), nt - a.1 ≤ m → Q ≤ a.1 → (i0 < a.1 ∧ l0 < a.2.1 ∧ a.2.1 ≤ 50 ∧ a.2.2.1.length + 1 ≤ 2 * (a.2.1 - l0)) → POk c nt s0 a.1 a.2.1 (C ++ a.2.2.1) s → Gl (GV fun s' => Pst c nt st s0 C (pChn (pTerm c v fw lw (brK c v fw lw k)) c opA (401 - Q) a) s') (X5_sum_135 (d + (2 * k + 3) + 1) s 62 dep Q) := by
  intro m
  induction m with
  | zero =>
    intro Q a s hm hQ ha h
    have hs : ShC s := h.1.1
    have h6 := h.2.2.2.1
    have hw := W.1
    have hn : nt ≤ a.1 := by omega
    have c0 := W.2.2.1 a.1 hn
    have e1 := h.2.1
    have k43 : kI c nt a.1 = 43 ↔ c a.1 = 143 := kI_iff W (by rfl)
    have k45 : kI c nt a.1 = 45 ↔ c a.1 = 145 := kI_iff W (by rfl)
    have n43 : ¬ (kI c nt a.1 = 43) := fun x => by have := k43.mp x; omega
    have n45 : ¬ (kI c nt a.1 = 45) := fun x => by have := k45.mp x; omega
    have p : pChn (pTerm c v fw lw (brK c v fw lw k)) c opA (401 - Q) a = .ok a := by
      rw [show 401 - Q = (400 - Q) + 1 by omega, pChn, if_pos (by rw [c0]; rfl)]
    rw [p, e_X5_sum_135]
    simp (disch := ((try simp only [kd_sF, kd_sA, gA_sF, gA_sA, gF_sF, gF_sA, List.length_set, reduceIte, and_true, and_false, true_and, false_and, Nat.reduceEqDiff, Int.reduceEq, hs.o62]); first | done | omega)) only [rF_ok, wF_ok, oK_ok, lA_ok, rA_ok, wA_ok, cI_ok, cV_ok, cL_ok, cR_ok, kd_sF, kd_sA, gA_sF, gF_sA, gF_sF, gA_sA, bk_0, bk_1, List.length_set, reduceIte, and_true, and_false, true_and, false_and, ne_eq, not_true_eq_false, not_false_eq_true, Int.toNat_natCast, Int.reduceToNat, Nat.reduceEqDiff, Int.reduceEq, Int.reduceLT, Int.reduceLE, Int.reduceAdd, Int.reduceSub, Int.reduceMul, Int.reduceNeg, hs.o62, h6]
    rw [if_neg n43, if_neg n45, e_X5_sum_158]
    simp (disch := ((try simp only [kd_sF, kd_sA, gA_sF, gA_sA, gF_sF, gF_sA, List.length_set, reduceIte, and_true, and_false, true_and, false_and, Nat.reduceEqDiff, Int.reduceEq, hs.o62]); first | done | omega)) only [rF_ok, wF_ok, oK_ok, lA_ok, rA_ok, wA_ok, cI_ok, cV_ok, cL_ok, cR_ok, kd_sF, kd_sA, gA_sF, gF_sA, gF_sF, gA_sA, bk_0, bk_1, List.length_set, reduceIte, and_true, and_false, true_and, false_and, ne_eq, not_true_eq_false, not_false_eq_true, Int.toNat_natCast, Int.reduceToNat, Nat.reduceEqDiff, Int.reduceEq, Int.reduceLT, Int.reduceLE, Int.reduceAdd, Int.reduceSub, Int.reduceMul, Int.reduceNeg, hs.o62, h6]
    rw [if_neg n43, e_X5_sum_7]
    split
    · exact reV h
    · rw [if_pos rfl]; exact reV h
  | succ m ih =>
    intro Q a s hm hQ ha h
    have hs : ShC s := h.1.1
    have h6 := h.2.2.2.1
    have hw := W.1
    have e1 := h.2.1
    have k43 : kI c nt a.1 = 43 ↔ c a.1 = 143 := kI_iff W (by rfl)
    have k45 : kI c nt a.1 = 45 ↔ c a.1 = 145 := kI_iff W (by rfl)
    rw [e_X5_sum_135]
    simp (disch := ((try simp only [kd_sF, kd_sA, gA_sF, gA_sA, gF_sF, gF_sA, List.length_set, reduceIte, and_true, and_false, true_and, false_and, Nat.reduceEqDiff, Int.reduceEq, hs.o62]); first | done | omega)) only [rF_ok, wF_ok, oK_ok, lA_ok, rA_ok, wA_ok, cI_ok, cV_ok, cL_ok, cR_ok, kd_sF, kd_sA, gA_sF, gF_sA, gF_sF, gA_sA, bk_0, bk_1, List.length_set, reduceIte, and_true, and_false, true_and, false_and, ne_eq, not_true_eq_false, not_false_eq_true, Int.toNat_natCast, Int.reduceToNat, Nat.reduceEqDiff, Int.reduceEq, Int.reduceLT, Int.reduceLE, Int.reduceAdd, Int.reduceSub, Int.reduceMul, Int.reduceNeg, hs.o62, h6]
    by_cases eo : opA (c a.1) = 0
    · have p : pChn (pTerm c v fw lw (brK c v fw lw k)) c opA (401 - Q) a = .ok a := by
        rw [show 401 - Q = (400 - Q) + 1 by omega, pChn, if_pos eo]
      have n43' : c a.1 ≠ 143 := fun e => by rw [e] at eo; revert eo; decide
      have n45' : c a.1 ≠ 145 := fun e => by rw [e] at eo; revert eo; decide
      have n43 : ¬ (kI c nt a.1 = 43) := fun x => n43' (k43.mp x)
      have n45 : ¬ (kI c nt a.1 = 45) := fun x => n45' (k45.mp x)
      rw [p, if_neg n43, if_neg n45, e_X5_sum_158]
      simp (disch := ((try simp only [kd_sF, kd_sA, gA_sF, gA_sA, gF_sF, gF_sA, List.length_set, reduceIte, and_true, and_false, true_and, false_and, Nat.reduceEqDiff, Int.reduceEq, hs.o62]); first | done | omega)) only [rF_ok, wF_ok, oK_ok, lA_ok, rA_ok, wA_ok, cI_ok, cV_ok, cL_ok, cR_ok, kd_sF, kd_sA, gA_sF, gF_sA, gF_sF, gA_sA, bk_0, bk_1, List.length_set, reduceIte, and_true, and_false, true_and, false_and, ne_eq, not_true_eq_false, not_false_eq_true, Int.toNat_natCast, Int.reduceToNat, Nat.reduceEqDiff, Int.reduceEq, Int.reduceLT, Int.reduceLE, Int.reduceAdd, Int.reduceSub, Int.reduceMul, Int.reduceNeg, hs.o62, h6]
      rw [if_neg n43, e_X5_sum_7]
      split
      · exact reV h
      · rw [if_pos rfl]; exact reV h
    · have hc0 : c a.1 ≠ 0 := fun e => eo (by rw [e]; rfl)
      have lt := c_lt W hc0
      have hlen : (C ++ a.2.2.1).length ≤ 2 * a.2.1 + 133 := by rw [List.length_append]; omega
      have hf : pChn (pTerm c v fw lw (brK c v fw lw k)) c opA (401 - Q) a = bnd (pTerm c v fw lw (brK c v fw lw k) (a.1 + 1) a.2.1) fun b => pChn (pTerm c v fw lw (brK c v fw lw k)) c opA (401 - (Q + 1)) (b.1, b.2.1, a.2.2.1 ++ b.2.2.1 ++ [(opA (c a.1), 0)], jD (opA (c a.1)) a.2.2.2 b.2.2.2) := by
        rw [show 401 - Q = (401 - (Q + 1)) + 1 by omega, pChn, if_neg eo]
      have ow : opA (c a.1) = 5 ∨ opA (c a.1) = 6 := by
        unfold opA at eo ⊢
        split
        · exact Or.inl rfl
        · split
          · exact Or.inr rfl
          · rename_i e1 e2
            rw [if_neg e1, if_neg e2] at eo
            exact absurd rfl eo
      have step : Gl (GV fun s' => Pst c nt st s0 C (pChn (pTerm c v fw lw (brK c v fw lw k)) c opA (401 - Q) a) s') (cV (X5_advance (d + (2 * k + 3)) s 62) fun s2 => X5_sum_7 (d + (2 * k + 3) + 1) s2 62 dep (opA (c a.1)) 1 (wi ((Q : Int) + 1))) := by
        refine gl_adv W K h hc0 fun s1 h1 => ?_
        rw [wi_sc (by omega)]
        refine c_term (w := opA (c a.1)) W K hL hk hdep IH ha.2.2.1 hlen h1 (by omega) fun s2 h2 => ?_
        rw [if_neg (show ¬ (opA (c a.1) = -1) by omega), hf]
        cases hr : pTerm c v fw lw (brK c v fw lw k) (a.1 + 1) a.2.1 with
        | error e' =>
          rw [hr] at h2
          obtain ⟨h2, hz⟩ := h2
          have hs2 : ShC s2 := h2.1.1
          simp (disch := ((try simp only [kd_sF, kd_sA, gA_sF, gA_sA, gF_sF, gF_sA, List.length_set, reduceIte, and_true, and_false, true_and, false_and, Nat.reduceEqDiff, Int.reduceEq, hs2.o62, hs2.o63]); first | done | omega)) only [rF_ok, wF_ok, oK_ok, lA_ok, rA_ok, wA_ok, cI_ok, cV_ok, cL_ok, cR_ok, kd_sF, kd_sA, gA_sF, gF_sA, gF_sF, gA_sA, bk_0, bk_1, List.length_set, reduceIte, and_true, and_false, true_and, false_and, ne_eq, not_true_eq_false, not_false_eq_true, Int.toNat_natCast, Int.reduceToNat, Nat.reduceEqDiff, Int.reduceEq, Int.reduceLT, Int.reduceLE, Int.reduceAdd, Int.reduceSub, Int.reduceMul, Int.reduceNeg, hs2.o62, hs2.o63]
          exact gl_emitF h2 fun x s3 h3 => wkV (c_sum135F h3) fun s4 _ h4 => ⟨h4, hz⟩
        | ok b =>
          rw [hr] at h2
          have hs2 : ShC s2 := h2.1.1
          have hb := bn_term (bn_brK k) (a.1 + 1) a.2.1 b ha.2.2.1 hr
          simp (disch := ((try simp only [kd_sF, kd_sA, gA_sF, gA_sA, gF_sF, gF_sA, List.length_set, reduceIte, and_true, and_false, true_and, false_and, Nat.reduceEqDiff, Int.reduceEq, hs2.o62, hs2.o63]); first | done | omega)) only [rF_ok, wF_ok, oK_ok, lA_ok, rA_ok, wA_ok, cI_ok, cV_ok, cL_ok, cR_ok, kd_sF, kd_sA, gA_sF, gF_sA, gF_sF, gA_sA, bk_0, bk_1, List.length_set, reduceIte, and_true, and_false, true_and, false_and, ne_eq, not_true_eq_false, not_false_eq_true, Int.toNat_natCast, Int.reduceToNat, Nat.reduceEqDiff, Int.reduceEq, Int.reduceLT, Int.reduceLE, Int.reduceAdd, Int.reduceSub, Int.reduceMul, Int.reduceNeg, hs2.o62, hs2.o63]
          refine gl_emit h2 (by rw [List.length_append, List.length_append]; omega) fun s3 h3 => ?_
          refine ih (Q + 1) (b.1, b.2.1, a.2.2.1 ++ b.2.2.1 ++ [(opA (c a.1), 0)], jD (opA (c a.1)) a.2.2.2 b.2.2.2) s3 (by dsimp only; omega) (by dsimp only; omega) ?_ ?_
          · dsimp only
            rw [List.length_append, List.length_append]
            simp only [List.length_cons, List.length_nil]
            omega
          · dsimp only
            simpa only [List.append_assoc] using h3
      by_cases e43 : c a.1 = 143
      · rw [if_pos (k43.mpr e43), e_X5_sum_158]
        simp (disch := ((try simp only [kd_sF, kd_sA, gA_sF, gA_sA, gF_sF, gF_sA, List.length_set, reduceIte, and_true, and_false, true_and, false_and, Nat.reduceEqDiff, Int.reduceEq, hs.o62]); first | done | omega)) only [rF_ok, wF_ok, oK_ok, lA_ok, rA_ok, wA_ok, cI_ok, cV_ok, cL_ok, cR_ok, kd_sF, kd_sA, gA_sF, gF_sA, gF_sF, gA_sA, bk_0, bk_1, List.length_set, reduceIte, and_true, and_false, true_and, false_and, ne_eq, not_true_eq_false, not_false_eq_true, Int.toNat_natCast, Int.reduceToNat, Nat.reduceEqDiff, Int.reduceEq, Int.reduceLT, Int.reduceLE, Int.reduceAdd, Int.reduceSub, Int.reduceMul, Int.reduceNeg, hs.o62, h6]
        rw [if_pos (k43.mpr e43)]
        rw [show opA (c a.1) = 5 by rw [e43]; rfl] at step
        exact step
      · rw [if_neg (fun x => e43 (k43.mp x))]
        have e45 : c a.1 = 145 := by
          unfold opA at eo
          rw [if_neg e43] at eo
          by_cases e : c a.1 = 145
          · exact e
          · rw [if_neg e] at eo; exact absurd rfl eo
        rw [if_pos (k45.mpr e45), e_X5_sum_158]
        simp (disch := ((try simp only [kd_sF, kd_sA, gA_sF, gA_sA, gF_sF, gF_sA, List.length_set, reduceIte, and_true, and_false, true_and, false_and, Nat.reduceEqDiff, Int.reduceEq, hs.o62]); first | done | omega)) only [rF_ok, wF_ok, oK_ok, lA_ok, rA_ok, wA_ok, cI_ok, cV_ok, cL_ok, cR_ok, kd_sF, kd_sA, gA_sF, gF_sA, gF_sF, gA_sA, bk_0, bk_1, List.length_set, reduceIte, and_true, and_false, true_and, false_and, ne_eq, not_true_eq_false, not_false_eq_true, Int.toNat_natCast, Int.reduceToNat, Nat.reduceEqDiff, Int.reduceEq, Int.reduceLT, Int.reduceLE, Int.reduceAdd, Int.reduceSub, Int.reduceMul, Int.reduceNeg, hs.o62, h6]
        rw [if_neg (fun x => e43 (k43.mp x))]
        rw [show opA (c a.1) = 6 by rw [e45]; rfl] at step
        exact step
theorem sm_ok (W : TokW c v nt) (K : TokR c v st nt s0) (hL : Lg (gF s0 62 9) fw lw) : ∀ k, k ≤ 8 → SmOk c v st nt s0 fw lw k := by
  intro k
  induction k with
  | zero =>
    intro hk d i l C s hl hC h
    have IH : ∀ k', 0 = k' + 1 → SmOk c v st nt s0 fw lw k' := fun k' e => by omega
    rw [e_X5_sum, pSum_K]
    show Gl _ (X5_sum_7 (d + (2 * 0 + 3) + 1) s 62 ((8 - 0 : Nat) : Int) (-1) 1 0)
    refine c_term (w := -1) W K hL hk rfl IH hl hC h (by decide) fun s2 h2 => ?_
    rw [if_pos rfl]
    unfold pSumG
    cases hr : pTerm c v fw lw (brK c v fw lw 0) i l with
    | error e' =>
      rw [hr] at h2
      exact wkV (c_sum135F h2.1) fun s4 _ h4 => ⟨h4, h2.2⟩
    | ok b =>
      rw [hr] at h2
      have hb := bn_term (bn_brK 0) i l b hl hr
      exact c_s135 W K hL hk rfl IH hl hC (nt - b.1) 0 b s2 (Nat.le_refl _) (by omega) hb h2
  | succ k ih =>
    intro hk d i l C s hl hC h
    have IH : ∀ k', k + 1 = k' + 1 → SmOk c v st nt s0 fw lw k' := fun k' e => by
      have : k = k' := by omega
      rw [← this]
      exact ih (by omega)
    rw [e_X5_sum, pSum_K]
    show Gl _ (X5_sum_7 (d + (2 * (k + 1) + 3) + 1) s 62 ((8 - (k + 1) : Nat) : Int) (-1) 1 0)
    refine c_term (w := -1) W K hL hk rfl IH hl hC h (by decide) fun s2 h2 => ?_
    rw [if_pos rfl]
    unfold pSumG
    cases hr : pTerm c v fw lw (brK c v fw lw (k + 1)) i l with
    | error e' =>
      rw [hr] at h2
      exact wkV (c_sum135F h2.1) fun s4 _ h4 => ⟨h4, h2.2⟩
    | ok b =>
      rw [hr] at h2
      have hb := bn_term (bn_brK (k + 1)) i l b hl hr
      exact c_s135 W K hL hk rfl IH hl hC (nt - b.1) 0 b s2 (Nat.le_refl _) (by omega) hb h2
end CSO
