/-! ===== the class reads sums: the loops ===== -/
section CSN
variable {c v st : Nat → Int} {nt i l d : Nat} {s0 s : St} {C : Cd} {f fw lw : Int}
theorem c_sum7F {dep w q : Int} (h : PFl s0 f s) : Gl (GV fun s' => PFl s0 f s') (X5_sum_7 (d + 1) s 62 dep w 0 q) := by
  rw [e_X5_sum_7]
  split
  · exact reV h
  · rw [if_pos rfl]; exact reV h
theorem c_sum135F {dep q : Int} (h : PFl s0 f s) : Gl (GV fun s' => PFl s0 f s') (X5_sum_135 (d + 1) s 62 dep q) := by
  have hs : ShC s := h.1.1
  have h6 := h.2.1
  rw [e_X5_sum_135]
  simp (disch := ((try simp only [kd_sF, kd_sA, gA_sF, gA_sA, gF_sF, gF_sA, List.length_set, reduceIte, and_true, and_false, true_and, false_and, Nat.reduceEqDiff, Int.reduceEq, hs.o62]); first | done | omega)) only [rF_ok, wF_ok, oK_ok, lA_ok, rA_ok, wA_ok, cI_ok, cV_ok, cL_ok, cR_ok, kd_sF, kd_sA, gA_sF, gF_sA, gF_sF, gA_sA, bk_0, bk_1, List.length_set, reduceIte, and_true, and_false, true_and, false_and, ne_eq, not_true_eq_false, not_false_eq_true, Int.toNat_natCast, Int.reduceToNat, Nat.reduceEqDiff, Int.reduceEq, Int.reduceLT, Int.reduceLE, Int.reduceAdd, Int.reduceSub, Int.reduceMul, Int.reduceNeg, hs.o62, h6]
  rw [e_X5_sum_158]
  simp (disch := ((try simp only [kd_sF, kd_sA, gA_sF, gA_sA, gF_sF, gF_sA, List.length_set, reduceIte, and_true, and_false, true_and, false_and, Nat.reduceEqDiff, Int.reduceEq, hs.o62]); first | done | omega)) only [rF_ok, wF_ok, oK_ok, lA_ok, rA_ok, wA_ok, cI_ok, cV_ok, cL_ok, cR_ok, kd_sF, kd_sA, gA_sF, gF_sA, gF_sF, gA_sA, bk_0, bk_1, List.length_set, reduceIte, and_true, and_false, true_and, false_and, ne_eq, not_true_eq_false, not_false_eq_true, Int.toNat_natCast, Int.reduceToNat, Nat.reduceEqDiff, Int.reduceEq, Int.reduceLT, Int.reduceLE, Int.reduceAdd, Int.reduceSub, Int.reduceMul, Int.reduceNeg, hs.o62, h6]
  exact c_sum7F h
/-- behind the inner loop -/
theorem c_sumE {dep w q : Int} (h : PFl s0 f s) : Gl (GV fun s' => PFl s0 f s') (if w = -1 then X5_sum_135 (d + 1) s 62 dep q else rF s 62 9 0 fun x6 => oK s x6 11 (cI (X7_emit d s x6 w 0) fun _ s2 => X5_sum_135 (d + 1) s2 62 dep q)) := by
  have hs : ShC s := h.1.1
  split
  · exact c_sum135F h
  · simp (disch := ((try simp only [kd_sF, kd_sA, gA_sF, gA_sA, gF_sF, gF_sA, List.length_set, reduceIte, and_true, and_false, true_and, false_and, Nat.reduceEqDiff, Int.reduceEq, hs.o62, hs.o63]); first | done | omega)) only [rF_ok, wF_ok, oK_ok, lA_ok, rA_ok, wA_ok, cI_ok, cV_ok, cL_ok, cR_ok, kd_sF, kd_sA, gA_sF, gF_sA, gF_sF, gA_sA, bk_0, bk_1, List.length_set, reduceIte, and_true, and_false, true_and, false_and, ne_eq, not_true_eq_false, not_false_eq_true, Int.toNat_natCast, Int.reduceToNat, Nat.reduceEqDiff, Int.reduceEq, Int.reduceLT, Int.reduceLE, Int.reduceAdd, Int.reduceSub, Int.reduceMul, Int.reduceNeg, hs.o62, hs.o63]
    exact gl_emitF h fun x s' h' => c_sum135F h'
theorem c_sum27F {dep w q q2 : Int} (h : PFl s0 f s) : X5_sum_27 (d + 1) s 62 dep w q q2 = (if w = -1 then X5_sum_135 (d + 1) s 62 dep q else rF s 62 9 0 fun x6 => oK s x6 11 (cI (X7_emit d s x6 w 0) fun _ s2 => X5_sum_135 (d + 1) s2 62 dep q)) := by
  have hs : ShC s := h.1.1
  have h6 := h.2.1
  rw [e_X5_sum_27]
  by_cases e : 400 < q2
  · rw [if_pos e]
  · rw [if_neg e]
    simp (disch := ((try simp only [kd_sF, kd_sA, gA_sF, gA_sA, gF_sF, gF_sA, List.length_set, reduceIte, and_true, and_false, true_and, false_and, Nat.reduceEqDiff, Int.reduceEq, hs.o62]); first | done | omega)) only [rF_ok, wF_ok, oK_ok, lA_ok, rA_ok, wA_ok, cI_ok, cV_ok, cL_ok, cR_ok, kd_sF, kd_sA, gA_sF, gF_sA, gF_sF, gA_sA, bk_0, bk_1, List.length_set, reduceIte, and_true, and_false, true_and, false_and, ne_eq, not_true_eq_false, not_false_eq_true, Int.toNat_natCast, Int.reduceToNat, Nat.reduceEqDiff, Int.reduceEq, Int.reduceLT, Int.reduceLE, Int.reduceAdd, Int.reduceSub, Int.reduceMul, Int.reduceNeg, hs.o62, h6]
theorem opM_c (W : TokW c v nt) (i : Nat) : opM (c i) = if c i = 142 then 7 else if c i = 147 then 8 else if c i = 137 then 9 else 0 := rfl
/-- the inner loop -/
theorem c_s27 {k : Nat} {dep w q : Int} {T : Res → Prop} {i0 l0 : Nat} (W : TokW c v nt) (K : TokR c v st nt s0) (hL : Lg (gF s0 62 9) fw lw) (hk : k ≤ 8) (hdep : dep = ((8 - k : Nat) : Int)) (IH : ∀ k', k = k' + 1 → SmOk c v st nt s0 fw lw k') (hl0 : l0 ≤ 50) (hC : C.length ≤ 2 * l0 + 133) : ∀ (m Q : Nat) (a : PV) (s : St), nt - a.1 ≤ m → Q ≤ a.1 → (i0 < a.1 ∧ l0 < a.2.1 ∧ a.2.1 ≤ 50 ∧ a.2.2.1.length + 1 ≤ 2 * (a.2.1 - l0)) → POk c nt s0 a.1 a.2.1 (C ++ a.2.2.1) s → (∀ s', Pst c nt st s0 C (pChn (pPart c v fw lw (brK c v fw lw k)) c opM (401 - Q) a) s' → Gl T (if w = -1 then X5_sum_135 (d + (2 * k + 3) + 1) s' 62 dep q else rF s' 62 9 0 fun x6 => oK s' x6 11 (cI (X7_emit (d + (2 * k + 3)) s' x6 w 0) fun _ s2 => X5_sum_135 (d + (2 * k + 3) + 1) s2 62 dep q))) → Gl T (X5_sum_27 (d + (2 * k + 3) + 1) s 62 dep w q Q) := by
  intro m
  induction m with
  | zero =>
    intro Q a s hm hQ ha h hT2
    have hs : ShC s := h.1.1
    have h6 := h.2.2.2.1
    have hn : nt ≤ a.1 := by omega
    have hw := W.1
    have c0 := W.2.2.1 a.1 hn
    have e1 := h.2.1
    have k42 : kI c nt a.1 = 42 ↔ c a.1 = 142 := kI_iff W (by rfl)
    have k47 : kI c nt a.1 = 47 ↔ c a.1 = 147 := kI_iff W (by rfl)
    have k37 : kI c nt a.1 = 37 ↔ c a.1 = 137 := kI_iff W (by rfl)
    have p : pChn (pPart c v fw lw (brK c v fw lw k)) c opM (401 - Q) a = .ok a := by
      rw [show 401 - Q = (400 - Q) + 1 by omega, pChn, if_pos (by rw [c0]; rfl)]
    rw [p] at hT2
    rw [e_X5_sum_27, if_neg (by omega)]
    simp (disch := ((try simp only [kd_sF, kd_sA, gA_sF, gA_sA, gF_sF, gF_sA, List.length_set, reduceIte, and_true, and_false, true_and, false_and, Nat.reduceEqDiff, Int.reduceEq, hs.o62]); first | done | omega)) only [rF_ok, wF_ok, oK_ok, lA_ok, rA_ok, wA_ok, cI_ok, cV_ok, cL_ok, cR_ok, kd_sF, kd_sA, gA_sF, gF_sA, gF_sF, gA_sA, bk_0, bk_1, List.length_set, reduceIte, and_true, and_false, true_and, false_and, ne_eq, not_true_eq_false, not_false_eq_true, Int.toNat_natCast, Int.reduceToNat, Nat.reduceEqDiff, Int.reduceEq, Int.reduceLT, Int.reduceLE, Int.reduceAdd, Int.reduceSub, Int.reduceMul, Int.reduceNeg, hs.o62, h6]
    rw [if_neg (fun x => by have := k42.mp x; omega), if_neg (fun x => by have := k47.mp x; omega), if_neg (fun x => by have := k37.mp x; omega)]
    have := hT2 s h
    simp (disch := ((try simp only [kd_sF, kd_sA, gA_sF, gA_sA, gF_sF, gF_sA, List.length_set, reduceIte, and_true, and_false, true_and, false_and, Nat.reduceEqDiff, Int.reduceEq, hs.o62]); first | done | omega)) only [rF_ok, wF_ok, oK_ok, lA_ok, rA_ok, wA_ok, cI_ok, cV_ok, cL_ok, cR_ok, kd_sF, kd_sA, gA_sF, gF_sA, gF_sF, gA_sA, bk_0, bk_1, List.length_set, reduceIte, and_true, and_false, true_and, false_and, ne_eq, not_true_eq_false, not_false_eq_true, Int.toNat_natCast, Int.reduceToNat, Nat.reduceEqDiff, Int.reduceEq, Int.reduceLT, Int.reduceLE, Int.reduceAdd, Int.reduceSub, Int.reduceMul, Int.reduceNeg, hs.o62] at this
    exact this
  | succ m ih =>
    intro Q a s hm hQ ha h hT2
    have hs : ShC s := h.1.1
    have h6 := h.2.2.2.1
    have hw := W.1
    have e1 := h.2.1
    have k42 : kI c nt a.1 = 42 ↔ c a.1 = 142 := kI_iff W (by rfl)
    have k47 : kI c nt a.1 = 47 ↔ c a.1 = 147 := kI_iff W (by rfl)
    have k37 : kI c nt a.1 = 37 ↔ c a.1 = 137 := kI_iff W (by rfl)
    rw [e_X5_sum_27, if_neg (by omega)]
    simp (disch := ((try simp only [kd_sF, kd_sA, gA_sF, gA_sA, gF_sF, gF_sA, List.length_set, reduceIte, and_true, and_false, true_and, false_and, Nat.reduceEqDiff, Int.reduceEq, hs.o62]); first | done | omega)) only [rF_ok, wF_ok, oK_ok, lA_ok, rA_ok, wA_ok, cI_ok, cV_ok, cL_ok, cR_ok, kd_sF, kd_sA, gA_sF, gF_sA, gF_sF, gA_sA, bk_0, bk_1, List.length_set, reduceIte, and_true, and_false, true_and, false_and, ne_eq, not_true_eq_false, not_false_eq_true, Int.toNat_natCast, Int.reduceToNat, Nat.reduceEqDiff, Int.reduceEq, Int.reduceLT, Int.reduceLE, Int.reduceAdd, Int.reduceSub, Int.reduceMul, Int.reduceNeg, hs.o62, h6]
    by_cases eo : opM (c a.1) = 0
    · have p : pChn (pPart c v fw lw (brK c v fw lw k)) c opM (401 - Q) a = .ok a := by
        rw [show 401 - Q = (400 - Q) + 1 by omega, pChn, if_pos eo]
      rw [p] at hT2
      have n42 : c a.1 ≠ 142 := fun e => by rw [e] at eo; revert eo; decide
      have n47 : c a.1 ≠ 147 := fun e => by rw [e] at eo; revert eo; decide
      have n37 : c a.1 ≠ 137 := fun e => by rw [e] at eo; revert eo; decide
      rw [if_neg (fun x => n42 (k42.mp x)), if_neg (fun x => n47 (k47.mp x)), if_neg (fun x => n37 (k37.mp x))]
      have := hT2 s h
      simp (disch := ((try simp only [kd_sF, kd_sA, gA_sF, gA_sA, gF_sF, gF_sA, List.length_set, reduceIte, and_true, and_false, true_and, false_and, Nat.reduceEqDiff, Int.reduceEq, hs.o62]); first | done | omega)) only [rF_ok, wF_ok, oK_ok, lA_ok, rA_ok, wA_ok, cI_ok, cV_ok, cL_ok, cR_ok, kd_sF, kd_sA, gA_sF, gF_sA, gF_sF, gA_sA, bk_0, bk_1, List.length_set, reduceIte, and_true, and_false, true_and, false_and, ne_eq, not_true_eq_false, not_false_eq_true, Int.toNat_natCast, Int.reduceToNat, Nat.reduceEqDiff, Int.reduceEq, Int.reduceLT, Int.reduceLE, Int.reduceAdd, Int.reduceSub, Int.reduceMul, Int.reduceNeg, hs.o62] at this
      exact this
    · -- one more part
      have hc0 : c a.1 ≠ 0 := fun e => eo (by rw [e]; rfl)
      have lt := c_lt W hc0
      have step : Gl T (X5_sum_92 (d + (2 * k + 3) + 1) s 62 dep w q Q (opM (c a.1))) := by
        rw [e_X5_sum_92]
        simp (disch := ((try simp only [kd_sF, kd_sA, gA_sF, gA_sA, gF_sF, gF_sA, List.length_set, reduceIte, and_true, and_false, true_and, false_and, Nat.reduceEqDiff, Int.reduceEq, hs.o62]); first | done | omega)) only [rF_ok, wF_ok, oK_ok, lA_ok, rA_ok, wA_ok, cI_ok, cV_ok, cL_ok, cR_ok, kd_sF, kd_sA, gA_sF, gF_sA, gF_sF, gA_sA, bk_0, bk_1, List.length_set, reduceIte, and_true, and_false, true_and, false_and, ne_eq, not_true_eq_false, not_false_eq_true, Int.toNat_natCast, Int.reduceToNat, Nat.reduceEqDiff, Int.reduceEq, Int.reduceLT, Int.reduceLE, Int.reduceAdd, Int.reduceSub, Int.reduceMul, Int.reduceNeg, hs.o62]
        refine gl_adv W K h hc0 fun s1 h1 => ?_
        have hs1 : ShC s1 := h1.1.1
        simp (disch := ((try simp only [kd_sF, kd_sA, gA_sF, gA_sA, gF_sF, gF_sA, List.length_set, reduceIte, and_true, and_false, true_and, false_and, Nat.reduceEqDiff, Int.reduceEq, hs1.o62]); first | done | omega)) only [rF_ok, wF_ok, oK_ok, lA_ok, rA_ok, wA_ok, cI_ok, cV_ok, cL_ok, cR_ok, kd_sF, kd_sA, gA_sF, gF_sA, gF_sF, gA_sA, bk_0, bk_1, List.length_set, reduceIte, and_true, and_false, true_and, false_and, ne_eq, not_true_eq_false, not_false_eq_true, Int.toNat_natCast, Int.reduceToNat, Nat.reduceEqDiff, Int.reduceEq, Int.reduceLT, Int.reduceLE, Int.reduceAdd, Int.reduceSub, Int.reduceMul, Int.reduceNeg, hs1.o62]
        have hlen : (C ++ a.2.2.1).length ≤ 2 * a.2.1 + 133 := by rw [List.length_append]; omega
        have pp := c_part (d := d) (k := k) W K hL hk IH ha.2.2.1 hlen h1
        rw [← hdep] at pp
        refine biV pp fun s2 _ h2 => ?_
        have hf : pChn (pPart c v fw lw (brK c v fw lw k)) c opM (401 - Q) a = bnd (pPart c v fw lw (brK c v fw lw k) (a.1 + 1) a.2.1) fun b => pChn (pPart c v fw lw (brK c v fw lw k)) c opM (401 - (Q + 1)) (b.1, b.2.1, a.2.2.1 ++ b.2.2.1 ++ [(opM (c a.1), 0)], jD (opM (c a.1)) a.2.2.2 b.2.2.2) := by
          rw [show 401 - Q = (401 - (Q + 1)) + 1 by omega, pChn, if_neg eo]
        rw [hf] at hT2
        cases hr : pPart c v fw lw (brK c v fw lw k) (a.1 + 1) a.2.1 with
        | error e' =>
          rw [hr] at h2 hT2
          obtain ⟨h2, hz⟩ := h2
          have hs2 : ShC s2 := h2.1.1
          simp (disch := ((try simp only [kd_sF, kd_sA, gA_sF, gA_sA, gF_sF, gF_sA, List.length_set, reduceIte, and_true, and_false, true_and, false_and, Nat.reduceEqDiff, Int.reduceEq, hs2.o62, hs2.o63]); first | done | omega)) only [rF_ok, wF_ok, oK_ok, lA_ok, rA_ok, wA_ok, cI_ok, cV_ok, cL_ok, cR_ok, kd_sF, kd_sA, gA_sF, gF_sA, gF_sF, gA_sA, bk_0, bk_1, List.length_set, reduceIte, and_true, and_false, true_and, false_and, ne_eq, not_true_eq_false, not_false_eq_true, Int.toNat_natCast, Int.reduceToNat, Nat.reduceEqDiff, Int.reduceEq, Int.reduceLT, Int.reduceLE, Int.reduceAdd, Int.reduceSub, Int.reduceMul, Int.reduceNeg, hs2.o62, hs2.o63]
          refine gl_emitF h2 fun x s3 h3 => ?_
          rw [c_sum27F h3]
          exact hT2 s3 ⟨h3, hz⟩
        | ok b =>
          rw [hr] at h2 hT2
          have hs2 : ShC s2 := h2.1.1
          have hb := bn_part (bn_brK k) (a.1 + 1) a.2.1 b ha.2.2.1 hr
          simp (disch := ((try simp only [kd_sF, kd_sA, gA_sF, gA_sA, gF_sF, gF_sA, List.length_set, reduceIte, and_true, and_false, true_and, false_and, Nat.reduceEqDiff, Int.reduceEq, hs2.o62, hs2.o63]); first | done | omega)) only [rF_ok, wF_ok, oK_ok, lA_ok, rA_ok, wA_ok, cI_ok, cV_ok, cL_ok, cR_ok, kd_sF, kd_sA, gA_sF, gF_sA, gF_sF, gA_sA, bk_0, bk_1, List.length_set, reduceIte, and_true, and_false, true_and, false_and, ne_eq, not_true_eq_false, not_false_eq_true, Int.toNat_natCast, Int.reduceToNat, Nat.reduceEqDiff, Int.reduceEq, Int.reduceLT, Int.reduceLE, Int.reduceAdd, Int.reduceSub, Int.reduceMul, Int.reduceNeg, hs2.o62, hs2.o63]
          refine gl_emit h2 (by rw [List.length_append, List.length_append]; omega) fun s3 h3 => ?_
          rw [wi_sc (by omega)]
          refine ih (Q + 1) (b.1, b.2.1, a.2.2.1 ++ b.2.2.1 ++ [(opM (c a.1), 0)], jD (opM (c a.1)) a.2.2.2 b.2.2.2) s3 (by dsimp only; omega) (by dsimp only; omega) ?_ ?_ hT2
          · dsimp only
            rw [List.length_append, List.length_append]
            simp only [List.length_cons, List.length_nil]
            omega
          · dsimp only
            simpa only [List.append_assoc] using h3
      have s62 : X5_sum_62 (d + (2 * k + 3) + 1) s 62 dep w q Q = X5_sum_92 (d + (2 * k + 3) + 1) s 62 dep w q Q (opM (c a.1)) := by
        rw [e_X5_sum_62]
        simp (disch := ((try simp only [kd_sF, kd_sA, gA_sF, gA_sA, gF_sF, gF_sA, List.length_set, reduceIte, and_true, and_false, true_and, false_and, Nat.reduceEqDiff, Int.reduceEq, hs.o62]); first | done | omega)) only [rF_ok, wF_ok, oK_ok, lA_ok, rA_ok, wA_ok, cI_ok, cV_ok, cL_ok, cR_ok, kd_sF, kd_sA, gA_sF, gF_sA, gF_sF, gA_sA, bk_0, bk_1, List.length_set, reduceIte, and_true, and_false, true_and, false_and, ne_eq, not_true_eq_false, not_false_eq_true, Int.toNat_natCast, Int.reduceToNat, Nat.reduceEqDiff, Int.reduceEq, Int.reduceLT, Int.reduceLE, Int.reduceAdd, Int.reduceSub, Int.reduceMul, Int.reduceNeg, hs.o62, h6]
        have hx : opM (c a.1) = if c a.1 = 142 then 7 else if c a.1 = 147 then 8 else if c a.1 = 137 then 9 else 0 := rfl
        by_cases e42 : c a.1 = 142
        · rw [if_pos (k42.mpr e42), hx, if_pos e42]
        · rw [if_neg (fun x => e42 (k42.mp x)), hx, if_neg e42]
          by_cases e47 : c a.1 = 147
          · rw [if_pos (k47.mpr e47), if_pos e47]
          · rw [if_neg (fun x => e47 (k47.mp x)), if_neg e47]
            by_cases e37 : c a.1 = 137
            · rw [if_pos e37]
            · rw [hx, if_neg e42, if_neg e47, if_neg e37] at eo
              exact absurd rfl eo
      by_cases e42 : c a.1 = 142
      · rw [if_pos (k42.mpr e42), s62]; exact step
      · rw [if_neg (fun x => e42 (k42.mp x))]
        by_cases e47 : c a.1 = 147
        · rw [if_pos (k47.mpr e47), s62]; exact step
        · rw [if_neg (fun x => e47 (k47.mp x))]
          by_cases e37 : c a.1 = 137
          · rw [if_pos (k37.mpr e37), s62]; exact step
          · exfalso
            refine eo ?_
            show (if c a.1 = 142 then (7 : Int) else if c a.1 = 147 then 8 else if c a.1 = 137 then 9 else 0) = 0
            rw [if_neg e42, if_neg e47, if_neg e37]
end CSN
