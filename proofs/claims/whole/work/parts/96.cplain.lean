/-! ===== the class reads a plain test ===== -/
def brT (c v : Nat → Int) (fw lw : Int) : Nat → PP
  | 0 => fun i _ => .error i
  | k + 1 => fun i l => pTest c v fw lw k (i + 1) l
theorem pTest_K (c v : Nat → Int) (fw lw : Int) : ∀ k, pTest c v fw lw k = pTestG c (brT c v fw lw k) (pSum c v fw lw k)
  | 0 => rfl
  | _ + 1 => rfl
theorem bt_brT {c v : Nat → Int} {fw lw : Int} : ∀ k, Bt c (brT c v fw lw k)
  | 0 => fun i l a _ h => by cases h
  | k + 1 => fun i l a hl h => by
    have := bt_test (c := c) (v := v) (fw := fw) (lw := lw) k (i + 1) l a hl h
    have m := nN_mono (c := c) (i := i) (j := i + 1) (by omega)
    omega
def TsOk (c v st : Nat → Int) (nt : Nat) (s0 : St) (fw lw : Int) (k : Nat) : Prop := ∀ (d i l : Nat) (C : Cd) (s : St), l ≤ 50 → C.length ≤ 2 * l + nN c i → POk c nt s0 i l C s → Gl (GV fun s' => Pst c nt st s0 C (pTest c v fw lw k i l) s') (X5_test (d + (2 * k + 6)) s 62 ((8 - k : Nat) : Int))
/-- a plain test turned round -/
def ngP (b : Bool) (r : Except Nat PV) : Except Nat PV := bnd r fun a => .ok (a.1, a.2.1, if b then a.2.2.1 ++ [(2, 0)] else a.2.2.1, if b then negD a.2.2.2 else a.2.2.2)
section CPL
variable {c v st : Nat → Int} {nt i l d : Nat} {s0 s : St} {C : Cd} {f fw lw : Int}
theorem c_p170 {b : Bool} {r : Except Nat PV} (hC : ∀ a, r = .ok a → (C ++ a.2.2.1).length < 256) (h : Pst c nt st s0 C r s) : Gl (GV fun s' => Pst c nt st s0 C (ngP b r) s') (X5_plain_170 (d + 1) s 62 (if b then 1 else 0)) := by
  rw [e_X5_plain_170]
  cases b with
  | false =>
    rw [if_neg (show ¬ (false = true) by decide), if_pos rfl]
    refine reV ?_
    unfold ngP
    cases r with
    | error e => exact h
    | ok a => exact h
  | true =>
    rw [if_pos rfl, if_neg (show ¬ ((1 : Int) = 0) by decide)]
    unfold ngP
    cases r with
    | error e =>
      have hs : ShC s := h.1.1.1
      simp (disch := ((try simp only [kd_sF, kd_sA, gA_sF, gA_sA, gF_sF, gF_sA, List.length_set, reduceIte, and_true, and_false, true_and, false_and, Nat.reduceEqDiff, Int.reduceEq, hs.o62, hs.o63]); first | done | omega)) only [rF_ok, wF_ok, oK_ok, lA_ok, rA_ok, wA_ok, cI_ok, cV_ok, cL_ok, cR_ok, kd_sF, kd_sA, gA_sF, gF_sA, gF_sF, gA_sA, bk_0, bk_1, List.length_set, reduceIte, and_true, and_false, true_and, false_and, ne_eq, not_true_eq_false, not_false_eq_true, Int.toNat_natCast, Int.reduceToNat, Nat.reduceEqDiff, Int.reduceEq, Int.reduceLT, Int.reduceLE, Int.reduceAdd, Int.reduceSub, Int.reduceMul, Int.reduceNeg, hs.o62, hs.o63]
      exact gl_emitF h.1 fun x s' h' => reV ⟨h', h.2⟩
    | ok a =>
      have hs : ShC s := h.1.1
      simp (disch := ((try simp only [kd_sF, kd_sA, gA_sF, gA_sA, gF_sF, gF_sA, List.length_set, reduceIte, and_true, and_false, true_and, false_and, Nat.reduceEqDiff, Int.reduceEq, hs.o62, hs.o63]); first | done | omega)) only [rF_ok, wF_ok, oK_ok, lA_ok, rA_ok, wA_ok, cI_ok, cV_ok, cL_ok, cR_ok, kd_sF, kd_sA, gA_sF, gF_sA, gF_sF, gA_sA, bk_0, bk_1, List.length_set, reduceIte, and_true, and_false, true_and, false_and, ne_eq, not_true_eq_false, not_false_eq_true, Int.toNat_natCast, Int.reduceToNat, Nat.reduceEqDiff, Int.reduceEq, Int.reduceLT, Int.reduceLE, Int.reduceAdd, Int.reduceSub, Int.reduceMul, Int.reduceNeg, hs.o62, hs.o63]
      refine gl_emit h (hC a rfl) fun s' h' => reV ?_
      show POk c nt s0 a.1 a.2.1 (C ++ (a.2.2.1 ++ [(2, 0)])) s'
      rw [← List.append_assoc]
      exact h'
theorem pSum0_140 (hL : (fw = 8 ∧ lw = 13) ∨ (fw = 14 ∧ lw = 19)) (h : c i = 140) (k : Nat) : pSum c v fw lw k i l = .error i := by
  rw [pSum_K]
  unfold pSumG pTerm pPart
  rw [if_neg (by omega), if_neg (by omega)]
  rfl
theorem c_p41 {k : Nat} {b : Bool} (W : TokW c v nt) (K : TokR c v st nt s0) (hL : Lg (gF s0 62 9) fw lw) (hk : k ≤ 8) (IH : ∀ k', k = k' + 1 → TsOk c v st nt s0 fw lw k') (hl : l ≤ 50) (hC : C.length ≤ 2 * l + nN c i) (h : POk c nt s0 i l C s) : Gl (GV fun s' => Pst c nt st s0 C (ngP b (pPos c (brT c v fw lw k) (pSum c v fw lw k) i l)) s') (X5_plain_41 (d + (2 * k + 4) + 1) s 62 ((8 - k : Nat) : Int) (if b then 1 else 0)) := by
  have hs : ShC s := h.1.1
  have hw := W.1
  have h6 := h.2.2.2.1
  have hi := h.2.1
  have nb := nN_bd W hi
  have k40 : kI c nt i = 40 ↔ c i = 140 := kI_iff W (by rfl)
  have fwb : (fw = 8 ∧ lw = 13) ∨ (fw = 14 ∧ lw = 19) := by unfold Lg at hL; omega
  have bd : ∀ a, pPos c (brT c v fw lw k) (pSum c v fw lw k) i l = .ok a → (C ++ a.2.2.1).length < 256 := by
    intro a ha
    have q := bt_pos (bt_brT k) (bn_sum k) i l a hl ha
    have e2 : nN c a.1 ≤ 133 := by
      by_cases e : a.1 ≤ nt
      · exact nN_bd W e
      · have : nN c a.1 = nN c nt := by
          obtain ⟨m, hm⟩ := Nat.le.dest (show nt ≤ a.1 by omega)
          rw [← hm]
          clear hm
          induction m with
          | zero => rfl
          | succ m ih => rw [← Nat.add_assoc, nN, ih, W.2.2.1 (nt + m) (by omega)]; rfl
        rw [this]; exact W.2.2.2.2
    rw [List.length_append]
    omega
  have p170 : ∀ s', Pst c nt st s0 C (pPos c (brT c v fw lw k) (pSum c v fw lw k) i l) s' → Gl (GV fun s' => Pst c nt st s0 C (ngP b (pPos c (brT c v fw lw k) (pSum c v fw lw k) i l)) s') (X5_plain_170 (d + (2 * k + 4) + 1) s' 62 (if b then 1 else 0)) := fun s' h' => c_p170 bd h'
  -- a comparison
  have p90 : c i ≠ 140 ∨ k = 0 → Gl (GV fun s' => Pst c nt st s0 C (ngP b (pPos c (brT c v fw lw k) (pSum c v fw lw k) i l)) s') (X5_plain_90 (d + (2 * k + 4) + 1) s 62 ((8 - k : Nat) : Int) (if b then 1 else 0)) := by
    intro hor
    rw [e_X5_plain_90]
    simp (disch := ((try simp only [kd_sF, kd_sA, gA_sF, gA_sA, gF_sF, gF_sA, List.length_set, reduceIte, and_true, and_false, true_and, false_and, Nat.reduceEqDiff, Int.reduceEq, hs.o62]); first | done | omega)) only [rF_ok, wF_ok, oK_ok, lA_ok, rA_ok, wA_ok, cI_ok, cV_ok, cL_ok, cR_ok, kd_sF, kd_sA, gA_sF, gF_sA, gF_sF, gA_sA, bk_0, bk_1, List.length_set, reduceIte, and_true, and_false, true_and, false_and, ne_eq, not_true_eq_false, not_false_eq_true, Int.toNat_natCast, Int.reduceToNat, Nat.reduceEqDiff, Int.reduceEq, Int.reduceLT, Int.reduceLE, Int.reduceAdd, Int.reduceSub, Int.reduceMul, Int.reduceNeg, hs.o62]
    refine biV (sm_ok W K hL k hk d i l C s hl (by omega) h) fun s1 _ h1 => ?_
    cases hr : pSum c v fw lw k i l with
    | error e' =>
      rw [hr] at h1
      obtain ⟨h1, hz⟩ := h1
      have hs1 : ShC s1 := h1.1.1
      have h16 := h1.2.1
      have hp : pPos c (brT c v fw lw k) (pSum c v fw lw k) i l = .error e' := by
        unfold pPos
        by_cases e : c i = 140
        · rw [if_pos e]
          have hk0 : k = 0 := hor.resolve_left (fun x => x e)
          subst hk0
          rw [pSum0_140 fwb e] at hr
          cases hr
          rfl
        · rw [if_neg e, hr]; rfl
      simp (disch := ((try simp only [kd_sF, kd_sA, gA_sF, gA_sA, gF_sF, gF_sA, List.length_set, reduceIte, and_true, and_false, true_and, false_and, Nat.reduceEqDiff, Int.reduceEq, hs1.o62]); first | done | omega)) only [rF_ok, wF_ok, oK_ok, lA_ok, rA_ok, wA_ok, cI_ok, cV_ok, cL_ok, cR_ok, kd_sF, kd_sA, gA_sF, gF_sA, gF_sF, gA_sA, bk_0, bk_1, List.length_set, reduceIte, and_true, and_false, true_and, false_and, ne_eq, not_true_eq_false, not_false_eq_true, Int.toNat_natCast, Int.reduceToNat, Nat.reduceEqDiff, Int.reduceEq, Int.reduceLT, Int.reduceLE, Int.reduceAdd, Int.reduceSub, Int.reduceMul, Int.reduceNeg, hs1.o62, h16]
      rw [e_X5_plain_138, if_pos rfl]
      simp (disch := ((try simp only [kd_sF, kd_sA, gA_sF, gA_sA, gF_sF, gF_sA, List.length_set, reduceIte, and_true, and_false, true_and, false_and, Nat.reduceEqDiff, Int.reduceEq, hs1.o62]); first | done | omega)) only [rF_ok, wF_ok, oK_ok, lA_ok, rA_ok, wA_ok, cI_ok, cV_ok, cL_ok, cR_ok, kd_sF, kd_sA, gA_sF, gF_sA, gF_sF, gA_sA, bk_0, bk_1, List.length_set, reduceIte, and_true, and_false, true_and, false_and, ne_eq, not_true_eq_false, not_false_eq_true, Int.toNat_natCast, Int.reduceToNat, Nat.reduceEqDiff, Int.reduceEq, Int.reduceLT, Int.reduceLE, Int.reduceAdd, Int.reduceSub, Int.reduceMul, Int.reduceNeg, hs1.o62, c_failF (d := d + (2 * k + 4)) h1 (by omega)]
      exact p170 s1 (by rw [hp]; exact ⟨h1, hz⟩)
    | ok a =>
      rw [hr] at h1
      have hs1 : ShC s1 := h1.1.1
      have h16 := h1.2.2.2.1
      have ha := bn_sum (c := c) (v := v) (fw := fw) (lw := lw) k i l a hl hr
      have n140 : c i ≠ 140 := fun e => by rw [pSum0_140 fwb e] at hr; cases hr
      have k60 : kI c nt a.1 = 60 ↔ c a.1 = 160 := kI_iff W (by rfl)
      have k62 : kI c nt a.1 = 62 ↔ c a.1 = 162 := kI_iff W (by rfl)
      have k61 : kI c nt a.1 = 61 ↔ c a.1 = 161 := kI_iff W (by rfl)
      have lenA : (C ++ a.2.2.1).length ≤ 2 * a.2.1 + 133 := by rw [List.length_append]; omega
      -- with the sign
      have p138 : ∀ w, w = cmO (c a.1) → w ≠ 0 → Gl (GV fun s' => Pst c nt st s0 C (ngP b (pPos c (brT c v fw lw k) (pSum c v fw lw k) i l)) s') (X5_plain_138 (d + (2 * k + 4) + 1) s1 62 ((8 - k : Nat) : Int) (if b then 1 else 0) w) := by
        intro w hw1 hw0
        have wb : w = 10 ∨ w = 11 ∨ w = 12 := by
          rw [hw1] at hw0 ⊢
          unfold cmO at hw0 ⊢
          split
          · simp
          · split
            · simp
            · split
              · simp
              · rename_i x1 x2 x3
                rw [if_neg x1, if_neg x2, if_neg x3] at hw0
                exact absurd rfl hw0
        have hc0 : c a.1 ≠ 0 := fun e => hw0 (by rw [hw1, e]; rfl)
        rw [e_X5_plain_138, if_neg (show ¬ (w = -1) by omega)]
        simp (disch := ((try simp only [kd_sF, kd_sA, gA_sF, gA_sA, gF_sF, gF_sA, List.length_set, reduceIte, and_true, and_false, true_and, false_and, Nat.reduceEqDiff, Int.reduceEq, hs1.o62]); first | done | omega)) only [rF_ok, wF_ok, oK_ok, lA_ok, rA_ok, wA_ok, cI_ok, cV_ok, cL_ok, cR_ok, kd_sF, kd_sA, gA_sF, gF_sA, gF_sF, gA_sA, bk_0, bk_1, List.length_set, reduceIte, and_true, and_false, true_and, false_and, ne_eq, not_true_eq_false, not_false_eq_true, Int.toNat_natCast, Int.reduceToNat, Nat.reduceEqDiff, Int.reduceEq, Int.reduceLT, Int.reduceLE, Int.reduceAdd, Int.reduceSub, Int.reduceMul, Int.reduceNeg, hs1.o62]
        refine gl_adv W K h1 hc0 fun s2 h2 => ?_
        have hs2 : ShC s2 := h2.1.1
        simp (disch := ((try simp only [kd_sF, kd_sA, gA_sF, gA_sA, gF_sF, gF_sA, List.length_set, reduceIte, and_true, and_false, true_and, false_and, Nat.reduceEqDiff, Int.reduceEq, hs2.o62]); first | done | omega)) only [rF_ok, wF_ok, oK_ok, lA_ok, rA_ok, wA_ok, cI_ok, cV_ok, cL_ok, cR_ok, kd_sF, kd_sA, gA_sF, gF_sA, gF_sF, gA_sA, bk_0, bk_1, List.length_set, reduceIte, and_true, and_false, true_and, false_and, ne_eq, not_true_eq_false, not_false_eq_true, Int.toNat_natCast, Int.reduceToNat, Nat.reduceEqDiff, Int.reduceEq, Int.reduceLT, Int.reduceLE, Int.reduceAdd, Int.reduceSub, Int.reduceMul, Int.reduceNeg, hs2.o62]
        refine biV (sm_ok W K hL k hk d (a.1 + 1) a.2.1 (C ++ a.2.2.1) s2 ha.2.2.1 lenA h2) fun s3 _ h3 => ?_
        cases hr2 : pSum c v fw lw k (a.1 + 1) a.2.1 with
        | error e' =>
          rw [hr2] at h3
          obtain ⟨h3, hz⟩ := h3
          have hs3 : ShC s3 := h3.1.1
          have hp : pPos c (brT c v fw lw k) (pSum c v fw lw k) i l = .error e' := by
            unfold pPos
            rw [if_neg n140, hr]
            show (if cmO (c a.1) = 0 then _ else _) = _
            rw [if_neg (by rw [← hw1]; exact hw0), hr2]
            rfl
          simp (disch := ((try simp only [kd_sF, kd_sA, gA_sF, gA_sA, gF_sF, gF_sA, List.length_set, reduceIte, and_true, and_false, true_and, false_and, Nat.reduceEqDiff, Int.reduceEq, hs3.o62, hs3.o63]); first | done | omega)) only [rF_ok, wF_ok, oK_ok, lA_ok, rA_ok, wA_ok, cI_ok, cV_ok, cL_ok, cR_ok, kd_sF, kd_sA, gA_sF, gF_sA, gF_sF, gA_sA, bk_0, bk_1, List.length_set, reduceIte, and_true, and_false, true_and, false_and, ne_eq, not_true_eq_false, not_false_eq_true, Int.toNat_natCast, Int.reduceToNat, Nat.reduceEqDiff, Int.reduceEq, Int.reduceLT, Int.reduceLE, Int.reduceAdd, Int.reduceSub, Int.reduceMul, Int.reduceNeg, hs3.o62, hs3.o63]
          exact gl_emitF h3 fun x s4 h4 => p170 s4 (by rw [hp]; exact ⟨h4, hz⟩)
        | ok e =>
          rw [hr2] at h3
          have hs3 : ShC s3 := h3.1.1
          have he := bn_sum (c := c) (v := v) (fw := fw) (lw := lw) k (a.1 + 1) a.2.1 e ha.2.2.1 hr2
          have hp : pPos c (brT c v fw lw k) (pSum c v fw lw k) i l = .ok (e.1, e.2.1, a.2.2.1 ++ e.2.2.1 ++ [(cmO (c a.1), 0)], jD (cmO (c a.1)) a.2.2.2 e.2.2.2) := by
            unfold pPos
            rw [if_neg n140, hr]
            show (if cmO (c a.1) = 0 then _ else _) = _
            rw [if_neg (by rw [← hw1]; exact hw0), hr2]
            rfl
          simp (disch := ((try simp only [kd_sF, kd_sA, gA_sF, gA_sA, gF_sF, gF_sA, List.length_set, reduceIte, and_true, and_false, true_and, false_and, Nat.reduceEqDiff, Int.reduceEq, hs3.o62, hs3.o63]); first | done | omega)) only [rF_ok, wF_ok, oK_ok, lA_ok, rA_ok, wA_ok, cI_ok, cV_ok, cL_ok, cR_ok, kd_sF, kd_sA, gA_sF, gF_sA, gF_sF, gA_sA, bk_0, bk_1, List.length_set, reduceIte, and_true, and_false, true_and, false_and, ne_eq, not_true_eq_false, not_false_eq_true, Int.toNat_natCast, Int.reduceToNat, Nat.reduceEqDiff, Int.reduceEq, Int.reduceLT, Int.reduceLE, Int.reduceAdd, Int.reduceSub, Int.reduceMul, Int.reduceNeg, hs3.o62, hs3.o63]
          refine gl_emit h3 (by rw [List.length_append, List.length_append]; omega) fun s4 h4 => p170 s4 ?_
          rw [hp]
          show POk c nt s0 e.1 e.2.1 (C ++ (a.2.2.1 ++ e.2.2.1 ++ [(cmO (c a.1), 0)])) s4
          rw [← hw1]
          simpa only [List.append_assoc] using h4
      simp (disch := ((try simp only [kd_sF, kd_sA, gA_sF, gA_sA, gF_sF, gF_sA, List.length_set, reduceIte, and_true, and_false, true_and, false_and, Nat.reduceEqDiff, Int.reduceEq, hs1.o62]); first | done | omega)) only [rF_ok, wF_ok, oK_ok, lA_ok, rA_ok, wA_ok, cI_ok, cV_ok, cL_ok, cR_ok, kd_sF, kd_sA, gA_sF, gF_sA, gF_sF, gA_sA, bk_0, bk_1, List.length_set, reduceIte, and_true, and_false, true_and, false_and, ne_eq, not_true_eq_false, not_false_eq_true, Int.toNat_natCast, Int.reduceToNat, Nat.reduceEqDiff, Int.reduceEq, Int.reduceLT, Int.reduceLE, Int.reduceAdd, Int.reduceSub, Int.reduceMul, Int.reduceNeg, hs1.o62, h16]
      by_cases e60 : c a.1 = 160
      · rw [if_pos (k60.mpr e60)]
        exact p138 10 (by rw [e60]; rfl) (by decide)
      rw [if_neg (fun x => e60 (k60.mp x))]
      by_cases e62 : c a.1 = 162
      · rw [if_pos (k62.mpr e62)]
        exact p138 11 (by rw [e62]; rfl) (by decide)
      rw [if_neg (fun x => e62 (k62.mp x))]
      by_cases e61 : c a.1 = 161
      · rw [if_pos (k61.mpr e61)]
        exact p138 12 (by rw [e61]; rfl) (by decide)
      rw [if_neg (fun x => e61 (k61.mp x))]
      have hp : pPos c (brT c v fw lw k) (pSum c v fw lw k) i l = .error a.1 := by
        unfold pPos
        rw [if_neg n140, hr]
        show (if cmO (c a.1) = 0 then _ else _) = _
        rw [if_pos (by unfold cmO; rw [if_neg e60, if_neg e62, if_neg e61])]
      rw [e_X5_plain_138, if_pos rfl]
      simp (disch := ((try simp only [kd_sF, kd_sA, gA_sF, gA_sA, gF_sF, gF_sA, List.length_set, reduceIte, and_true, and_false, true_and, false_and, Nat.reduceEqDiff, Int.reduceEq, hs1.o62]); first | done | omega)) only [rF_ok, wF_ok, oK_ok, lA_ok, rA_ok, wA_ok, cI_ok, cV_ok, cL_ok, cR_ok, kd_sF, kd_sA, gA_sF, gF_sA, gF_sF, gA_sA, bk_0, bk_1, List.length_set, reduceIte, and_true, and_false, true_and, false_and, ne_eq, not_true_eq_false, not_false_eq_true, Int.toNat_natCast, Int.reduceToNat, Nat.reduceEqDiff, Int.reduceEq, Int.reduceLT, Int.reduceLE, Int.reduceAdd, Int.reduceSub, Int.reduceMul, Int.reduceNeg, hs1.o62]
      exact gl_fail K hw h1 (by omega) fun s3 h3 hz => p170 s3 (by rw [hp]; exact ⟨h3, hz⟩)
  rw [e_X5_plain_41]
  simp (disch := ((try simp only [kd_sF, kd_sA, gA_sF, gA_sA, gF_sF, gF_sA, List.length_set, reduceIte, and_true, and_false, true_and, false_and, Nat.reduceEqDiff, Int.reduceEq, hs.o62]); first | done | omega)) only [rF_ok, wF_ok, oK_ok, lA_ok, rA_ok, wA_ok, cI_ok, cV_ok, cL_ok, cR_ok, kd_sF, kd_sA, gA_sF, gF_sA, gF_sF, gA_sA, bk_0, bk_1, List.length_set, reduceIte, and_true, and_false, true_and, false_and, ne_eq, not_true_eq_false, not_false_eq_true, Int.toNat_natCast, Int.reduceToNat, Nat.reduceEqDiff, Int.reduceEq, Int.reduceLT, Int.reduceLE, Int.reduceAdd, Int.reduceSub, Int.reduceMul, Int.reduceNeg, hs.o62, h6]
  by_cases e : c i = 140
  · rw [if_pos (k40.mpr e)]
    cases k with
    | zero =>
      rw [if_neg (show ¬ (((8 - 0 : Nat) : Int) < 8) by omega)]
      exact p90 (Or.inr rfl)
    | succ k' =>
      rw [if_pos (show ((8 - (k' + 1) : Nat) : Int) < 8 by omega), wi_sm (by omega) (by omega)]
      refine gl_adv W K h (by omega) fun s1 h1 => ?_
      have hs1 : ShC s1 := h1.1.1
      have m1 := nN_mono (c := c) (i := i) (j := i + 1) (by omega)
      simp (disch := ((try simp only [kd_sF, kd_sA, gA_sF, gA_sA, gF_sF, gF_sA, List.length_set, reduceIte, and_true, and_false, true_and, false_and, Nat.reduceEqDiff, Int.reduceEq, hs1.o62]); first | done | omega)) only [rF_ok, wF_ok, oK_ok, lA_ok, rA_ok, wA_ok, cI_ok, cV_ok, cL_ok, cR_ok, kd_sF, kd_sA, gA_sF, gF_sA, gF_sF, gA_sA, bk_0, bk_1, List.length_set, reduceIte, and_true, and_false, true_and, false_and, ne_eq, not_true_eq_false, not_false_eq_true, Int.toNat_natCast, Int.reduceToNat, Nat.reduceEqDiff, Int.reduceEq, Int.reduceLT, Int.reduceLE, Int.reduceAdd, Int.reduceSub, Int.reduceMul, Int.reduceNeg, hs1.o62]
      have ih := IH k' rfl (d := d) (i := i + 1) (l := l) (C := C) (s := s1) hl (by omega) h1
      rw [show ((8 - k' : Nat) : Int) = ((8 - (k' + 1) : Nat) : Int) + 1 by omega] at ih
      refine biV ih fun s2 _ h2 => ?_
      cases hr : pTest c v fw lw k' (i + 1) l with
      | error e' =>
        rw [hr] at h2
        obtain ⟨h2, hz⟩ := h2
        have hs2 : ShC s2 := h2.1.1
        have h26 := h2.2.1
        have hp : pPos c (brT c v fw lw (k' + 1)) (pSum c v fw lw (k' + 1)) i l = .error e' := by
          unfold pPos
          rw [if_pos e]
          show bnd (pTest c v fw lw k' (i + 1) l) _ = _
          rw [hr]; rfl
        simp (disch := ((try simp only [kd_sF, kd_sA, gA_sF, gA_sA, gF_sF, gF_sA, List.length_set, reduceIte, and_true, and_false, true_and, false_and, Nat.reduceEqDiff, Int.reduceEq, hs2.o62]); first | done | omega)) only [rF_ok, wF_ok, oK_ok, lA_ok, rA_ok, wA_ok, cI_ok, cV_ok, cL_ok, cR_ok, kd_sF, kd_sA, gA_sF, gF_sA, gF_sF, gA_sA, bk_0, bk_1, List.length_set, reduceIte, and_true, and_false, true_and, false_and, ne_eq, not_true_eq_false, not_false_eq_true, Int.toNat_natCast, Int.reduceToNat, Nat.reduceEqDiff, Int.reduceEq, Int.reduceLT, Int.reduceLE, Int.reduceAdd, Int.reduceSub, Int.reduceMul, Int.reduceNeg, hs2.o62, h26, c_failF (d := d + (2 * (k' + 1) + 4)) h2 (by omega)]
        exact p170 s2 (by rw [hp]; exact ⟨h2, hz⟩)
      | ok a =>
        rw [hr] at h2
        have hs2 : ShC s2 := h2.1.1
        have h26 := h2.2.2.2.1
        have k41 : kI c nt a.1 = 41 ↔ c a.1 = 141 := kI_iff W (by rfl)
        have hb := bt_test (c := c) (v := v) (fw := fw) (lw := lw) k' (i + 1) l a hl hr
        have hpp : pPos c (brT c v fw lw (k' + 1)) (pSum c v fw lw (k' + 1)) i l = if c a.1 = 141 then .ok (a.1 + 1, a.2) else .error a.1 := by
          unfold pPos
          rw [if_pos e]
          show bnd (pTest c v fw lw k' (i + 1) l) _ = _
          rw [hr]; rfl
        simp (disch := ((try simp only [kd_sF, kd_sA, gA_sF, gA_sA, gF_sF, gF_sA, List.length_set, reduceIte, and_true, and_false, true_and, false_and, Nat.reduceEqDiff, Int.reduceEq, hs2.o62]); first | done | omega)) only [rF_ok, wF_ok, oK_ok, lA_ok, rA_ok, wA_ok, cI_ok, cV_ok, cL_ok, cR_ok, kd_sF, kd_sA, gA_sF, gF_sA, gF_sF, gA_sA, bk_0, bk_1, List.length_set, reduceIte, and_true, and_false, true_and, false_and, ne_eq, not_true_eq_false, not_false_eq_true, Int.toNat_natCast, Int.reduceToNat, Nat.reduceEqDiff, Int.reduceEq, Int.reduceLT, Int.reduceLE, Int.reduceAdd, Int.reduceSub, Int.reduceMul, Int.reduceNeg, hs2.o62, h26]
        by_cases e2 : c a.1 = 141
        · rw [if_pos (k41.mpr e2)]
          refine gl_adv W K h2 (by omega) fun s3 h3 => p170 s3 ?_
          rw [hpp, if_pos e2]
          exact h3
        · rw [if_neg (fun x => e2 (k41.mp x))]
          have nb2 := nN_bd W h2.2.1
          refine gl_fail K hw h2 ?_ fun s3 h3 hz => p170 s3 ?_
          · rw [List.length_append]; omega
          · rw [hpp, if_neg e2]; exact ⟨h3, hz⟩
  · rw [if_neg (fun x => e (k40.mp x))]
    exact p90 (Or.inl e)
end CPL
