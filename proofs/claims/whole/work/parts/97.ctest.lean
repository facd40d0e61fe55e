/-! ===== the class reads tests ===== -/
section CTS
variable {c v st : Nat → Int} {nt i l d : Nat} {s0 s : St} {C : Cd} {f fw lw : Int}
theorem bI (b : Bool) : (if b then (1 : Int) else 0) = 0 ↔ b = false := by cases b <;> decide
/-- the nots -/
theorem c_p4 {k : Nat} {T : Res → Prop} {dep : Int} {i0 : Nat} (W : TokW c v nt) (K : TokR c v st nt s0) (hl : l ≤ 50) : ∀ (m Q i : Nat) (b : Bool) (s : St), nt - i ≤ m → Q ≤ i → POk c nt s0 i l C s → (∀ s', (pNots c (401 - Q) i b).1 ≤ nt → POk c nt s0 (pNots c (401 - Q) i b).1 l C s' → Gl T (X5_plain_41 (d + 1) s' 62 dep (if (pNots c (401 - Q) i b).2 then 1 else 0))) → Gl T (X5_plain_4 (d + 1) s 62 dep (if b then 1 else 0) Q) := by
  intro m
  induction m with
  | zero =>
    intro Q i b s hm hQ h hT
    have hs : ShC s := h.1.1
    have hw := W.1
    have hi := h.2.1
    have h6 := h.2.2.2.1
    have k306 : kI c nt i = 306 ↔ c i = 7 := kI_iff W (by rfl)
    have c0 := W.2.2.1 i (by omega)
    have p : pNots c (401 - Q) i b = (i, b) := by
      rw [show 401 - Q = (400 - Q) + 1 by omega, pNots, if_neg (by omega)]
    rw [p] at hT
    rw [e_X5_plain_4, if_neg (by omega)]
    simp (disch := ((try simp only [kd_sF, kd_sA, gA_sF, gA_sA, gF_sF, gF_sA, List.length_set, reduceIte, and_true, and_false, true_and, false_and, Nat.reduceEqDiff, Int.reduceEq, hs.o62]); first | done | omega)) only [rF_ok, wF_ok, oK_ok, lA_ok, rA_ok, wA_ok, cI_ok, cV_ok, cL_ok, cR_ok, kd_sF, kd_sA, gA_sF, gF_sA, gF_sF, gA_sA, bk_0, bk_1, List.length_set, reduceIte, and_true, and_false, true_and, false_and, ne_eq, not_true_eq_false, not_false_eq_true, Int.toNat_natCast, Int.reduceToNat, Nat.reduceEqDiff, Int.reduceEq, Int.reduceLT, Int.reduceLE, Int.reduceAdd, Int.reduceSub, Int.reduceMul, Int.reduceNeg, hs.o62, h6]
    rw [if_neg (fun x => by have := k306.mp x; omega)]
    exact hT s hi h
  | succ m ih =>
    intro Q i b s hm hQ h hT
    have hs : ShC s := h.1.1
    have hw := W.1
    have hi := h.2.1
    have h6 := h.2.2.2.1
    have k306 : kI c nt i = 306 ↔ c i = 7 := kI_iff W (by rfl)
    rw [e_X5_plain_4, if_neg (by omega)]
    simp (disch := ((try simp only [kd_sF, kd_sA, gA_sF, gA_sA, gF_sF, gF_sA, List.length_set, reduceIte, and_true, and_false, true_and, false_and, Nat.reduceEqDiff, Int.reduceEq, hs.o62]); first | done | omega)) only [rF_ok, wF_ok, oK_ok, lA_ok, rA_ok, wA_ok, cI_ok, cV_ok, cL_ok, cR_ok, kd_sF, kd_sA, gA_sF, gF_sA, gF_sF, gA_sA, bk_0, bk_1, List.length_set, reduceIte, and_true, and_false, true_and, false_and, ne_eq, not_true_eq_false, not_false_eq_true, Int.toNat_natCast, Int.reduceToNat, Nat.reduceEqDiff, Int.reduceEq, Int.reduceLT, Int.reduceLE, Int.reduceAdd, Int.reduceSub, Int.reduceMul, Int.reduceNeg, hs.o62, h6]
    by_cases e : c i = 7
    · have lt := c_lt W (show c i ≠ 0 by omega)
      have p : pNots c (401 - Q) i b = pNots c (401 - (Q + 1)) (i + 1) (!b) := by
        rw [show 401 - Q = (401 - (Q + 1)) + 1 by omega, pNots, if_pos e]
      rw [p] at hT
      rw [if_pos (k306.mpr e)]
      have st' : ∀ z : Int, (z = if (!b) then 1 else 0) → Gl T (cV (X5_advance d s 62) fun s2 => X5_plain_4 (d + 1) s2 62 dep z (wi ((Q : Int) + 1))) := by
        intro z hz
        refine gl_adv W K h (by omega) fun s1 h1 => ?_
        rw [wi_sc (by omega), hz]
        exact ih (Q + 1) (i + 1) (!b) s1 (by omega) (by omega) h1 hT
      cases b with
      | false => exact st' 1 rfl
      | true => exact st' 0 rfl
    · have p : pNots c (401 - Q) i b = (i, b) := by
        rw [show 401 - Q = (400 - Q) + 1 by omega, pNots, if_neg e]
      rw [p] at hT
      rw [if_neg (fun x => e (k306.mp x))]
      exact hT s hi h
theorem c_plain {k : Nat} (W : TokW c v nt) (K : TokR c v st nt s0) (hL : Lg (gF s0 62 9) fw lw) (hk : k ≤ 8) (IH : ∀ k', k = k' + 1 → TsOk c v st nt s0 fw lw k') (hl : l ≤ 50) (hC : C.length ≤ 2 * l + nN c i) (h : POk c nt s0 i l C s) : Gl (GV fun s' => Pst c nt st s0 C (pPlain c (brT c v fw lw k) (pSum c v fw lw k) i l) s') (X5_plain (d + (2 * k + 5)) s 62 ((8 - k : Nat) : Int)) := by
  rw [e_X5_plain]
  show Gl _ (X5_plain_4 (d + (2 * k + 4) + 1) s 62 ((8 - k : Nat) : Int) (if false then 1 else 0) ((0 : Nat) : Int))
  refine c_p4 (k := k) (i0 := i) W K hl (nt - i) 0 i false s (Nat.le_refl _) (by omega) h fun s' hn h' => ?_
  have n1 := (pNots_n (c := c) 401 i false).1
  have m1 := nN_mono (c := c) n1
  exact c_p41 (d := d) W K hL hk IH hl (by omega) h'
/-- behind both loops -/
noncomputable def AfT (d : Nat) (s : St) (dep v2 q : Int) : Res := cV (X7_closeSkip d s 63 v2) fun s1 => rF s1 62 9 6 fun x2 => if x2 = 304 then X5_test_103 (d + 1) s1 62 dep v2 q 1 else X5_test_103 (d + 1) s1 62 dep v2 q 0
theorem c_t27F {dep v2 q q2 : Int} (h : PFl s0 f s) : X5_test_27 (d + 1) s 62 dep v2 q q2 = AfT d s dep v2 q := by
  have hs : ShC s := h.1.1
  have h6 := h.2.1
  unfold AfT
  rw [e_X5_test_27]
  by_cases e : 400 < q2
  · rw [if_pos e]
    simp (disch := ((try simp only [kd_sF, kd_sA, gA_sF, gA_sA, gF_sF, gF_sA, List.length_set, reduceIte, and_true, and_false, true_and, false_and, Nat.reduceEqDiff, Int.reduceEq, hs.o62, hs.o63]); first | done | omega)) only [rF_ok, wF_ok, oK_ok, lA_ok, rA_ok, wA_ok, cI_ok, cV_ok, cL_ok, cR_ok, kd_sF, kd_sA, gA_sF, gF_sA, gF_sF, gA_sA, bk_0, bk_1, List.length_set, reduceIte, and_true, and_false, true_and, false_and, ne_eq, not_true_eq_false, not_false_eq_true, Int.toNat_natCast, Int.reduceToNat, Nat.reduceEqDiff, Int.reduceEq, Int.reduceLT, Int.reduceLE, Int.reduceAdd, Int.reduceSub, Int.reduceMul, Int.reduceNeg, hs.o62, hs.o63]
  · rw [if_neg e]
    simp (disch := ((try simp only [kd_sF, kd_sA, gA_sF, gA_sA, gF_sF, gF_sA, List.length_set, reduceIte, and_true, and_false, true_and, false_and, Nat.reduceEqDiff, Int.reduceEq, hs.o62, hs.o63]); first | done | omega)) only [rF_ok, wF_ok, oK_ok, lA_ok, rA_ok, wA_ok, cI_ok, cV_ok, cL_ok, cR_ok, kd_sF, kd_sA, gA_sF, gF_sA, gF_sF, gA_sA, bk_0, bk_1, List.length_set, reduceIte, and_true, and_false, true_and, false_and, ne_eq, not_true_eq_false, not_false_eq_true, Int.toNat_natCast, Int.reduceToNat, Nat.reduceEqDiff, Int.reduceEq, Int.reduceLT, Int.reduceLE, Int.reduceAdd, Int.reduceSub, Int.reduceMul, Int.reduceNeg, hs.o62, hs.o63, h6]
theorem c_afF {dep v2 q : Int} (h : PFl s0 f s) : Gl (GV fun s' => PFl s0 f s') (AfT d s dep v2 q) := by
  unfold AfT
  obtain ⟨s1, e1, h1⟩ := c_closeF (d := d) (z := v2) h
  have hs1 : ShC s1 := h1.1.1
  have h6 := h1.2.1
  rw [e1, cV_ok]
  simp (disch := ((try simp only [kd_sF, kd_sA, gA_sF, gA_sA, gF_sF, gF_sA, List.length_set, reduceIte, and_true, and_false, true_and, false_and, Nat.reduceEqDiff, Int.reduceEq, hs1.o62]); first | done | omega)) only [rF_ok, wF_ok, oK_ok, lA_ok, rA_ok, wA_ok, cI_ok, cV_ok, cL_ok, cR_ok, kd_sF, kd_sA, gA_sF, gF_sA, gF_sF, gA_sA, bk_0, bk_1, List.length_set, reduceIte, and_true, and_false, true_and, false_and, ne_eq, not_true_eq_false, not_false_eq_true, Int.toNat_natCast, Int.reduceToNat, Nat.reduceEqDiff, Int.reduceEq, Int.reduceLT, Int.reduceLE, Int.reduceAdd, Int.reduceSub, Int.reduceMul, Int.reduceNeg, hs1.o62, h6]
  rw [e_X5_test_103, if_pos rfl, e_X5_test_7]
  split
  · exact reV h1
  · rw [if_pos rfl]; exact reV h1
/-- the inner loop -/
theorem c_t27 {k : Nat} {dep v2 q : Int} {T : Res → Prop} {i0 l0 : Nat} (W : TokW c v nt) (K : TokR c v st nt s0) (hL : Lg (gF s0 62 9) fw lw) (hk : k ≤ 8) (hdep : dep = ((8 - k : Nat) : Int)) (IH : ∀ k', k = k' + 1 → TsOk c v st nt s0 fw lw k') (hl0 : l0 ≤ 50) (hC : C.length ≤ 2 * l0 + nN c i0) : ∀ (m Q : Nat) (a : PV) (s : St), nt - a.1 ≤ m → Q ≤ a.1 → (i0 < a.1 ∧ l0 < a.2.1 ∧ a.2.1 ≤ 50 ∧ a.2.2.1.length + 1 + nN c i0 ≤ 2 * (a.2.1 - l0) + nN c a.1) → POk c nt s0 a.1 a.2.1 (C ++ a.2.2.1) s → (∀ s', Pst c nt st s0 C (pSk (pPlain c (brT c v fw lw k) (pSum c v fw lw k)) c 6 4 andD (401 - Q) a) s' → Gl T (AfT (d + (2 * k + 5)) s' dep v2 q)) → Gl T (X5_test_27 (d + (2 * k + 5) + 1) s 62 dep v2 q Q) := by
  intro m
  induction m with
  | zero =>
    intro Q a s hm hQ ha h hT
    have hs : ShC s := h.1.1
    have h6 := h.2.2.2.1
    have hw := W.1
    have e1 := h.2.1
    have c0 := W.2.2.1 a.1 (by omega)
    have k305 : kI c nt a.1 = 305 ↔ c a.1 = 6 := kI_iff W (by rfl)
    have p : pSk (pPlain c (brT c v fw lw k) (pSum c v fw lw k)) c 6 4 andD (401 - Q) a = .ok a := by
      rw [show 401 - Q = (400 - Q) + 1 by omega, pSk, if_neg (by omega)]
    rw [p] at hT
    rw [e_X5_test_27, if_neg (by omega)]
    simp (disch := ((try simp only [kd_sF, kd_sA, gA_sF, gA_sA, gF_sF, gF_sA, List.length_set, reduceIte, and_true, and_false, true_and, false_and, Nat.reduceEqDiff, Int.reduceEq, hs.o62, hs.o63]); first | done | omega)) only [rF_ok, wF_ok, oK_ok, lA_ok, rA_ok, wA_ok, cI_ok, cV_ok, cL_ok, cR_ok, kd_sF, kd_sA, gA_sF, gF_sA, gF_sF, gA_sA, bk_0, bk_1, List.length_set, reduceIte, and_true, and_false, true_and, false_and, ne_eq, not_true_eq_false, not_false_eq_true, Int.toNat_natCast, Int.reduceToNat, Nat.reduceEqDiff, Int.reduceEq, Int.reduceLT, Int.reduceLE, Int.reduceAdd, Int.reduceSub, Int.reduceMul, Int.reduceNeg, hs.o62, hs.o63, h6]
    rw [if_neg (fun x => by have := k305.mp x; omega)]
    exact hT s h
  | succ m ih =>
    intro Q a s hm hQ ha h hT
    have hs : ShC s := h.1.1
    have h6 := h.2.2.2.1
    have hw := W.1
    have e1 := h.2.1
    have nb := nN_bd W e1
    have k305 : kI c nt a.1 = 305 ↔ c a.1 = 6 := kI_iff W (by rfl)
    rw [e_X5_test_27, if_neg (by omega)]
    simp (disch := ((try simp only [kd_sF, kd_sA, gA_sF, gA_sA, gF_sF, gF_sA, List.length_set, reduceIte, and_true, and_false, true_and, false_and, Nat.reduceEqDiff, Int.reduceEq, hs.o62, hs.o63]); first | done | omega)) only [rF_ok, wF_ok, oK_ok, lA_ok, rA_ok, wA_ok, cI_ok, cV_ok, cL_ok, cR_ok, kd_sF, kd_sA, gA_sF, gF_sA, gF_sF, gA_sA, bk_0, bk_1, List.length_set, reduceIte, and_true, and_false, true_and, false_and, ne_eq, not_true_eq_false, not_false_eq_true, Int.toNat_natCast, Int.reduceToNat, Nat.reduceEqDiff, Int.reduceEq, Int.reduceLT, Int.reduceLE, Int.reduceAdd, Int.reduceSub, Int.reduceMul, Int.reduceNeg, hs.o62, hs.o63, h6]
    by_cases e : c a.1 = 6
    · have lt := c_lt W (show c a.1 ≠ 0 by omega)
      rw [if_pos (k305.mpr e)]
      have hf : pSk (pPlain c (brT c v fw lw k) (pSum c v fw lw k)) c 6 4 andD (401 - Q) a = bnd (pPlain c (brT c v fw lw k) (pSum c v fw lw k) (a.1 + 1) a.2.1) fun b => pSk (pPlain c (brT c v fw lw k) (pSum c v fw lw k)) c 6 4 andD (401 - (Q + 1)) (b.1, b.2.1, a.2.2.1 ++ [(4, (b.2.2.1.length : Int))] ++ b.2.2.1, andD a.2.2.2 b.2.2.2) := by
        rw [show 401 - Q = (401 - (Q + 1)) + 1 by omega, pSk, if_pos e]
      rw [hf] at hT
      refine gl_emit h (by rw [List.length_append]; omega) fun s1 h1 => ?_
      have hs1 : ShC s1 := h1.1.1
      simp (disch := ((try simp only [kd_sF, kd_sA, gA_sF, gA_sA, gF_sF, gF_sA, List.length_set, reduceIte, and_true, and_false, true_and, false_and, Nat.reduceEqDiff, Int.reduceEq, hs1.o62]); first | done | omega)) only [rF_ok, wF_ok, oK_ok, lA_ok, rA_ok, wA_ok, cI_ok, cV_ok, cL_ok, cR_ok, kd_sF, kd_sA, gA_sF, gF_sA, gF_sF, gA_sA, bk_0, bk_1, List.length_set, reduceIte, and_true, and_false, true_and, false_and, ne_eq, not_true_eq_false, not_false_eq_true, Int.toNat_natCast, Int.reduceToNat, Nat.reduceEqDiff, Int.reduceEq, Int.reduceLT, Int.reduceLE, Int.reduceAdd, Int.reduceSub, Int.reduceMul, Int.reduceNeg, hs1.o62]
      refine gl_adv W K h1 (by omega) fun s2 h2 => ?_
      have hs2 : ShC s2 := h2.1.1
      simp (disch := ((try simp only [kd_sF, kd_sA, gA_sF, gA_sA, gF_sF, gF_sA, List.length_set, reduceIte, and_true, and_false, true_and, false_and, Nat.reduceEqDiff, Int.reduceEq, hs2.o62]); first | done | omega)) only [rF_ok, wF_ok, oK_ok, lA_ok, rA_ok, wA_ok, cI_ok, cV_ok, cL_ok, cR_ok, kd_sF, kd_sA, gA_sF, gF_sA, gF_sF, gA_sA, bk_0, bk_1, List.length_set, reduceIte, and_true, and_false, true_and, false_and, ne_eq, not_true_eq_false, not_false_eq_true, Int.toNat_natCast, Int.reduceToNat, Nat.reduceEqDiff, Int.reduceEq, Int.reduceLT, Int.reduceLE, Int.reduceAdd, Int.reduceSub, Int.reduceMul, Int.reduceNeg, hs2.o62]
      have m1 := nN_mono (c := c) (i := a.1) (j := a.1 + 1) (by omega)
      have pp := c_plain (d := d) (k := k) W K hL hk IH ha.2.2.1 (by rw [List.length_append, List.length_append]; simp only [List.length_cons, List.length_nil]; omega) h2
      rw [← hdep] at pp
      refine biV pp fun s3 _ h3 => ?_
      cases hr : pPlain c (brT c v fw lw k) (pSum c v fw lw k) (a.1 + 1) a.2.1 with
      | error e' =>
        rw [hr] at h3 hT
        obtain ⟨h3, hz⟩ := h3
        have hs3 : ShC s3 := h3.1.1
        obtain ⟨s4, e4, h4⟩ := c_closeF (d := d + (2 * k + 5)) (z := ((C ++ a.2.2.1).length : Int)) h3
        simp (disch := ((try simp only [kd_sF, kd_sA, gA_sF, gA_sA, gF_sF, gF_sA, List.length_set, reduceIte, and_true, and_false, true_and, false_and, Nat.reduceEqDiff, Int.reduceEq, hs3.o62, hs3.o63]); first | done | omega)) only [rF_ok, wF_ok, oK_ok, lA_ok, rA_ok, wA_ok, cI_ok, cV_ok, cL_ok, cR_ok, kd_sF, kd_sA, gA_sF, gF_sA, gF_sF, gA_sA, bk_0, bk_1, List.length_set, reduceIte, and_true, and_false, true_and, false_and, ne_eq, not_true_eq_false, not_false_eq_true, Int.toNat_natCast, Int.reduceToNat, Nat.reduceEqDiff, Int.reduceEq, Int.reduceLT, Int.reduceLE, Int.reduceAdd, Int.reduceSub, Int.reduceMul, Int.reduceNeg, hs3.o62, hs3.o63, e4]
        rw [c_t27F h4]
        exact hT s4 ⟨h4, hz⟩
      | ok b =>
        rw [hr] at h3 hT
        have hs3 : ShC s3 := h3.1.1
        have hb := bt_plain (bt_brT k) (bn_sum k) (a.1 + 1) a.2.1 b ha.2.2.1 hr
        obtain ⟨s4, e4, h4⟩ := c_closeO (d := d + (2 * k + 5)) h3
        simp (disch := ((try simp only [kd_sF, kd_sA, gA_sF, gA_sA, gF_sF, gF_sA, List.length_set, reduceIte, and_true, and_false, true_and, false_and, Nat.reduceEqDiff, Int.reduceEq, hs3.o62, hs3.o63]); first | done | omega)) only [rF_ok, wF_ok, oK_ok, lA_ok, rA_ok, wA_ok, cI_ok, cV_ok, cL_ok, cR_ok, kd_sF, kd_sA, gA_sF, gF_sA, gF_sF, gA_sA, bk_0, bk_1, List.length_set, reduceIte, and_true, and_false, true_and, false_and, ne_eq, not_true_eq_false, not_false_eq_true, Int.toNat_natCast, Int.reduceToNat, Nat.reduceEqDiff, Int.reduceEq, Int.reduceLT, Int.reduceLE, Int.reduceAdd, Int.reduceSub, Int.reduceMul, Int.reduceNeg, hs3.o62, hs3.o63, e4]
        rw [wi_sc (by omega)]
        refine ih (Q + 1) (b.1, b.2.1, a.2.2.1 ++ [(4, (b.2.2.1.length : Int))] ++ b.2.2.1, andD a.2.2.2 b.2.2.2) s4 (by dsimp only; omega) (by dsimp only; omega) ?_ ?_ hT
        · dsimp only
          rw [List.length_append, List.length_append]
          simp only [List.length_cons, List.length_nil]
          omega
        · dsimp only
          simpa only [List.append_assoc] using h4
    · have p : pSk (pPlain c (brT c v fw lw k) (pSum c v fw lw k)) c 6 4 andD (401 - Q) a = .ok a := by
        rw [show 401 - Q = (400 - Q) + 1 by omega, pSk, if_neg e]
      rw [p] at hT
      rw [if_neg (fun x => e (k305.mp x))]
      exact hT s h
theorem c_both {k : Nat} {dep v2 q : Int} {T : Res → Prop} (W : TokW c v nt) (K : TokR c v st nt s0) (hL : Lg (gF s0 62 9) fw lw) (hk : k ≤ 8) (hdep : dep = ((8 - k : Nat) : Int)) (IH : ∀ k', k = k' + 1 → TsOk c v st nt s0 fw lw k') (hl : l ≤ 50) (hC : C.length ≤ 2 * l + nN c i) (h : POk c nt s0 i l C s) (hq : ¬ (400 < q)) (hT : ∀ s', Pst c nt st s0 C (pBoth c (brT c v fw lw k) (pSum c v fw lw k) i l) s' → Gl T (AfT (d + (2 * k + 5)) s' dep v2 q)) : Gl T (X5_test_7 (d + (2 * k + 5) + 1) s 62 dep v2 1 q) := by
  have hs : ShC s := h.1.1
  rw [e_X5_test_7, if_neg hq, if_neg (show ¬ ((1 : Int) = 0) by decide)]
  simp (disch := ((try simp only [kd_sF, kd_sA, gA_sF, gA_sA, gF_sF, gF_sA, List.length_set, reduceIte, and_true, and_false, true_and, false_and, Nat.reduceEqDiff, Int.reduceEq, hs.o62]); first | done | omega)) only [rF_ok, wF_ok, oK_ok, lA_ok, rA_ok, wA_ok, cI_ok, cV_ok, cL_ok, cR_ok, kd_sF, kd_sA, gA_sF, gF_sA, gF_sF, gA_sA, bk_0, bk_1, List.length_set, reduceIte, and_true, and_false, true_and, false_and, ne_eq, not_true_eq_false, not_false_eq_true, Int.toNat_natCast, Int.reduceToNat, Nat.reduceEqDiff, Int.reduceEq, Int.reduceLT, Int.reduceLE, Int.reduceAdd, Int.reduceSub, Int.reduceMul, Int.reduceNeg, hs.o62]
  have pp := c_plain (d := d) (k := k) W K hL hk IH hl hC h
  rw [← hdep] at pp
  refine biV pp fun s2 _ h2 => ?_
  unfold pBoth at hT
  cases hr : pPlain c (brT c v fw lw k) (pSum c v fw lw k) i l with
  | error e' =>
    rw [hr] at h2 hT
    rw [c_t27F h2.1]
    exact hT s2 h2
  | ok b =>
    rw [hr] at h2 hT
    have hb := bt_plain (bt_brT k) (bn_sum k) i l b hl hr
    exact c_t27 W K hL hk hdep IH hl hC (nt - b.1) 0 b s2 (Nat.le_refl _) (by omega) hb h2 hT
/-- the outer loop -/
theorem c_tE {k : Nat} {dep : Int} {i0 l0 : Nat} (W : TokW c v nt) (K : TokR c v st nt s0) (hL : Lg (gF s0 62 9) fw lw) (hk : k ≤ 8) (hdep : dep = ((8 - k : Nat) : Int)) (IH : ∀ k', k = k' + 1 → TsOk c v st nt s0 fw lw k') (hl0 : l0 ≤ 50) (hC : C.length ≤ 2 * l0 + nN c i0) : ∀ (m Q : Nat) (a : PV) (s : St) (v2 : Int), nt - a.1 ≤ m → Q ≤ a.1 → (i0 < a.1 ∧ l0 < a.2.1 ∧ a.2.1 ≤ 50 ∧ a.2.2.1.length + 1 + nN c i0 ≤ 2 * (a.2.1 - l0) + nN c a.1) → POk c nt s0 a.1 a.2.1 (C ++ a.2.2.1) s → Gl (GV fun s' => Pst c nt st s0 C (pSk (pBoth c (brT c v fw lw k) (pSum c v fw lw k)) c 5 3 orD (401 - Q) a) s') (rF s 62 9 6 fun x2 => if x2 = 304 then X5_test_103 (d + (2 * k + 5) + 1) s 62 dep v2 Q 1 else X5_test_103 (d + (2 * k + 5) + 1) s 62 dep v2 Q 0) := by
  intro m
  induction m with
  | zero =>
    intro Q a s v2 hm hQ ha h
    have hs : ShC s := h.1.1
    have h6 := h.2.2.2.1
    have hw := W.1
    have e1 := h.2.1
    have c0 := W.2.2.1 a.1 (by omega)
    have k304 : kI c nt a.1 = 304 ↔ c a.1 = 5 := kI_iff W (by rfl)
    have p : pSk (pBoth c (brT c v fw lw k) (pSum c v fw lw k)) c 5 3 orD (401 - Q) a = .ok a := by
      rw [show 401 - Q = (400 - Q) + 1 by omega, pSk, if_neg (by omega)]
    rw [p]
    simp (disch := ((try simp only [kd_sF, kd_sA, gA_sF, gA_sA, gF_sF, gF_sA, List.length_set, reduceIte, and_true, and_false, true_and, false_and, Nat.reduceEqDiff, Int.reduceEq, hs.o62]); first | done | omega)) only [rF_ok, wF_ok, oK_ok, lA_ok, rA_ok, wA_ok, cI_ok, cV_ok, cL_ok, cR_ok, kd_sF, kd_sA, gA_sF, gF_sA, gF_sF, gA_sA, bk_0, bk_1, List.length_set, reduceIte, and_true, and_false, true_and, false_and, ne_eq, not_true_eq_false, not_false_eq_true, Int.toNat_natCast, Int.reduceToNat, Nat.reduceEqDiff, Int.reduceEq, Int.reduceLT, Int.reduceLE, Int.reduceAdd, Int.reduceSub, Int.reduceMul, Int.reduceNeg, hs.o62, h6]
    rw [if_neg (fun x => by have := k304.mp x; omega), e_X5_test_103, if_pos rfl, e_X5_test_7]
    split
    · exact reV h
    · rw [if_pos rfl]; exact reV h
  | succ m ih =>
    intro Q a s v2 hm hQ ha h
    have hs : ShC s := h.1.1
    have h6 := h.2.2.2.1
    have hw := W.1
    have e1 := h.2.1
    have nb := nN_bd W e1
    have k304 : kI c nt a.1 = 304 ↔ c a.1 = 5 := kI_iff W (by rfl)
    simp (disch := ((try simp only [kd_sF, kd_sA, gA_sF, gA_sA, gF_sF, gF_sA, List.length_set, reduceIte, and_true, and_false, true_and, false_and, Nat.reduceEqDiff, Int.reduceEq, hs.o62]); first | done | omega)) only [rF_ok, wF_ok, oK_ok, lA_ok, rA_ok, wA_ok, cI_ok, cV_ok, cL_ok, cR_ok, kd_sF, kd_sA, gA_sF, gF_sA, gF_sF, gA_sA, bk_0, bk_1, List.length_set, reduceIte, and_true, and_false, true_and, false_and, ne_eq, not_true_eq_false, not_false_eq_true, Int.toNat_natCast, Int.reduceToNat, Nat.reduceEqDiff, Int.reduceEq, Int.reduceLT, Int.reduceLE, Int.reduceAdd, Int.reduceSub, Int.reduceMul, Int.reduceNeg, hs.o62, h6]
    by_cases e : c a.1 = 5
    · have lt := c_lt W (show c a.1 ≠ 0 by omega)
      rw [if_pos (k304.mpr e), e_X5_test_103, if_neg (show ¬ ((1 : Int) = 0) by decide)]
      have hf : pSk (pBoth c (brT c v fw lw k) (pSum c v fw lw k)) c 5 3 orD (401 - Q) a = bnd (pBoth c (brT c v fw lw k) (pSum c v fw lw k) (a.1 + 1) a.2.1) fun b => pSk (pBoth c (brT c v fw lw k) (pSum c v fw lw k)) c 5 3 orD (401 - (Q + 1)) (b.1, b.2.1, a.2.2.1 ++ [(3, (b.2.2.1.length : Int))] ++ b.2.2.1, orD a.2.2.2 b.2.2.2) := by
        rw [show 401 - Q = (401 - (Q + 1)) + 1 by omega, pSk, if_pos e]
      rw [hf]
      simp (disch := ((try simp only [kd_sF, kd_sA, gA_sF, gA_sA, gF_sF, gF_sA, List.length_set, reduceIte, and_true, and_false, true_and, false_and, Nat.reduceEqDiff, Int.reduceEq, hs.o62, hs.o63]); first | done | omega)) only [rF_ok, wF_ok, oK_ok, lA_ok, rA_ok, wA_ok, cI_ok, cV_ok, cL_ok, cR_ok, kd_sF, kd_sA, gA_sF, gF_sA, gF_sF, gA_sA, bk_0, bk_1, List.length_set, reduceIte, and_true, and_false, true_and, false_and, ne_eq, not_true_eq_false, not_false_eq_true, Int.toNat_natCast, Int.reduceToNat, Nat.reduceEqDiff, Int.reduceEq, Int.reduceLT, Int.reduceLE, Int.reduceAdd, Int.reduceSub, Int.reduceMul, Int.reduceNeg, hs.o62, hs.o63]
      refine gl_emit h (by rw [List.length_append]; omega) fun s1 h1 => ?_
      have hs1 : ShC s1 := h1.1.1
      simp (disch := ((try simp only [kd_sF, kd_sA, gA_sF, gA_sA, gF_sF, gF_sA, List.length_set, reduceIte, and_true, and_false, true_and, false_and, Nat.reduceEqDiff, Int.reduceEq, hs1.o62]); first | done | omega)) only [rF_ok, wF_ok, oK_ok, lA_ok, rA_ok, wA_ok, cI_ok, cV_ok, cL_ok, cR_ok, kd_sF, kd_sA, gA_sF, gF_sA, gF_sF, gA_sA, bk_0, bk_1, List.length_set, reduceIte, and_true, and_false, true_and, false_and, ne_eq, not_true_eq_false, not_false_eq_true, Int.toNat_natCast, Int.reduceToNat, Nat.reduceEqDiff, Int.reduceEq, Int.reduceLT, Int.reduceLE, Int.reduceAdd, Int.reduceSub, Int.reduceMul, Int.reduceNeg, hs1.o62]
      refine gl_adv W K h1 (by omega) fun s2 h2 => ?_
      have m1 := nN_mono (c := c) (i := a.1) (j := a.1 + 1) (by omega)
      rw [wi_sc (by omega)]
      refine c_both (d := d) W K hL hk hdep IH ha.2.2.1 (by rw [List.length_append, List.length_append]; simp only [List.length_cons, List.length_nil]; omega) h2 (by omega) fun s3 h3 => ?_
      cases hr : pBoth c (brT c v fw lw k) (pSum c v fw lw k) (a.1 + 1) a.2.1 with
      | error e' =>
        rw [hr] at h3
        exact wkV (c_afF h3.1) fun s4 _ h4 => ⟨h4, h3.2⟩
      | ok b =>
        rw [hr] at h3
        have hb := bt_both (bt_brT k) (bn_sum k) (a.1 + 1) a.2.1 b ha.2.2.1 hr
        obtain ⟨s4, e4, h4⟩ := c_closeO (d := d + (2 * k + 5)) h3
        unfold AfT
        rw [e4, cV_ok]
        refine ih (Q + 1) (b.1, b.2.1, a.2.2.1 ++ [(3, (b.2.2.1.length : Int))] ++ b.2.2.1, orD a.2.2.2 b.2.2.2) s4 _ (by dsimp only; omega) (by dsimp only; omega) ?_ ?_
        · dsimp only
          rw [List.length_append, List.length_append]
          simp only [List.length_cons, List.length_nil]
          omega
        · dsimp only
          simpa only [List.append_assoc] using h4
    · have p : pSk (pBoth c (brT c v fw lw k) (pSum c v fw lw k)) c 5 3 orD (401 - Q) a = .ok a := by
        rw [show 401 - Q = (400 - Q) + 1 by omega, pSk, if_neg e]
      rw [p, if_neg (fun x => e (k304.mp x)), e_X5_test_103, if_pos rfl, e_X5_test_7]
      split
      · exact reV h
      · rw [if_pos rfl]; exact reV h
theorem ts_step {k : Nat} (W : TokW c v nt) (K : TokR c v st nt s0) (hL : Lg (gF s0 62 9) fw lw) (hk : k ≤ 8) (IH : ∀ k', k = k' + 1 → TsOk c v st nt s0 fw lw k') : TsOk c v st nt s0 fw lw k := by
  intro d i l C s hl hC h
  rw [e_X5_test, pTest_K]
  show Gl _ (X5_test_7 (d + (2 * k + 5) + 1) s 62 ((8 - k : Nat) : Int) (-1) 1 0)
  refine c_both (d := d) W K hL hk rfl IH hl hC h (by decide) fun s3 h3 => ?_
  unfold pTestG
  cases hr : pBoth c (brT c v fw lw k) (pSum c v fw lw k) i l with
  | error e' =>
    rw [hr] at h3
    exact wkV (c_afF h3.1) fun s4 _ h4 => ⟨h4, h3.2⟩
  | ok b =>
    rw [hr] at h3
    have hb := bt_both (bt_brT k) (bn_sum k) i l b hl hr
    unfold AfT
    rw [c_closeN, cV_ok]
    exact c_tE W K hL hk rfl IH hl hC (nt - b.1) 0 b s3 _ (Nat.le_refl _) (by omega) hb h3
theorem ts_ok (W : TokW c v nt) (K : TokR c v st nt s0) (hL : Lg (gF s0 62 9) fw lw) : ∀ k, k ≤ 8 → TsOk c v st nt s0 fw lw k := by
  intro k
  induction k with
  | zero => exact fun hk => ts_step W K hL hk fun k' e => by omega
  | succ k ih =>
    intro hk
    refine ts_step W K hL hk fun k' e => ?_
    have : k = k' := by omega
    rw [← this]
    exact ih (by omega)
end CTS
