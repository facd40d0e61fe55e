/-! ===== the class reads a part ===== -/
def Lg (fl fw lw : Int) : Prop := (fl = 1 ∧ fw = 8 ∧ lw = 13) ∨ (fl = 0 ∧ fw = 14 ∧ lw = 19)
def Pst (c : Nat → Int) (nt : Nat) (st : Nat → Int) (s0 : St) (C : Cd) (r : Except Nat PV) (s : St) : Prop := match r with
  | .ok a => POk c nt s0 a.1 a.2.1 (C ++ a.2.2.1) s
  | .error e => PFl s0 (st e) s ∧ 0 ≤ st e
def brK (c v : Nat → Int) (fw lw : Int) : Nat → PP
  | 0 => fun i _ => .error i
  | k + 1 => fun i l => pSum c v fw lw k (i + 1) l
theorem pSum_K (c v : Nat → Int) (fw lw : Int) : ∀ k, pSum c v fw lw k = pSumG c v fw lw (brK c v fw lw k)
  | 0 => rfl
  | _ + 1 => rfl
theorem bn_brK {c v : Nat → Int} {fw lw : Int} : ∀ k, Bn (brK c v fw lw k)
  | 0 => fun i l a _ h => by cases h
  | k + 1 => fun i l a hl h => by
    have := bn_sum (c := c) (v := v) (fw := fw) (lw := lw) k (i + 1) l a hl h
    omega
def SmOk (c v st : Nat → Int) (nt : Nat) (s0 : St) (fw lw : Int) (k : Nat) : Prop := ∀ (d i l : Nat) (C : Cd) (s : St), l ≤ 50 → C.length ≤ 2 * l + 133 → POk c nt s0 i l C s → Gl (GV fun s' => Pst c nt st s0 C (pSum c v fw lw k i l) s') (X5_sum (d + (2 * k + 4)) s 62 ((8 - k : Nat) : Int))
section CPT
variable {c v st : Nat → Int} {nt i l d : Nat} {s0 s : St} {C : Cd} {f fw lw : Int}
theorem c_wordNowF (h : PFl s0 f s) : X5_wordNow d s 62 = some ([(0, -1)], s) := by
  obtain ⟨r, h1, h2, h3⟩ := h
  have hs : ShC s := r.1
  rw [e_X5_wordNow]
  simp (disch := ((try simp only [kd_sF, kd_sA, gA_sF, gA_sA, gF_sF, gF_sA, List.length_set, reduceIte, and_true, and_false, true_and, false_and, Nat.reduceEqDiff, Int.reduceEq, hs.o62]); first | done | omega)) only [rF_ok, wF_ok, oK_ok, lA_ok, rA_ok, wA_ok, cI_ok, cV_ok, cL_ok, cR_ok, kd_sF, kd_sA, gA_sF, gF_sA, gF_sF, gA_sA, bk_0, bk_1, List.length_set, reduceIte, and_true, and_false, true_and, false_and, ne_eq, not_true_eq_false, not_false_eq_true, Int.toNat_natCast, Int.reduceToNat, Nat.reduceEqDiff, Int.reduceEq, Int.reduceLT, Int.reduceLE, Int.reduceAdd, Int.reduceSub, Int.reduceMul, Int.reduceNeg, hs.o62, h1]
  split <;> rfl
theorem c_partF {dep : Int} (h : PFl s0 f s) (hf : f ≠ -1) : X5_part (d + 2) s 62 dep = some ([], s) := by
  have h' := h
  obtain ⟨r, h1, h2, h3⟩ := h
  have hs : ShC s := r.1
  rw [e_X5_part]
  simp (disch := ((try simp only [kd_sF, kd_sA, gA_sF, gA_sA, gF_sF, gF_sA, List.length_set, reduceIte, and_true, and_false, true_and, false_and, Nat.reduceEqDiff, Int.reduceEq, hs.o62]); first | done | omega)) only [rF_ok, wF_ok, oK_ok, lA_ok, rA_ok, wA_ok, cI_ok, cV_ok, cL_ok, cR_ok, kd_sF, kd_sA, gA_sF, gF_sA, gF_sF, gA_sA, bk_0, bk_1, List.length_set, reduceIte, and_true, and_false, true_and, false_and, ne_eq, not_true_eq_false, not_false_eq_true, Int.toNat_natCast, Int.reduceToNat, Nat.reduceEqDiff, Int.reduceEq, Int.reduceLT, Int.reduceLE, Int.reduceAdd, Int.reduceSub, Int.reduceMul, Int.reduceNeg, hs.o62, h1]
  rw [e_X5_part_47]
  simp (disch := ((try simp only [kd_sF, kd_sA, gA_sF, gA_sA, gF_sF, gF_sA, List.length_set, reduceIte, and_true, and_false, true_and, false_and, Nat.reduceEqDiff, Int.reduceEq, hs.o62]); first | done | omega)) only [rF_ok, wF_ok, oK_ok, lA_ok, rA_ok, wA_ok, cI_ok, cV_ok, cL_ok, cR_ok, kd_sF, kd_sA, gA_sF, gF_sA, gF_sF, gA_sA, bk_0, bk_1, List.length_set, reduceIte, and_true, and_false, true_and, false_and, ne_eq, not_true_eq_false, not_false_eq_true, Int.toNat_natCast, Int.reduceToNat, Nat.reduceEqDiff, Int.reduceEq, Int.reduceLT, Int.reduceLE, Int.reduceAdd, Int.reduceSub, Int.reduceMul, Int.reduceNeg, hs.o62, h1]
  rw [e_X5_part_77]
  simp (disch := ((try simp only [kd_sF, kd_sA, gA_sF, gA_sA, gF_sF, gF_sA, List.length_set, reduceIte, and_true, and_false, true_and, false_and, Nat.reduceEqDiff, Int.reduceEq, hs.o62]); first | done | omega)) only [rF_ok, wF_ok, oK_ok, lA_ok, rA_ok, wA_ok, cI_ok, cV_ok, cL_ok, cR_ok, kd_sF, kd_sA, gA_sF, gF_sA, gF_sF, gA_sA, bk_0, bk_1, List.length_set, reduceIte, and_true, and_false, true_and, false_and, ne_eq, not_true_eq_false, not_false_eq_true, Int.toNat_natCast, Int.reduceToNat, Nat.reduceEqDiff, Int.reduceEq, Int.reduceLT, Int.reduceLE, Int.reduceAdd, Int.reduceSub, Int.reduceMul, Int.reduceNeg, hs.o62, c_wordNowF (d := d + 1) h', c_failF (d := d + 1) h' hf]
  split <;> rfl
theorem c_wordNow (W : TokW c v nt) (h : POk c nt s0 i l C s) (hL : Lg (gF s0 62 9) fw lw) : X5_wordNow d s 62 = some ([(0, if fw ≤ c i ∧ c i ≤ lw then (if 17 ≤ c i then 3 + 8 * (c i - 17) else c i - fw) else -1)], s) := by
  obtain ⟨r, h1, h2, h3, h4, h5, h6, h7⟩ := h
  have hs : ShC s := r.1
  have e9 := r.2.2.2.1
  have q1 := kI_law (i := i) W
  have q2 := kI_ord (i := i) W
  rw [e_X5_wordNow]
  rcases hL with ⟨g0, rfl, rfl⟩ | ⟨g0, rfl, rfl⟩
  · rw [g0] at e9
    simp (disch := ((try simp only [kd_sF, kd_sA, gA_sF, gA_sA, gF_sF, gF_sA, List.length_set, reduceIte, and_true, and_false, true_and, false_and, Nat.reduceEqDiff, Int.reduceEq, hs.o62]); first | done | omega)) only [rF_ok, wF_ok, oK_ok, lA_ok, rA_ok, wA_ok, cI_ok, cV_ok, cL_ok, cR_ok, kd_sF, kd_sA, gA_sF, gF_sA, gF_sF, gA_sA, bk_0, bk_1, List.length_set, reduceIte, and_true, and_false, true_and, false_and, ne_eq, not_true_eq_false, not_false_eq_true, Int.toNat_natCast, Int.reduceToNat, Nat.reduceEqDiff, Int.reduceEq, Int.reduceLT, Int.reduceLE, Int.reduceAdd, Int.reduceSub, Int.reduceMul, Int.reduceNeg, hs.o62, e9, h3]
    by_cases e : 8 ≤ c i ∧ c i ≤ 13
    · have q3 := q1.mpr e
      rw [if_pos e, if_neg (show ¬ (17 ≤ c i) by omega), if_neg (show ¬ (kI c nt i < 307) by omega), if_neg (show ¬ (312 < kI c nt i) by omega), kI_lawv W e, wi_sm (by omega) (by omega)]
      rw [show 299 + c i - 307 = c i - 8 by omega]
    · rw [if_neg e]
      have q3 : ¬ (307 ≤ kI c nt i ∧ kI c nt i ≤ 312) := fun x => e (q1.mp x)
      by_cases e2 : kI c nt i < 307
      · rw [if_pos e2]
      · rw [if_neg e2, if_pos (show 312 < kI c nt i by omega)]
  · rw [g0] at e9
    simp (disch := ((try simp only [kd_sF, kd_sA, gA_sF, gA_sA, gF_sF, gF_sA, List.length_set, reduceIte, and_true, and_false, true_and, false_and, Nat.reduceEqDiff, Int.reduceEq, hs.o62]); first | done | omega)) only [rF_ok, wF_ok, oK_ok, lA_ok, rA_ok, wA_ok, cI_ok, cV_ok, cL_ok, cR_ok, kd_sF, kd_sA, gA_sF, gF_sA, gF_sF, gA_sA, bk_0, bk_1, List.length_set, reduceIte, and_true, and_false, true_and, false_and, ne_eq, not_true_eq_false, not_false_eq_true, Int.toNat_natCast, Int.reduceToNat, Nat.reduceEqDiff, Int.reduceEq, Int.reduceLT, Int.reduceLE, Int.reduceAdd, Int.reduceSub, Int.reduceMul, Int.reduceNeg, hs.o62, e9, h3]
    by_cases e : 14 ≤ c i ∧ c i ≤ 19
    · have q3 := q2.mpr e
      have q4 := kI_ordv W e
      rw [if_pos e, if_neg (show ¬ (kI c nt i < 319) by omega), if_neg (show ¬ (324 < kI c nt i) by omega), q4]
      by_cases e3 : 17 ≤ c i
      · rw [if_pos e3, if_neg (show ¬ (305 + c i < 322) by omega), wi_sm (x := 305 + c i - 322) (by omega) (by omega), wi_sm (x := (305 + c i - 322) * 8) (by omega) (by omega), wi_sm (by omega) (by omega)]
        rw [show 3 + (305 + c i - 322) * 8 = 3 + 8 * (c i - 17) by omega]
      · rw [if_neg e3, if_pos (show 305 + c i < 322 by omega), wi_sm (by omega) (by omega)]
        rw [show 305 + c i - 319 = c i - 14 by omega]
    · rw [if_neg e]
      have q3 : ¬ (319 ≤ kI c nt i ∧ kI c nt i ≤ 324) := fun x => e (q2.mp x)
      by_cases e2 : kI c nt i < 319
      · rw [if_pos e2]
      · rw [if_neg e2, if_pos (show 324 < kI c nt i by omega)]
theorem POk.parts (h : POk c nt s0 i l C s) : POk c nt s0 i (l + 1) C (sF s 62 8 ((l : Int) + 1)) := by
  obtain ⟨r, h1, h2, h3, h4, h5, h6, h7⟩ := h
  exact ⟨r.f62 (by omega), h1, (gF_nk (by decide)).trans h2, (gF_nk (by decide)).trans h3, (gF_nk (by decide)).trans h4, (gF_eq _ _ _ _).trans (by omega), (gF_np (by decide)).trans h6, h7⟩
theorem c_num (K : TokR c v st nt s0) (h : POk c nt s0 i l C s) : (gA s 74).getD i 0 = v i ∧ 0 ≤ st i := ⟨by rw [h.1.ar 74 (by decide)]; exact (K.2 i h.2.1).2.2.1, (K.2 i h.2.1).2.2.2⟩
/-- a failure here -/
theorem gl_fail {Q : St → Prop} {K' : St → Res} (K : TokR c v st nt s0) (hw : nt ≤ 400) (h : POk c nt s0 i l C s) (hC : C.length ≤ 256) (hQ : ∀ s', PFl s0 (st i) s' → 0 ≤ st i → Gl (GV Q) (K' s')) : Gl (GV Q) (cV (X5_fail d s 62) K') := by
  obtain ⟨s', e1, e2⟩ := c_failO (d := d) K h hw hC
  rw [e1, cV_ok]
  exact hQ s' e2 (c_num K h).2
theorem gl_adv {T : Res → Prop} {K' : St → Res} (W : TokW c v nt) (K : TokR c v st nt s0) (h : POk c nt s0 i l C s) (hi : c i ≠ 0) (hQ : ∀ s', POk c nt s0 (i + 1) l C s' → Gl T (K' s')) : Gl T (cV (X5_advance d s 62) K') := by
  obtain ⟨s', e1, e2⟩ := c_advO (d := d) W K h (c_lt W hi)
  rw [e1, cV_ok]
  exact hQ s' e2
theorem gl_emit {T : Res → Prop} {K' : Int → St → Res} {op ar : Int} (h : POk c nt s0 i l C s) (hC : C.length < 256) (hQ : ∀ s', POk c nt s0 i l (C ++ [(op, ar)]) s' → Gl T (K' (C.length : Int) s')) : Gl T (cI (X7_emit d s 63 op ar) K') := by
  obtain ⟨s', e1, e2⟩ := c_emitO (d := d) (op := op) (ar := ar) h hC
  rw [e1, cI_ok]
  exact hQ s' e2
theorem gl_emitF {T : Res → Prop} {K' : Int → St → Res} {op ar : Int} (h : PFl s0 f s) (hQ : ∀ x s', PFl s0 f s' → Gl T (K' x s')) : Gl T (cI (X7_emit d s 63 op ar) K') := by
  obtain ⟨x, s', e1, e2⟩ := c_emitF (d := d) (op := op) (ar := ar) h
  rw [e1, cI_ok]
  exact hQ x s' e2
theorem c_part165 (W : TokW c v nt) (K : TokR c v st nt s0) (hL : Lg (gF s0 62 9) fw lw) (hl : l ≤ 50) (hC : C.length ≤ 2 * l + 133) (h : POk c nt s0 i l C s) (hc : fw ≤ c i ∧ c i ≤ lw) : Gl (GV fun s' => Pst c nt st s0 C (if 17 ≤ c i ∧ c i ≤ 19 then (if c (i + 1) = 50 ∧ v (i + 1) ≤ 7 then .ok (i + 2, l, [(1, 3 + 8 * (c i - 17) + v (i + 1))], fun ρ => some (ρ (3 + 8 * (c i - 17) + v (i + 1)).toNat)) else .error (i + 1)) else .ok (i + 1, l, [(1, c i - fw)], fun ρ => some (ρ (c i - fw).toNat))) s') (X5_part_165 (d + 1) s 62 (if 17 ≤ c i then 3 + 8 * (c i - 17) else c i - fw) (if 17 ≤ c i then 1 else 0)) := by
  have hs : ShC s := h.1.1
  have hw := W.1
  have fwb : fw = 8 ∧ lw = 13 ∨ fw = 14 ∧ lw = 19 := by unfold Lg at hL; omega
  rw [e_X5_part_165]
  simp (disch := ((try simp only [kd_sF, kd_sA, gA_sF, gA_sA, gF_sF, gF_sA, List.length_set, reduceIte, and_true, and_false, true_and, false_and, Nat.reduceEqDiff, Int.reduceEq, hs.o62]); first | done | omega)) only [rF_ok, wF_ok, oK_ok, lA_ok, rA_ok, wA_ok, cI_ok, cV_ok, cL_ok, cR_ok, kd_sF, kd_sA, gA_sF, gF_sA, gF_sF, gA_sA, bk_0, bk_1, List.length_set, reduceIte, and_true, and_false, true_and, false_and, ne_eq, not_true_eq_false, not_false_eq_true, Int.toNat_natCast, Int.reduceToNat, Nat.reduceEqDiff, Int.reduceEq, Int.reduceLT, Int.reduceLE, Int.reduceAdd, Int.reduceSub, Int.reduceMul, Int.reduceNeg, hs.o62]
  refine gl_adv W K h (by omega) fun s1 h1 => ?_
  have hs1 : ShC s1 := h1.1.1
  by_cases e : 17 ≤ c i
  · rw [if_pos e, if_pos e, if_neg (show ¬ ((1 : Int) = 0) by decide), if_pos (show 17 ≤ c i ∧ c i ≤ 19 by omega)]
    have l74 : (gA s1 74).length = 401 := hs1.2.1 74 (by decide) (by decide)
    have en := (c_num K h1).1
    have h15 := h1.2.2.1
    have h16 := h1.2.2.2.1
    have i1 := h1.2.1
    have vb := W.2.2.2.1 (i + 1)
    have k50 : kI c nt (i + 1) = 256 ↔ c (i + 1) = 50 := kI_iff W (by rfl)
    have t2 : ((i + 1 : Nat) : Int).toNat = i + 1 := Int.toNat_natCast _
    obtain ⟨j, hj⟩ : ∃ j, j = i + 1 := ⟨_, rfl⟩
    rw [← hj] at h1 en h15 h16 i1 vb k50 t2 ⊢
    rw [show i + 2 = j + 1 by omega]
    simp (disch := ((try simp only [kd_sF, kd_sA, gA_sF, gA_sA, gF_sF, gF_sA, List.length_set, reduceIte, and_true, and_false, true_and, false_and, Nat.reduceEqDiff, Int.reduceEq, hs1.o62]); first | done | omega)) only [rF_ok, wF_ok, oK_ok, lA_ok, rA_ok, wA_ok, cI_ok, cV_ok, cL_ok, cR_ok, kd_sF, kd_sA, gA_sF, gF_sA, gF_sF, gA_sA, bk_0, bk_1, List.length_set, reduceIte, and_true, and_false, true_and, false_and, ne_eq, not_true_eq_false, not_false_eq_true, Int.toNat_natCast, Int.reduceToNat, Nat.reduceEqDiff, Int.reduceEq, Int.reduceLT, Int.reduceLE, Int.reduceAdd, Int.reduceSub, Int.reduceMul, Int.reduceNeg, hs1.o62, h15, h16, en]
    -- not a number of a knot
    have no : Gl (GV fun s' => Pst c nt st s0 C (.error j) s') (cV (X5_fail d s1 62) fun s3 => rF s3 62 9 0 fun x7 => oK s3 x7 11 (cI (X7_emit d s3 x7 1 (wi (3 + 8 * (c i - 17) + v j))) fun x8 s4 => some ([], s4))) := by
      refine gl_fail K hw h1 (by omega) fun s3 h3 hz => ?_
      have hs3 : ShC s3 := h3.1.1
      simp (disch := ((try simp only [kd_sF, kd_sA, gA_sF, gA_sA, gF_sF, gF_sA, List.length_set, reduceIte, and_true, and_false, true_and, false_and, Nat.reduceEqDiff, Int.reduceEq, hs3.o62, hs3.o63]); first | done | omega)) only [rF_ok, wF_ok, oK_ok, lA_ok, rA_ok, wA_ok, cI_ok, cV_ok, cL_ok, cR_ok, kd_sF, kd_sA, gA_sF, gF_sA, gF_sF, gA_sA, bk_0, bk_1, List.length_set, reduceIte, and_true, and_false, true_and, false_and, ne_eq, not_true_eq_false, not_false_eq_true, Int.toNat_natCast, Int.reduceToNat, Nat.reduceEqDiff, Int.reduceEq, Int.reduceLT, Int.reduceLE, Int.reduceAdd, Int.reduceSub, Int.reduceMul, Int.reduceNeg, hs3.o62, hs3.o63]
      exact gl_emitF h3 fun x s4 h4 => reV ⟨h4, hz⟩
    by_cases e2 : c j = 50
    · rw [if_pos (k50.mpr e2)]
      by_cases e3 : v j < 8
      · rw [if_pos e3, if_pos (show c j = 50 ∧ v j ≤ 7 by omega)]
        refine gl_adv W K h1 (by omega) fun s2 h2 => ?_
        have hs2 : ShC s2 := h2.1.1
        simp (disch := ((try simp only [kd_sF, kd_sA, gA_sF, gA_sA, gF_sF, gF_sA, List.length_set, reduceIte, and_true, and_false, true_and, false_and, Nat.reduceEqDiff, Int.reduceEq, hs2.o62, hs2.o63]); first | done | omega)) only [rF_ok, wF_ok, oK_ok, lA_ok, rA_ok, wA_ok, cI_ok, cV_ok, cL_ok, cR_ok, kd_sF, kd_sA, gA_sF, gF_sA, gF_sF, gA_sA, bk_0, bk_1, List.length_set, reduceIte, and_true, and_false, true_and, false_and, ne_eq, not_true_eq_false, not_false_eq_true, Int.toNat_natCast, Int.reduceToNat, Nat.reduceEqDiff, Int.reduceEq, Int.reduceLT, Int.reduceLE, Int.reduceAdd, Int.reduceSub, Int.reduceMul, Int.reduceNeg, hs2.o62, hs2.o63]
        rw [wi_sm (by omega) (by omega)]
        refine gl_emit h2 (by omega) fun s3 h3 => ?_
        exact reV h3
      · rw [if_neg e3, if_neg (show ¬ (c j = 50 ∧ v j ≤ 7) by omega)]
        exact no
    · rw [if_neg (fun x => e2 (k50.mp x)), if_neg (show ¬ (c j = 50 ∧ v j ≤ 7) from fun x => e2 x.1)]
      exact no
  · rw [if_neg e, if_neg e, if_pos rfl, if_neg (show ¬ (17 ≤ c i ∧ c i ≤ 19) by omega)]
    simp (disch := ((try simp only [kd_sF, kd_sA, gA_sF, gA_sA, gF_sF, gF_sA, List.length_set, reduceIte, and_true, and_false, true_and, false_and, Nat.reduceEqDiff, Int.reduceEq, hs1.o62, hs1.o63]); first | done | omega)) only [rF_ok, wF_ok, oK_ok, lA_ok, rA_ok, wA_ok, cI_ok, cV_ok, cL_ok, cR_ok, kd_sF, kd_sA, gA_sF, gF_sA, gF_sF, gA_sA, bk_0, bk_1, List.length_set, reduceIte, and_true, and_false, true_and, false_and, ne_eq, not_true_eq_false, not_false_eq_true, Int.toNat_natCast, Int.reduceToNat, Nat.reduceEqDiff, Int.reduceEq, Int.reduceLT, Int.reduceLE, Int.reduceAdd, Int.reduceSub, Int.reduceMul, Int.reduceNeg, hs1.o62, hs1.o63]
    refine gl_emit h1 (by omega) fun s3 h3 => ?_
    exact reV h3
end CPT
