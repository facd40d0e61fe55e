/-! ===== the class reads a sum ===== -/
section CSM
variable {c v st : Nat → Int} {nt i l d : Nat} {s0 s : St} {C : Cd} {f fw lw : Int}
theorem c_part {k : Nat} (W : TokW c v nt) (K : TokR c v st nt s0) (hL : Lg (gF s0 62 9) fw lw) (hk : k ≤ 8) (IH : ∀ k', k = k' + 1 → SmOk c v st nt s0 fw lw k') (hl : l ≤ 50) (hC : C.length ≤ 2 * l + 133) (h : POk c nt s0 i l C s) : Gl (GV fun s' => Pst c nt st s0 C (pPart c v fw lw (brK c v fw lw k) i l) s') (X5_part (d + (2 * k + 3)) s 62 ((8 - k : Nat) : Int)) := by
  have hs : ShC s := h.1.1
  have hw := W.1
  have h6 := h.2.2.2.1
  have k91 : kI c nt i = 91 ↔ c i = 191 := kI_iff W (by rfl)
  have k50 : kI c nt i = 256 ↔ c i = 50 := kI_iff W (by rfl)
  have fwb : fw = 8 ∧ lw = 13 ∨ fw = 14 ∧ lw = 19 := by unfold Lg at hL; omega
  have l74 : (gA s 74).length = 401 := hs.2.1 74 (by decide) (by decide)
  have en := (c_num K h).1
  have h5 := h.2.2.1
  have h8 := h.2.2.2.2.2.1
  have h1 := h.2.1
  have vb := W.2.2.2.1 i
  rw [show d + (2 * k + 3) = d + (2 * k + 2) + 1 from rfl, e_X5_part]
  unfold pPart
  -- no bracket
  have p77 : ∀ w0 : Int, (w0 = if c i = 50 ∧ v i ≤ 1000 then 1 else 0) → Gl (GV fun s' => Pst c nt st s0 C (if (c i = 50 ∧ v i ≤ 1000) ∨ (fw ≤ c i ∧ c i ≤ lw) then (if l = 50 then .error i else if c i = 50 then .ok (i + 1, l + 1, [(0, v i)], fun _ => some (v i)) else if 17 ≤ c i ∧ c i ≤ 19 then (if c (i + 1) = 50 ∧ v (i + 1) ≤ 7 then .ok (i + 2, l + 1, [(1, 3 + 8 * (c i - 17) + v (i + 1))], fun ρ => some (ρ (3 + 8 * (c i - 17) + v (i + 1)).toNat)) else .error (i + 1)) else .ok (i + 1, l + 1, [(1, c i - fw)], fun ρ => some (ρ (c i - fw).toNat))) else .error i) s') (X5_part_77 (d + (2 * k + 2) + 1) s 62 w0) := by
    intro w0 hw0
    have no : Gl (GV fun s' => Pst c nt st s0 C (.error i) s') (cV (X5_fail (d + (2 * k + 2)) s 62) fun s3 => some ([], s3)) := gl_fail K hw h (by omega) fun s3 h3 hz => reV ⟨h3, hz⟩
    rw [e_X5_part_77]
    simp (disch := ((try simp only [kd_sF, kd_sA, gA_sF, gA_sA, gF_sF, gF_sA, List.length_set, reduceIte, and_true, and_false, true_and, false_and, Nat.reduceEqDiff, Int.reduceEq, hs.o62]); first | done | omega)) only [rF_ok, wF_ok, oK_ok, lA_ok, rA_ok, wA_ok, cI_ok, cV_ok, cL_ok, cR_ok, kd_sF, kd_sA, gA_sF, gF_sA, gF_sF, gA_sA, bk_0, bk_1, List.length_set, reduceIte, and_true, and_false, true_and, false_and, ne_eq, not_true_eq_false, not_false_eq_true, Int.toNat_natCast, Int.reduceToNat, Nat.reduceEqDiff, Int.reduceEq, Int.reduceLT, Int.reduceLE, Int.reduceAdd, Int.reduceSub, Int.reduceMul, Int.reduceNeg, hs.o62, c_wordNow (d := d + (2 * k + 2)) W h hL, h8]
    by_cases e1 : l = 50
    · rw [if_neg (show ¬ ((l : Int) < 50) by omega), if_pos e1]
      have : ∀ P : Prop, ∀ [Decidable P], (if P then (Except.error i : Except Nat PV) else .error i) = .error i := fun P _ => by split <;> rfl
      rw [this]
      exact no
    rw [if_pos (show (l : Int) < 50 by omega), if_neg e1]
    by_cases e2 : (c i = 50 ∧ v i ≤ 1000) ∨ (fw ≤ c i ∧ c i ≤ lw)
    · rw [if_pos e2]
      have go : Gl (GV fun s' => Pst c nt st s0 C (if c i = 50 then .ok (i + 1, l + 1, [(0, v i)], fun _ => some (v i)) else if 17 ≤ c i ∧ c i ≤ 19 then (if c (i + 1) = 50 ∧ v (i + 1) ≤ 7 then .ok (i + 2, l + 1, [(1, 3 + 8 * (c i - 17) + v (i + 1))], fun ρ => some (ρ (3 + 8 * (c i - 17) + v (i + 1)).toNat)) else .error (i + 1)) else .ok (i + 1, l + 1, [(1, c i - fw)], fun ρ => some (ρ (c i - fw).toNat))) s') (X5_part_106 (d + (2 * k + 2) + 1) s 62 w0 (if fw ≤ c i ∧ c i ≤ lw then (if 17 ≤ c i then 3 + 8 * (c i - 17) else c i - fw) else -1)) := by
        have hp := h.parts
        have hsp : ShC (sF s 62 8 ((l : Int) + 1)) := hp.1.1
        have h9 : gF s 62 9 = gF s0 62 9 := h.1.2.2.2.1
        rw [e_X5_part_106]
        by_cases e3 : c i = 50
        · have e4 : v i ≤ 1000 := by omega
          rw [if_pos e3]
          rw [if_pos ⟨e3, e4⟩] at hw0
          simp (disch := ((try simp only [kd_sF, kd_sA, gA_sF, gA_sA, gF_sF, gF_sA, List.length_set, reduceIte, and_true, and_false, true_and, false_and, Nat.reduceEqDiff, Int.reduceEq, hs.o62, hs.o63]); first | done | omega)) only [rF_ok, wF_ok, oK_ok, lA_ok, rA_ok, wA_ok, cI_ok, cV_ok, cL_ok, cR_ok, kd_sF, kd_sA, gA_sF, gF_sA, gF_sF, gA_sA, bk_0, bk_1, List.length_set, reduceIte, and_true, and_false, true_and, false_and, ne_eq, not_true_eq_false, not_false_eq_true, Int.toNat_natCast, Int.reduceToNat, Nat.reduceEqDiff, Int.reduceEq, Int.reduceLT, Int.reduceLE, Int.reduceAdd, Int.reduceSub, Int.reduceMul, Int.reduceNeg, hs.o62, hs.o63, h8, wi_sm, hw0, h5, en]
          refine gl_emit hp (by omega) fun s2 h2 => ?_
          have hs2 : ShC s2 := h2.1.1
          simp (disch := ((try simp only [kd_sF, kd_sA, gA_sF, gA_sA, gF_sF, gF_sA, List.length_set, reduceIte, and_true, and_false, true_and, false_and, Nat.reduceEqDiff, Int.reduceEq, hs2.o62]); first | done | omega)) only [rF_ok, wF_ok, oK_ok, lA_ok, rA_ok, wA_ok, cI_ok, cV_ok, cL_ok, cR_ok, kd_sF, kd_sA, gA_sF, gF_sA, gF_sF, gA_sA, bk_0, bk_1, List.length_set, reduceIte, and_true, and_false, true_and, false_and, ne_eq, not_true_eq_false, not_false_eq_true, Int.toNat_natCast, Int.reduceToNat, Nat.reduceEqDiff, Int.reduceEq, Int.reduceLT, Int.reduceLE, Int.reduceAdd, Int.reduceSub, Int.reduceMul, Int.reduceNeg, hs2.o62]
          refine gl_adv W K h2 (by omega) fun s3 h3 => ?_
          exact reV h3
        · rw [if_neg e3, if_pos (show fw ≤ c i ∧ c i ≤ lw by omega)]
          rw [if_neg (fun x => e3 x.1)] at hw0
          have p165 := c_part165 (d := d + (2 * k + 2)) W K hL (show l + 1 ≤ 50 by omega) (show C.length ≤ 2 * (l + 1) + 133 by omega) hp (show fw ≤ c i ∧ c i ≤ lw by omega)
          simp (disch := ((try simp only [kd_sF, kd_sA, gA_sF, gA_sA, gF_sF, gF_sA, List.length_set, reduceIte, and_true, and_false, true_and, false_and, Nat.reduceEqDiff, Int.reduceEq, hs.o62]); first | done | omega)) only [rF_ok, wF_ok, oK_ok, lA_ok, rA_ok, wA_ok, cI_ok, cV_ok, cL_ok, cR_ok, kd_sF, kd_sA, gA_sF, gF_sA, gF_sF, gA_sA, bk_0, bk_1, List.length_set, reduceIte, and_true, and_false, true_and, false_and, ne_eq, not_true_eq_false, not_false_eq_true, Int.toNat_natCast, Int.reduceToNat, Nat.reduceEqDiff, Int.reduceEq, Int.reduceLT, Int.reduceLE, Int.reduceAdd, Int.reduceSub, Int.reduceMul, Int.reduceNeg, hs.o62, h8, wi_sm, hw0, h9, h6]
          unfold Lg at hL
          rcases hL with ⟨g0, g1, g2⟩ | ⟨g0, g1, g2⟩
          · rw [if_neg (show ¬ (17 ≤ c i) by omega), if_neg (show ¬ (17 ≤ c i) by omega)] at p165
            rw [if_neg (show ¬ (gF s0 62 9 = 0) by omega), if_neg (show ¬ (17 ≤ c i) by omega)]
            exact p165
          · rw [if_pos g0, kI_ordv W (show 14 ≤ c i ∧ c i ≤ 19 by omega)]
            by_cases e5 : 17 ≤ c i
            · rw [if_pos e5, if_pos e5] at p165
              rw [if_neg (show ¬ (305 + c i < 322) by omega), if_pos e5]
              exact p165
            · rw [if_neg e5, if_neg e5] at p165
              rw [if_pos (show 305 + c i < 322 by omega), if_neg e5]
              exact p165
      by_cases e3 : c i = 50 ∧ v i ≤ 1000
      · rw [if_pos e3] at hw0
        rw [if_neg (show ¬ (w0 = 0) by omega)]
        exact go
      · rw [if_neg e3] at hw0
        rw [if_pos hw0]
        have e4 : fw ≤ c i ∧ c i ≤ lw := e2.resolve_left e3
        rw [if_neg (show ¬ ((if fw ≤ c i ∧ c i ≤ lw then (if 17 ≤ c i then 3 + 8 * (c i - 17) else c i - fw) else -1) = -1) by rw [if_pos e4]; split <;> omega)]
        exact go
    · rw [if_neg e2]
      have e3 : ¬ (c i = 50 ∧ v i ≤ 1000) := fun x => e2 (Or.inl x)
      have e4 : ¬ (fw ≤ c i ∧ c i ≤ lw) := fun x => e2 (Or.inr x)
      rw [if_neg e3] at hw0
      rw [if_pos hw0, if_neg e4, if_pos rfl]
      exact no
  have p47 : c i ≠ 191 ∨ k = 0 → Gl (GV fun s' => Pst c nt st s0 C (if (c i = 50 ∧ v i ≤ 1000) ∨ (fw ≤ c i ∧ c i ≤ lw) then (if l = 50 then .error i else if c i = 50 then .ok (i + 1, l + 1, [(0, v i)], fun _ => some (v i)) else if 17 ≤ c i ∧ c i ≤ 19 then (if c (i + 1) = 50 ∧ v (i + 1) ≤ 7 then .ok (i + 2, l + 1, [(1, 3 + 8 * (c i - 17) + v (i + 1))], fun ρ => some (ρ (3 + 8 * (c i - 17) + v (i + 1)).toNat)) else .error (i + 1)) else .ok (i + 1, l + 1, [(1, c i - fw)], fun ρ => some (ρ (c i - fw).toNat))) else .error i) s') (X5_part_47 (d + (2 * k + 2) + 1) s 62) := by
    intro _
    rw [e_X5_part_47]
    simp (disch := ((try simp only [kd_sF, kd_sA, gA_sF, gA_sA, gF_sF, gF_sA, List.length_set, reduceIte, and_true, and_false, true_and, false_and, Nat.reduceEqDiff, Int.reduceEq, hs.o62]); first | done | omega)) only [rF_ok, wF_ok, oK_ok, lA_ok, rA_ok, wA_ok, cI_ok, cV_ok, cL_ok, cR_ok, kd_sF, kd_sA, gA_sF, gF_sA, gF_sF, gA_sA, bk_0, bk_1, List.length_set, reduceIte, and_true, and_false, true_and, false_and, ne_eq, not_true_eq_false, not_false_eq_true, Int.toNat_natCast, Int.reduceToNat, Nat.reduceEqDiff, Int.reduceEq, Int.reduceLT, Int.reduceLE, Int.reduceAdd, Int.reduceSub, Int.reduceMul, Int.reduceNeg, hs.o62, h6]
    by_cases e : c i = 50
    · rw [if_pos (k50.mpr e)]
      simp (disch := ((try simp only [kd_sF, kd_sA, gA_sF, gA_sA, gF_sF, gF_sA, List.length_set, reduceIte, and_true, and_false, true_and, false_and, Nat.reduceEqDiff, Int.reduceEq, hs.o62]); first | done | omega)) only [rF_ok, wF_ok, oK_ok, lA_ok, rA_ok, wA_ok, cI_ok, cV_ok, cL_ok, cR_ok, kd_sF, kd_sA, gA_sF, gF_sA, gF_sF, gA_sA, bk_0, bk_1, List.length_set, reduceIte, and_true, and_false, true_and, false_and, ne_eq, not_true_eq_false, not_false_eq_true, Int.toNat_natCast, Int.reduceToNat, Nat.reduceEqDiff, Int.reduceEq, Int.reduceLT, Int.reduceLE, Int.reduceAdd, Int.reduceSub, Int.reduceMul, Int.reduceNeg, hs.o62, h5, en]
      by_cases e2 : 1000 < v i
      · rw [if_pos e2]; exact p77 0 (by rw [if_neg (by omega)])
      · rw [if_neg e2]; exact p77 1 (by rw [if_pos (by omega)])
    · rw [if_neg (fun x => e (k50.mp x))]
      exact p77 0 (by rw [if_neg (fun x => e x.1)])
  simp (disch := ((try simp only [kd_sF, kd_sA, gA_sF, gA_sA, gF_sF, gF_sA, List.length_set, reduceIte, and_true, and_false, true_and, false_and, Nat.reduceEqDiff, Int.reduceEq, hs.o62]); first | done | omega)) only [rF_ok, wF_ok, oK_ok, lA_ok, rA_ok, wA_ok, cI_ok, cV_ok, cL_ok, cR_ok, kd_sF, kd_sA, gA_sF, gF_sA, gF_sF, gA_sA, bk_0, bk_1, List.length_set, reduceIte, and_true, and_false, true_and, false_and, ne_eq, not_true_eq_false, not_false_eq_true, Int.toNat_natCast, Int.reduceToNat, Nat.reduceEqDiff, Int.reduceEq, Int.reduceLT, Int.reduceLE, Int.reduceAdd, Int.reduceSub, Int.reduceMul, Int.reduceNeg, hs.o62, h6]
  by_cases e : c i = 191
  · rw [if_pos (k91.mpr e), if_pos e]
    cases k with
    | zero =>
      rw [if_neg (show ¬ (((8 - 0 : Nat) : Int) < 8) by omega)]
      have := p47 (Or.inr rfl)
      rw [if_neg (show ¬ ((c i = 50 ∧ v i ≤ 1000) ∨ (fw ≤ c i ∧ c i ≤ lw)) by omega)] at this
      exact this
    | succ k' =>
      rw [if_pos (show ((8 - (k' + 1) : Nat) : Int) < 8 by omega), wi_sm (by omega) (by omega)]
      refine gl_adv W K h (by omega) fun s1 h1 => ?_
      have hs1 : ShC s1 := h1.1.1
      simp (disch := ((try simp only [kd_sF, kd_sA, gA_sF, gA_sA, gF_sF, gF_sA, List.length_set, reduceIte, and_true, and_false, true_and, false_and, Nat.reduceEqDiff, Int.reduceEq, hs1.o62]); first | done | omega)) only [rF_ok, wF_ok, oK_ok, lA_ok, rA_ok, wA_ok, cI_ok, cV_ok, cL_ok, cR_ok, kd_sF, kd_sA, gA_sF, gF_sA, gF_sF, gA_sA, bk_0, bk_1, List.length_set, reduceIte, and_true, and_false, true_and, false_and, ne_eq, not_true_eq_false, not_false_eq_true, Int.toNat_natCast, Int.reduceToNat, Nat.reduceEqDiff, Int.reduceEq, Int.reduceLT, Int.reduceLE, Int.reduceAdd, Int.reduceSub, Int.reduceMul, Int.reduceNeg, hs1.o62]
      have ih := IH k' rfl (d := d) (i := i + 1) (l := l) (C := C) (s := s1) hl hC h1
      rw [show ((8 - k' : Nat) : Int) = ((8 - (k' + 1) : Nat) : Int) + 1 by omega] at ih
      refine biV ih fun s2 _ h2 => ?_
      show Gl (GV fun s' => Pst c nt st s0 C (bnd (pSum c v fw lw k' (i + 1) l) fun a => if c a.1 = 193 then .ok (a.1 + 1, a.2) else .error a.1) s') _
      cases hr : pSum c v fw lw k' (i + 1) l with
      | error e' =>
        rw [hr] at h2
        obtain ⟨h2, hz⟩ := h2
        have hs2 : ShC s2 := h2.1.1
        have h26 := h2.2.1
        simp (disch := ((try simp only [kd_sF, kd_sA, gA_sF, gA_sA, gF_sF, gF_sA, List.length_set, reduceIte, and_true, and_false, true_and, false_and, Nat.reduceEqDiff, Int.reduceEq, hs2.o62]); first | done | omega)) only [rF_ok, wF_ok, oK_ok, lA_ok, rA_ok, wA_ok, cI_ok, cV_ok, cL_ok, cR_ok, kd_sF, kd_sA, gA_sF, gF_sA, gF_sF, gA_sA, bk_0, bk_1, List.length_set, reduceIte, and_true, and_false, true_and, false_and, ne_eq, not_true_eq_false, not_false_eq_true, Int.toNat_natCast, Int.reduceToNat, Nat.reduceEqDiff, Int.reduceEq, Int.reduceLT, Int.reduceLE, Int.reduceAdd, Int.reduceSub, Int.reduceMul, Int.reduceNeg, hs2.o62, h26, c_failF (d := d + (2 * (k' + 1) + 2)) h2 (by omega)]
        exact reV ⟨h2, hz⟩
      | ok a =>
        rw [hr] at h2
        have hs2 : ShC s2 := h2.1.1
        have h26 := h2.2.2.2.1
        have k93 : kI c nt a.1 = 93 ↔ c a.1 = 193 := kI_iff W (by rfl)
        have hb := bn_sum (c := c) (v := v) (fw := fw) (lw := lw) k' (i + 1) l a hl hr
        simp (disch := ((try simp only [kd_sF, kd_sA, gA_sF, gA_sA, gF_sF, gF_sA, List.length_set, reduceIte, and_true, and_false, true_and, false_and, Nat.reduceEqDiff, Int.reduceEq, hs2.o62]); first | done | omega)) only [rF_ok, wF_ok, oK_ok, lA_ok, rA_ok, wA_ok, cI_ok, cV_ok, cL_ok, cR_ok, kd_sF, kd_sA, gA_sF, gF_sA, gF_sF, gA_sA, bk_0, bk_1, List.length_set, reduceIte, and_true, and_false, true_and, false_and, ne_eq, not_true_eq_false, not_false_eq_true, Int.toNat_natCast, Int.reduceToNat, Nat.reduceEqDiff, Int.reduceEq, Int.reduceLT, Int.reduceLE, Int.reduceAdd, Int.reduceSub, Int.reduceMul, Int.reduceNeg, hs2.o62, h26]
        show Gl (GV fun s' => Pst c nt st s0 C (if c a.1 = 193 then .ok (a.1 + 1, a.2) else .error a.1) s') _
        by_cases e2 : c a.1 = 193
        · rw [if_pos (k93.mpr e2), if_pos e2]
          exact gl_adv W K h2 (by omega) fun s3 h3 => reV h3
        · rw [if_neg (fun x => e2 (k93.mp x)), if_neg e2]
          refine gl_fail K hw h2 ?_ fun s3 h3 hz => reV ⟨h3, hz⟩
          rw [List.length_append]
          omega
  · rw [if_neg (fun x => e (k91.mp x)), if_neg e]
    exact p47 (Or.inl e)
end CSM
