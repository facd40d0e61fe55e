/-! ===== reading: tokens as the class keeps them, pure ===== -/
def cdV (x : Int) : Prop := (0 ≤ x ∧ x ≤ 25) ∨ x = 50 ∨ (100 ≤ x ∧ x ≤ 355)
def kT (x : Int) : Int := if x = 0 then 258 else if x ≤ 13 then 299 + x else if x ≤ 19 then 305 + x else if x ≤ 25 then 293 + x else if x = 50 then 256 else x - 100
def kI (c : Nat → Int) (nt i : Nat) : Int := if i < nt then kT (c i) else 257
def pairB (x K : Int) : Bool := decide ((1 ≤ x ∧ x ≤ 13 ∧ K = 299 + x) ∨ (14 ≤ x ∧ x ≤ 19 ∧ K = 305 + x) ∨ (20 ≤ x ∧ x ≤ 25 ∧ K = 293 + x) ∨ (x = 50 ∧ K = 256) ∨ (100 ≤ x ∧ x ≤ 355 ∧ K = x - 100))
/-- how many tokens ahead of i are "not" -/
def nN (c : Nat → Int) : Nat → Nat
  | 0 => 0
  | i + 1 => nN c i + (if c i = 7 then 1 else 0)
def TokW (c v : Nat → Int) (nt : Nat) : Prop := nt ≤ 400 ∧ (∀ i, cdV (c i)) ∧ (∀ i, nt ≤ i → c i = 0) ∧ (∀ i, 0 ≤ v i ∧ v i ≤ 1001) ∧ nN c nt ≤ 133
section PRD
variable {c v : Nat → Int} {nt i : Nat}
theorem kT_r {x : Int} (h : cdV x) : (x = 0 ∧ kT x = 258) ∨ (1 ≤ x ∧ x ≤ 13 ∧ kT x = 299 + x) ∨ (14 ≤ x ∧ x ≤ 19 ∧ kT x = 305 + x) ∨ (20 ≤ x ∧ x ≤ 25 ∧ kT x = 293 + x) ∨ (x = 50 ∧ kT x = 256) ∨ (100 ≤ x ∧ x ≤ 355 ∧ kT x = x - 100) := by
  unfold cdV at h
  unfold kT
  split
  · omega
  split
  · omega
  split
  · omega
  split
  · omega
  split
  · omega
  omega
theorem kI_iff (W : TokW c v nt) {x K : Int} (h : pairB x K = true) : kI c nt i = K ↔ c i = x := by
  have hp := of_decide_eq_true h
  unfold kI
  by_cases e : i < nt
  · rw [if_pos e]
    have := kT_r (W.2.1 i)
    omega
  · rw [if_neg e, W.2.2.1 i (by omega)]
    omega
theorem kI_end (W : TokW c v nt) : kI c nt i = 257 ↔ nt ≤ i := by
  unfold kI
  by_cases e : i < nt
  · rw [if_pos e]
    have := kT_r (W.2.1 i)
    omega
  · rw [if_neg e]
    omega
theorem kI_259 (W : TokW c v nt) : kI c nt i ≠ 259 := by
  unfold kI
  by_cases e : i < nt
  · rw [if_pos e]
    have := kT_r (W.2.1 i)
    omega
  · rw [if_neg e]
    decide
theorem c_lt (W : TokW c v nt) (h : c i ≠ 0) : i < nt := by
  by_cases e : i < nt
  · exact e
  · exact absurd (W.2.2.1 i (by omega)) h
/-- the words of laws and orders -/
theorem kI_law (W : TokW c v nt) : (307 ≤ kI c nt i ∧ kI c nt i ≤ 312) ↔ (8 ≤ c i ∧ c i ≤ 13) := by
  unfold kI
  by_cases e : i < nt
  · rw [if_pos e]
    have := kT_r (W.2.1 i)
    omega
  · rw [if_neg e, W.2.2.1 i (by omega)]
    omega
theorem kI_lawv (W : TokW c v nt) (h : 8 ≤ c i ∧ c i ≤ 13) : kI c nt i = 299 + c i := by
  unfold kI
  rw [if_pos (c_lt W (by omega))]
  have := kT_r (W.2.1 i)
  omega
theorem kI_ord (W : TokW c v nt) : (319 ≤ kI c nt i ∧ kI c nt i ≤ 324) ↔ (14 ≤ c i ∧ c i ≤ 19) := by
  unfold kI
  by_cases e : i < nt
  · rw [if_pos e]
    have := kT_r (W.2.1 i)
    omega
  · rw [if_neg e, W.2.2.1 i (by omega)]
    omega
theorem kI_ordv (W : TokW c v nt) (h : 14 ≤ c i ∧ c i ≤ 19) : kI c nt i = 305 + c i := by
  unfold kI
  rw [if_pos (c_lt W (by omega))]
  have := kT_r (W.2.1 i)
  omega
theorem nN_mono {j : Nat} (h : i ≤ j) : nN c i ≤ nN c j := by
  obtain ⟨m, rfl⟩ := Nat.le.dest h
  clear h
  induction m with
  | zero => exact Nat.le_refl _
  | succ m ih => rw [← Nat.add_assoc, nN]; omega
theorem nN_bd (W : TokW c v nt) (h : i ≤ nt) : nN c i ≤ 133 := Nat.le_trans (nN_mono h) W.2.2.2.2
end PRD
/-! states of the reader -/
/-- the tokens stand in the reader's rows -/
def TokR (c v : Nat → Int) (st : Nat → Int) (nt : Nat) (s : St) : Prop := gF s 62 4 = (nt : Int) + 1 ∧ ∀ i, i ≤ nt → (gA s 72).getD i 0 = kI c nt i ∧ (gA s 73).getD i 0 = st i ∧ (gA s 74).getD i 0 = v i ∧ 0 ≤ st i
def RdB (s0 s : St) : Prop := ShC s ∧ FrK [] [62, 63] [64, 65] s0 s ∧ gF s 62 4 = gF s0 62 4 ∧ gF s 62 9 = gF s0 62 9 ∧ gF s 63 3 = gF s0 63 3
def POk (c : Nat → Int) (nt : Nat) (s0 : St) (i l : Nat) (C : Cd) (s : St) : Prop := RdB s0 s ∧ i ≤ nt ∧ gF s 62 5 = i ∧ gF s 62 6 = kI c nt i ∧ gF s 62 7 = -1 ∧ gF s 62 8 = l ∧ gF s 63 2 = C.length ∧ seg s 64 65 0 C
def PFl (s0 : St) (f : Int) (s : St) : Prop := RdB s0 s ∧ gF s 62 6 = 259 ∧ gF s 62 7 = f ∧ (0 ≤ gF s 63 2 ∧ gF s 63 2 ≤ 256)
section RDS
variable {c v st : Nat → Int} {nt i l d : Nat} {s0 s : St} {C : Cd} {f : Int}
theorem RdB.ar (h : RdB s0 s) (p : Int) (hp : p ≠ 64 ∧ p ≠ 65) : gA s p = gA s0 p := h.2.1.2.2 p (by simp; omega)
theorem RdB.f62 {k : Nat} {x : Int} (h : RdB s0 s) (hk : k = 5 ∨ k = 6 ∨ k = 7 ∨ k = 8) : RdB s0 (sF s 62 k x) := by
  have k62 : kd s 62 = 9 := h.1.o62.1
  refine ⟨h.1.sF (by rw [k62]; rcases hk with rfl | rfl | rfl | rfl <;> decide), h.2.1.tr (FrK.sF (by decide)), (gF_nk (by omega)).trans h.2.2.1, (gF_nk (by omega)).trans h.2.2.2.1, (gF_np (by decide)).trans h.2.2.2.2⟩
theorem c_advO (W : TokW c v nt) (K : TokR c v st nt s0) (h : POk c nt s0 i l C s) (hi : i < nt) : ∃ s', X5_advance d s 62 = some ([], s') ∧ POk c nt s0 (i + 1) l C s' := by
  obtain ⟨r, h1, h2, h3, h4, h5, h6, h7⟩ := h
  have hs : ShC s := r.1
  have k62 : kd s 62 = 9 := r.1.o62.1
  have l72 : (gA s 72).length = 401 := r.1.2.1 72 (by decide) (by decide)
  have e4 : gF s 62 4 = (nt : Int) + 1 := r.2.2.1.trans K.1
  have n9 := kI_259 (i := i) W
  have w1 := W.1
  have a72 : (gA s 72).getD (i + 1) 0 = kI c nt (i + 1) := by rw [r.ar 72 (by decide)]; exact (K.2 (i + 1) (by omega)).1
  refine ⟨sF (sF s 62 5 ((i + 1 : Nat) : Int)) 62 6 (kI c nt (i + 1)), ?_, (r.f62 (by omega)).f62 (by omega), by omega, by rw [gF_nk (by decide), gF_eq], gF_eq _ _ _ _, by rw [gF_nk (by decide), gF_nk (by decide)]; exact h4, by rw [gF_nk (by decide), gF_nk (by decide)]; exact h5, by rw [gF_np (by decide), gF_np (by decide)]; exact h6, h7⟩
  rw [e_X5_advance]
  have t3 : ((i + 1 : Nat) : Int) < (nt : Int) + 1 := by omega
  have t4 : i < 2147483647 := by omega
  simp (disch := ((try simp only [kd_sF, kd_sA, gA_sF, gA_sA, gF_sF, gF_sA, List.length_set, reduceIte, and_true, and_false, true_and, false_and, Nat.reduceEqDiff, Int.reduceEq, hs.o62]); first | done | omega)) only [rF_ok, wF_ok, oK_ok, lA_ok, rA_ok, wA_ok, cI_ok, cV_ok, cL_ok, cR_ok, kd_sF, kd_sA, gA_sF, gF_sA, gF_sF, gA_sA, bk_0, bk_1, List.length_set, reduceIte, and_true, and_false, true_and, false_and, ne_eq, not_true_eq_false, not_false_eq_true, Int.toNat_natCast, Int.reduceToNat, Nat.reduceEqDiff, Int.reduceEq, Int.reduceLT, Int.reduceLE, Int.reduceAdd, Int.reduceSub, Int.reduceMul, Int.reduceNeg, hs.o62, h2, e4, wi_sc t4, if_pos t3, h3, if_neg n9, a72]
theorem c_failO (K : TokR c v st nt s0) (h : POk c nt s0 i l C s) (hw : nt ≤ 400) (hC : C.length ≤ 256) : ∃ s', X5_fail d s 62 = some ([], s') ∧ PFl s0 (st i) s' := by
  obtain ⟨r, h1, h2, h3, h4, h5, h6, h7⟩ := h
  have hs : ShC s := r.1
  have k62 : kd s 62 = 9 := r.1.o62.1
  have l73 : (gA s 73).length = 401 := r.1.2.1 73 (by decide) (by decide)
  have a73 : (gA s 73).getD i 0 = st i := by rw [r.ar 73 (by decide)]; exact (K.2 i h1).2.1
  refine ⟨sF (sF s 62 7 (st i)) 62 6 259, ?_, (r.f62 (by omega)).f62 (by omega), gF_eq _ _ _ _, by rw [gF_nk (by decide), gF_eq], ?_⟩
  · rw [e_X5_fail]
    simp (disch := ((try simp only [kd_sF, kd_sA, gA_sF, gA_sA, gF_sF, gF_sA, List.length_set, reduceIte, and_true, and_false, true_and, false_and, Nat.reduceEqDiff, Int.reduceEq, hs.o62]); first | done | omega)) only [rF_ok, wF_ok, oK_ok, lA_ok, rA_ok, wA_ok, cI_ok, cV_ok, cL_ok, cR_ok, kd_sF, kd_sA, gA_sF, gF_sA, gF_sF, gA_sA, bk_0, bk_1, List.length_set, reduceIte, and_true, and_false, true_and, false_and, ne_eq, not_true_eq_false, not_false_eq_true, Int.toNat_natCast, Int.reduceToNat, Nat.reduceEqDiff, Int.reduceEq, Int.reduceLT, Int.reduceLE, Int.reduceAdd, Int.reduceSub, Int.reduceMul, Int.reduceNeg, hs.o62, h2, h4, a73]
  · rw [gF_np (by decide), gF_np (by decide), h6]; omega
theorem c_advF (h : PFl s0 f s) : X5_advance d s 62 = some ([], s) := by
  obtain ⟨r, h1, h2, h3⟩ := h
  have hs : ShC s := r.1
  rw [e_X5_advance]
  simp (disch := ((try simp only [kd_sF, kd_sA, gA_sF, gA_sA, gF_sF, gF_sA, List.length_set, reduceIte, and_true, and_false, true_and, false_and, Nat.reduceEqDiff, Int.reduceEq, hs.o62]); first | done | omega)) only [rF_ok, wF_ok, oK_ok, lA_ok, rA_ok, wA_ok, cI_ok, cV_ok, cL_ok, cR_ok, kd_sF, kd_sA, gA_sF, gF_sA, gF_sF, gA_sA, bk_0, bk_1, List.length_set, reduceIte, and_true, and_false, true_and, false_and, ne_eq, not_true_eq_false, not_false_eq_true, Int.toNat_natCast, Int.reduceToNat, Nat.reduceEqDiff, Int.reduceEq, Int.reduceLT, Int.reduceLE, Int.reduceAdd, Int.reduceSub, Int.reduceMul, Int.reduceNeg, hs.o62, h1]
  split <;> rfl
theorem c_failF (h : PFl s0 f s) (hf : f ≠ -1) : X5_fail d s 62 = some ([], s) := by
  obtain ⟨r, h1, h2, h3⟩ := h
  have hs : ShC s := r.1
  rw [e_X5_fail]
  simp (disch := ((try simp only [kd_sF, kd_sA, gA_sF, gA_sA, gF_sF, gF_sA, List.length_set, reduceIte, and_true, and_false, true_and, false_and, Nat.reduceEqDiff, Int.reduceEq, hs.o62]); first | done | omega)) only [rF_ok, wF_ok, oK_ok, lA_ok, rA_ok, wA_ok, cI_ok, cV_ok, cL_ok, cR_ok, kd_sF, kd_sA, gA_sF, gF_sA, gF_sF, gA_sA, bk_0, bk_1, List.length_set, reduceIte, and_true, and_false, true_and, false_and, ne_eq, not_true_eq_false, not_false_eq_true, Int.toNat_natCast, Int.reduceToNat, Nat.reduceEqDiff, Int.reduceEq, Int.reduceLT, Int.reduceLE, Int.reduceAdd, Int.reduceSub, Int.reduceMul, Int.reduceNeg, hs.o62, h2, if_neg hf]
theorem RdB.wA {p : Int} {x : List Int} (h : RdB s0 s) (hp : p = 64 ∨ p = 65) (hl : x.length = (gA s p).length) : RdB s0 (sA s p x) := by
  have k64 : kd s p = 20 := by rcases hp with rfl | rfl; exact h.1.1 64 (by decide) (by decide); exact h.1.1 65 (by decide) (by decide)
  exact ⟨h.1.sA hl (by rw [k64]; decide), h.2.1.tr (FrK.sA _ (by rcases hp with rfl | rfl <;> decide)), h.2.2.1, h.2.2.2.1, h.2.2.2.2⟩
theorem RdB.f63 {x : Int} (h : RdB s0 s) : RdB s0 (sF s 63 2 x) := by
  have k63 : kd s 63 = 11 := h.1.o63.1
  exact ⟨h.1.sF (by rw [k63]; decide), h.2.1.tr (FrK.sF (by decide)), (gF_np (by decide)).trans h.2.2.1, (gF_np (by decide)).trans h.2.2.2.1, (gF_nk (by decide)).trans h.2.2.2.2⟩
theorem c_emitO {op ar : Int} (h : POk c nt s0 i l C s) (hC : C.length < 256) : ∃ s', X7_emit d s 63 op ar = some ([(0, (C.length : Int))], s') ∧ POk c nt s0 i l (C ++ [(op, ar)]) s' := by
  obtain ⟨r, h1, h2, h3, h4, h5, h6, h7⟩ := h
  have hs : ShC s := r.1
  have l64 : (gA s 64).length = 256 := r.1.2.1 64 (by decide) (by decide)
  have l65 : (gA s 65).length = 256 := r.1.2.1 65 (by decide) (by decide)
  refine ⟨sF (sA (sA s 64 ((gA s 64).set C.length op)) 65 ((gA s 65).set C.length ar)) 63 2 ((C.length : Int) + 1), ?_, ((r.wA (Or.inl rfl) (by rw [List.length_set])).wA (Or.inr rfl) (by rw [List.length_set, gA_ne (by decide)])).f63, h1, ?_, ?_, ?_, ?_, ?_, ?_, fun j hj => ?_⟩
  · rw [e_X7_emit]
    simp (disch := ((try simp only [kd_sF, kd_sA, gA_sF, gA_sA, gF_sF, gF_sA, List.length_set, reduceIte, and_true, and_false, true_and, false_and, Nat.reduceEqDiff, Int.reduceEq, hs.o63]); first | done | omega)) only [rF_ok, wF_ok, oK_ok, lA_ok, rA_ok, wA_ok, cI_ok, cV_ok, cL_ok, cR_ok, kd_sF, kd_sA, gA_sF, gF_sA, gF_sF, gA_sA, bk_0, bk_1, List.length_set, reduceIte, and_true, and_false, true_and, false_and, ne_eq, not_true_eq_false, not_false_eq_true, Int.toNat_natCast, Int.reduceToNat, Nat.reduceEqDiff, Int.reduceEq, Int.reduceLT, Int.reduceLE, Int.reduceAdd, Int.reduceSub, Int.reduceMul, Int.reduceNeg, hs.o63, h6, if_pos (show (C.length : Int) < ((256 : Nat) : Int) by omega), wi_sm]
    rw [show (C.length : Int) + 1 - 1 = C.length by omega]
  · rw [gF_np (by decide), gF_sA, gF_sA]; exact h2
  · rw [gF_np (by decide), gF_sA, gF_sA]; exact h3
  · rw [gF_np (by decide), gF_sA, gF_sA]; exact h4
  · rw [gF_np (by decide), gF_sA, gF_sA]; exact h5
  · rw [gF_eq, List.length_append]; rfl
  · rw [gA_sF, gA_ne (by decide), gA_eq, List.length_set, List.length_append, l64]; simp; omega
  · rw [List.length_append] at hj
    simp only [List.length_cons, List.length_nil] at hj
    simp only [gA_sF, gA_sA, Int.reduceEq, reduceIte]
    rw [setD_getD (by omega), setD_getD (by omega)]
    by_cases e : C.length = j
    · rw [if_pos (by omega), if_pos (by omega), ← e, gdApp2]; exact ⟨rfl, rfl⟩
    · rw [if_neg (by omega), if_neg (by omega), gdApp (by omega)]
      exact h7.2 j (by omega)
theorem c_emitF {op ar : Int} (h : PFl s0 f s) : ∃ x s', X7_emit d s 63 op ar = some ([(0, x)], s') ∧ PFl s0 f s' := by
  obtain ⟨r, h1, h2, h3, h4⟩ := h
  have hs : ShC s := r.1
  have l64 : (gA s 64).length = 256 := r.1.2.1 64 (by decide) (by decide)
  have l65 : (gA s 65).length = 256 := r.1.2.1 65 (by decide) (by decide)
  obtain ⟨z, hz⟩ : ∃ z, gF s 63 2 = z := ⟨_, rfl⟩
  rw [hz] at h3 h4
  by_cases e : z < 256
  · refine ⟨z, sF (sA (sA s 64 ((gA s 64).set z.toNat op)) 65 ((gA s 65).set z.toNat ar)) 63 2 (z + 1), ?_, ((r.wA (Or.inl rfl) (by rw [List.length_set])).wA (Or.inr rfl) (by rw [List.length_set, gA_ne (by decide)])).f63, ?_, ?_, ?_⟩
    · rw [e_X7_emit]
      simp (disch := ((try simp only [kd_sF, kd_sA, gA_sF, gA_sA, gF_sF, gF_sA, List.length_set, reduceIte, and_true, and_false, true_and, false_and, Nat.reduceEqDiff, Int.reduceEq, hs.o63]); first | done | omega)) only [rF_ok, wF_ok, oK_ok, lA_ok, rA_ok, wA_ok, cI_ok, cV_ok, cL_ok, cR_ok, kd_sF, kd_sA, gA_sF, gF_sA, gF_sF, gA_sA, bk_0, bk_1, List.length_set, reduceIte, and_true, and_false, true_and, false_and, ne_eq, not_true_eq_false, not_false_eq_true, Int.toNat_natCast, Int.reduceToNat, Nat.reduceEqDiff, Int.reduceEq, Int.reduceLT, Int.reduceLE, Int.reduceAdd, Int.reduceSub, Int.reduceMul, Int.reduceNeg, hs.o63, hz, if_pos (show z < ((256 : Nat) : Int) from e), wi_sm]
      rw [show z + 1 - 1 = z by omega]
    · rw [gF_np (by decide), gF_sA, gF_sA]; exact h1
    · rw [gF_np (by decide), gF_sA, gF_sA]; exact h2
    · rw [gF_eq]; omega
  · refine ⟨z - 1, s, ?_, r, h1, h2, by rw [hz]; omega⟩
    rw [e_X7_emit]
    simp (disch := ((try simp only [kd_sF, kd_sA, gA_sF, gA_sA, gF_sF, gF_sA, List.length_set, reduceIte, and_true, and_false, true_and, false_and, Nat.reduceEqDiff, Int.reduceEq, hs.o63]); first | done | omega)) only [rF_ok, wF_ok, oK_ok, lA_ok, rA_ok, wA_ok, cI_ok, cV_ok, cL_ok, cR_ok, kd_sF, kd_sA, gA_sF, gF_sA, gF_sF, gA_sA, bk_0, bk_1, List.length_set, reduceIte, and_true, and_false, true_and, false_and, ne_eq, not_true_eq_false, not_false_eq_true, Int.toNat_natCast, Int.reduceToNat, Nat.reduceEqDiff, Int.reduceEq, Int.reduceLT, Int.reduceLE, Int.reduceAdd, Int.reduceSub, Int.reduceMul, Int.reduceNeg, hs.o63, hz, if_neg (show ¬ (z < ((256 : Nat) : Int)) from e), wi_sm]
theorem c_closeN (s : St) : X7_closeSkip d s 63 (-1) = some ([], s) := by rw [e_X7_closeSkip, if_pos (by decide)]
theorem c_closeF {z : Int} (h : PFl s0 f s) : ∃ s', X7_closeSkip d s 63 z = some ([], s') ∧ PFl s0 f s' := by
  obtain ⟨r, h1, h2, h3, h4⟩ := h
  have hs : ShC s := r.1
  have l65 : (gA s 65).length = 256 := r.1.2.1 65 (by decide) (by decide)
  rw [e_X7_closeSkip]
  by_cases e : z < 0
  · rw [if_pos e]; exact ⟨s, rfl, r, h1, h2, h3, h4⟩
  rw [if_neg e]
  by_cases e2 : z < gF s 63 2
  · refine ⟨sA s 65 ((gA s 65).set z.toNat (wi (wi (gF s 63 2 - z) - 1))), ?_, r.wA (Or.inr rfl) (by rw [List.length_set]), h1, h2, h3, h4⟩
    simp (disch := ((try simp only [kd_sF, kd_sA, gA_sF, gA_sA, gF_sF, gF_sA, List.length_set, reduceIte, and_true, and_false, true_and, false_and, Nat.reduceEqDiff, Int.reduceEq, hs.o63]); first | done | omega)) only [rF_ok, wF_ok, oK_ok, lA_ok, rA_ok, wA_ok, cI_ok, cV_ok, cL_ok, cR_ok, kd_sF, kd_sA, gA_sF, gF_sA, gF_sF, gA_sA, bk_0, bk_1, List.length_set, reduceIte, and_true, and_false, true_and, false_and, ne_eq, not_true_eq_false, not_false_eq_true, Int.toNat_natCast, Int.reduceToNat, Nat.reduceEqDiff, Int.reduceEq, Int.reduceLT, Int.reduceLE, Int.reduceAdd, Int.reduceSub, Int.reduceMul, Int.reduceNeg, hs.o63, if_pos e2]
  · refine ⟨s, ?_, r, h1, h2, h3, h4⟩
    simp (disch := ((try simp only [kd_sF, kd_sA, gA_sF, gA_sA, gF_sF, gF_sA, List.length_set, reduceIte, and_true, and_false, true_and, false_and, Nat.reduceEqDiff, Int.reduceEq, hs.o63]); first | done | omega)) only [rF_ok, wF_ok, oK_ok, lA_ok, rA_ok, wA_ok, cI_ok, cV_ok, cL_ok, cR_ok, kd_sF, kd_sA, gA_sF, gF_sA, gF_sF, gA_sA, bk_0, bk_1, List.length_set, reduceIte, and_true, and_false, true_and, false_and, ne_eq, not_true_eq_false, not_false_eq_true, Int.toNat_natCast, Int.reduceToNat, Nat.reduceEqDiff, Int.reduceEq, Int.reduceLT, Int.reduceLE, Int.reduceAdd, Int.reduceSub, Int.reduceMul, Int.reduceNeg, hs.o63, if_neg e2]
theorem c_closeO {A B : Cd} {op : Int} (h : POk c nt s0 i l (A ++ [(op, 0)] ++ B) s) : ∃ s', X7_closeSkip d s 63 (A.length : Int) = some ([], s') ∧ POk c nt s0 i l (A ++ [(op, (B.length : Int))] ++ B) s' := by
  obtain ⟨r, h1, h2, h3, h4, h5, h6, h7⟩ := h
  have hs : ShC s := r.1
  have l64 : (gA s 64).length = 256 := r.1.2.1 64 (by decide) (by decide)
  have l65 : (gA s 65).length = 256 := r.1.2.1 65 (by decide) (by decide)
  have hlen : (A ++ [(op, (0 : Int))] ++ B).length = A.length + 1 + B.length := by simp; omega
  have hlen2 : (A ++ [(op, (B.length : Int))] ++ B).length = A.length + 1 + B.length := by simp; omega
  have hb := h7.1
  rw [hlen] at h6 hb
  rw [l64] at hb
  refine ⟨sA s 65 ((gA s 65).set A.length (B.length : Int)), ?_, r.wA (Or.inr rfl) (by rw [List.length_set]), h1, h2, h3, h4, h5, by rw [hlen2]; exact h6, by rw [hlen2, gA_ne (by decide), l64]; omega, fun j hj => ?_⟩
  · rw [e_X7_closeSkip, if_neg (by omega)]
    simp (disch := ((try simp only [kd_sF, kd_sA, gA_sF, gA_sA, gF_sF, gF_sA, List.length_set, reduceIte, and_true, and_false, true_and, false_and, Nat.reduceEqDiff, Int.reduceEq, hs.o63]); first | done | omega)) only [rF_ok, wF_ok, oK_ok, lA_ok, rA_ok, wA_ok, cI_ok, cV_ok, cL_ok, cR_ok, kd_sF, kd_sA, gA_sF, gF_sA, gF_sF, gA_sA, bk_0, bk_1, List.length_set, reduceIte, and_true, and_false, true_and, false_and, ne_eq, not_true_eq_false, not_false_eq_true, Int.toNat_natCast, Int.reduceToNat, Nat.reduceEqDiff, Int.reduceEq, Int.reduceLT, Int.reduceLE, Int.reduceAdd, Int.reduceSub, Int.reduceMul, Int.reduceNeg, hs.o63, h6, if_pos (show (A.length : Int) < ((A.length + 1 + B.length : Nat) : Int) by omega), wi_sm]
    rw [show ((A.length + 1 + B.length : Nat) : Int) - (A.length : Int) - 1 = (B.length : Int) by omega]
  · rw [hlen2] at hj
    have := h7.2 j (by rw [hlen]; exact hj)
    rw [gA_ne (by decide), gA_eq, setD_getD (by omega)]
    by_cases e : j < A.length
    · rw [if_neg (by omega), List.append_assoc, gd_l e]
      rw [List.append_assoc, gd_l e] at this
      exact this
    · obtain ⟨q, rfl⟩ : ∃ q, j = A.length + q := ⟨j - A.length, by omega⟩
      rw [List.append_assoc, gd_r] at this ⊢
      by_cases e2 : q = 0
      · subst e2
        rw [if_pos (by omega)]
        exact ⟨this.1, rfl⟩
      · obtain ⟨z, rfl⟩ : ∃ z, q = z + 1 := ⟨q - 1, by omega⟩
        rw [if_neg (by omega)]
        exact this
end RDS
