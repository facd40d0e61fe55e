/-! ===== the class: a drawer is copied ===== -/
theorem cpL_all {f g : List Int} {n : Nat} (hf : f.length = n) (hg : g.length = n) : cpL f 0 g 0 n = f := by
  unfold cpL
  rw [List.take_zero, List.drop_zero, Nat.zero_add, List.nil_append, List.take_of_length_le (by omega), List.drop_eq_nil_of_le (by omega), List.append_nil]
/-- only cells of the drawer at D have changed -/
def CpF (D : Int) (s s' : St) : Prop := (∀ p, kd s' p = kd s p) ∧ ∀ p, ¬ (D ≤ p ∧ p ≤ D + 26) → (∀ k, gF s' p k = gF s p k) ∧ gA s' p = gA s p
section CCP
variable {s s' s'' : St} {D E : Int} {d : Nat} {dr : Dr}
theorem CpF.rf (D : Int) (s : St) : CpF D s s := ⟨fun _ => rfl, fun _ _ => ⟨fun _ => rfl, rfl⟩⟩
theorem CpF.tr (h : CpF D s s') (g : CpF D s' s'') : CpF D s s'' := ⟨fun p => (g.1 p).trans (h.1 p), fun p hp => ⟨fun k => ((g.2 p hp).1 k).trans ((h.2 p hp).1 k), (g.2 p hp).2.trans (h.2 p hp).2⟩⟩
theorem CpF.sF {p : Int} {k : Nat} {v : Int} (h : D ≤ p ∧ p ≤ D + 26) : CpF D s (sF s p k v) := ⟨fun _ => rfl, fun q hq => ⟨fun j => gF_np (fun e => hq (e ▸ h)), rfl⟩⟩
theorem CpF.sA {p : Int} {l : List Int} (h : D ≤ p ∧ p ≤ D + 26) : CpF D s (sA s p l) := ⟨fun _ => rfl, fun q hq => ⟨fun _ => rfl, gA_ne (fun e => hq (e ▸ h))⟩⟩
theorem ShD.wF {k : Nat} {v : Int} (h : ShD s D) (hk : k = 1 ∨ k = 3 ∨ k = 6 ∨ k = 9 ∨ k = 10) : ShD (sF s D k v) D := by
  refine h.fr (fun _ _ _ => rfl) (fun p j h1 h2 h3 => ?_) rfl (fun _ _ _ => rfl)
  by_cases e : p = D
  · exact gF_nk (by omega)
  · exact gF_np e
theorem ShD.wA {p : Int} {l : List Int} (h : ShD s D) (hp : p ≠ D + 1) (hl : l.length = (gA s p).length) : ShD (sA s p l) D := by
  refine h.fr (fun _ _ _ => rfl) (fun _ _ _ _ _ => rfl) (gA_ne (fun e => hp e.symm)) (fun q _ _ => ?_)
  by_cases e : q = p
  · rw [e, gA_eq, hl]
  · rw [gA_ne e]
theorem ShD.wK {p : Int} {k : Nat} {v : Int} (h : ShD s D) (hp : D + 11 ≤ p) (hk : k < 5) : ShD (sF s p k v) D := by
  refine h.fr (fun _ _ _ => rfl) (fun q j h1 h2 h3 => ?_) rfl (fun _ _ _ => rfl)
  by_cases e : q = p
  · exact gF_nk (by omega)
  · exact gF_np e
theorem ShD.wL {v : Int} (h : ShD s D) : ShD (sF s (D + 7) 0 v) D := by
  refine h.fr (fun _ _ _ => rfl) (fun q j h1 h2 h3 => ?_) rfl (fun _ _ _ => rfl)
  by_cases e : q = D + 7
  · exact gF_nk (by omega)
  · exact gF_np e
theorem ShD.kn (h : ShD s D) {i : Nat} (hi : i < 8) : kd s (D + 11 + 2 * (i : Int)) = 7 ∧ gF s (D + 11 + 2 * (i : Int)) 5 = D + 11 + 2 * (i : Int) + 1 ∧ kd s (D + 11 + 2 * (i : Int) + 1) = 20 ∧ (gA s (D + 11 + 2 * (i : Int) + 1)).length = 12 := by
  have h := h.2.2.2.2.2.2.2.2.2.2 (i : Int) (by omega) (by omega)
  rw [show D + 11 + 2 * (i : Int) + 1 = D + 12 + 2 * (i : Int) by omega]
  exact h
theorem ShD.at1 (h : ShD s D) {i : Nat} (hi : i < 8) : (gA s (D + 1)).getD i 0 = D + 11 + 2 * (i : Int) ∧ (gA s (D + 1)).length = 8 := by
  rw [h.2.2.1.2]
  refine ⟨?_, rfl⟩
  have : i = 0 ∨ i = 1 ∨ i = 2 ∨ i = 3 ∨ i = 4 ∨ i = 5 ∨ i = 6 ∨ i = 7 := by omega
  rcases this with rfl | rfl | rfl | rfl | rfl | rfl | rfl | rfl <;> (show D + _ = _; omega)
theorem c_knCopy {P Q : Int} {k : Kn} (hP : kd s P = 7 ∧ gF s P 5 = P + 1 ∧ kd s (P + 1) = 20 ∧ (gA s (P + 1)).length = 12) (K : KnC s Q k) (wk : wfKn k) (hne : P ≠ Q) : ∃ s', X3_copyFrom d s P Q = some ([], s') ∧ s' = sA (sF (sF (sF (sF (sF s P 0 k.1) P 1 k.2.1) P 2 k.2.2.1) P 3 (kLen k)) P 4 k.2.2.2.1) (P + 1) (gA s (Q + 1)) ∧ KnC s' P k := by
  obtain ⟨p1, p2, p3, p4⟩ := hP
  obtain ⟨⟨k1, k2, k3, k4⟩, g0, g1, g2, g3, g4, g5⟩ := K
  have nq : ¬ (Q = P) := fun e => hne e.symm
  have bk1 : ∀ r : Res, bk k.2.2.2.1 r = r := fun r => bk_b wk.2.2.2.1
  refine ⟨_, ?_, rfl, ⟨⟨p1, ?_, p3, ?_⟩, ?_, ?_, ?_, ?_, ?_, fun j hj => ?_⟩⟩
  · rw [e_X3_copyFrom]
    simp (disch := ((try simp only [kd_sF, kd_sA, gA_sF, gA_sA, gF_sF, gF_sA, List.length_set, reduceIte, and_true, and_false, true_and, false_and, Nat.reduceEqDiff, Int.reduceEq, p1, p2, p3, p4, k1, k2, k3, k4, nq]); first | done | omega)) only [rF_ok, wF_ok, aC_ok, kd_sF, kd_sA, gA_sF, gF_sA, gF_sF, gA_sA, reduceIte, and_true, and_false, true_and, false_and, Int.reduceToNat, Nat.reduceEqDiff, Int.reduceEq, Int.reduceLT, Int.reduceLE, Int.reduceAdd, p1, p2, p3, p4, k1, k2, k3, k4, g0, g1, g2, g3, g4, nq, bk1]
    rw [cpL_all k4 p4]
  · rw [gF_sA, gF_nk (by decide), gF_nk (by decide), gF_nk (by decide), gF_nk (by decide), gF_nk (by decide)]; exact p2
  · rw [gA_eq]; exact k4
  · rw [gF_sA, gF_nk (by decide), gF_nk (by decide), gF_nk (by decide), gF_nk (by decide), gF_eq]
  · rw [gF_sA, gF_nk (by decide), gF_nk (by decide), gF_nk (by decide), gF_eq]
  · rw [gF_sA, gF_nk (by decide), gF_nk (by decide), gF_eq]
  · rw [gF_sA, gF_nk (by decide), gF_eq]
  · rw [gF_sA, gF_eq]
  · unfold af; rw [gA_eq]; exact g5 j hj
theorem c_cp10 {T : Res → Prop} (hS : ShD s D) (R : DrC s E dr) (W : wfDr dr) (hne : D + 26 < E ∨ E + 26 < D) (hc : gF s D 1 = dr.1.length) (hT : ∀ s1, CpF D s s1 → ShD s1 D → (∀ k, gF s1 D k = gF s D k) → (∀ j, j < dr.1.length → KnC s1 (D + 11 + 2 * (j : Int)) (dr.1.getD j k0)) → Gl T (X0_copyFrom_10 (d + 1) s1 D E dr.1.length)) : Gl T (X0_copyFrom_10 (d + 1) s D E 0) := by
  have h8 := W.1.1
  refine lpG (fun i s1 => X0_copyFrom_10 (d + 1) s1 D E i) (fun i s1 => CpF D s s1 ∧ ShD s1 D ∧ (∀ k, gF s1 D k = gF s D k) ∧ ∀ j, j < i → KnC s1 (D + 11 + 2 * (j : Int)) (dr.1.getD j k0)) dr.1.length ?_ ?_ 0 s (by omega) ⟨CpF.rf _ _, hS, fun _ => rfl, fun j hj => by omega⟩
  · intro T i s1 hi ⟨i1, i2, i3, i4⟩ hT1
    obtain ⟨a1, a2⟩ := i2.at1 (i := i) (by omega)
    obtain ⟨b1, b2⟩ := R.1.at1 (i := i) (by omega)
    have eE : ∀ p, E ≤ p → p ≤ E + 26 → (∀ k, gF s1 p k = gF s p k) ∧ gA s1 p = gA s p := fun p h1 h2 => i1.2 p (by omega)
    have kD : kd s1 D = 4 := i2.1
    have kE : kd s1 E = 4 := (i1.1 E).trans R.1.1
    have kE1 : kd s1 (E + 1) = 24 := (i1.1 _).trans R.1.2.2.1.1
    have kD1 : kd s1 (D + 1) = 24 := i2.2.2.1.1
    have f0 : gF s1 D 0 = D + 1 := i2.2.1.1
    have fE0 : gF s1 E 0 = E + 1 := ((eE E (by omega) (by omega)).1 0).trans R.1.2.1.1
    rw [← (eE (E + 1) (by omega) (by omega)).2] at b1 b2
    have f1 : gF s1 D 1 = dr.1.length := (i3 1).trans hc
    have KE : KnC s1 (E + 11 + 2 * (i : Int)) (dr.1.getD i k0) := (R.2.1.2 i hi).fr ⟨i1.1 _, i1.1 _⟩ (fun j _ => (eE _ (by omega) (by omega)).1 j) (eE _ (by omega) (by omega)).2
    have wk := W.1.2 _ (gdMem (a := k0) hi)
    have sP := i2.kn (i := i) (by omega)
    obtain ⟨p, hp⟩ : ∃ p : Int, p = D + 11 + 2 * (i : Int) := ⟨_, rfl⟩
    obtain ⟨q, hq⟩ : ∃ q : Int, q = E + 11 + 2 * (i : Int) := ⟨_, rfl⟩
    rw [← hp] at sP a1
    rw [← hq] at KE b1
    obtain ⟨s2, e1, e2, e3⟩ := c_knCopy (d := d) sP KE wk (by omega)
    have kp := sP.1
    rw [e_X0_copyFrom_10]
    simp (disch := ((try simp only [kd_sF, kd_sA, gA_sF, gA_sA, gF_sF, gF_sA, List.length_set, reduceIte, and_true, and_false, true_and, false_and, Nat.reduceEqDiff, Int.reduceEq, kD, kE, kE1, kD1, f0, fE0, a2, b2, kp]); first | done | omega)) only [rF_ok, wF_ok, oK_ok, lA_ok, rA_ok, wA_ok, cI_ok, cV_ok, cL_ok, cR_ok, kd_sF, kd_sA, gA_sF, gF_sA, gF_sF, gA_sA, bk_0, bk_1, List.length_set, reduceIte, and_true, and_false, true_and, false_and, ne_eq, not_true_eq_false, not_false_eq_true, Int.toNat_natCast, Int.reduceToNat, Nat.reduceEqDiff, Int.reduceEq, Int.reduceLT, Int.reduceLE, Int.reduceAdd, Int.reduceSub, Int.reduceMul, Int.reduceNeg, kD, kE, kE1, kD1, f0, fE0, a2, b2, kp, f1, Int.ofNat_lt, hi, a1, b1, e1, wi_sm]
    have C2 : CpF D s1 s2 := by
      rw [e2]
      exact ((((((CpF.sF (by omega)).tr (CpF.sF (by omega))).tr (CpF.sF (by omega))).tr (CpF.sF (by omega))).tr (CpF.sF (by omega))).tr (CpF.sA (by omega)))
    have S2 : ShD s2 D := by
      rw [e2]
      exact (((((i2.wK (by omega) (by decide)).wK (by omega) (by decide)).wK (by omega) (by decide)).wK (by omega) (by decide)).wK (by omega) (by decide)).wA (by omega) (by rw [KE.1.2.2.2]; exact sP.2.2.2.symm)
    have o2 : ∀ x k, x ≠ p → gF s2 x k = gF s1 x k := fun x k h => by rw [e2, gF_sA, gF_np h, gF_np h, gF_np h, gF_np h, gF_np h]
    refine hT1 s2 ⟨i1.tr C2, S2, fun k => (o2 D k (by omega)).trans (i3 k), fun j hj => ?_⟩
    by_cases e : j = i
    · rw [e, ← hp]; exact e3
    · exact (i4 j (by omega)).fr ⟨C2.1 _, C2.1 _⟩ (fun l _ => o2 _ l (by omega)) (by rw [e2, gA_ne (by omega)]; rfl)
  · intro s1 ⟨i1, i2, i3, i4⟩
    exact hT s1 i1 i2 i3 i4
end CCP
