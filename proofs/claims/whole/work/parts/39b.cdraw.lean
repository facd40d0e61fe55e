/-! ===== the class: drawers, knots, laws as plain values; what is asked of knots ===== -/
def ShD (s : St) (D : Int) : Prop := kd s D = 4 ∧ (gF s D 0 = D + 1 ∧ gF s D 2 = D + 2 ∧ gF s D 4 = D + 3 ∧ gF s D 5 = D + 4 ∧ gF s D 7 = D + 5 ∧ gF s D 8 = D + 6 ∧ gF s D 11 = D + 7) ∧ (kd s (D + 1) = 24 ∧ gA s (D + 1) = kRow D) ∧ (kd s (D + 2) = 20 ∧ (gA s (D + 2)).length = 6) ∧ (kd s (D + 3) = 20 ∧ (gA s (D + 3)).length = 12) ∧ (kd s (D + 4) = 20 ∧ (gA s (D + 4)).length = 12) ∧ (kd s (D + 5) = 20 ∧ (gA s (D + 5)).length = 3) ∧ (kd s (D + 6) = 26 ∧ (gA s (D + 6)).length = 6) ∧ (kd s (D + 7) = 13 ∧ gF s (D + 7) 1 = D + 8 ∧ gF s (D + 7) 2 = D + 9 ∧ gF s (D + 7) 3 = D + 10) ∧ (∀ i : Int, 8 ≤ i → i ≤ 10 → kd s (D + i) = 20 ∧ (gA s (D + i)).length = 16) ∧ ∀ i : Int, 0 ≤ i → i < 8 → kd s (D + 11 + 2 * i) = 7 ∧ gF s (D + 11 + 2 * i) 5 = D + 12 + 2 * i ∧ kd s (D + 12 + 2 * i) = 20 ∧ (gA s (D + 12 + 2 * i)).length = 12
theorem ShC.d3 {s : St} (h : ShC s) : ShD s 3 := by
  obtain ⟨h1, h2, h3, h4, h5⟩ := h
  have k := fun p a b => h1 p a b
  have l := fun p a b => h2 p a b
  have f := fun q hq => h3 q hq
  refine ⟨k 3 (by decide) (by decide), ⟨f (3, 0, 4) (by decide), f (3, 2, 5) (by decide), f (3, 4, 6) (by decide), f (3, 5, 7) (by decide), f (3, 7, 8) (by decide), f (3, 8, 9) (by decide), f (3, 11, 10) (by decide)⟩, ⟨k 4 (by decide) (by decide), h4.1⟩, ⟨k 5 (by decide) (by decide), l 5 (by decide) (by decide)⟩, ⟨k 6 (by decide) (by decide), l 6 (by decide) (by decide)⟩, ⟨k 7 (by decide) (by decide), l 7 (by decide) (by decide)⟩, ⟨k 8 (by decide) (by decide), l 8 (by decide) (by decide)⟩, ⟨k 9 (by decide) (by decide), l 9 (by decide) (by decide)⟩, ⟨k 10 (by decide) (by decide), f (10, 1, 11) (by decide), f (10, 2, 12) (by decide), f (10, 3, 13) (by decide)⟩, fun i i1 i2 => ?_, fun i i1 i2 => ?_⟩
  · have : i = 8 ∨ i = 9 ∨ i = 10 := by omega
    rcases this with rfl | rfl | rfl
    · exact ⟨k 11 (by decide) (by decide), l 11 (by decide) (by decide)⟩
    · exact ⟨k 12 (by decide) (by decide), l 12 (by decide) (by decide)⟩
    · exact ⟨k 13 (by decide) (by decide), l 13 (by decide) (by decide)⟩
  · have : i = 0 ∨ i = 1 ∨ i = 2 ∨ i = 3 ∨ i = 4 ∨ i = 5 ∨ i = 6 ∨ i = 7 := by omega
    rcases this with rfl | rfl | rfl | rfl | rfl | rfl | rfl | rfl
    · exact ⟨k 14 (by decide) (by decide), f (14, 5, 15) (by decide), k 15 (by decide) (by decide), l 15 (by decide) (by decide)⟩
    · exact ⟨k 16 (by decide) (by decide), f (16, 5, 17) (by decide), k 17 (by decide) (by decide), l 17 (by decide) (by decide)⟩
    · exact ⟨k 18 (by decide) (by decide), f (18, 5, 19) (by decide), k 19 (by decide) (by decide), l 19 (by decide) (by decide)⟩
    · exact ⟨k 20 (by decide) (by decide), f (20, 5, 21) (by decide), k 21 (by decide) (by decide), l 21 (by decide) (by decide)⟩
    · exact ⟨k 22 (by decide) (by decide), f (22, 5, 23) (by decide), k 23 (by decide) (by decide), l 23 (by decide) (by decide)⟩
    · exact ⟨k 24 (by decide) (by decide), f (24, 5, 25) (by decide), k 25 (by decide) (by decide), l 25 (by decide) (by decide)⟩
    · exact ⟨k 26 (by decide) (by decide), f (26, 5, 27) (by decide), k 27 (by decide) (by decide), l 27 (by decide) (by decide)⟩
    · exact ⟨k 28 (by decide) (by decide), f (28, 5, 29) (by decide), k 29 (by decide) (by decide), l 29 (by decide) (by decide)⟩
/-- a knot object at p -/
def KnC (s : St) (p : Int) (k : Kn) : Prop := (kd s p = 7 ∧ gF s p 5 = p + 1 ∧ kd s (p + 1) = 20 ∧ (gA s (p + 1)).length = 12) ∧ gF s p 0 = k.1 ∧ gF s p 1 = k.2.1 ∧ gF s p 2 = k.2.2.1 ∧ gF s p 3 = kLen k ∧ gF s p 4 = k.2.2.2.1 ∧ ∀ j, j < kLen k → af s (p + 1) j = pF k j
/-- a law in force: none, or a script that was read from a text -/
def LwP (s : St) (p : Int) (cls : List Cl) : Prop := (p = 0 ∧ cls = []) ∨ (98 ≤ p ∧ ScR s p cls ∧ ∃ T, wfLw T ∧ cls = clsT T)
def DrC (s : St) (D : Int) (dr : Dr) : Prop := ShD s D ∧ (gF s D 1 = dr.1.length ∧ ∀ i, i < dr.1.length → KnC s (D + 11 + 2 * (i : Int)) (dr.1.getD i k0)) ∧ (gF s D 3 = dr.2.1.length ∧ ∀ i, i < dr.2.1.length → af s (D + 2) i = dr.2.1.getD i 0) ∧ (gF s D 6 = dr.2.2.1.length ∧ ∀ i, i < dr.2.2.1.length → af s (D + 3) i = smD dr i ∧ af s (D + 4) i = spD dr i) ∧ gA s (D + 5) = [moodD dr, needD dr, thickD dr] ∧ (gF s D 9 = dr.2.2.2.2.1.length ∧ ∀ t, t < dr.2.2.2.2.1.length → 98 ≤ af s (D + 6) t ∧ ScR s (af s (D + 6) t) (clsT (dr.2.2.2.2.1.getD t []))) ∧ gF s D 10 = dr.2.2.2.2.2
theorem gdMem {α : Type} {l : List α} {i : Nat} {a : α} (h : i < l.length) : l.getD i a ∈ l := by
  rw [List.getD_eq_getElem?_getD, List.getElem?_eq_getElem h]
  exact List.getElem_mem h
section CD
variable {s : St} {D : Int} {dr : Dr} {d : Nat}
theorem c_lawInForce (R : DrC s D dr) (W : wfDr dr) : ∃ p, X0_lawInForce d s D = some ([(1, p)], s) ∧ LwP s p (clsD dr) := by
  obtain ⟨⟨h1, ⟨f0, f2, f4, f5, f7, f8, f11⟩, -, -, -, -, -, ⟨k6, l6⟩, -⟩, -, -, -, -, ⟨r1, r2⟩, r3⟩ := R
  obtain ⟨-, -, -, -, ⟨w1, w2⟩, w3⟩ := W
  rw [e_X0_lawInForce]
  unfold clsD
  by_cases e : dr.2.2.2.2.2 = -1
  · refine ⟨0, ?_, Or.inl ⟨rfl, if_pos e⟩⟩
    simp (disch := ((try simp only [kd_sF, kd_sA, gA_sF, gA_sA, gF_sF, gF_sA, List.length_set, reduceIte, and_true, and_false, true_and, false_and, Nat.reduceEqDiff, Int.reduceEq, h1]); first | done | omega)) only [rF_ok, wF_ok, oK_ok, lA_ok, rA_ok, wA_ok, cI_ok, cV_ok, cL_ok, cR_ok, kd_sF, kd_sA, gA_sF, gF_sA, gF_sF, gA_sA, bk_0, bk_1, List.length_set, reduceIte, and_true, and_false, true_and, false_and, ne_eq, not_true_eq_false, not_false_eq_true, Int.toNat_natCast, Int.reduceToNat, Nat.reduceEqDiff, Int.reduceEq, Int.reduceLT, Int.reduceLE, Int.reduceAdd, Int.reduceSub, Int.reduceMul, Int.reduceNeg, h1, r3, if_pos (show dr.2.2.2.2.2 < 0 by omega)]
  · have hx : 0 ≤ dr.2.2.2.2.2 := by omega
    obtain ⟨t, ht⟩ := Int.eq_ofNat_of_zero_le hx
    have htl : t < dr.2.2.2.2.1.length := by omega
    refine ⟨af s (D + 6) t, ?_, Or.inr ⟨(r2 t htl).1, ?_, dr.2.2.2.2.1.getD t [], w2 _ (gdMem htl), ?_⟩⟩
    · simp (disch := ((try simp only [kd_sF, kd_sA, gA_sF, gA_sA, gF_sF, gF_sA, List.length_set, reduceIte, and_true, and_false, true_and, false_and, Nat.reduceEqDiff, Int.reduceEq, h1, f8, k6, l6]); first | done | omega)) only [rF_ok, wF_ok, oK_ok, lA_ok, rA_ok, wA_ok, cI_ok, cV_ok, cL_ok, cR_ok, kd_sF, kd_sA, gA_sF, gF_sA, gF_sF, gA_sA, bk_0, bk_1, List.length_set, reduceIte, and_true, and_false, true_and, false_and, ne_eq, not_true_eq_false, not_false_eq_true, Int.toNat_natCast, Int.reduceToNat, Nat.reduceEqDiff, Int.reduceEq, Int.reduceLT, Int.reduceLE, Int.reduceAdd, Int.reduceSub, Int.reduceMul, Int.reduceNeg, h1, f8, k6, l6, r3, r1, ht, if_neg (show ¬ ((t : Int) < 0) by omega), if_pos (show (t : Int) < dr.2.2.2.2.1.length by omega)]
      rfl
    · rw [if_neg e, ht]
      exact (r2 t htl).2
    · rw [if_neg e, ht]
      rfl
theorem c_knotAt1 {q : Int} (R : DrC s D dr) (W : wfDr dr) (hq : isKn dr q) : X0_knotAt d s D q = some ([(1, D + 11 + 2 * q)], s) := by
  obtain ⟨⟨h1, ⟨f0, -⟩, ⟨k1, a1⟩, -⟩, ⟨r1, -⟩, -⟩ := R
  have hl := W.1.1
  unfold isKn at hq
  have l1 : (gA s (D + 1)).length = 8 := by rw [a1]; rfl
  rw [e_X0_knotAt, if_neg (by omega)]
  simp (disch := ((try simp only [kd_sF, kd_sA, gA_sF, gA_sA, gF_sF, gF_sA, List.length_set, reduceIte, and_true, and_false, true_and, false_and, Nat.reduceEqDiff, Int.reduceEq, h1, f0, k1, l1]); first | done | omega)) only [rF_ok, wF_ok, oK_ok, lA_ok, rA_ok, wA_ok, cI_ok, cV_ok, cL_ok, cR_ok, kd_sF, kd_sA, gA_sF, gF_sA, gF_sF, gA_sA, bk_0, bk_1, List.length_set, reduceIte, and_true, and_false, true_and, false_and, ne_eq, not_true_eq_false, not_false_eq_true, Int.toNat_natCast, Int.reduceToNat, Nat.reduceEqDiff, Int.reduceEq, Int.reduceLT, Int.reduceLE, Int.reduceAdd, Int.reduceSub, Int.reduceMul, Int.reduceNeg, h1, f0, k1, l1, r1, if_pos hq.2]
  obtain ⟨t, rfl⟩ := Int.eq_ofNat_of_zero_le hq.1
  have e : (gA s (D + 1)).getD t 0 = D + 11 + 2 * (t : Int) := by
    rw [a1]
    have : t = 0 ∨ t = 1 ∨ t = 2 ∨ t = 3 ∨ t = 4 ∨ t = 5 ∨ t = 6 ∨ t = 7 := by omega
    rcases this with rfl | rfl | rfl | rfl | rfl | rfl | rfl | rfl <;> (show D + _ = _; omega)
  rw [show ((t : Nat) : Int).toNat = t from rfl, e]
theorem c_knotAt0 {q : Int} (R : DrC s D dr) (hq : ¬ isKn dr q) : X0_knotAt d s D q = some ([(1, 0)], s) := by
  obtain ⟨⟨h1, -⟩, ⟨r1, -⟩, -⟩ := R
  unfold isKn at hq
  rw [e_X0_knotAt]
  by_cases e : q < 0
  · rw [if_pos e]
  · rw [if_neg e]
    simp (disch := ((try simp only [kd_sF, kd_sA, gA_sF, gA_sA, gF_sF, gF_sA, List.length_set, reduceIte, and_true, and_false, true_and, false_and, Nat.reduceEqDiff, Int.reduceEq, h1]); first | done | omega)) only [rF_ok, wF_ok, oK_ok, lA_ok, rA_ok, wA_ok, cI_ok, cV_ok, cL_ok, cR_ok, kd_sF, kd_sA, gA_sF, gF_sA, gF_sF, gA_sA, bk_0, bk_1, List.length_set, reduceIte, and_true, and_false, true_and, false_and, ne_eq, not_true_eq_false, not_false_eq_true, Int.toNat_natCast, Int.reduceToNat, Nat.reduceEqDiff, Int.reduceEq, Int.reduceLT, Int.reduceLE, Int.reduceAdd, Int.reduceSub, Int.reduceMul, Int.reduceNeg, h1, r1, if_neg (show ¬ (q < (dr.1.length : Int)) by omega)]
end CD
section CK
variable {s : St} {d : Nat}
/-- the judge at 31 -/
def ShJ (s : St) : Prop := kd s 31 = 6 ∧ gF s 31 0 = 32 ∧ gF s 31 1 = 33 ∧ kd s 32 = 20 ∧ kd s 33 = 20 ∧ (gA s 32).length = 6 ∧ (gA s 33).length = 64
theorem ShC.j {s : St} (h : ShC s) : ShJ s := ⟨h.o31.1, h.o31.2.1, h.o31.2.2.2.2.1, h.o31.2.2.1, h.o31.2.2.2.2.2.1, h.o31.2.2.2.1, h.o31.2.2.2.2.2.2⟩
theorem c_ask {p mood th side k bef pl : Int} {cls : List Cl} (J : ShJ s) (hL : LwP s p cls) (hm : 0 ≤ mood ∧ mood ≤ 9) (hth : 0 ≤ th ∧ th ≤ 9) (hsd : 0 ≤ side ∧ side ≤ 1) (hk : 0 ≤ k ∧ k ≤ 12) (hb : -1 ≤ bef ∧ bef ≤ 2) (hp : 0 ≤ pl ∧ pl ≤ 2) :
    Gl (GV fun s' => Fa [32, 33] s s' ∧ gF s' 31 2 = tkQ cls mood th side k bef pl ∧ gF s' 31 3 = gpA cls mood th side k bef pl ∧ gF s' 31 4 = brA cls mood th side k bef pl) (X2_ask (d + 2) s 31 p mood th side k bef pl) := by
  obtain ⟨j1, j2, j3, j4, j5, j6, j7⟩ := J
  rw [e_X2_ask]
  rcases hL with ⟨rfl, rfl⟩ | ⟨hp98, hS, T, hT, rfl⟩
  · simp (disch := ((try simp only [kd_sF, kd_sA, gA_sF, gA_sA, gF_sF, gF_sA, List.length_set, reduceIte, and_true, and_false, true_and, false_and, Nat.reduceEqDiff, Int.reduceEq, j1]); first | done | omega)) only [rF_ok, wF_ok, oK_ok, lA_ok, rA_ok, wA_ok, cI_ok, cV_ok, cL_ok, cR_ok, kd_sF, kd_sA, gA_sF, gF_sA, gF_sF, gA_sA, bk_0, bk_1, List.length_set, reduceIte, and_true, and_false, true_and, false_and, ne_eq, not_true_eq_false, not_false_eq_true, Int.toNat_natCast, Int.reduceToNat, Nat.reduceEqDiff, Int.reduceEq, Int.reduceLT, Int.reduceLE, Int.reduceAdd, Int.reduceSub, Int.reduceMul, Int.reduceNeg, j1, wi_sm]
    exact reV ⟨fun _ _ => rfl, rfl, rfl, rfl⟩
  · simp (disch := ((try simp only [kd_sF, kd_sA, gA_sF, gA_sA, gF_sF, gF_sA, List.length_set, reduceIte, and_true, and_false, true_and, false_and, Nat.reduceEqDiff, Int.reduceEq, j1, j2, j4, j6]); first | done | omega)) only [rF_ok, wF_ok, oK_ok, lA_ok, rA_ok, wA_ok, cI_ok, cV_ok, cL_ok, cR_ok, kd_sF, kd_sA, gA_sF, gF_sA, gF_sF, gA_sA, bk_0, bk_1, List.length_set, reduceIte, and_true, and_false, true_and, false_and, ne_eq, not_true_eq_false, not_false_eq_true, Int.toNat_natCast, Int.reduceToNat, Nat.reduceEqDiff, Int.reduceEq, Int.reduceLT, Int.reduceLE, Int.reduceAdd, Int.reduceSub, Int.reduceMul, Int.reduceNeg, j1, j2, j4, j6, wi_sm, if_neg (show ¬ (p = 0) by omega)]
    obtain ⟨cls, hcls⟩ := hT.2.2
    have hc : clsT T = cls := by unfold clsT; rw [hcls]
    rw [hc] at hS ⊢
    have hv : ∀ i, 0 ≤ vTk T i := fun i => by
      by_cases e : i < T.length
      · exact hT.2.1 i e
      · unfold vTk
        rw [List.getD_eq_getElem?_getD, List.getElem?_eq_none (by omega)]
        decide
    have lw : ∃ a0 a1 a2 a3 a4 a5, gA s 32 = [a0, a1, a2, a3, a4, a5] := by
      generalize gA s 32 = l at j6
      match l, j6 with
      | [a0, a1, a2, a3, a4, a5], _ => exact ⟨_, _, _, _, _, _, rfl⟩
    obtain ⟨a0, a1, a2, a3, a4, a5, hw⟩ := lw
    simp only [sA_ov, hw, List.set_cons_zero, List.set_cons_succ]
    refine wkV (c_ask71 (ρ := env6 pl side k bef th mood) (wo := 2 + th) hp98 ?_ hcls hv ?_ ?_ ?_ rfl rfl rfl) ?_
    · exact hS.jf hp98 (fun _ => rfl) (fun p k hp => by rw [gF_sA, gF_np (by omega), gF_np (by omega), gF_np (by omega)]) (fun p hp => by rw [gA_ne (by omega)]; rfl)
    · exact ⟨j1, j2, j3, j4, j5, by rw [gA_eq]; rfl, by rw [gA_ne (by decide)]; exact j7⟩
    · intro i hi
      rw [gA_eq]
      rfl
    · apply env6_bd
      intro x hx
      simp only [List.mem_cons, List.not_mem_nil, or_false] at hx
      omega
    · intro s' _ ⟨g1, g2, g3, g4⟩
      refine ⟨fun q hq => ?_, g2, g3, g4⟩
      simp only [List.mem_cons, List.not_mem_nil, or_false, not_or] at hq
      rw [g1.2.2.2.2.1 q (by simp; exact hq.2), gA_ne hq.1]
      rfl
end CK
