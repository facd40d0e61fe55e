/-! ===== the class: image and back ===== -/
def imgA (a : Ab) (k : Int) : Option Dr := if k = 0 then a.2.1.1 else a.2.1.2
def setIm (a : Ab) (k : Int) : Ab := (a.1, (if k = 0 then (some a.1, a.2.1.2) else (a.2.1.1, some a.1)), a.2.2)
def aImage (a : Ab) (k : Int) : Int × Ab := if 0 ≤ k ∧ k ≤ 1 then goodA (setIm a k) 0 else refu a (-1)
def aBack (a : Ab) (k : Int) : Int × Ab := if 0 ≤ k ∧ k ≤ 1 then (match imgA a k with
  | none => refu a (-2)
  | some D => goodA (setHi (setDr a D) []) 0) else refu a (-1)
/-- nothing lies behind -/
def Fz (s : St) : Prop := ∀ p, nx s ≤ p → kd s p = 0
def d3L : List Int := (List.range 27).map fun i => ((i : Nat) : Int) + 3
section CIG
variable {s s' : St} {a : Ab} {d : Nat} {dr : Dr} {D E : Int}
theorem d3_in {p : Int} (h : 3 ≤ p ∧ p ≤ 29) : p ∈ d3L := List.mem_map.mpr ⟨(p - 3).toNat, List.mem_range.mpr (by omega), by omega⟩
theorem CpF.k3 (C : CpF 3 s s') : FrK [] d3L d3L s s' := ⟨C.1, fun p k hp _ _ => (C.2 p (fun e => hp (d3_in (by omega)))).1 k, fun p hp => (C.2 p (fun e => hp (d3_in (by omega)))).2⟩
theorem DrC.cp (R : DrC s E dr) (W : wfDr dr) (hS : ShD s D) (C : CpF D s s') (hne : D + 26 < E ∨ E + 26 < D) : DrC s' E dr := by
  obtain ⟨h1, ⟨k1, k2⟩, ⟨b1, b2⟩, ⟨s1, s2⟩, t1, ⟨l1, l2⟩, f1⟩ := R
  have h8 := W.1.1
  have o : ∀ p, E ≤ p → p ≤ E + 26 → (∀ k, gF s' p k = gF s p k) ∧ gA s' p = gA s p := fun p a b => C.2 p (by omega)
  have oE := (o E (by omega) (by omega)).1
  refine ⟨h1.fr (fun p _ _ => C.1 p) (fun p j a b _ => (o p a b).1 j) (o _ (by omega) (by omega)).2 (fun p a b => by rw [(o p a b).2]), ⟨(oE 1).trans k1, fun i hi => ?_⟩, ⟨(oE 3).trans b1, fun i hi => ?_⟩, ⟨(oE 6).trans s1, fun i hi => ?_⟩, (o _ (by omega) (by omega)).2.trans t1, ⟨(oE 9).trans l1, fun t ht => ?_⟩, (oE 10).trans f1⟩
  · exact (k2 i hi).fr ⟨C.1 _, C.1 _⟩ (fun j _ => (o _ (by omega) (by omega)).1 j) (o _ (by omega) (by omega)).2
  · unfold af; rw [(o _ (by omega) (by omega)).2]; exact b2 i hi
  · unfold af; rw [(o (E + 3) (by omega) (by omega)).2, (o (E + 4) (by omega) (by omega)).2]; exact s2 i hi
  · have e : af s' (E + 6) t = af s (E + 6) t := by unfold af; rw [(o (E + 6) (by omega) (by omega)).2]
    rw [e]
    exact ⟨(l2 t ht).1, (l2 t ht).2.cp hS C⟩
theorem cc_back {k : Int} (R : RepC a s) (W : wfA a) : Gl (GI fun x s' => x = (aBack a k).1 ∧ RepC (aBack a k).2 s') (X11_back (d + 2) s 1 k) := by
  have hs := R.1
  have l30 : (gA s 30).length = 2 := hs.2.1 30 (by decide) (by decide)
  obtain ⟨m1, m2, m3⟩ := R.2.2.1
  rw [e_X11_back]
  unfold aBack
  by_cases h1 : k < 0
  · rw [if_pos h1, if_neg (by omega)]
    simp (disch := ((try simp only [kd_sF, kd_sA, gA_sF, gA_sA, gF_sF, gF_sA, List.length_set, reduceIte, and_true, and_false, true_and, false_and, Nat.reduceEqDiff, Int.reduceEq, hs.o1]); first | done | omega)) only [rF_ok, wF_ok, oK_ok, lA_ok, rA_ok, wA_ok, cI_ok, cV_ok, cL_ok, cR_ok, kd_sF, kd_sA, gA_sF, gF_sA, gF_sF, gA_sA, bk_0, bk_1, List.length_set, reduceIte, and_true, and_false, true_and, false_and, ne_eq, not_true_eq_false, not_false_eq_true, Int.toNat_natCast, Int.reduceToNat, Nat.reduceEqDiff, Int.reduceEq, Int.reduceLT, Int.reduceLE, Int.reduceAdd, Int.reduceSub, Int.reduceMul, Int.reduceNeg, hs.o1]
    exact cc_ref (by decide) R W fun _ _ => rfl
  rw [if_neg h1]
  by_cases h2 : k < 2
  · rw [if_pos h2, if_pos (show 0 ≤ k ∧ k ≤ 1 by omega)]
    have im : ImC s ((gA s 30).getD k.toNat 0) (imgA a k) := by
      unfold imgA
      by_cases e : k = 0
      · rw [if_pos e, e]; exact m1
      · rw [if_neg e, show k = 1 by omega]; exact m2
    have wi' : wfIm (imgA a k) := by
      unfold imgA
      split
      · exact W.2.1.1
      · exact W.2.1.2
    simp (disch := ((try simp only [kd_sF, kd_sA, gA_sF, gA_sA, gF_sF, gF_sA, List.length_set, reduceIte, and_true, and_false, true_and, false_and, Nat.reduceEqDiff, Int.reduceEq, hs.o1]); first | done | omega)) only [rF_ok, wF_ok, oK_ok, lA_ok, rA_ok, wA_ok, cI_ok, cV_ok, cL_ok, cR_ok, kd_sF, kd_sA, gA_sF, gF_sA, gF_sF, gA_sA, bk_0, bk_1, List.length_set, reduceIte, and_true, and_false, true_and, false_and, ne_eq, not_true_eq_false, not_false_eq_true, Int.toNat_natCast, Int.reduceToNat, Nat.reduceEqDiff, Int.reduceEq, Int.reduceLT, Int.reduceLE, Int.reduceAdd, Int.reduceSub, Int.reduceMul, Int.reduceNeg, hs.o1]
    generalize hp : (gA s 30).getD k.toNat 0 = p at *
    rcases im with ⟨q1, q2⟩ | ⟨q1, D, q2, q3⟩
    · rw [if_pos q1, q2]
      simp (disch := ((try simp only [kd_sF, kd_sA, gA_sF, gA_sA, gF_sF, gF_sA, List.length_set, reduceIte, and_true, and_false, true_and, false_and, Nat.reduceEqDiff, Int.reduceEq, hs.o1]); first | done | omega)) only [rF_ok, wF_ok, oK_ok, lA_ok, rA_ok, wA_ok, cI_ok, cV_ok, cL_ok, cR_ok, kd_sF, kd_sA, gA_sF, gF_sA, gF_sF, gA_sA, bk_0, bk_1, List.length_set, reduceIte, and_true, and_false, true_and, false_and, ne_eq, not_true_eq_false, not_false_eq_true, Int.toNat_natCast, Int.reduceToNat, Nat.reduceEqDiff, Int.reduceEq, Int.reduceLT, Int.reduceLE, Int.reduceAdd, Int.reduceSub, Int.reduceMul, Int.reduceNeg, hs.o1]
      exact cc_ref (by decide) R W fun _ _ => rfl
    · rw [if_neg (show ¬ (p = 0) by omega), q2]
      have wD := wi' D q2
      simp (disch := ((try simp only [kd_sF, kd_sA, gA_sF, gA_sA, gF_sF, gF_sA, List.length_set, reduceIte, and_true, and_false, true_and, false_and, Nat.reduceEqDiff, Int.reduceEq, hs.o1, hs.o3]); first | done | omega)) only [rF_ok, wF_ok, oK_ok, lA_ok, rA_ok, wA_ok, cI_ok, cV_ok, cL_ok, cR_ok, kd_sF, kd_sA, gA_sF, gF_sA, gF_sF, gA_sA, bk_0, bk_1, List.length_set, reduceIte, and_true, and_false, true_and, false_and, ne_eq, not_true_eq_false, not_false_eq_true, Int.toNat_natCast, Int.reduceToNat, Nat.reduceEqDiff, Int.reduceEq, Int.reduceLT, Int.reduceLE, Int.reduceAdd, Int.reduceSub, Int.reduceMul, Int.reduceNeg, hs.o1, hs.o3, hp]
      refine biV (c_copyFrom (d := d) (D := 3) (E := p) hs.d3 q3 wD (Or.inl (by omega))) fun s1 hev ⟨e1, e2, e3⟩ => ?_
      have hs1 : ShC s1 := hs.ev hev rfl
      simp (disch := ((try simp only [kd_sF, kd_sA, gA_sF, gA_sA, gF_sF, gF_sA, List.length_set, reduceIte, and_true, and_false, true_and, false_and, Nat.reduceEqDiff, Int.reduceEq, hs1.o1, hs1.o3, hs1.o10]); first | done | omega)) only [rF_ok, wF_ok, oK_ok, lA_ok, rA_ok, wA_ok, cI_ok, cV_ok, cL_ok, cR_ok, kd_sF, kd_sA, gA_sF, gF_sA, gF_sF, gA_sA, bk_0, bk_1, List.length_set, reduceIte, and_true, and_false, true_and, false_and, ne_eq, not_true_eq_false, not_false_eq_true, Int.toNat_natCast, Int.reduceToNat, Nat.reduceEqDiff, Int.reduceEq, Int.reduceLT, Int.reduceLE, Int.reduceAdd, Int.reduceSub, Int.reduceMul, Int.reduceNeg, hs1.o1, hs1.o3, hs1.o10]
      rw [e_X9_clear]
      obtain ⟨R3, hs3⟩ := R.settle W hs1 e1.k3 (by decide) (by decide) (fun k _ => (e1.2 1 (by decide)).1 k) (by decide) e2
      simp (disch := ((try simp only [kd_sF, kd_sA, gA_sF, gA_sA, gF_sF, gF_sA, List.length_set, reduceIte, and_true, and_false, true_and, false_and, Nat.reduceEqDiff, Int.reduceEq, hs1.o1, hs1.o10]); first | done | omega)) only [rF_ok, wF_ok, oK_ok, lA_ok, rA_ok, wA_ok, cI_ok, cV_ok, cL_ok, cR_ok, kd_sF, kd_sA, gA_sF, gF_sA, gF_sF, gA_sA, bk_0, bk_1, List.length_set, reduceIte, and_true, and_false, true_and, false_and, ne_eq, not_true_eq_false, not_false_eq_true, Int.toNat_natCast, Int.reduceToNat, Nat.reduceEqDiff, Int.reduceEq, Int.reduceLT, Int.reduceLE, Int.reduceAdd, Int.reduceSub, Int.reduceMul, Int.reduceNeg, hs1.o1, hs1.o10]
      exact cc_grant R3 (wfA_dh W wD) fun _ _ => rfl
  · rw [if_neg h2, if_neg (by omega)]
    simp (disch := ((try simp only [kd_sF, kd_sA, gA_sF, gA_sA, gF_sF, gF_sA, List.length_set, reduceIte, and_true, and_false, true_and, false_and, Nat.reduceEqDiff, Int.reduceEq, hs.o1]); first | done | omega)) only [rF_ok, wF_ok, oK_ok, lA_ok, rA_ok, wA_ok, cI_ok, cV_ok, cL_ok, cR_ok, kd_sF, kd_sA, gA_sF, gF_sA, gF_sF, gA_sA, bk_0, bk_1, List.length_set, reduceIte, and_true, and_false, true_and, false_and, ne_eq, not_true_eq_false, not_false_eq_true, Int.toNat_natCast, Int.reduceToNat, Nat.reduceEqDiff, Int.reduceEq, Int.reduceLT, Int.reduceLE, Int.reduceAdd, Int.reduceSub, Int.reduceMul, Int.reduceNeg, hs.o1]
    exact cc_ref (by decide) R W fun _ _ => rfl
end CIG
