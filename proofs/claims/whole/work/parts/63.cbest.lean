/-! ===== the class's paper: the best word of all lengths; the calls over the paper ===== -/
section CBU
variable {dr : Dr} {cloth : Int} {d : Nat} {s : St} {a : Ab}
theorem PgL.k {Ks : List Nat} {P A : List Int} {s' : St} (hs : ShC s) (h : PgL dr s) (F : FrK Ks P A s s') (hf : ∀ k, 1 ≤ k → k ≤ 3 → gF s' 78 k = gF s 78 k) (hK : 11 ∉ Ks ∧ 4 ∉ Ks) (hP : ∀ x ∈ P, x < 98 ∧ x ≠ 3) (hA : ∀ x ∈ A, x < 98 ∧ (x < 79 ∨ 86 < x) ∧ x ≠ 9) : PgL dr s' := by
  refine ⟨h.1.k F hf hK.1 (fun x hx => (hP x hx).1) (fun x hx => by have := hA x hx; omega), ?_⟩
  have k3 : kd s 3 = 4 := hs.o3.1
  rw [hf 1 (by decide) (by decide), h.2]
  unfold lawP af
  have n3 : (3 : Int) ∉ P := fun hm => (hP 3 hm).2 rfl
  rw [F.2.1 3 10 n3 (by rw [k3]; exact hK.2) (by decide), F.2.1 3 9 n3 (by rw [k3]; exact hK.2) (by decide), F.2.2 9 (fun hm => (hA 9 hm).2.2 rfl)]
theorem c_chooseBest (hs : ShC s) (R : DrC s 3 dr) (W : wfDr dr) (PC : PgC s) : Gl (GI fun x s' => ShC s' ∧ FrP s s' ∧ PgC s' ∧ (∀ n, 3 ≤ n → n ≤ 12 → WdC (clsD dr) (moodD dr) (thickD dr) n s') ∧ ∃ m, BsR (clsD dr) (moodD dr) (thickD dr) (bestTo (clsD dr) (moodD dr) (thickD dr) (needD dr) cloth 10) x m (gF s' 78 14)) (X4_chooseBest (d + 29) s 78 3 cloth) := by
  rw [e_X4_chooseBest]
  refine lpG (fun j (b : St × Int × Int) => X4_chooseBest_8 (d + 29) b.1 78 3 cloth b.2.1 b.2.2 ((j + 3 : Nat) : Int)) (fun j b => ShC b.1 ∧ FrP s b.1 ∧ PgC b.1 ∧ (0 < j → PgL dr b.1) ∧ (∀ n, 3 ≤ n → n < j + 3 → WdC (clsD dr) (moodD dr) (thickD dr) n b.1) ∧ BsR (clsD dr) (moodD dr) (thickD dr) (bestTo (clsD dr) (moodD dr) (thickD dr) (needD dr) cloth j) b.2.1 b.2.2 (gF b.1 78 14)) 10 ?_ ?_ 0 (s, -1, 0) (by omega) ⟨hs, FrP.rf s, PC, fun h => absurd h (by omega), fun n h1 h2 => by omega, Or.inl ⟨rfl, rfl⟩⟩
  · intro T j ⟨s1, x1, m1⟩ hj ⟨i1, i2, i3, i4, i5, i6⟩ hT
    dsimp only at i1 i2 i3 i4 i5 i6 ⊢
    have hn : 3 ≤ j + 3 ∧ j + 3 ≤ 12 := by omega
    have R1 : DrC s1 3 dr := R.k W i2.k (by decide) (by decide)
    have k78 : kd s1 78 = 8 := i1.o78.1
    rw [e_X4_chooseBest_8, if_neg (by omega)]
    simp (disch := ((try simp only [kd_sF, kd_sA, gA_sF, gA_sA, gF_sF, gF_sA, List.length_set, reduceIte, and_true, and_false, true_and, false_and, Nat.reduceEqDiff, Int.reduceEq, k78]); first | done | omega)) only [rF_ok, wF_ok, oK_ok, lA_ok, rA_ok, wA_ok, cI_ok, cV_ok, cL_ok, cR_ok, kd_sF, kd_sA, gA_sF, gF_sA, gF_sF, gA_sA, bk_0, bk_1, List.length_set, reduceIte, and_true, and_false, true_and, false_and, ne_eq, not_true_eq_false, not_false_eq_true, Int.toNat_natCast, Int.reduceToNat, Nat.reduceEqDiff, Int.reduceEq, Int.reduceLT, Int.reduceLE, Int.reduceAdd, Int.reduceSub, Int.reduceMul, Int.reduceNeg, k78]
    refine biV (c_prepS (d := d) i1 R1 W i3 hn) fun s2 hev ⟨q1, q2, q3, q4, q5⟩ => ?_
    have k78' : kd s2 78 = 8 := q1.o78.1
    have f14 : gF s2 78 14 = gF s1 78 14 := (ev_pv hev rfl).2.2.2.2.1 78 14 (by rw [k78]; rfl)
    have R2 : DrC s2 3 dr := R1.k W q2.k (by decide) (by decide)
    have t1 : gA s2 8 = [moodD dr, needD dr, thickD dr] := R2.2.2.2.2.1
    refine c_bestn (d := d + 27) (need := needD dr) q1 hn q4 q1.o3.1 (q1.2.2.1 (3, 7, 8) (by decide)) (q1.1 8 (by decide) (by decide)) (by rw [t1]; rfl) (by rw [t1]; rfl) (a := bestTo (clsD dr) (moodD dr) (thickD dr) (needD dr) cloth j) (by rw [f14]; exact i6) fun s' x' m' r1 r2 r3 => ?_
    rw [wi_sm (by omega) (by omega), show (((j + 3 : Nat) : Int) + 1) = ((j + 1 + 3 : Nat) : Int) by omega]
    have FK := r2.k
    have hf : ∀ k, 1 ≤ k → k ≤ 3 → gF s' 78 k = gF s2 78 k := fun k h1 h2 => r2.2.1 78 k (by rw [k78']; decide) (by omega) (by omega)
    have PL := q3.k q1 FK hf (by decide) (by decide) (by decide)
    refine hT (s', x', m') ⟨r1, (i2.tr q2).tr ⟨r2.1, fun p k h6 h8 hk => r2.2.1 p k h6 hk (fun e => h8 (e.1 ▸ k78')), r2.2.2.mono (by decide)⟩, PL.c W, fun _ => PL, fun n h1 h2 => ?_, ?_⟩
    · refine FrW.wd ?_ r2 (by decide)
      by_cases e : n = j + 3
      · rw [e]; exact q4
      · exact q5 (i4 (by omega)) n h1 (by omega) (i5 n h1 (by omega))
    · dsimp only
      rw [bestTo, show 3 + j = j + 3 by omega]
      exact r3
  · intro ⟨s1, x1, m1⟩ ⟨i1, i2, i3, i4, i5, i6⟩
    dsimp only at i1 i2 i3 i4 i5 i6 ⊢
    rw [e_X4_chooseBest_8, if_pos (by decide)]
    exact reI ⟨i1, i2, i3, fun n h1 h2 => i5 n h1 (by omega), m1, i6⟩
end CBU
