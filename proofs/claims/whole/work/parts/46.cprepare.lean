/-! ===== the class's paper prepared for a length ===== -/
section PR
variable {dr : Dr} {n d : Nat} {s : St}
theorem PgR.eq {c1 c2 : List Cl} {mood th : Int} (P : PgR c1 mood th s) (e : AskEq c1 c2 mood th) (h : LwP s (gF s 78 1) c2) : PgR c2 mood th s := by
  obtain ⟨p1, p2, p3, p4, p5⟩ := P
  refine ⟨p1, p2, h, fun st hst => ?_, fun m m1 m2 => ?_⟩
  · rcases p4 st hst with g | ⟨g, g2⟩
    · exact Or.inl g
    · exact Or.inr ⟨g, g2.eq e hst (by omega)⟩
  · rcases p5 m m1 m2 with g | g
    · exact Or.inl g
    · exact Or.inr (g.eq e m2)
theorem c_prep67 {cls : List Cl} {mood th : Int} (hs : ShC s) (hm : 0 ≤ mood ∧ mood ≤ 9) (hth : 0 ≤ th ∧ th ≤ 9) (hn : 3 ≤ n ∧ n ≤ 12) (h1 : gF s 78 2 = mood) (h2 : gF s 78 3 = th) (h3 : LwP s (gF s 78 1) cls) : Gl (GV fun s' => ShC s' ∧ FrX [32, 33, 79, 80, 81, 82, 83, 84, 85, 86] s s' ∧ PgR cls mood th s' ∧ WdC cls mood th n s' ∧ gF s' 78 1 = gF s 78 1) (X4_prepare_67 (d + 27) s 78 n 0) := by
  refine lpG (fun k s1 => X4_prepare_67 (d + 27) s1 78 n k) (fun k s1 => ShC s1 ∧ FrX [82, 83] s s1 ∧ ∀ j, j < k → (gA s1 83).getD j 0 = -1) 13 ?_ ?_ 0 s (by omega) ⟨hs, FrX.rf _ _, fun j hj => by omega⟩
  · intro T k s1 hk ⟨i1, i2, i3⟩ hT
    have l83 : (gA s1 83).length = 13 := i1.2.1 83 (by decide) (by decide)
    rw [e_X4_prepare_67, if_neg (by omega)]
    simp (disch := ((try simp only [kd_sF, kd_sA, gA_sF, gA_sA, gF_sF, gF_sA, List.length_set, reduceIte, and_true, and_false, true_and, false_and, Nat.reduceEqDiff, Int.reduceEq, i1.o78]); first | done | omega)) only [rF_ok, wF_ok, oK_ok, lA_ok, rA_ok, wA_ok, cI_ok, cV_ok, cL_ok, cR_ok, kd_sF, kd_sA, gA_sF, gF_sA, gF_sF, gA_sA, bk_0, bk_1, List.length_set, reduceIte, and_true, and_false, true_and, false_and, ne_eq, not_true_eq_false, not_false_eq_true, Int.toNat_natCast, Int.reduceToNat, Nat.reduceEqDiff, Int.reduceEq, Int.reduceLT, Int.reduceLE, Int.reduceAdd, Int.reduceSub, Int.reduceMul, Int.reduceNeg, i1.o78, wi_sm]
    refine hT _ ⟨i1.sA (by rw [List.length_set]) (by rw [i1.1 83 (by decide) (by decide)]; decide), i2.tr (FrX.sA _ (by decide)), fun j hj => ?_⟩
    rw [gA_eq, setD_getD (by omega)]
    by_cases e : k = j
    · rw [if_pos e]
    · rw [if_neg e]; exact i3 j (by omega)
  · intro s1 ⟨i1, i2, i3⟩
    have l82 : (gA s1 82).length = 2 := i1.2.1 82 (by decide) (by decide)
    have k82 : kd s1 82 = 22 := i1.1 82 (by decide) (by decide)
    rw [e_X4_prepare_67, if_pos (by decide)]
    simp (disch := ((try simp only [kd_sF, kd_sA, gA_sF, gA_sA, gF_sF, gF_sA, List.length_set, reduceIte, and_true, and_false, true_and, false_and, Nat.reduceEqDiff, Int.reduceEq, i1.o78]); first | done | omega)) only [rF_ok, wF_ok, oK_ok, lA_ok, rA_ok, wA_ok, cI_ok, cV_ok, cL_ok, cR_ok, kd_sF, kd_sA, gA_sF, gF_sA, gF_sF, gA_sA, bk_0, bk_1, List.length_set, reduceIte, and_true, and_false, true_and, false_and, ne_eq, not_true_eq_false, not_false_eq_true, Int.toNat_natCast, Int.reduceToNat, Nat.reduceEqDiff, Int.reduceEq, Int.reduceLT, Int.reduceLE, Int.reduceAdd, Int.reduceSub, Int.reduceMul, Int.reduceNeg, i1.o78]
    generalize hS : sA (sA s1 82 ((gA s1 82).set 0 0)) 82 (((gA s1 82).set 0 0).set 1 0) = S
    have hsS : ShC S := by
      rw [← hS]
      exact (i1.sA (by rw [List.length_set]) (by rw [k82]; decide)).sA (by rw [List.length_set, List.length_set, gA_eq, List.length_set]) (by show kd s1 82 ≠ 24; rw [k82]; decide)
    have FS : FrX [82, 83] s S := by rw [← hS]; exact i2.tr ((FrX.sA _ (by decide)).tr (FrX.sA _ (by decide)))
    have k78 : kd s 78 = 8 := hs.o78.1
    have f1 := FS.2.1 78 1 (by rw [k78]; decide) (by decide)
    have f2 := FS.2.1 78 2 (by rw [k78]; decide) (by decide)
    have f3 := FS.2.1 78 3 (by rw [k78]; decide) (by decide)
    have P : PgR cls mood th S := by
      refine ⟨by rw [f2]; exact h1, by rw [f3]; exact h2, by rw [f1]; exact h3.fx FS (by decide), fun st hst => Or.inl ?_, fun m m1 m2 => Or.inl ?_⟩
      · have e82 : gA S 82 = ((gA s1 82).set 0 0).set 1 0 := by rw [← hS, gA_eq]
        rw [e82, setD_getD (by rw [List.length_set]; omega), setD_getD (by omega)]
        have : st = 0 ∨ st = 1 := by omega
        rcases this with rfl | rfl <;> simp
      · have e83 : gA S 83 = gA s1 83 := by rw [← hS, gA_ne (by decide), gA_ne (by decide)]
        rw [e83]
        exact i3 m (by omega)
    exact wkV (c_prep100 (d := d) hsS hm hth P hn) fun s' _ ⟨q1, q2, q3, q4, _⟩ => ⟨q1, (FS.mono (by decide)).tr q2, q3, q4, by rw [q2.2.1 78 1 (by rw [FS.1, k78]; decide) (by decide), f1]⟩
/-- the law in force as a pointer -/
def lawP (s : St) : Int := if 0 ≤ gF s 3 10 ∧ gF s 3 10 < gF s 3 9 then af s 9 (gF s 3 10).toNat else 0
theorem c_lawP (R : DrC s 3 dr) (W : wfDr dr) : X0_lawInForce d s 3 = some ([(1, lawP s)], s) := by
  obtain ⟨⟨h1, ⟨f0, f2, f4, f5, f7, f8, f11⟩, -, -, -, -, -, ⟨k6, l6⟩, -⟩, -, -, -, -, ⟨r1, r2⟩, r3⟩ := R
  obtain ⟨-, -, -, -, ⟨w1, w2⟩, w3⟩ := W
  have f8' : gF s 3 8 = 9 := f8
  have k6' : kd s 9 = 26 := k6
  have l6' : (gA s 9).length = 6 := l6
  rw [e_X0_lawInForce]
  unfold lawP
  simp (disch := ((try simp only [kd_sF, kd_sA, gA_sF, gA_sA, gF_sF, gF_sA, List.length_set, reduceIte, and_true, and_false, true_and, false_and, Nat.reduceEqDiff, Int.reduceEq, h1]); first | done | omega)) only [rF_ok, wF_ok, oK_ok, lA_ok, rA_ok, wA_ok, cI_ok, cV_ok, cL_ok, cR_ok, kd_sF, kd_sA, gA_sF, gF_sA, gF_sF, gA_sA, bk_0, bk_1, List.length_set, reduceIte, and_true, and_false, true_and, false_and, ne_eq, not_true_eq_false, not_false_eq_true, Int.toNat_natCast, Int.reduceToNat, Nat.reduceEqDiff, Int.reduceEq, Int.reduceLT, Int.reduceLE, Int.reduceAdd, Int.reduceSub, Int.reduceMul, Int.reduceNeg, h1]
  by_cases e : gF s 3 10 < 0
  · rw [if_pos e, if_neg (fun x => by omega)]
  · rw [if_neg e]
    by_cases e2 : gF s 3 10 < gF s 3 9
    · rw [if_pos e2, if_pos ⟨by omega, e2⟩]
      simp (disch := ((try simp only [kd_sF, kd_sA, gA_sF, gA_sA, gF_sF, gF_sA, List.length_set, reduceIte, and_true, and_false, true_and, false_and, Nat.reduceEqDiff, Int.reduceEq, h1, f8', k6', l6']); first | done | omega)) only [rF_ok, wF_ok, oK_ok, lA_ok, rA_ok, wA_ok, cI_ok, cV_ok, cL_ok, cR_ok, kd_sF, kd_sA, gA_sF, gF_sA, gF_sF, gA_sA, bk_0, bk_1, List.length_set, reduceIte, and_true, and_false, true_and, false_and, ne_eq, not_true_eq_false, not_false_eq_true, Int.toNat_natCast, Int.reduceToNat, Nat.reduceEqDiff, Int.reduceEq, Int.reduceLT, Int.reduceLE, Int.reduceAdd, Int.reduceSub, Int.reduceMul, Int.reduceNeg, h1, f8', k6', l6']
      rfl
    · rw [if_neg e2, if_neg (fun x => e2 x.2)]
/-- the paper is kept for the law in force -/
def PgL (dr : Dr) (s : St) : Prop := PgR (clsD dr) (moodD dr) (thickD dr) s ∧ gF s 78 1 = lawP s
theorem c_prepS (hs : ShC s) (R : DrC s 3 dr) (W : wfDr dr) (PC : PgC s) (hn : 3 ≤ n ∧ n ≤ 12) : Gl (GV fun s' => ShC s' ∧ FrP s s' ∧ PgL dr s' ∧ WdC (clsD dr) (moodD dr) (thickD dr) n s' ∧ (PgL dr s → ∀ m, 3 ≤ m → m ≤ 12 → WdC (clsD dr) (moodD dr) (thickD dr) m s → WdC (clsD dr) (moodD dr) (thickD dr) m s')) (X4_prepare (d + 28) s 78 3 n) := by
  have hm := W.2.2.2.1.1
  have hth : 0 ≤ thickD dr ∧ thickD dr ≤ 9 := by have := W.2.2.2.1.2.2; omega
  have t1 : gA s 8 = [moodD dr, needD dr, thickD dr] := R.2.2.2.2.1
  have t10 : (gA s 8).getD 0 0 = moodD dr := by rw [t1]; rfl
  have t12 : (gA s 8).getD 2 0 = thickD dr := by rw [t1]; rfl
  have k78 : kd s 78 = 8 := hs.o78.1
  obtain ⟨p, ep, hL⟩ := c_lawInForce (d := d + 27) R W
  have epl : p = lawP s := by
    simpa using ep.symm.trans (c_lawP (d := d + 27) R W)
  have k3s : kd s 3 = 4 := hs.o3.1
  have lwF : ∀ s' : St, FrP s s' → lawP s' = lawP s := by
    intro s' F
    unfold lawP af
    rw [F.2.1 3 10 (by rw [k3s]; decide) (by rw [k3s]; decide) (by decide), F.2.1 3 9 (by rw [k3s]; decide) (by rw [k3s]; decide) (by decide), F.2.2 9 (by decide)]
  -- all anew
  have anew : (¬ PgL dr s) → Gl (GV fun s' => ShC s' ∧ FrP s s' ∧ PgL dr s' ∧ WdC (clsD dr) (moodD dr) (thickD dr) n s' ∧ (PgL dr s → ∀ m, 3 ≤ m → m ≤ 12 → WdC (clsD dr) (moodD dr) (thickD dr) m s → WdC (clsD dr) (moodD dr) (thickD dr) m s')) (X4_prepare_37 (d + 28) s 78 3 n) := by
    intro hno
    rw [e_X4_prepare_37]
    generalize hS : sF (sF s 78 2 (moodD dr)) 78 3 (thickD dr) = S
    have hsS : ShC S := by
      rw [← hS]
      exact (hs.sF (by rw [k78]; decide)).sF (by show finC.all (fun q => !(q.1 == kd s 78 && q.2 == 3)) = true; rw [k78]; decide)
    have fS : ∀ q k, q ≠ 78 → gF S q k = gF s q k := fun q k hq => by rw [← hS, gF_np hq, gF_np hq]
    have RS : DrC S 3 dr := R.fr W (fun q _ => by rw [← hS]; rfl) (fun q k hq _ => fS q k (by omega)) (fun q _ => by rw [← hS]; rfl)
    obtain ⟨p', ep', hL'⟩ := c_lawInForce (d := d + 27) RS W
    have epl' : p' = lawP s := by
      have this : p' = lawP S := by simpa using ep'.symm.trans (c_lawP (d := d + 27) RS W)
      rw [this]
      unfold lawP af
      rw [fS 3 10 (by decide), fS 3 9 (by decide), ← hS]
      rfl
    simp (disch := ((try simp only [kd_sF, kd_sA, gA_sF, gA_sA, gF_sF, gF_sA, List.length_set, reduceIte, and_true, and_false, true_and, false_and, Nat.reduceEqDiff, Int.reduceEq, hs.o78, hs.o3]); first | done | omega)) only [rF_ok, wF_ok, oK_ok, lA_ok, rA_ok, wA_ok, cI_ok, cV_ok, cL_ok, cR_ok, kd_sF, kd_sA, gA_sF, gF_sA, gF_sF, gA_sA, bk_0, bk_1, List.length_set, reduceIte, and_true, and_false, true_and, false_and, ne_eq, not_true_eq_false, not_false_eq_true, Int.toNat_natCast, Int.reduceToNat, Nat.reduceEqDiff, Int.reduceEq, Int.reduceLT, Int.reduceLE, Int.reduceAdd, Int.reduceSub, Int.reduceMul, Int.reduceNeg, hs.o78, hs.o3, t10, t12, hS]
    have k3 : kd S 3 = 4 := hsS.o3.1
    have k78S : kd S 78 = 8 := hsS.o78.1
    simp (disch := ((try simp only [kd_sF, kd_sA, gA_sF, gA_sA, gF_sF, gF_sA, List.length_set, reduceIte, and_true, and_false, true_and, false_and, Nat.reduceEqDiff, Int.reduceEq, k3, k78S]); first | done | omega)) only [rF_ok, wF_ok, oK_ok, lA_ok, rA_ok, wA_ok, cI_ok, cV_ok, cL_ok, cR_ok, kd_sF, kd_sA, gA_sF, gF_sA, gF_sF, gA_sA, bk_0, bk_1, List.length_set, reduceIte, and_true, and_false, true_and, false_and, ne_eq, not_true_eq_false, not_false_eq_true, Int.toNat_natCast, Int.reduceToNat, Nat.reduceEqDiff, Int.reduceEq, Int.reduceLT, Int.reduceLE, Int.reduceAdd, Int.reduceSub, Int.reduceMul, Int.reduceNeg, k3, k78S, ep']
    have hrk : ∀ r : Res, rk S 11 p' r = r := by
      intro r
      rcases hL' with ⟨rfl, -⟩ | ⟨-, ⟨⟨a, b, hsc, -⟩, -⟩, -⟩
      · exact rk_0
      · exact rk_ok hsc.1
    rw [hrk]
    have h2 : gF (sF S 78 1 p') 78 2 = moodD dr := by rw [gF_nk (by decide), ← hS]; rfl
    have h3 : gF (sF S 78 1 p') 78 3 = thickD dr := by rw [gF_nk (by decide), ← hS]; rfl
    have hs2 : ShC (sF S 78 1 p') := hsS.sF (by rw [k78S]; decide)
    have hL2 : LwP (sF S 78 1 p') (gF (sF S 78 1 p') 78 1) (clsD dr) := by
      rw [gF_eq]
      rcases hL' with h | ⟨g1, g2, g3⟩
      · exact Or.inl h
      · exact Or.inr ⟨g1, g2.fr (fun _ _ _ => rfl) (fun k _ => gF_np (by omega)) (fun _ _ _ => rfl), g3⟩
    refine wkV (c_prep67 (d := d + 1) hs2 hm hth hn h2 h3 hL2) fun s' _ ⟨q1, q2, q3, q4, q6⟩ => ?_
    have q5 := q2.p (by decide)
    have FF : FrP s s' := by
      refine FrP.tr ⟨fun q => by rw [← hS]; rfl, fun q k h6 h8 hk => ?_, fun q _ => by rw [← hS]; rfl⟩ q5
      have : q ≠ 78 := fun e => h8 (by rw [e]; exact k78)
      rw [gF_np this]
      exact fS q k this
    refine ⟨q1, FF, ⟨q3, ?_⟩, q4, fun h => absurd h hno⟩
    rw [q6, gF_eq, epl', lwF s' FF]
  rw [e_X4_prepare]
  simp (disch := ((try simp only [kd_sF, kd_sA, gA_sF, gA_sA, gF_sF, gF_sA, List.length_set, reduceIte, and_true, and_false, true_and, false_and, Nat.reduceEqDiff, Int.reduceEq, hs.o78, hs.o3]); first | done | omega)) only [rF_ok, wF_ok, oK_ok, lA_ok, rA_ok, wA_ok, cI_ok, cV_ok, cL_ok, cR_ok, kd_sF, kd_sA, gA_sF, gF_sA, gF_sF, gA_sA, bk_0, bk_1, List.length_set, reduceIte, and_true, and_false, true_and, false_and, ne_eq, not_true_eq_false, not_false_eq_true, Int.toNat_natCast, Int.reduceToNat, Nat.reduceEqDiff, Int.reduceEq, Int.reduceLT, Int.reduceLE, Int.reduceAdd, Int.reduceSub, Int.reduceMul, Int.reduceNeg, hs.o78, hs.o3, t10, t12, ep]
  by_cases h1 : gF s 78 2 = moodD dr
  · rw [if_pos h1]
    by_cases h2 : gF s 78 3 = thickD dr
    · rw [if_pos h2]
      by_cases h3 : gF s 78 1 = p
      · rw [if_pos h3]
        rcases PC with hc | ⟨c0, m0, th0, hm0, hth0, P⟩
        · omega
        · have e1 : m0 = moodD dr := by rw [← h1]; exact P.1.symm
          have e2 : th0 = thickD dr := by rw [← h2]; exact P.2.1.symm
          subst e1
          subst e2
          have P2 := P.eq (ask_same hs.j P.2.2.1 (by rw [h3]; exact hL) hm hth) (by rw [h3]; exact hL)
          refine wkV (c_prep100 (d := d + 1) hs hm hth P2 hn) fun s' _ ⟨q1, q2, q3, q4, q5⟩ => ⟨q1, q2.p (by decide), ⟨q3, ?_⟩, q4, fun _ => q5⟩
          rw [q2.2.1 78 1 (by rw [k78]; decide) (by decide), lwF s' (q2.p (by decide)), ← epl]
          exact h3
      · rw [if_neg h3]; exact anew fun h => h3 (h.2.trans epl.symm)
    · rw [if_neg h2]; exact anew fun h => h2 h.1.2.1
  · rw [if_neg h1]; exact anew fun h => h1 h.1.1
theorem PgL.c {dr : Dr} {s : St} (W : wfDr dr) (h : PgL dr s) : PgC s := Or.inr ⟨_, _, _, W.2.2.2.1.1, by have := W.2.2.2.1.2.2; omega, h.1⟩
theorem c_prepare (hs : ShC s) (R : DrC s 3 dr) (W : wfDr dr) (PC : PgC s) (hn : 3 ≤ n ∧ n ≤ 12) : Gl (GV fun s' => ShC s' ∧ FrP s s' ∧ PgC s' ∧ WdC (clsD dr) (moodD dr) (thickD dr) n s') (X4_prepare (d + 28) s 78 3 n) := wkV (c_prepS hs R W PC hn) fun _ _ ⟨q1, q2, q3, q4, _⟩ => ⟨q1, q2, q3.c W, q4⟩
end PR
