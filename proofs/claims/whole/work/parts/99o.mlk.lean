/-! ===== the reference looks at a knot; its calls that only look ===== -/
/-- a knot is looked at -/
def LkA (a : Ab) (k : Kn) (s : St) : Prop := RepM a s ∧ LkM s k.1 k.2.1 ∧ gF s 98 29 = kLen k ∧ ∀ j, j < kLen k → pf s j = pF k j
section MLK
variable {s s' : St} {a : Ab} {d : Nat} {k : Kn}
theorem RepM.f0 {q : Int} (R : RepM a s) (hq : 0 ≤ q ∧ q < (a.1.1.length : Int)) : (gA s 100).getD (17 * q).toNat 0 = (knQ a.1 q).1 := by
  have := (R.kn hq).1
  unfold kA at this
  rw [← this, show (17 * q).toNat = 17 * q.toNat by omega]
theorem RepM.f1 {q : Int} (R : RepM a s) (hq : 0 ≤ q ∧ q < (a.1.1.length : Int)) : (gA s 100).getD (17 * q + 1).toNat 0 = (knQ a.1 q).2.1 := by
  have := (R.kn hq).2.1
  unfold kA at this
  rw [← this, show (17 * q + 1).toNat = 17 * q.toNat + 1 by omega]
theorem RepM.f2 {q : Int} (R : RepM a s) (hq : 0 ≤ q ∧ q < (a.1.1.length : Int)) : (gA s 100).getD (17 * q + 2).toNat 0 = (knQ a.1 q).2.2.1 := by
  have := (R.kn hq).2.2.1
  unfold kA at this
  rw [← this, show (17 * q + 2).toNat = 17 * q.toNat + 2 by omega]
theorem RepM.f4 {q : Int} (R : RepM a s) (hq : 0 ≤ q ∧ q < (a.1.1.length : Int)) : (gA s 100).getD (17 * q + 4).toNat 0 = (knQ a.1 q).2.2.2.1 := by
  have := (R.kn hq).2.2.2.2.1
  unfold kA at this
  rw [← this, show (17 * q + 4).toNat = 17 * q.toNat + 4 by omega]
theorem mm_takesKnot {q : Int} (R : RepM a s) (W : wfA a) (hq : isKn a.1 q) : Gl (GV fun s' => LkA a (knQ a.1 q) s' ∧ Fa [112] s s') (X12_takesKnot (d + 1) s 98 q) := by
  have wk := wfKn_q W.1 hq
  have hq' := hq
  unfold isKn at hq'
  have h8 := W.1.1.1
  refine wkV (m_takesKnot (d := d) R.1 (by omega) (R.mv hq') wk.2.2.2.2.1) fun s' hev ⟨h1, h2, h3, h4, h5⟩ => ?_
  have R' : RepM a s' := R.ev hev rfl rfl (h1.mono (by decide))
  obtain ⟨b0, -, b2, -, -⟩ := R'.bk W
  refine ⟨⟨R', ⟨R'.1, b0.1, wk.1, ?_, h2.trans (R.f0 hq'), h3.trans (R.f1 hq'), b0.2.1⟩, h4, fun j hj => ?_⟩, h1⟩
  · have := wk.2.1
    omega
  · rw [h5 j hj]
    exact R.kpl hq' hj
theorem LkA.pl (L : LkA a k s) (wk : wfKn k) : ∀ j, j < kLen k → pl3 (pf s j) := fun j hj => by
  rw [L.2.2.2 j hj]
  exact wk.2.2.2.2.2.1 j hj
theorem LkA.fr (L : LkA a k s) (R : RepM a s') (F : Fa [110] s s') (hf : ∀ j ∈ [27, 28, 29], gF s' 98 j = gF s 98 j) : LkA a k s' := by
  obtain ⟨l1, ⟨m1, m2, m3, m4, m5, m6, m7⟩, l3, l4⟩ := L
  have e := F 100 (by decide)
  refine ⟨R, ⟨R.1, by rw [e]; exact m2, m3, m4, (hf 27 (by decide)).trans m5, (hf 28 (by decide)).trans m6, by rw [e]; exact m7⟩, (hf 29 (by decide)).trans l3, fun j hj => ?_⟩
  unfold pf
  rw [F 112 (by decide)]
  exact l4 j hj
theorem LkA.ev {j i : Nat} {L : Lc} {st r : List V} (K : LkA a k s) (h : EV d j i L st s = some (r, s')) (hj : okM j = true) (hw : mFs.all (fun k => !wsB j 16 k) = true) (hw2 : [27, 28, 29].all (fun k => !wsB j 16 k) = true) (F : Fa [110] s s') : LkA a k s' := by
  have hj' : okB j = true := by
    unfold okM at hj
    rw [Bool.and_eq_true] at hj
    exact hj.1
  refine K.fr (K.1.ev h hj hw (F.mono (by decide))) F fun x hx => ?_
  have := List.all_eq_true.mp hw2 x hx
  exact K.1.1.gf h hj' (by simpa using this)
theorem mm_takesAll (L : LkA a k s) (W : wfA a) (wk : wfKn k) : Gl (GI fun x s' => x = tkK a.1 k ∧ LkA a k s' ∧ Fa [110] s s') (X12_takesAll (d + 47) s 98) := by
  have hb := L.1.bk W
  refine wkI (m_takesAll (d := d) L.2.1 L.2.2.1 (by have := wk.2.2.2.2.1; omega) (L.pl wk)) fun x s' hev ⟨h1, h2⟩ => ⟨?_, L.ev hev rfl rfl rfl h2, h2⟩
  rw [h1, hb.2.1, hb.2.2.1]
  exact sumN_congr fun j hj => tkW_congr fun i hi => L.2.2.2 i (by omega)
theorem mm_gripsAll (L : LkA a k s) (W : wfA a) (wk : wfKn k) : Gl (GI fun x s' => x = gpK a.1 k ∧ LkA a k s' ∧ Fa [110] s s') (X12_gripsAll (d + 47) s 98) := by
  have hb := L.1.bk W
  refine wkI (m_gripsAll (d := d) L.2.1 L.2.2.1 (by have := wk.2.2.2.2.1; omega) (L.pl wk)) fun x s' hev ⟨h1, h2⟩ => ⟨?_, L.ev hev rfl rfl rfl h2, h2⟩
  rw [h1, hb.2.1, hb.2.2.1]
  exact sumN_congr fun j hj => gpW_congr fun i hi => L.2.2.2 i (by omega)
theorem mm_fr (L : LkA a k s) (wk : wfKn k) : X12_frontOf (d + 1) s 98 = some ([(0, frN k.1 (pF k) (kLen k))], s) := by
  rw [m_frontOf (n := kLen k) (st := k.1) L.1.1 L.2.2.1 (by have := wk.2.2.2.2.1; omega) L.2.1.2.2.2.2.1 wk.1 (L.pl wk), frN_congr (g := pF k) L.2.2.2]
theorem mm_can (L : LkA a k s) (wk : wfKn k) : X12_canThrough (d + 1) s 98 = some ([(0, if canT k.1 (pF k) (kLen k) then 1 else 0)], s) := by
  rw [m_canThrough (n := kLen k) (st := k.1) L.1.1 L.2.2.1 (by have := wk.2.2.2.2.1; omega) L.2.1.2.2.2.2.1 wk.1 (L.pl wk), canT_congr (g := pF k) L.2.2.2]
theorem mm_holds {q : Int} (R : RepM a s) (W : wfA a) (hq : isKn a.1 q) : Gl (GI fun x s' => x = (if (knQ a.1 q).2.2.2.1 = 1 ∧ needD a.1 ≤ gpK a.1 (knQ a.1 q) then 1 else 0) ∧ LkA a (knQ a.1 q) s' ∧ Fa [110, 112] s s') (X12_holds (d + 48) s 98 q) := by
  have wk := wfKn_q W.1 hq
  have hq' := hq
  unfold isKn at hq'
  have h8 := W.1.1.1
  rw [e_X12_holds, oK_ok (R.1.k98)]
  refine biV (mm_takesKnot (d := d + 46) R W hq) fun s1 _ ⟨L, F1⟩ => ?_
  rw [oK_ok (L.1.1.k98), m_fact L.1.1 (by omega) (by decide), cI_ok, L.1.f4 hq']
  by_cases e : (knQ a.1 q).2.2.2.1 = 1
  · rw [if_pos e, oK_ok (L.1.1.k98)]
    refine biI (mm_gripsAll (d := d) L W wk) fun x s2 _ ⟨h1, L2, F2⟩ => ?_
    have hs2 := L2.1.1
    simp (disch := ((try simp only [kd_sF, kd_sA, gA_sF, gA_sA, gF_sF, gF_sA, List.length_set, reduceIte, and_true, and_false, true_and, false_and, Nat.reduceEqDiff, Int.reduceEq, hs2.kd, hs2.ln, hs2.fs, kMs, lMs]); first | done | omega)) only [rF_ok, wF_ok, oK_ok, lA_ok, rA_ok, wA_ok, cI_ok, cV_ok, cL_ok, cR_ok, kd_sF, kd_sA, gA_sF, gF_sA, gF_sF, gA_sA, bk_0, bk_1, List.length_set, reduceIte, and_true, and_false, true_and, false_and, ne_eq, not_true_eq_false, not_false_eq_true, Int.toNat_natCast, Int.reduceToNat, Nat.reduceEqDiff, Int.reduceEq, Int.reduceLT, Int.reduceLE, Int.reduceAdd, Int.reduceSub, Int.reduceMul, Int.reduceNeg, hs2.kd, hs2.ln, hs2.fs, kMs, lMs, (L2.1.bk W).2.2.2.1, h1]
    by_cases e2 : gpK a.1 (knQ a.1 q) < needD a.1
    · rw [if_pos e2, if_neg (by omega)]
      exact reI ⟨rfl, L2, (F1.mono (by decide)).tr (F2.mono (by decide))⟩
    · rw [if_neg e2, if_pos ⟨e, by omega⟩]
      exact reI ⟨rfl, L2, (F1.mono (by decide)).tr (F2.mono (by decide))⟩
  · rw [if_neg e, if_neg (fun h => e h.1)]
    exact reI ⟨rfl, L, F1.mono (by decide)⟩
theorem mm_lint (R : RepM a s) : Gl (GI fun x s' => x = a.2.2.2.2.1.2.1 ∧ RepM a s') (X12_lint d s 98) := by
  rw [e_X12_lint, rF_ok (R.1.k98)]
  exact reI ⟨R.2.2.2.2.2.1.2.1, R⟩
theorem mm_fault (R : RepM a s) : Gl (GI fun x s' => x = a.2.2.2.2.1.2.2.1 ∧ RepM a s') (X12_fault d s 98) := by
  rw [e_X12_fault, rF_ok (R.1.k98)]
  exact reI ⟨R.2.2.2.2.2.1.2.2.1, R⟩
theorem mm_stopped (R : RepM a s) : Gl (GI fun x s' => x = a.2.2.2.2.1.2.2.2 ∧ RepM a s') (X12_stopped d s 98) := by
  rw [e_X12_stopped, rF_ok (R.1.k98)]
  exact reI ⟨R.2.2.2.2.2.1.2.2.2, R⟩
theorem mm_status (R : RepM a s) : Gl (GI fun x s' => x = a.2.2.2.2.1.1 ∧ RepM a s') (X12_status d s 98) := by
  rw [e_X12_status, rF_ok (R.1.k98)]
  exact reI ⟨R.2.2.2.2.2.1.1, R⟩
theorem mm_count {what : Int} (R : RepM a s) : Gl (GI fun x s' => x = aCount a what ∧ RepM a s') (X12_count d s 98 what) := by
  have hs := R.1
  have f0 : (gA s 100).getD 136 0 = (a.1.1.length : Int) := R.2.1.1.1
  have f1 : (gA s 100).getD 170 0 = (a.1.2.1.length : Int) := R.2.1.2.1.1
  have f2 : (gA s 100).getD 171 0 = (a.1.2.2.1.length : Int) := R.2.1.2.2.1.1
  have f3 : (gA s 100).getD 172 0 = (a.1.2.2.2.2.1.length : Int) := R.2.1.2.2.2.2.1.1
  have f4 : gF s 98 33 = (a.2.2.1.length : Int) := R.2.2.2.1.1
  have f5 : gF s 98 13 = (a.2.2.2.1.length : Int) := R.2.2.2.2.1.1
  obtain ⟨r1, r2, r3, r4, r5⟩ := R.2.2.2.2.2.2.1
  have f11 : (gA s 100).getD 173 0 = a.1.2.2.2.2.2 := R.2.1.2.2.2.2.2
  have f12 : (gA s 100).getD 167 0 = moodD a.1 := R.2.1.2.2.2.1.1
  have f13 : (gA s 100).getD 168 0 = needD a.1 := R.2.1.2.2.2.1.2.1
  have f14 : (gA s 100).getD 169 0 = thickD a.1 := R.2.1.2.2.2.1.2.2
  unfold aCount
  rw [e_X12_count]
  by_cases h0 : what < 0 ∨ 14 < what
  · rw [if_neg (show ¬ (what = 0) by omega), if_neg (show ¬ (what = 1) by omega), if_neg (show ¬ (what = 2) by omega), if_neg (show ¬ (what = 3) by omega), if_neg (show ¬ (what = 4) by omega), if_neg (show ¬ (what = 5) by omega), if_neg (show ¬ (what = 6) by omega), if_neg (show ¬ (what = 7) by omega), if_neg (show ¬ (what = 8) by omega), if_neg (show ¬ (what = 9) by omega), if_neg (show ¬ (what = 10) by omega), if_neg (show ¬ (what = 11) by omega), if_neg (show ¬ (what = 12) by omega), if_neg (show ¬ (what = 13) by omega), if_neg (show ¬ (what = 14) by omega), if_neg (show ¬ (what = 0) by omega), if_neg (show ¬ (what = 1) by omega), if_neg (show ¬ (what = 2) by omega), if_neg (show ¬ (what = 3) by omega), if_neg (show ¬ (what = 4) by omega), if_neg (show ¬ (what = 5) by omega), if_neg (show ¬ (what = 6) by omega), if_neg (show ¬ (what = 7) by omega), if_neg (show ¬ (what = 8) by omega), if_neg (show ¬ (what = 9) by omega), if_neg (show ¬ (what = 10) by omega), if_neg (show ¬ (what = 11) by omega), if_neg (show ¬ (what = 12) by omega), if_neg (show ¬ (what = 13) by omega), if_neg (show ¬ (what = 14) by omega)]
    exact reI ⟨rfl, R⟩
  · have hw : what = 0 ∨ what = 1 ∨ what = 2 ∨ what = 3 ∨ what = 4 ∨ what = 5 ∨ what = 6 ∨ what = 7 ∨ what = 8 ∨ what = 9 ∨ what = 10 ∨ what = 11 ∨ what = 12 ∨ what = 13 ∨ what = 14 := by omega
    rcases hw with rfl | rfl | rfl | rfl | rfl | rfl | rfl | rfl | rfl | rfl | rfl | rfl | rfl | rfl | rfl
    · simp (disch := ((try simp only [kd_sF, kd_sA, gA_sF, gA_sA, gF_sF, gF_sA, List.length_set, reduceIte, and_true, and_false, true_and, false_and, Nat.reduceEqDiff, Int.reduceEq, hs.kd, hs.ln, hs.fs, kMs, lMs]); first | done | omega)) only [rF_ok, wF_ok, oK_ok, lA_ok, rA_ok, wA_ok, cI_ok, cV_ok, cL_ok, cR_ok, kd_sF, kd_sA, gA_sF, gF_sA, gF_sF, gA_sA, bk_0, bk_1, List.length_set, reduceIte, and_true, and_false, true_and, false_and, ne_eq, not_true_eq_false, not_false_eq_true, Int.toNat_natCast, Int.reduceToNat, Nat.reduceEqDiff, Int.reduceEq, Int.reduceLT, Int.reduceLE, Int.reduceAdd, Int.reduceSub, Int.reduceMul, Int.reduceNeg, hs.kd, hs.ln, hs.fs, kMs, lMs, f0]; exact reI ⟨rfl, R⟩
    · simp (disch := ((try simp only [kd_sF, kd_sA, gA_sF, gA_sA, gF_sF, gF_sA, List.length_set, reduceIte, and_true, and_false, true_and, false_and, Nat.reduceEqDiff, Int.reduceEq, hs.kd, hs.ln, hs.fs, kMs, lMs]); first | done | omega)) only [rF_ok, wF_ok, oK_ok, lA_ok, rA_ok, wA_ok, cI_ok, cV_ok, cL_ok, cR_ok, kd_sF, kd_sA, gA_sF, gF_sA, gF_sF, gA_sA, bk_0, bk_1, List.length_set, reduceIte, and_true, and_false, true_and, false_and, ne_eq, not_true_eq_false, not_false_eq_true, Int.toNat_natCast, Int.reduceToNat, Nat.reduceEqDiff, Int.reduceEq, Int.reduceLT, Int.reduceLE, Int.reduceAdd, Int.reduceSub, Int.reduceMul, Int.reduceNeg, hs.kd, hs.ln, hs.fs, kMs, lMs, f1]; exact reI ⟨rfl, R⟩
    · simp (disch := ((try simp only [kd_sF, kd_sA, gA_sF, gA_sA, gF_sF, gF_sA, List.length_set, reduceIte, and_true, and_false, true_and, false_and, Nat.reduceEqDiff, Int.reduceEq, hs.kd, hs.ln, hs.fs, kMs, lMs]); first | done | omega)) only [rF_ok, wF_ok, oK_ok, lA_ok, rA_ok, wA_ok, cI_ok, cV_ok, cL_ok, cR_ok, kd_sF, kd_sA, gA_sF, gF_sA, gF_sF, gA_sA, bk_0, bk_1, List.length_set, reduceIte, and_true, and_false, true_and, false_and, ne_eq, not_true_eq_false, not_false_eq_true, Int.toNat_natCast, Int.reduceToNat, Nat.reduceEqDiff, Int.reduceEq, Int.reduceLT, Int.reduceLE, Int.reduceAdd, Int.reduceSub, Int.reduceMul, Int.reduceNeg, hs.kd, hs.ln, hs.fs, kMs, lMs, f2]; exact reI ⟨rfl, R⟩
    · simp (disch := ((try simp only [kd_sF, kd_sA, gA_sF, gA_sA, gF_sF, gF_sA, List.length_set, reduceIte, and_true, and_false, true_and, false_and, Nat.reduceEqDiff, Int.reduceEq, hs.kd, hs.ln, hs.fs, kMs, lMs]); first | done | omega)) only [rF_ok, wF_ok, oK_ok, lA_ok, rA_ok, wA_ok, cI_ok, cV_ok, cL_ok, cR_ok, kd_sF, kd_sA, gA_sF, gF_sA, gF_sF, gA_sA, bk_0, bk_1, List.length_set, reduceIte, and_true, and_false, true_and, false_and, ne_eq, not_true_eq_false, not_false_eq_true, Int.toNat_natCast, Int.reduceToNat, Nat.reduceEqDiff, Int.reduceEq, Int.reduceLT, Int.reduceLE, Int.reduceAdd, Int.reduceSub, Int.reduceMul, Int.reduceNeg, hs.kd, hs.ln, hs.fs, kMs, lMs, f3]; exact reI ⟨rfl, R⟩
    · simp (disch := ((try simp only [kd_sF, kd_sA, gA_sF, gA_sA, gF_sF, gF_sA, List.length_set, reduceIte, and_true, and_false, true_and, false_and, Nat.reduceEqDiff, Int.reduceEq, hs.kd, hs.ln, hs.fs, kMs, lMs]); first | done | omega)) only [rF_ok, wF_ok, oK_ok, lA_ok, rA_ok, wA_ok, cI_ok, cV_ok, cL_ok, cR_ok, kd_sF, kd_sA, gA_sF, gF_sA, gF_sF, gA_sA, bk_0, bk_1, List.length_set, reduceIte, and_true, and_false, true_and, false_and, ne_eq, not_true_eq_false, not_false_eq_true, Int.toNat_natCast, Int.reduceToNat, Nat.reduceEqDiff, Int.reduceEq, Int.reduceLT, Int.reduceLE, Int.reduceAdd, Int.reduceSub, Int.reduceMul, Int.reduceNeg, hs.kd, hs.ln, hs.fs, kMs, lMs, f4]; exact reI ⟨rfl, R⟩
    · simp (disch := ((try simp only [kd_sF, kd_sA, gA_sF, gA_sA, gF_sF, gF_sA, List.length_set, reduceIte, and_true, and_false, true_and, false_and, Nat.reduceEqDiff, Int.reduceEq, hs.kd, hs.ln, hs.fs, kMs, lMs]); first | done | omega)) only [rF_ok, wF_ok, oK_ok, lA_ok, rA_ok, wA_ok, cI_ok, cV_ok, cL_ok, cR_ok, kd_sF, kd_sA, gA_sF, gF_sA, gF_sF, gA_sA, bk_0, bk_1, List.length_set, reduceIte, and_true, and_false, true_and, false_and, ne_eq, not_true_eq_false, not_false_eq_true, Int.toNat_natCast, Int.reduceToNat, Nat.reduceEqDiff, Int.reduceEq, Int.reduceLT, Int.reduceLE, Int.reduceAdd, Int.reduceSub, Int.reduceMul, Int.reduceNeg, hs.kd, hs.ln, hs.fs, kMs, lMs, f5]; exact reI ⟨rfl, R⟩
    · simp (disch := ((try simp only [kd_sF, kd_sA, gA_sF, gA_sA, gF_sF, gF_sA, List.length_set, reduceIte, and_true, and_false, true_and, false_and, Nat.reduceEqDiff, Int.reduceEq, hs.kd, hs.ln, hs.fs, kMs, lMs]); first | done | omega)) only [rF_ok, wF_ok, oK_ok, lA_ok, rA_ok, wA_ok, cI_ok, cV_ok, cL_ok, cR_ok, kd_sF, kd_sA, gA_sF, gF_sA, gF_sF, gA_sA, bk_0, bk_1, List.length_set, reduceIte, and_true, and_false, true_and, false_and, ne_eq, not_true_eq_false, not_false_eq_true, Int.toNat_natCast, Int.reduceToNat, Nat.reduceEqDiff, Int.reduceEq, Int.reduceLT, Int.reduceLE, Int.reduceAdd, Int.reduceSub, Int.reduceMul, Int.reduceNeg, hs.kd, hs.ln, hs.fs, kMs, lMs, wi_sm, r1]; exact reI ⟨rfl, R⟩
    · simp (disch := ((try simp only [kd_sF, kd_sA, gA_sF, gA_sA, gF_sF, gF_sA, List.length_set, reduceIte, and_true, and_false, true_and, false_and, Nat.reduceEqDiff, Int.reduceEq, hs.kd, hs.ln, hs.fs, kMs, lMs]); first | done | omega)) only [rF_ok, wF_ok, oK_ok, lA_ok, rA_ok, wA_ok, cI_ok, cV_ok, cL_ok, cR_ok, kd_sF, kd_sA, gA_sF, gF_sA, gF_sF, gA_sA, bk_0, bk_1, List.length_set, reduceIte, and_true, and_false, true_and, false_and, ne_eq, not_true_eq_false, not_false_eq_true, Int.toNat_natCast, Int.reduceToNat, Nat.reduceEqDiff, Int.reduceEq, Int.reduceLT, Int.reduceLE, Int.reduceAdd, Int.reduceSub, Int.reduceMul, Int.reduceNeg, hs.kd, hs.ln, hs.fs, kMs, lMs, wi_sm, r2]; exact reI ⟨rfl, R⟩
    · simp (disch := ((try simp only [kd_sF, kd_sA, gA_sF, gA_sA, gF_sF, gF_sA, List.length_set, reduceIte, and_true, and_false, true_and, false_and, Nat.reduceEqDiff, Int.reduceEq, hs.kd, hs.ln, hs.fs, kMs, lMs]); first | done | omega)) only [rF_ok, wF_ok, oK_ok, lA_ok, rA_ok, wA_ok, cI_ok, cV_ok, cL_ok, cR_ok, kd_sF, kd_sA, gA_sF, gF_sA, gF_sF, gA_sA, bk_0, bk_1, List.length_set, reduceIte, and_true, and_false, true_and, false_and, ne_eq, not_true_eq_false, not_false_eq_true, Int.toNat_natCast, Int.reduceToNat, Nat.reduceEqDiff, Int.reduceEq, Int.reduceLT, Int.reduceLE, Int.reduceAdd, Int.reduceSub, Int.reduceMul, Int.reduceNeg, hs.kd, hs.ln, hs.fs, kMs, lMs, wi_sm, r3]; exact reI ⟨rfl, R⟩
    · simp (disch := ((try simp only [kd_sF, kd_sA, gA_sF, gA_sA, gF_sF, gF_sA, List.length_set, reduceIte, and_true, and_false, true_and, false_and, Nat.reduceEqDiff, Int.reduceEq, hs.kd, hs.ln, hs.fs, kMs, lMs]); first | done | omega)) only [rF_ok, wF_ok, oK_ok, lA_ok, rA_ok, wA_ok, cI_ok, cV_ok, cL_ok, cR_ok, kd_sF, kd_sA, gA_sF, gF_sA, gF_sF, gA_sA, bk_0, bk_1, List.length_set, reduceIte, and_true, and_false, true_and, false_and, ne_eq, not_true_eq_false, not_false_eq_true, Int.toNat_natCast, Int.reduceToNat, Nat.reduceEqDiff, Int.reduceEq, Int.reduceLT, Int.reduceLE, Int.reduceAdd, Int.reduceSub, Int.reduceMul, Int.reduceNeg, hs.kd, hs.ln, hs.fs, kMs, lMs, r4]; exact reI ⟨rfl, R⟩
    · simp (disch := ((try simp only [kd_sF, kd_sA, gA_sF, gA_sA, gF_sF, gF_sA, List.length_set, reduceIte, and_true, and_false, true_and, false_and, Nat.reduceEqDiff, Int.reduceEq, hs.kd, hs.ln, hs.fs, kMs, lMs]); first | done | omega)) only [rF_ok, wF_ok, oK_ok, lA_ok, rA_ok, wA_ok, cI_ok, cV_ok, cL_ok, cR_ok, kd_sF, kd_sA, gA_sF, gF_sA, gF_sF, gA_sA, bk_0, bk_1, List.length_set, reduceIte, and_true, and_false, true_and, false_and, ne_eq, not_true_eq_false, not_false_eq_true, Int.toNat_natCast, Int.reduceToNat, Nat.reduceEqDiff, Int.reduceEq, Int.reduceLT, Int.reduceLE, Int.reduceAdd, Int.reduceSub, Int.reduceMul, Int.reduceNeg, hs.kd, hs.ln, hs.fs, kMs, lMs, r5]; exact reI ⟨rfl, R⟩
    · simp (disch := ((try simp only [kd_sF, kd_sA, gA_sF, gA_sA, gF_sF, gF_sA, List.length_set, reduceIte, and_true, and_false, true_and, false_and, Nat.reduceEqDiff, Int.reduceEq, hs.kd, hs.ln, hs.fs, kMs, lMs]); first | done | omega)) only [rF_ok, wF_ok, oK_ok, lA_ok, rA_ok, wA_ok, cI_ok, cV_ok, cL_ok, cR_ok, kd_sF, kd_sA, gA_sF, gF_sA, gF_sF, gA_sA, bk_0, bk_1, List.length_set, reduceIte, and_true, and_false, true_and, false_and, ne_eq, not_true_eq_false, not_false_eq_true, Int.toNat_natCast, Int.reduceToNat, Nat.reduceEqDiff, Int.reduceEq, Int.reduceLT, Int.reduceLE, Int.reduceAdd, Int.reduceSub, Int.reduceMul, Int.reduceNeg, hs.kd, hs.ln, hs.fs, kMs, lMs, f11]; exact reI ⟨rfl, R⟩
    · rw [e_X12_count_155]; simp (disch := ((try simp only [kd_sF, kd_sA, gA_sF, gA_sA, gF_sF, gF_sA, List.length_set, reduceIte, and_true, and_false, true_and, false_and, Nat.reduceEqDiff, Int.reduceEq, hs.kd, hs.ln, hs.fs, kMs, lMs]); first | done | omega)) only [rF_ok, wF_ok, oK_ok, lA_ok, rA_ok, wA_ok, cI_ok, cV_ok, cL_ok, cR_ok, kd_sF, kd_sA, gA_sF, gF_sA, gF_sF, gA_sA, bk_0, bk_1, List.length_set, reduceIte, and_true, and_false, true_and, false_and, ne_eq, not_true_eq_false, not_false_eq_true, Int.toNat_natCast, Int.reduceToNat, Nat.reduceEqDiff, Int.reduceEq, Int.reduceLT, Int.reduceLE, Int.reduceAdd, Int.reduceSub, Int.reduceMul, Int.reduceNeg, hs.kd, hs.ln, hs.fs, kMs, lMs, wi_sm, f12]; exact reI ⟨rfl, R⟩
    · rw [e_X12_count_155]; simp (disch := ((try simp only [kd_sF, kd_sA, gA_sF, gA_sA, gF_sF, gF_sA, List.length_set, reduceIte, and_true, and_false, true_and, false_and, Nat.reduceEqDiff, Int.reduceEq, hs.kd, hs.ln, hs.fs, kMs, lMs]); first | done | omega)) only [rF_ok, wF_ok, oK_ok, lA_ok, rA_ok, wA_ok, cI_ok, cV_ok, cL_ok, cR_ok, kd_sF, kd_sA, gA_sF, gF_sA, gF_sF, gA_sA, bk_0, bk_1, List.length_set, reduceIte, and_true, and_false, true_and, false_and, ne_eq, not_true_eq_false, not_false_eq_true, Int.toNat_natCast, Int.reduceToNat, Nat.reduceEqDiff, Int.reduceEq, Int.reduceLT, Int.reduceLE, Int.reduceAdd, Int.reduceSub, Int.reduceMul, Int.reduceNeg, hs.kd, hs.ln, hs.fs, kMs, lMs, wi_sm, f13]; exact reI ⟨rfl, R⟩
    · rw [e_X12_count_155]; simp (disch := ((try simp only [kd_sF, kd_sA, gA_sF, gA_sA, gF_sF, gF_sA, List.length_set, reduceIte, and_true, and_false, true_and, false_and, Nat.reduceEqDiff, Int.reduceEq, hs.kd, hs.ln, hs.fs, kMs, lMs]); first | done | omega)) only [rF_ok, wF_ok, oK_ok, lA_ok, rA_ok, wA_ok, cI_ok, cV_ok, cL_ok, cR_ok, kd_sF, kd_sA, gA_sF, gF_sA, gF_sF, gA_sA, bk_0, bk_1, List.length_set, reduceIte, and_true, and_false, true_and, false_and, ne_eq, not_true_eq_false, not_false_eq_true, Int.toNat_natCast, Int.reduceToNat, Nat.reduceEqDiff, Int.reduceEq, Int.reduceLT, Int.reduceLE, Int.reduceAdd, Int.reduceSub, Int.reduceMul, Int.reduceNeg, hs.kd, hs.ln, hs.fs, kMs, lMs, wi_sm, f14]; exact reI ⟨rfl, R⟩
theorem mm_of {q what : Int} (hw : rg what) (R : RepM a s) (W : wfA a) : Gl (GI fun x s' => x = aOf a.1 q what ∧ RepM a s') (X12_of (d + 49) s 98 q what) := by
  unfold aOf
  rw [e_X12_of, oK_ok (R.1.k98), R.isKn W, cI_ok]
  by_cases hq : isKn a.1 q
  · have hq' := hq
    unfold isKn at hq'
    have h8 := W.1.1.1
    have wk := wfKn_q W.1 hq
    have w12 := wk.2.2.2.2.1
    rw [if_pos hq', if_pos hq', if_neg (show ¬ ((1 : Int) = 0) by decide), oK_ok (R.1.k98)]
    refine biV (mm_takesKnot (d := d + 47) R W hq) fun s1 _ ⟨L, F1⟩ => ?_
    have R1 := L.1
    have hs1 := R1.1
    unfold ofK
    by_cases h0 : what < 0 ∨ 11 < what
    · rw [if_neg (show ¬ (what = 0) by omega), if_neg (show ¬ (what = 1) by omega), if_neg (show ¬ (what = 2) by omega), if_neg (show ¬ (what = 3) by omega), if_neg (show ¬ (what = 4) by omega), if_neg (show ¬ (what = 5) by omega), if_neg (show ¬ (what = 6) by omega), if_neg (show ¬ (what = 7) by omega), if_neg (show ¬ (what = 8) by omega), if_neg (show ¬ (what = 9) by omega), if_neg (show ¬ (what = 10) by omega), if_neg (show ¬ (what = 11) by omega), if_neg (show ¬ (what = 0) by omega), if_neg (show ¬ (what = 1) by omega), if_neg (show ¬ (what = 2) by omega), if_neg (show ¬ (what = 3) by omega), if_neg (show ¬ (what = 4) by omega), if_neg (show ¬ (what = 5) by omega), if_neg (show ¬ (what = 6) by omega), if_neg (show ¬ (what = 7) by omega), if_neg (show ¬ (what = 8) by omega), if_neg (show ¬ (what = 9) by omega), if_neg (show ¬ (what = 10) by omega), if_neg (show ¬ (what = 11) by omega)]
      rw [rF_ok (hs1.k98), L.2.2.1, wi_sm (by omega) (by omega), lies_if, cI_ok]
      by_cases e : 12 ≤ what ∧ what ≤ 11 + (kLen (knQ a.1 q) : Int)
      · rw [if_pos e, if_neg (show ¬ (what < 0) by omega), if_pos (by omega), if_neg (show ¬ ((1 : Int) = 0) by decide)]
        simp (disch := ((try simp only [kd_sF, kd_sA, gA_sF, gA_sA, gF_sF, gF_sA, List.length_set, reduceIte, and_true, and_false, true_and, false_and, Nat.reduceEqDiff, Int.reduceEq, hs1.kd, hs1.ln, hs1.fs, kMs, lMs]); first | done | omega)) only [rF_ok, wF_ok, oK_ok, lA_ok, rA_ok, wA_ok, cI_ok, cV_ok, cL_ok, cR_ok, kd_sF, kd_sA, gA_sF, gF_sA, gF_sF, gA_sA, bk_0, bk_1, List.length_set, reduceIte, and_true, and_false, true_and, false_and, ne_eq, not_true_eq_false, not_false_eq_true, Int.toNat_natCast, Int.reduceToNat, Nat.reduceEqDiff, Int.reduceEq, Int.reduceLT, Int.reduceLE, Int.reduceAdd, Int.reduceSub, Int.reduceMul, Int.reduceNeg, hs1.kd, hs1.ln, hs1.fs, kMs, lMs, wi_sm]
        refine reI ⟨?_, R1⟩
        exact L.2.2.2 (what - 12).toNat (by omega)
      · rw [if_neg e, if_pos rfl]
        by_cases e2 : what < 0
        · rw [if_pos e2]
          exact reI ⟨rfl, R1⟩
        · rw [if_neg e2, if_neg (by omega)]
          exact reI ⟨rfl, R1⟩
    · have hw : what = 0 ∨ what = 1 ∨ what = 2 ∨ what = 3 ∨ what = 4 ∨ what = 5 ∨ what = 6 ∨ what = 7 ∨ what = 8 ∨ what = 9 ∨ what = 10 ∨ what = 11 := by omega
      rw [if_neg (show ¬ (what < 0) by omega)]
      rcases hw with rfl | rfl | rfl | rfl | rfl | rfl | rfl | rfl | rfl | rfl | rfl | rfl
      · simp (disch := ((try simp only [kd_sF, kd_sA, gA_sF, gA_sA, gF_sF, gF_sA, List.length_set, reduceIte, and_true, and_false, true_and, false_and, Nat.reduceEqDiff, Int.reduceEq]); first | done | omega)) only [rF_ok, wF_ok, oK_ok, lA_ok, rA_ok, wA_ok, cI_ok, cV_ok, cL_ok, cR_ok, kd_sF, kd_sA, gA_sF, gF_sA, gF_sF, gA_sA, bk_0, bk_1, List.length_set, reduceIte, and_true, and_false, true_and, false_and, ne_eq, not_true_eq_false, not_false_eq_true, Int.toNat_natCast, Int.reduceToNat, Nat.reduceEqDiff, Int.reduceEq, Int.reduceLT, Int.reduceLE, Int.reduceAdd, Int.reduceSub, Int.reduceMul, Int.reduceNeg]
        rw [e_X12_of_80, oK_ok (hs1.k98), m_fact hs1 (by omega) (by decide), cI_ok, Int.add_zero, R1.f0 hq']
        exact reI ⟨rfl, R1⟩
      · simp (disch := ((try simp only [kd_sF, kd_sA, gA_sF, gA_sA, gF_sF, gF_sA, List.length_set, reduceIte, and_true, and_false, true_and, false_and, Nat.reduceEqDiff, Int.reduceEq]); first | done | omega)) only [rF_ok, wF_ok, oK_ok, lA_ok, rA_ok, wA_ok, cI_ok, cV_ok, cL_ok, cR_ok, kd_sF, kd_sA, gA_sF, gF_sA, gF_sF, gA_sA, bk_0, bk_1, List.length_set, reduceIte, and_true, and_false, true_and, false_and, ne_eq, not_true_eq_false, not_false_eq_true, Int.toNat_natCast, Int.reduceToNat, Nat.reduceEqDiff, Int.reduceEq, Int.reduceLT, Int.reduceLE, Int.reduceAdd, Int.reduceSub, Int.reduceMul, Int.reduceNeg]
        rw [e_X12_of_80, oK_ok (hs1.k98), m_fact hs1 (by omega) (by decide), cI_ok, R1.f1 hq']
        exact reI ⟨rfl, R1⟩
      · simp (disch := ((try simp only [kd_sF, kd_sA, gA_sF, gA_sA, gF_sF, gF_sA, List.length_set, reduceIte, and_true, and_false, true_and, false_and, Nat.reduceEqDiff, Int.reduceEq]); first | done | omega)) only [rF_ok, wF_ok, oK_ok, lA_ok, rA_ok, wA_ok, cI_ok, cV_ok, cL_ok, cR_ok, kd_sF, kd_sA, gA_sF, gF_sA, gF_sF, gA_sA, bk_0, bk_1, List.length_set, reduceIte, and_true, and_false, true_and, false_and, ne_eq, not_true_eq_false, not_false_eq_true, Int.toNat_natCast, Int.reduceToNat, Nat.reduceEqDiff, Int.reduceEq, Int.reduceLT, Int.reduceLE, Int.reduceAdd, Int.reduceSub, Int.reduceMul, Int.reduceNeg]
        rw [e_X12_of_80, oK_ok (hs1.k98), m_fact hs1 (by omega) (by decide), cI_ok, R1.f2 hq']
        exact reI ⟨rfl, R1⟩
      · simp (disch := ((try simp only [kd_sF, kd_sA, gA_sF, gA_sA, gF_sF, gF_sA, List.length_set, reduceIte, and_true, and_false, true_and, false_and, Nat.reduceEqDiff, Int.reduceEq]); first | done | omega)) only [rF_ok, wF_ok, oK_ok, lA_ok, rA_ok, wA_ok, cI_ok, cV_ok, cL_ok, cR_ok, kd_sF, kd_sA, gA_sF, gF_sA, gF_sF, gA_sA, bk_0, bk_1, List.length_set, reduceIte, and_true, and_false, true_and, false_and, ne_eq, not_true_eq_false, not_false_eq_true, Int.toNat_natCast, Int.reduceToNat, Nat.reduceEqDiff, Int.reduceEq, Int.reduceLT, Int.reduceLE, Int.reduceAdd, Int.reduceSub, Int.reduceMul, Int.reduceNeg]
        rw [e_X12_of_80, oK_ok (hs1.k98), m_fact hs1 (by omega) (by decide), cI_ok, R1.mv hq']
        exact reI ⟨rfl, R1⟩
      · simp (disch := ((try simp only [kd_sF, kd_sA, gA_sF, gA_sA, gF_sF, gF_sA, List.length_set, reduceIte, and_true, and_false, true_and, false_and, Nat.reduceEqDiff, Int.reduceEq]); first | done | omega)) only [rF_ok, wF_ok, oK_ok, lA_ok, rA_ok, wA_ok, cI_ok, cV_ok, cL_ok, cR_ok, kd_sF, kd_sA, gA_sF, gF_sA, gF_sF, gA_sA, bk_0, bk_1, List.length_set, reduceIte, and_true, and_false, true_and, false_and, ne_eq, not_true_eq_false, not_false_eq_true, Int.toNat_natCast, Int.reduceToNat, Nat.reduceEqDiff, Int.reduceEq, Int.reduceLT, Int.reduceLE, Int.reduceAdd, Int.reduceSub, Int.reduceMul, Int.reduceNeg]
        rw [e_X12_of_80, oK_ok (hs1.k98), m_fact hs1 (by omega) (by decide), cI_ok, R1.f4 hq']
        exact reI ⟨rfl, R1⟩
      · simp (disch := ((try simp only [kd_sF, kd_sA, gA_sF, gA_sA, gF_sF, gF_sA, List.length_set, reduceIte, and_true, and_false, true_and, false_and, Nat.reduceEqDiff, Int.reduceEq]); first | done | omega)) only [rF_ok, wF_ok, oK_ok, lA_ok, rA_ok, wA_ok, cI_ok, cV_ok, cL_ok, cR_ok, kd_sF, kd_sA, gA_sF, gF_sA, gF_sF, gA_sA, bk_0, bk_1, List.length_set, reduceIte, and_true, and_false, true_and, false_and, ne_eq, not_true_eq_false, not_false_eq_true, Int.toNat_natCast, Int.reduceToNat, Nat.reduceEqDiff, Int.reduceEq, Int.reduceLT, Int.reduceLE, Int.reduceAdd, Int.reduceSub, Int.reduceMul, Int.reduceNeg]
        rw [oK_ok (hs1.k98)]
        exact biI (mm_takesAll (d := d + 1) L W wk) fun x s2 _ ⟨h1, L2, F2⟩ => reI ⟨h1, L2.1⟩
      · simp (disch := ((try simp only [kd_sF, kd_sA, gA_sF, gA_sA, gF_sF, gF_sA, List.length_set, reduceIte, and_true, and_false, true_and, false_and, Nat.reduceEqDiff, Int.reduceEq]); first | done | omega)) only [rF_ok, wF_ok, oK_ok, lA_ok, rA_ok, wA_ok, cI_ok, cV_ok, cL_ok, cR_ok, kd_sF, kd_sA, gA_sF, gF_sA, gF_sF, gA_sA, bk_0, bk_1, List.length_set, reduceIte, and_true, and_false, true_and, false_and, ne_eq, not_true_eq_false, not_false_eq_true, Int.toNat_natCast, Int.reduceToNat, Nat.reduceEqDiff, Int.reduceEq, Int.reduceLT, Int.reduceLE, Int.reduceAdd, Int.reduceSub, Int.reduceMul, Int.reduceNeg]
        rw [oK_ok (hs1.k98)]
        exact biI (mm_gripsAll (d := d + 1) L W wk) fun x s2 _ ⟨h1, L2, F2⟩ => reI ⟨h1, L2.1⟩
      · simp (disch := ((try simp only [kd_sF, kd_sA, gA_sF, gA_sA, gF_sF, gF_sA, List.length_set, reduceIte, and_true, and_false, true_and, false_and, Nat.reduceEqDiff, Int.reduceEq]); first | done | omega)) only [rF_ok, wF_ok, oK_ok, lA_ok, rA_ok, wA_ok, cI_ok, cV_ok, cL_ok, cR_ok, kd_sF, kd_sA, gA_sF, gF_sA, gF_sF, gA_sA, bk_0, bk_1, List.length_set, reduceIte, and_true, and_false, true_and, false_and, ne_eq, not_true_eq_false, not_false_eq_true, Int.toNat_natCast, Int.reduceToNat, Nat.reduceEqDiff, Int.reduceEq, Int.reduceLT, Int.reduceLE, Int.reduceAdd, Int.reduceSub, Int.reduceMul, Int.reduceNeg]
        rw [oK_ok (hs1.k98)]
        refine biI (mm_holds (d := d) R1 W hq) fun x s2 _ ⟨h1, L2, F2⟩ => ?_
        rw [h1]
        split
        · rw [if_neg (show ¬ ((1 : Int) = 0) by decide)]
          exact reI ⟨rfl, L2.1⟩
        · rw [if_pos rfl]
          exact reI ⟨rfl, L2.1⟩
      · simp (disch := ((try simp only [kd_sF, kd_sA, gA_sF, gA_sA, gF_sF, gF_sA, List.length_set, reduceIte, and_true, and_false, true_and, false_and, Nat.reduceEqDiff, Int.reduceEq]); first | done | omega)) only [rF_ok, wF_ok, oK_ok, lA_ok, rA_ok, wA_ok, cI_ok, cV_ok, cL_ok, cR_ok, kd_sF, kd_sA, gA_sF, gF_sA, gF_sF, gA_sA, bk_0, bk_1, List.length_set, reduceIte, and_true, and_false, true_and, false_and, ne_eq, not_true_eq_false, not_false_eq_true, Int.toNat_natCast, Int.reduceToNat, Nat.reduceEqDiff, Int.reduceEq, Int.reduceLT, Int.reduceLE, Int.reduceAdd, Int.reduceSub, Int.reduceMul, Int.reduceNeg]
        rw [oK_ok (hs1.k98), m_centres hs1 L.2.2.1 (by omega), cI_ok, cenN_congr L.2.2.2]
        exact reI ⟨rfl, R1⟩
      · simp (disch := ((try simp only [kd_sF, kd_sA, gA_sF, gA_sA, gF_sF, gF_sA, List.length_set, reduceIte, and_true, and_false, true_and, false_and, Nat.reduceEqDiff, Int.reduceEq]); first | done | omega)) only [rF_ok, wF_ok, oK_ok, lA_ok, rA_ok, wA_ok, cI_ok, cV_ok, cL_ok, cR_ok, kd_sF, kd_sA, gA_sF, gF_sA, gF_sF, gA_sA, bk_0, bk_1, List.length_set, reduceIte, and_true, and_false, true_and, false_and, ne_eq, not_true_eq_false, not_false_eq_true, Int.toNat_natCast, Int.reduceToNat, Nat.reduceEqDiff, Int.reduceEq, Int.reduceLT, Int.reduceLE, Int.reduceAdd, Int.reduceSub, Int.reduceMul, Int.reduceNeg]
        rw [oK_ok (hs1.k98), m_leans hs1 L.2.2.1 (by omega), cI_ok, leanN_congr L.2.2.2]
        exact reI ⟨rfl, R1⟩
      · simp (disch := ((try simp only [kd_sF, kd_sA, gA_sF, gA_sA, gF_sF, gF_sA, List.length_set, reduceIte, and_true, and_false, true_and, false_and, Nat.reduceEqDiff, Int.reduceEq]); first | done | omega)) only [rF_ok, wF_ok, oK_ok, lA_ok, rA_ok, wA_ok, cI_ok, cV_ok, cL_ok, cR_ok, kd_sF, kd_sA, gA_sF, gF_sA, gF_sF, gA_sA, bk_0, bk_1, List.length_set, reduceIte, and_true, and_false, true_and, false_and, ne_eq, not_true_eq_false, not_false_eq_true, Int.toNat_natCast, Int.reduceToNat, Nat.reduceEqDiff, Int.reduceEq, Int.reduceLT, Int.reduceLE, Int.reduceAdd, Int.reduceSub, Int.reduceMul, Int.reduceNeg]
        rw [oK_ok (hs1.k98), m_twists hs1 L.2.2.1 (by omega) (L.pl wk), cI_ok, twN_congr L.2.2.2]
        exact reI ⟨rfl, R1⟩
      · simp (disch := ((try simp only [kd_sF, kd_sA, gA_sF, gA_sA, gF_sF, gF_sA, List.length_set, reduceIte, and_true, and_false, true_and, false_and, Nat.reduceEqDiff, Int.reduceEq]); first | done | omega)) only [rF_ok, wF_ok, oK_ok, lA_ok, rA_ok, wA_ok, cI_ok, cV_ok, cL_ok, cR_ok, kd_sF, kd_sA, gA_sF, gF_sA, gF_sF, gA_sA, bk_0, bk_1, List.length_set, reduceIte, and_true, and_false, true_and, false_and, ne_eq, not_true_eq_false, not_false_eq_true, Int.toNat_natCast, Int.reduceToNat, Nat.reduceEqDiff, Int.reduceEq, Int.reduceLT, Int.reduceLE, Int.reduceAdd, Int.reduceSub, Int.reduceMul, Int.reduceNeg]
        rw [oK_ok (hs1.k98), m_leftOver hs1 L.2.2.1 (by omega) (L.pl wk), cI_ok, lefN_congr L.2.2.2]
        exact reI ⟨rfl, R1⟩
  · have hq' : ¬ (0 ≤ q ∧ q < (a.1.1.length : Int)) := hq
    rw [if_neg hq', if_neg hq', if_pos rfl]
    exact reI ⟨rfl, R⟩
theorem mm_front {q i : Int} (R : RepM a s) (W : wfA a) : Gl (GI fun x s' => x = aFront a.1 q i ∧ RepM a s') (X12_front (d + 3) s 98 q i) := by
  unfold aFront
  rw [e_X12_front, oK_ok (R.1.k98), R.isKn W, cI_ok]
  by_cases hq : isKn a.1 q
  · have hq' := hq
    unfold isKn at hq'
    have wk := wfKn_q W.1 hq
    rw [if_pos hq', if_neg (show ¬ ((1 : Int) = 0) by decide), lies_if, cI_ok]
    by_cases hi : 0 ≤ i ∧ i ≤ 2
    · rw [if_pos hi, if_pos ⟨hq', hi⟩, if_neg (show ¬ ((1 : Int) = 0) by decide), oK_ok (R.1.k98)]
      refine biV (mm_takesKnot (d := d + 1) R W hq) fun s1 _ ⟨L, F1⟩ => ?_
      rw [oK_ok (L.1.1.k98), mm_fr L wk, cI_ok]
      have hb := frN_bd (st := (knQ a.1 q).1) (f := pF (knQ a.1 q)) (n := kLen (knQ a.1 q)) wk.2.2.2.2.2.1
      generalize frN (knQ a.1 q).1 (pF (knQ a.1 q)) (kLen (knQ a.1 q)) = w at hb ⊢
      obtain ⟨m, rfl⟩ := Int.eq_ofNat_of_zero_le hb.1
      rw [fr_dig (by omega) hi]
      exact reI ⟨rfl, L.1⟩
    · rw [if_neg hi, if_neg (fun e => hi e.2), if_pos rfl]
      exact reI ⟨rfl, R⟩
  · have hq' : ¬ (0 ≤ q ∧ q < (a.1.1.length : Int)) := hq
    rw [if_neg hq', if_neg (fun e => hq' e.1), if_pos rfl]
    exact reI ⟨rfl, R⟩
end MLK
