/-! ===== the reference: knots told one by one and by a row ===== -/
def setLi (a : Ab) (x : Int) : Ab := (a.1, a.2.1, a.2.2.1, a.2.2.2.1, (a.2.2.2.2.1.1, x, a.2.2.2.2.1.2.2), a.2.2.2.2.2)
section MRW
variable {s s' : St} {a : Ab} {d : Nat}
theorem RepM.lint {x : Int} (R : RepM a s) : RepM (setLi a x) (sF s 98 6 x) := by
  have hs := R.1
  have ef : ∀ k : Nat, k ≠ 6 → gF (sF s 98 6 x) 98 k = gF s 98 k := fun k hk => gF_nk hk
  obtain ⟨r1, r2, r3, r4, r5, r6, r7, r8, r9⟩ := id R
  exact R.up (hs.sF (by decide)) (fun p hp => rfl) (fun k hk => ef k (by revert k; decide)) r2 (r4.fr (ef 33 (by decide)) rfl) (r5.fr (ef 13 (by decide)) rfl) ⟨(ef 0 (by decide)).trans r6.1, gF_eq _ _ _ _, (ef 14 (by decide)).trans r6.2.2.1, (ef 49 (by decide)).trans r6.2.2.2⟩ (r7.fr rfl)
theorem m_canBe {st th cl : Int} : X12_canBe (d + 1) s st th cl = some ([(0, if (0 ≤ st ∧ st ≤ 1) ∧ (1 ≤ th ∧ th ≤ 9) ∧ (1 ≤ cl ∧ cl ≤ 200) then 1 else 0)], s) := by
  rw [e_X12_canBe, lies_if, cI_ok]
  by_cases h1 : 0 ≤ st ∧ st ≤ 1
  · rw [if_pos h1, if_neg (show ¬ ((1 : Int) = 0) by decide), lies_if, cI_ok]
    by_cases h2 : 1 ≤ th ∧ th ≤ 9
    · rw [if_pos h2, if_neg (show ¬ ((1 : Int) = 0) by decide), lies_if, cI_ok]
      by_cases h3 : 1 ≤ cl ∧ cl ≤ 200
      · rw [if_pos h3, if_neg (show ¬ ((1 : Int) = 0) by decide), if_pos ⟨h1, h2, h3⟩]
      · rw [if_neg h3, if_pos rfl, if_neg (fun e => h3 e.2.2)]
    · rw [if_neg h2, if_pos rfl, if_neg (fun e => h2 e.2.1)]
  · rw [if_neg h1, if_pos rfl, if_neg (fun e => h1 e.1)]
theorem m_adds {n : Nat} {st th cl : Int} (hs : ShM s) (hn : kA s 136 = n) (h8 : n < 8) : Gl (GV fun s' => ShM s' ∧ Fa [100] s s' ∧ (∀ j, gF s' 98 j = gF s 98 j) ∧ ∀ j, kA s' j = if 136 = j then (n : Int) + 1 else if 17 * n + 2 = j then cl else if 17 * n + 1 = j then th else if 17 * n = j then st else if 17 * n ≤ j ∧ j < 17 * n + 17 then 0 else kA s j) (X12_adds (d + 1) s 98 st th cl) := by
  have hn' : (gA s 100).getD 136 0 = (n : Int) := hn
  rw [e_X12_adds]
  simp (disch := ((try simp only [kd_sF, kd_sA, gA_sF, gA_sA, gF_sF, gF_sA, List.length_set, reduceIte, and_true, and_false, true_and, false_and, Nat.reduceEqDiff, Int.reduceEq, hs.kd, hs.ln, hs.fs, kMs, lMs]); first | done | omega)) only [rF_ok, wF_ok, oK_ok, lA_ok, rA_ok, wA_ok, cI_ok, cV_ok, cL_ok, cR_ok, kd_sF, kd_sA, gA_sF, gF_sA, gF_sF, gA_sA, bk_0, bk_1, List.length_set, reduceIte, and_true, and_false, true_and, false_and, ne_eq, not_true_eq_false, not_false_eq_true, Int.toNat_natCast, Int.reduceToNat, Nat.reduceEqDiff, Int.reduceEq, Int.reduceLT, Int.reduceLE, Int.reduceAdd, Int.reduceSub, Int.reduceMul, Int.reduceNeg, hs.kd, hs.ln, hs.fs, kMs, lMs, hn']
  refine lpG (fun k s => X12_adds_13 (d + 1) s 98 st th cl n k) (fun k s1 => ShM s1 ∧ Fa [100] s s1 ∧ (∀ j, gF s1 98 j = gF s 98 j) ∧ ∀ j, kA s1 j = if 17 * n ≤ j ∧ j < 17 * n + k then 0 else kA s j) 17 ?_ ?_ 0 s (by omega) ⟨hs, Fa.rf _ _, fun _ => rfl, fun j => by rw [if_neg (by omega)]⟩
  · intro T k s1 hk ⟨i1, i2, i3, i4⟩ hT
    rw [e_X12_adds_13, if_pos (by omega), oK_ok (i1.k98), m_puts i1 (by omega) (by omega), cV_ok, wi_sc (by omega), show (17 * (n : Int) + (k : Int)).toNat = 17 * n + k by omega]
    refine hT _ ⟨i1.sA (by rw [List.length_set]), i2.tr (Fa.sA _ (by decide)), i3, fun j => ?_⟩
    rw [kA_set i1 (by omega), i4]
    by_cases e : 17 * n + k = j
    · rw [if_pos e, if_pos (by omega)]
    · rw [if_neg e]
      by_cases e2 : 17 * n ≤ j ∧ j < 17 * n + k
      · rw [if_pos e2, if_pos (by omega)]
      · rw [if_neg e2, if_neg (by omega)]
  · intro s1 ⟨i1, i2, i3, i4⟩
    have e136 : (gA s1 100).getD 136 0 = (n : Int) := by
      have := i4 136
      rw [if_neg (by omega)] at this
      exact this.trans hn
    have t0 : (17 * (n : Int) + 0).toNat = 17 * n := by omega
    have t1 : (17 * (n : Int) + 1).toNat = 17 * n + 1 := by omega
    have t2 : (17 * (n : Int) + 2).toNat = 17 * n + 2 := by omega
    have hq : (0 : Int) ≤ n ∧ (n : Int) < 8 := by omega
    have es : ((((gA s1 100).set (17 * n) st).set (17 * n + 1) th).set (17 * n + 2) cl).getD 136 0 = (n : Int) := by rw [set_ne (by omega), set_ne (by omega), set_ne (by omega), e136]
    have j1 : ShM (sA s1 100 ((gA s1 100).set (17 * n) st)) := i1.sA (by rw [List.length_set])
    have j2 : ShM (sA s1 100 (((gA s1 100).set (17 * n) st).set (17 * n + 1) th)) := i1.sA (by rw [List.length_set, List.length_set])
    have j3 : ShM (sA s1 100 ((((gA s1 100).set (17 * n) st).set (17 * n + 1) th).set (17 * n + 2) cl)) := i1.sA (by rw [List.length_set, List.length_set, List.length_set])
    rw [e_X12_adds_13, if_neg (by decide), oK_ok (i1.k98), m_puts i1 hq (by decide), cV_ok, t0, oK_ok (j1.k98), m_puts j1 hq (by decide), cV_ok, t1, gA_eq, sA_ov, oK_ok (j2.k98), m_puts j2 hq (by decide), cV_ok, t2, gA_eq, sA_ov]
    simp (disch := ((try simp only [kd_sF, kd_sA, gA_sF, gA_sA, gF_sF, gF_sA, List.length_set, reduceIte, and_true, and_false, true_and, false_and, Nat.reduceEqDiff, Int.reduceEq, i1.kd, i1.ln, i1.fs, kMs, lMs]); first | done | omega)) only [rF_ok, wF_ok, oK_ok, lA_ok, rA_ok, wA_ok, cI_ok, cV_ok, cL_ok, cR_ok, kd_sF, kd_sA, gA_sF, gF_sA, gF_sF, gA_sA, bk_0, bk_1, List.length_set, reduceIte, and_true, and_false, true_and, false_and, ne_eq, not_true_eq_false, not_false_eq_true, Int.toNat_natCast, Int.reduceToNat, Nat.reduceEqDiff, Int.reduceEq, Int.reduceLT, Int.reduceLE, Int.reduceAdd, Int.reduceSub, Int.reduceMul, Int.reduceNeg, i1.kd, i1.ln, i1.fs, kMs, lMs, es, wi_sm, sA_ov]
    refine reV ⟨i1.sA (by rw [List.length_set, List.length_set, List.length_set, List.length_set]), i2.tr (Fa.sA _ (by decide)), i3, fun j => ?_⟩
    have l100 : (gA s1 100).length = 5781 := i1.ln 100
    unfold kA
    rw [gA_eq, setD_getD (by simp only [List.length_set]; omega), setD_getD (by simp only [List.length_set]; omega), setD_getD (by simp only [List.length_set]; omega), setD_getD (by omega), show (gA s1 100).getD j 0 = _ from i4 j]
    rfl
theorem mm_adds {st th cl : Int} (R : RepM a s) (W : wfDr a.1) (h8 : a.1.1.length < 8) : Gl (GV fun s' => RepM (setDr a (a.1.1 ++ [(st, th, cl, 0, [])], a.1.2)) s' ∧ Fa [100] s s' ∧ (∀ j, gF s' 98 j = gF s 98 j)) (X12_adds (d + 1) s 98 st th cl) := by
  refine wkV (m_adds (d := d) (n := a.1.1.length) R.1 R.2.1.1.1 h8) fun s' _ ⟨h1, h2, h3, e⟩ => ⟨?_, h2, h3⟩
  refine R.k100 h1 h2 (fun k _ => h3 k) (R.2.1.knots W ⟨?_, fun q hq => ?_⟩ fun j hj => ?_)
  · rw [e, if_pos rfl, List.length_append]
    rfl
  · rw [List.length_append] at hq
    have hq' : q < a.1.1.length + 1 := hq
    rw [gd_app (by omega)]
    by_cases eq : q = a.1.1.length
    · rw [if_pos eq]
      unfold KnR
      rw [e, e, e, e, e]
      refine ⟨?_, ?_, ?_, ?_, ?_, fun j hj => absurd hj (by simp [kLen])⟩
      · rw [if_neg (by omega), if_neg (by omega), if_neg (by omega), if_pos (by omega)]
      · rw [if_neg (by omega), if_neg (by omega), if_pos (by omega)]
      · rw [if_neg (by omega), if_pos (by omega)]
      · rw [if_neg (by omega), if_neg (by omega), if_neg (by omega), if_neg (by omega), if_pos (by omega)]
        rfl
      · rw [if_neg (by omega), if_neg (by omega), if_neg (by omega), if_neg (by omega), if_pos (by omega)]
    · rw [if_neg eq]
      obtain ⟨k1, k2, k3, k4, k5, k6⟩ := R.2.1.1.2 q (by omega)
      have w := (wK_ok W.1).2 q (by omega)
      have el : ∀ j, j < 17 * q + 17 → kA s' j = kA s j := fun j hj => by rw [e, if_neg (by omega), if_neg (by omega), if_neg (by omega), if_neg (by omega), if_neg (by omega)]
      exact ⟨(el _ (by omega)).trans k1, (el _ (by omega)).trans k2, (el _ (by omega)).trans k3, (el _ (by omega)).trans k4, (el _ (by omega)).trans k5, fun j hj => (el _ (by omega)).trans (k6 j hj)⟩
  · rw [e, if_neg (by omega), if_neg (by omega), if_neg (by omega), if_neg (by omega), if_neg (by omega)]
theorem mm_knot {st th cl : Int} (R : RepM a s) (W : wfA a) : Gl (GI fun x s' => x = (aKnot a st th cl).1 ∧ RepM (aKnot a st th cl).2 s') (X12_knot (d + 3) s 98 st th cl) := by
  have hs := R.1
  rw [e_X12_knot, m_canBe, cI_ok]
  unfold aKnot
  by_cases h : (0 ≤ st ∧ st ≤ 1) ∧ (1 ≤ th ∧ th ≤ 9) ∧ (1 ≤ cl ∧ cl ≤ 200)
  · rw [if_pos h, if_pos h, if_neg (show ¬ ((1 : Int) = 0) by decide)]
    simp (disch := ((try simp only [kd_sF, kd_sA, gA_sF, gA_sA, gF_sF, gF_sA, List.length_set, reduceIte, and_true, and_false, true_and, false_and, Nat.reduceEqDiff, Int.reduceEq, hs.kd, hs.ln, hs.fs, kMs, lMs]); first | done | omega)) only [rF_ok, wF_ok, oK_ok, lA_ok, rA_ok, wA_ok, cI_ok, cV_ok, cL_ok, cR_ok, kd_sF, kd_sA, gA_sF, gF_sA, gF_sF, gA_sA, bk_0, bk_1, List.length_set, reduceIte, and_true, and_false, true_and, false_and, ne_eq, not_true_eq_false, not_false_eq_true, Int.toNat_natCast, Int.reduceToNat, Nat.reduceEqDiff, Int.reduceEq, Int.reduceLT, Int.reduceLE, Int.reduceAdd, Int.reduceSub, Int.reduceMul, Int.reduceNeg, hs.kd, hs.ln, hs.fs, kMs, lMs, R.cnt]
    have h8 := W.1.1.1
    by_cases h2 : a.1.1.length < 8
    · rw [if_pos h2, if_neg (show ¬ ((a.1.1.length : Int) = 8) by omega)]
      refine biV (mm_adds (d := d + 1) (st := st) (th := th) (cl := cl) R W.1 h2) fun s1 _ ⟨R1, _, _⟩ => ?_
      have hs1 := R1.1
      have e : (gA s1 100).getD 136 0 = (a.1.1.length : Int) + 1 := by
        rw [R1.cnt]
        show ((a.1.1 ++ [(st, th, cl, 0, [])]).length : Int) = _
        rw [List.length_append]
        rfl
      simp (disch := ((try simp only [kd_sF, kd_sA, gA_sF, gA_sA, gF_sF, gF_sA, List.length_set, reduceIte, and_true, and_false, true_and, false_and, Nat.reduceEqDiff, Int.reduceEq, hs1.kd, hs1.ln, hs1.fs, kMs, lMs]); first | done | omega)) only [rF_ok, wF_ok, oK_ok, lA_ok, rA_ok, wA_ok, cI_ok, cV_ok, cL_ok, cR_ok, kd_sF, kd_sA, gA_sF, gF_sA, gF_sF, gA_sA, bk_0, bk_1, List.length_set, reduceIte, and_true, and_false, true_and, false_and, ne_eq, not_true_eq_false, not_false_eq_true, Int.toNat_natCast, Int.reduceToNat, Nat.reduceEqDiff, Int.reduceEq, Int.reduceLT, Int.reduceLE, Int.reduceAdd, Int.reduceSub, Int.reduceMul, Int.reduceNeg, hs1.kd, hs1.ln, hs1.fs, kMs, lMs, e, wi_sm]
      rw [show (a.1.1.length : Int) + 1 - 1 = (a.1.1.length : Int) by omega]
      have g := mm_sett (d := d + 1) (v := (a.1.1.length : Int)) (K := fun x s' => some ([(0, x)], s')) R1 (fun _ _ => rfl)
      rw [oK_ok (hs1.k98)] at g
      exact g
    · rw [if_neg h2, if_pos (by omega)]
      have g := mm_ref (d := d + 2) (v := -5) (K := fun x s' => some ([(0, x)], s')) (by decide) R (fun _ _ => rfl)
      rw [oK_ok (hs.k98)] at g
      exact g
  · rw [if_neg h, if_neg h, if_pos rfl]
    exact mm_ref (d := d + 2) (v := -1) (by decide) R (fun _ _ => rfl)
theorem wb_u {x : Int} (h : 0 ≤ x ∧ x < 256) : wb x % 256 = x ∧ (wb x = x ∨ (wb x < 0 ∧ 128 ≤ x)) := by
  unfold wb
  rw [Int.bmod_def]
  split <;> omega
/-- the state within a row: how far it is read -/
def rwA (a : Ab) (b : Int) (j : Nat) : Ab := (((rowN a.2.2.2.1 a.1.1 j).1, a.1.2), a.2.1, a.2.2.1, [], (a.2.2.2.2.1.1, (rowN a.2.2.2.1 a.1.1 j).2.2 + b, a.2.2.2.2.1.2.2), a.2.2.2.2.2)
theorem m_row139 {T : Res → Prop} {z at0 v5 n w1 li : Int} (hs : ShM s) (h6 : gF s 98 6 = li) (hl : 0 ≤ li ∧ li < 1000) (hn : 0 ≤ n ∧ n < 1000) (hw : 0 ≤ w1 ∧ w1 ≤ 1) (ha : 0 ≤ at0 ∧ at0 < 1000) (hT : Gl T (X12_row_40 d (sF s 98 6 (li + if v5 = 0 then 1 else 0)) 98 z (n + w1) (at0 + 3))) : Gl T (X12_row_139 d s 98 z at0 v5 n w1) := by
  rw [e_X12_row_139, rF_ok (hs.k98), h6]
  by_cases e : v5 = 0
  · rw [if_pos e] at hT ⊢
    rw [wF_ok (hs.k98), wi_sm (x := li + 1) (by omega) (by omega), wi_sm (x := n + w1) (by omega) (by omega), wi_sm (x := at0 + 3) (by omega) (by omega)]
    exact hT
  · rw [if_neg e] at hT ⊢
    rw [wF_ok (hs.k98), wi_sm (x := li + 0) (by omega) (by omega), wi_sm (x := n + w1) (by omega) (by omega), wi_sm (x := at0 + 3) (by omega) (by omega)]
    exact hT
theorem mm_row (R : RepM a s) (W : wfA a) : Gl (GI fun r s' => r = (aRow a).1 ∧ RepM (aRow a).2 s') (X12_row (d + 3) s 98) := by
  have hs := R.1
  obtain ⟨t1, t2⟩ := R.2.2.2.2.1
  obtain ⟨wt, wb0⟩ := W.2.2.2.1
  rw [e_X12_row]
  unfold aRow
  simp (disch := ((try simp only [kd_sF, kd_sA, gA_sF, gA_sA, gF_sF, gF_sA, List.length_set, reduceIte, and_true, and_false, true_and, false_and, Nat.reduceEqDiff, Int.reduceEq, hs.kd, hs.ln, hs.fs, kMs, lMs]); first | done | omega)) only [rF_ok, wF_ok, oK_ok, lA_ok, rA_ok, wA_ok, cI_ok, cV_ok, cL_ok, cR_ok, kd_sF, kd_sA, gA_sF, gF_sA, gF_sF, gA_sA, bk_0, bk_1, List.length_set, reduceIte, and_true, and_false, true_and, false_and, ne_eq, not_true_eq_false, not_false_eq_true, Int.toNat_natCast, Int.reduceToNat, Nat.reduceEqDiff, Int.reduceEq, Int.reduceLT, Int.reduceLE, Int.reduceAdd, Int.reduceSub, Int.reduceMul, Int.reduceNeg, hs.kd, hs.ln, hs.fs, kMs, lMs, t1]
  have R1 : RepM (setTp a []) (sF s 98 13 0) := R.tape ⟨gF_eq _ _ _ _, fun i hi => absurd hi (by simp)⟩
  have g105 : gA (sF s 98 13 0) 105 = gA s 105 := rfl
  by_cases h0 : a.2.2.2.1.length = 0
  · rw [if_pos h0, if_pos (by omega)]
    have e : setTp a [] = a := by
      have : a.2.2.2.1 = [] := List.eq_nil_of_length_eq_zero h0
      unfold setTp
      rw [← this]
    rw [e] at R1
    have g := mm_ref (d := d + 2) (v := -6) (K := fun x s' => some ([(0, x)], s')) (by decide) R1 (fun _ _ => rfl)
    rw [oK_ok (R1.1.k98)] at g
    exact g
  rw [if_neg h0, if_neg (show ¬ ((a.2.2.2.1.length : Int) = 0) by omega)]
  obtain ⟨b, hb, hb2⟩ : ∃ b : Int, b = (if a.2.2.2.1.length % 3 = 0 then 0 else 1) ∧ (0 ≤ b ∧ b ≤ 1) := ⟨_, rfl, by split <;> omega⟩
  have go : ∀ (s1 : St), RepM (rwA a b 0) s1 → gA s1 105 = gA s 105 → Gl (GI fun r s' => r = (rowN a.2.2.2.1 a.1.1 (a.2.2.2.1.length / 3)).2.1 ∧ RepM (((rowN a.2.2.2.1 a.1.1 (a.2.2.2.1.length / 3)).1, a.1.2), a.2.1, [], [], (0, (rowN a.2.2.2.1 a.1.1 (a.2.2.2.1.length / 3)).2.2 + b, a.2.2.2.2.1.2.2), a.2.2.2.2.2) s') (X12_row_40 (d + 3) s1 98 a.2.2.2.1.length 0 0) := by
    intro s1 Q1 g1
    refine lpG (fun j (q : St × Int) => X12_row_40 (d + 3) q.1 98 a.2.2.2.1.length q.2 (3 * j : Int)) (fun j q => RepM (rwA a b j) q.1 ∧ gA q.1 105 = gA s 105 ∧ q.2 = (rowN a.2.2.2.1 a.1.1 j).2.1) (a.2.2.2.1.length / 3) ?_ ?_ 0 (s1, 0) (by omega) ⟨Q1, g1, rfl⟩
    · intro T j ⟨s2, n⟩ hj ⟨Q2, g2, e2⟩ hT
      dsimp only at Q2 g2 e2 ⊢
      have hs2 := Q2.1
      obtain ⟨wk, wn, wl⟩ := rowN_wf (t := a.2.2.2.1) W.1.1 j
      rw [← e2] at wn
      have bt : ∀ i, i < a.2.2.2.1.length → (gA s2 105).getD i 0 = wb (a.2.2.2.1.getD i 0) ∧ (0 ≤ a.2.2.2.1.getD i 0 ∧ a.2.2.2.1.getD i 0 < 256) := fun i hi => ⟨by rw [g2]; exact t2 i hi, wb0 _ (gdMem hi)⟩
      obtain ⟨b0, c0⟩ := bt (3 * j) (by omega)
      obtain ⟨b1, c1⟩ := bt (3 * j + 1) (by omega)
      obtain ⟨b2, c2⟩ := bt (3 * j + 2) (by omega)
      have e6 : gF s2 98 6 = (rowN a.2.2.2.1 a.1.1 j).2.2 + b := Q2.2.2.2.2.2.1.2.1
      have ecn : (gA s2 100).getD 136 0 = ((rowN a.2.2.2.1 a.1.1 j).1.length : Int) := Q2.cnt
      have t0' : (3 * (j : Int)).toNat = 3 * j := by omega
      have t1' : (3 * (j : Int) + 1).toNat = 3 * j + 1 := by omega
      have t2' : (3 * (j : Int) + 2).toNat = 3 * j + 2 := by omega
      have u0 := wb_u c0
      have u1 := wb_u c1
      have u2 := wb_u c2
      rw [e_X12_row_40, wi_sm (x := 3 * (j : Int) + 3) (by omega) (by omega), if_neg (by omega)]
      simp (disch := ((try simp only [kd_sF, kd_sA, gA_sF, gA_sA, gF_sF, gF_sA, List.length_set, reduceIte, and_true, and_false, true_and, false_and, Nat.reduceEqDiff, Int.reduceEq, hs2.kd, hs2.ln, hs2.fs, kMs, lMs]); first | done | omega)) only [rF_ok, wF_ok, oK_ok, lA_ok, rA_ok, wA_ok, cI_ok, cV_ok, cL_ok, cR_ok, kd_sF, kd_sA, gA_sF, gF_sA, gF_sF, gA_sA, bk_0, bk_1, List.length_set, reduceIte, and_true, and_false, true_and, false_and, ne_eq, not_true_eq_false, not_false_eq_true, Int.toNat_natCast, Int.reduceToNat, Nat.reduceEqDiff, Int.reduceEq, Int.reduceLT, Int.reduceLE, Int.reduceAdd, Int.reduceSub, Int.reduceMul, Int.reduceNeg, hs2.kd, hs2.ln, hs2.fs, kMs, lMs, wi_sm, t0', t1', t2', b0, b1, b2, and255, u2.1, ecn, m_canBe]
      have stop : (¬ (((0 ≤ a.2.2.2.1.getD (3 * j) 0 ∧ a.2.2.2.1.getD (3 * j) 0 ≤ 1) ∧ (1 ≤ a.2.2.2.1.getD (3 * j + 1) 0 ∧ a.2.2.2.1.getD (3 * j + 1) 0 ≤ 9) ∧ (1 ≤ a.2.2.2.1.getD (3 * j + 2) 0 ∧ a.2.2.2.1.getD (3 * j + 2) 0 ≤ 200)) ∧ (rowN a.2.2.2.1 a.1.1 j).1.length < 8)) → Gl T (X12_row_101 (d + 3) s2 98 a.2.2.2.1.length n (3 * j : Int) (a.2.2.2.1.getD (3 * j + 2) 0) 0) := by
        intro hc
        rw [e_X12_row_101, if_pos rfl, if_pos rfl]
        refine m_row139 hs2 e6 (by omega) (by omega) (by decide) (by omega) ?_
        have er : rowN a.2.2.2.1 a.1.1 (j + 1) = ((rowN a.2.2.2.1 a.1.1 j).1, (rowN a.2.2.2.1 a.1.1 j).2.1, (rowN a.2.2.2.1 a.1.1 j).2.2 + 1) := by
          rw [rowN]
          unfold rowS
          rw [if_neg hc]
        have hN := hT (sF s2 98 6 ((rowN a.2.2.2.1 a.1.1 j).2.2 + b + 1), n + 0) ⟨by
          have := Q2.lint (x := (rowN a.2.2.2.1 a.1.1 j).2.2 + b + 1)
          unfold rwA
          rw [er]
          rw [show (rowN a.2.2.2.1 a.1.1 j).2.2 + 1 + b = (rowN a.2.2.2.1 a.1.1 j).2.2 + b + 1 by omega]
          exact this, g2, by rw [er]; show n + 0 = (rowN a.2.2.2.1 a.1.1 j).2.1; omega⟩
        dsimp only at hN
        rw [if_pos rfl, show (3 * (j : Int)) + 3 = 3 * ((j + 1 : Nat) : Int) by omega]
        exact hN
      by_cases h8 : (rowN a.2.2.2.1 a.1.1 j).1.length < 8
      · rw [if_pos (by omega)]
        by_cases hc : (0 ≤ wb (a.2.2.2.1.getD (3 * j) 0) ∧ wb (a.2.2.2.1.getD (3 * j) 0) ≤ 1) ∧ (1 ≤ wb (a.2.2.2.1.getD (3 * j + 1) 0) ∧ wb (a.2.2.2.1.getD (3 * j + 1) 0) ≤ 9) ∧ (1 ≤ a.2.2.2.1.getD (3 * j + 2) 0 ∧ a.2.2.2.1.getD (3 * j + 2) 0 ≤ 200)
        · have v0 : wb (a.2.2.2.1.getD (3 * j) 0) = a.2.2.2.1.getD (3 * j) 0 := by omega
          have v1 : wb (a.2.2.2.1.getD (3 * j + 1) 0) = a.2.2.2.1.getD (3 * j + 1) 0 := by omega
          rw [if_pos hc, if_neg (show ¬ ((1 : Int) = 0) by decide), e_X12_row_101, if_neg (show ¬ ((1 : Int) = 0) by decide)]
          simp (disch := ((try simp only [kd_sF, kd_sA, gA_sF, gA_sA, gF_sF, gF_sA, List.length_set, reduceIte, and_true, and_false, true_and, false_and, Nat.reduceEqDiff, Int.reduceEq, hs2.kd, hs2.ln, hs2.fs, kMs, lMs]); first | done | omega)) only [rF_ok, wF_ok, oK_ok, lA_ok, rA_ok, wA_ok, cI_ok, cV_ok, cL_ok, cR_ok, kd_sF, kd_sA, gA_sF, gF_sA, gF_sF, gA_sA, bk_0, bk_1, List.length_set, reduceIte, and_true, and_false, true_and, false_and, ne_eq, not_true_eq_false, not_false_eq_true, Int.toNat_natCast, Int.reduceToNat, Nat.reduceEqDiff, Int.reduceEq, Int.reduceLT, Int.reduceLE, Int.reduceAdd, Int.reduceSub, Int.reduceMul, Int.reduceNeg, hs2.kd, hs2.ln, hs2.fs, kMs, lMs, wi_sm, t0', t1', b0, b1, v0, v1]
          have wd : wfDr (rwA a b j).1 := ⟨wk, W.1.2⟩
          refine biV (mm_adds (d := d + 1) Q2 wd h8) fun s3 _ ⟨Q3, F3, f3⟩ => ?_
          refine m_row139 Q3.1 ((f3 6).trans e6) (by omega) (by omega) (by decide) (by omega) ?_
          rw [v0, v1] at hc
          have er : rowN a.2.2.2.1 a.1.1 (j + 1) = ((rowN a.2.2.2.1 a.1.1 j).1 ++ [(a.2.2.2.1.getD (3 * j) 0, a.2.2.2.1.getD (3 * j + 1) 0, a.2.2.2.1.getD (3 * j + 2) 0, 0, [])], (rowN a.2.2.2.1 a.1.1 j).2.1 + 1, (rowN a.2.2.2.1 a.1.1 j).2.2) := by
            rw [rowN]
            unfold rowS
            rw [if_pos ⟨hc, h8⟩]
          have hN := hT (sF s3 98 6 ((rowN a.2.2.2.1 a.1.1 j).2.2 + b + 0), n + 1) ⟨by
            have := Q3.lint (x := (rowN a.2.2.2.1 a.1.1 j).2.2 + b + 0)
            unfold rwA
            rw [er]
            rw [show (rowN a.2.2.2.1 a.1.1 j).2.2 + b + 0 = (rowN a.2.2.2.1 a.1.1 j).2.2 + b by omega] at this ⊢
            exact this, (F3 105 (by decide)).trans g2, by rw [er]; show n + 1 = (rowN a.2.2.2.1 a.1.1 j).2.1 + 1; omega⟩
          dsimp only at hN
          rw [if_neg (show ¬ ((1 : Int) = 0) by decide), show (3 * (j : Int)) + 3 = 3 * ((j + 1 : Nat) : Int) by omega]
          exact hN
        · rw [if_neg hc, if_pos rfl]
          exact stop (fun e => hc (by have := e.1; omega))
      · rw [if_neg (by omega)]
        exact stop (fun e => h8 e.2)
    · intro ⟨s2, n⟩ ⟨Q2, g2, e2⟩
      dsimp only at Q2 g2 e2 ⊢
      rw [e_X12_row_40, wi_sm (by omega) (by omega), if_pos (by omega)]
      refine wkI (mm_sett (d := d + 1) (v := n) Q2 (fun _ _ => rfl)) fun x s' _ ⟨h1, h2⟩ => ⟨h1.trans e2, h2⟩
  have em : Int.tmod (a.2.2.2.1.length : Int) 3 = ((a.2.2.2.1.length % 3 : Nat) : Int) := rfl
  rw [em]
  by_cases h3 : a.2.2.2.1.length % 3 = 0
  · have b0 : b = 0 := by rw [hb, if_pos h3]
    rw [if_pos h3, if_pos (by omega)]
    subst b0
    refine go _ ?_ rfl
    exact R1.lint (x := 0)
  · have b0 : b = 1 := by rw [hb, if_neg h3]
    rw [if_neg h3, if_neg (by omega)]
    subst b0
    refine go _ ?_ rfl
    exact R1.lint (x := 1)
end MRW
