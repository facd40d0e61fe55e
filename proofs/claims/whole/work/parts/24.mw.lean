/-! ===== the reference: what is told of the word that is looked at ===== -/
def pf (s : St) (k : Nat) : Int := (gA s 112).getD k 0
theorem m_lies1 {d : Nat} {s : St} {v lo hi : Int} (h1 : lo ≤ v) (h2 : v ≤ hi) : X12_lies d s v lo hi = some ([(0, 1)], s) := by rw [e_X12_lies, if_neg (by omega), if_neg (by omega)]
theorem m_lies0 {d : Nat} {s : St} {v lo hi : Int} (h : v < lo ∨ hi < v) : X12_lies d s v lo hi = some ([(0, 0)], s) := by
  rw [e_X12_lies]
  by_cases e : v < lo
  · rw [if_pos e]
  · rw [if_neg e, if_pos (by omega)]
theorem m_fact {d : Nat} {s : St} {q w : Int} (hs : ShM s) (hq : 0 ≤ q ∧ q < 8) (hw : 0 ≤ w ∧ w < 17) : X12_fact d s 98 q w = some ([(0, (gA s 100).getD (17 * q + w).toNat 0)], s) := by
  rw [e_X12_fact]
  simp (disch := ((try simp only [kd_sF, kd_sA, gA_sF, gA_sA, gF_sF, gF_sA, List.length_set, reduceIte, and_true, and_false, true_and, false_and, Nat.reduceEqDiff, Int.reduceEq, hs.kd, hs.ln, hs.fs, kMs, lMs]); first | done | omega)) only [rF_ok, wF_ok, oK_ok, lA_ok, rA_ok, wA_ok, cI_ok, cV_ok, cL_ok, cR_ok, kd_sF, kd_sA, gA_sF, gF_sA, gF_sF, gA_sA, bk_0, bk_1, List.length_set, reduceIte, and_true, and_false, true_and, false_and, ne_eq, not_true_eq_false, not_false_eq_true, Int.toNat_natCast, Int.reduceToNat, Nat.reduceEqDiff, Int.reduceEq, Int.reduceLT, Int.reduceLE, Int.reduceAdd, Int.reduceSub, Int.reduceMul, Int.reduceNeg, hs.kd, hs.ln, hs.fs, kMs, lMs, wi_sm, Int.zero_add]
theorem m_puts {d : Nat} {s : St} {q w v : Int} (hs : ShM s) (hq : 0 ≤ q ∧ q < 8) (hw : 0 ≤ w ∧ w < 17) : X12_puts d s 98 q w v = some ([], sA s 100 ((gA s 100).set (17 * q + w).toNat v)) := by
  rw [e_X12_puts]
  simp (disch := ((try simp only [kd_sF, kd_sA, gA_sF, gA_sA, gF_sF, gF_sA, List.length_set, reduceIte, and_true, and_false, true_and, false_and, Nat.reduceEqDiff, Int.reduceEq, hs.kd, hs.ln, hs.fs, kMs, lMs]); first | done | omega)) only [rF_ok, wF_ok, oK_ok, lA_ok, rA_ok, wA_ok, cI_ok, cV_ok, cL_ok, cR_ok, kd_sF, kd_sA, gA_sF, gF_sA, gF_sF, gA_sA, bk_0, bk_1, List.length_set, reduceIte, and_true, and_false, true_and, false_and, ne_eq, not_true_eq_false, not_false_eq_true, Int.toNat_natCast, Int.reduceToNat, Nat.reduceEqDiff, Int.reduceEq, Int.reduceLT, Int.reduceLE, Int.reduceAdd, Int.reduceSub, Int.reduceMul, Int.reduceNeg, hs.kd, hs.ln, hs.fs, kMs, lMs, wi_sm, Int.zero_add]
theorem m_takesKnot_lp {d : Nat} {s : St} {q : Int} (hs : ShM s) (hq : 0 ≤ q ∧ q < 8) {n : Nat} (hn : gF s 98 29 = n) (hn2 : n ≤ 12) : Gl (GV fun s' => Fa [112] s s' ∧ (∀ j, gF s' 98 j = gF s 98 j) ∧ ∀ k, k < n → pf s' k = (gA s 100).getD (17 * q + 5 + k).toNat 0) (X12_takesKnot_32 (d + 1) s 98 q 0) := by
  refine lpG (fun k s => X12_takesKnot_32 (d + 1) s 98 q k) (fun k s1 => ShM s1 ∧ Fa [112] s s1 ∧ (∀ j, gF s1 98 j = gF s 98 j) ∧ ∀ i, i < k → pf s1 i = (gA s 100).getD (17 * q + 5 + i).toNat 0) n ?_ ?_ 0 s (by omega) ⟨hs, Fa.rf _ _, fun _ => rfl, fun i hi => by omega⟩
  · intro T k s1 hk ⟨i1, i2, i3, i4⟩ hT
    have e29 : gF s1 98 29 = n := by rw [i3, hn]
    rw [e_X12_takesKnot_32]
    simp (disch := ((try simp only [kd_sF, kd_sA, gA_sF, gA_sA, gF_sF, gF_sA, List.length_set, reduceIte, and_true, and_false, true_and, false_and, Nat.reduceEqDiff, Int.reduceEq, i1.kd, i1.ln, i1.fs, kMs, lMs]); first | done | omega)) only [rF_ok, wF_ok, oK_ok, lA_ok, rA_ok, wA_ok, cI_ok, cV_ok, cL_ok, cR_ok, kd_sF, kd_sA, gA_sF, gF_sA, gF_sF, gA_sA, bk_0, bk_1, List.length_set, reduceIte, and_true, and_false, true_and, false_and, ne_eq, not_true_eq_false, not_false_eq_true, Int.toNat_natCast, Int.reduceToNat, Nat.reduceEqDiff, Int.reduceEq, Int.reduceLT, Int.reduceLE, Int.reduceAdd, Int.reduceSub, Int.reduceMul, Int.reduceNeg, i1.kd, i1.ln, i1.fs, kMs, lMs, e29, e_X12_fact, wi_sm, Int.zero_add, Int.ofNat_lt, hk]
    refine hT _ ⟨i1.sA (by rw [List.length_set]), i2.tr (Fa.sA _ (by decide)), i3, fun i hi => ?_⟩
    unfold pf
    rw [gA_eq, setD_getD (by rw [i1.ln, show lM 112 = 13 from rfl]; omega), i2 100 (by decide)]
    by_cases e : k = i
    · rw [if_pos e, e, Int.add_assoc]
    · rw [if_neg e]
      exact i4 i (by omega)
  · intro s1 ⟨i1, i2, i3, i4⟩
    have e29 : gF s1 98 29 = n := by rw [i3, hn]
    rw [e_X12_takesKnot_32]
    simp (disch := ((try simp only [kd_sF, kd_sA, gA_sF, gA_sA, gF_sF, gF_sA, List.length_set, reduceIte, and_true, and_false, true_and, false_and, Nat.reduceEqDiff, Int.reduceEq, i1.kd, i1.ln, i1.fs, kMs, lMs]); first | done | omega)) only [rF_ok, wF_ok, oK_ok, lA_ok, rA_ok, wA_ok, cI_ok, cV_ok, cL_ok, cR_ok, kd_sF, kd_sA, gA_sF, gF_sA, gF_sF, gA_sA, bk_0, bk_1, List.length_set, reduceIte, and_true, and_false, true_and, false_and, ne_eq, not_true_eq_false, not_false_eq_true, Int.toNat_natCast, Int.reduceToNat, Nat.reduceEqDiff, Int.reduceEq, Int.reduceLT, Int.reduceLE, Int.reduceAdd, Int.reduceSub, Int.reduceMul, Int.reduceNeg, i1.kd, i1.ln, i1.fs, kMs, lMs, e29, Int.lt_irrefl]
    exact reV ⟨i2, i3, i4⟩
theorem m_takesKnot {d : Nat} {s : St} {q : Int} (hs : ShM s) (hq : 0 ≤ q ∧ q < 8) {n : Nat} (hn : (gA s 100).getD (17 * q + 3).toNat 0 = n) (hn2 : n ≤ 12) : Gl (GV fun s' => Fa [112] s s' ∧ gF s' 98 27 = (gA s 100).getD (17 * q).toNat 0 ∧ gF s' 98 28 = (gA s 100).getD (17 * q + 1).toNat 0 ∧ gF s' 98 29 = n ∧ ∀ k, k < n → pf s' k = (gA s 100).getD (17 * q + 5 + k).toNat 0) (X12_takesKnot (d + 1) s 98 q) := by
  rw [e_X12_takesKnot]
  simp (disch := ((try simp only [kd_sF, kd_sA, gA_sF, gA_sA, gF_sF, gF_sA, List.length_set, reduceIte, and_true, and_false, true_and, false_and, Nat.reduceEqDiff, Int.reduceEq, hs.kd, hs.ln, hs.fs, kMs, lMs]); first | done | omega)) only [rF_ok, wF_ok, oK_ok, lA_ok, rA_ok, wA_ok, cI_ok, cV_ok, cL_ok, cR_ok, kd_sF, kd_sA, gA_sF, gF_sA, gF_sF, gA_sA, bk_0, bk_1, List.length_set, reduceIte, and_true, and_false, true_and, false_and, ne_eq, not_true_eq_false, not_false_eq_true, Int.toNat_natCast, Int.reduceToNat, Nat.reduceEqDiff, Int.reduceEq, Int.reduceLT, Int.reduceLE, Int.reduceAdd, Int.reduceSub, Int.reduceMul, Int.reduceNeg, hs.kd, hs.ln, hs.fs, kMs, lMs, e_X12_fact, wi_sm, Int.zero_add, hn, Int.add_zero]
  refine wkV (m_takesKnot_lp ?_ hq (gF_eq ..) hn2) ?_
  · (repeat first | exact hs | (refine ShM.sF ?_ (by decide)) | (refine ShM.sA ?_ (by simp only [List.length_set, gA_sA, gA_sF, reduceIte])))
  · intro s' h1 ⟨h2, h3, h4⟩
    exact ⟨h2, h3 27, h3 28, h3 29, h4⟩
section MW
variable {d : Nat} {s : St} {n : Nat}
theorem m_centres (hs : ShM s) (hn : gF s 98 29 = n) (hn2 : n ≤ 13) : X12_centres d s 98 = some ([(0, cenN (pf s) n)], s) := by
  rw [e_X12_centres]
  refine lpG (T := fun r => r = some ([(0, cenN (pf s) n)], s)) (fun k a => X12_centres_4 d s 98 a k) (fun k a => a = cenN (pf s) k) n ?_ ?_ 0 0 (by omega) rfl
  · intro T k a hk e hT
    have hb := cenN_bd (pf s) k
    rw [e_X12_centres_4]
    simp (disch := ((try simp only [kd_sF, kd_sA, gA_sF, gA_sA, gF_sF, gF_sA, List.length_set, reduceIte, and_true, and_false, true_and, false_and, Nat.reduceEqDiff, Int.reduceEq, hs.kd, hs.ln, hs.fs, kMs, lMs]); first | done | omega)) only [rF_ok, wF_ok, oK_ok, lA_ok, rA_ok, wA_ok, cI_ok, cV_ok, cL_ok, cR_ok, kd_sF, kd_sA, gA_sF, gF_sA, gF_sF, gA_sA, bk_0, bk_1, List.length_set, reduceIte, and_true, and_false, true_and, false_and, ne_eq, not_true_eq_false, not_false_eq_true, Int.toNat_natCast, Int.reduceToNat, Nat.reduceEqDiff, Int.reduceEq, Int.reduceLT, Int.reduceLE, Int.reduceAdd, Int.reduceSub, Int.reduceMul, Int.reduceNeg, hs.kd, hs.ln, hs.fs, kMs, lMs, hn, wi_sm, Int.ofNat_lt, hk]
    by_cases h : (gA s 112).getD k 0 = 2
    · rw [if_pos h]
      exact hT _ (by rw [e]; unfold cenN; rw [sumN]; unfold pf; rw [if_pos h])
    · rw [if_neg h]
      exact hT _ (by rw [e]; unfold cenN; rw [sumN]; unfold pf; rw [if_neg h])
  · intro a e
    rw [e_X12_centres_4]
    simp (disch := ((try simp only [kd_sF, kd_sA, gA_sF, gA_sA, gF_sF, gF_sA, List.length_set, reduceIte, and_true, and_false, true_and, false_and, Nat.reduceEqDiff, Int.reduceEq, hs.kd, hs.ln, hs.fs, kMs, lMs]); first | done | omega)) only [rF_ok, wF_ok, oK_ok, lA_ok, rA_ok, wA_ok, cI_ok, cV_ok, cL_ok, cR_ok, kd_sF, kd_sA, gA_sF, gF_sA, gF_sF, gA_sA, bk_0, bk_1, List.length_set, reduceIte, and_true, and_false, true_and, false_and, ne_eq, not_true_eq_false, not_false_eq_true, Int.toNat_natCast, Int.reduceToNat, Nat.reduceEqDiff, Int.reduceEq, Int.reduceLT, Int.reduceLE, Int.reduceAdd, Int.reduceSub, Int.reduceMul, Int.reduceNeg, hs.kd, hs.ln, hs.fs, kMs, lMs, hn, Int.lt_irrefl, e]
    exact rfl
theorem m_leans (hs : ShM s) (hn : gF s 98 29 = n) (hn2 : n ≤ 13) : X12_leans d s 98 = some ([(0, leanN (pf s) n)], s) := by
  rw [e_X12_leans]
  refine lpG (T := fun r => r = some ([(0, leanN (pf s) n)], s)) (fun k a => X12_leans_4 d s 98 a k) (fun k a => a = leanN (pf s) k) n ?_ ?_ 0 0 (by omega) rfl
  · intro T k a hk e hT
    have hb := leanN_bd (pf s) k
    rw [e_X12_leans_4]
    simp (disch := ((try simp only [kd_sF, kd_sA, gA_sF, gA_sA, gF_sF, gF_sA, List.length_set, reduceIte, and_true, and_false, true_and, false_and, Nat.reduceEqDiff, Int.reduceEq, hs.kd, hs.ln, hs.fs, kMs, lMs]); first | done | omega)) only [rF_ok, wF_ok, oK_ok, lA_ok, rA_ok, wA_ok, cI_ok, cV_ok, cL_ok, cR_ok, kd_sF, kd_sA, gA_sF, gF_sA, gF_sF, gA_sA, bk_0, bk_1, List.length_set, reduceIte, and_true, and_false, true_and, false_and, ne_eq, not_true_eq_false, not_false_eq_true, Int.toNat_natCast, Int.reduceToNat, Nat.reduceEqDiff, Int.reduceEq, Int.reduceLT, Int.reduceLE, Int.reduceAdd, Int.reduceSub, Int.reduceMul, Int.reduceNeg, hs.kd, hs.ln, hs.fs, kMs, lMs, hn, wi_sm, Int.ofNat_lt, hk]
    by_cases h : (gA s 112).getD k 0 = 0
    · rw [if_pos h]
      exact hT _ (by rw [e]; unfold leanN; rw [sumN]; unfold pf; rw [if_pos h])
    · rw [if_neg h]
      by_cases h2 : (gA s 112).getD k 0 = 1
      · rw [if_pos h2]
        exact hT _ (by rw [e]; unfold leanN; rw [sumN]; unfold pf; rw [if_neg h, if_pos h2])
      · rw [if_neg h2]
        exact hT _ (by rw [e]; unfold leanN; rw [sumN]; unfold pf; rw [if_neg h, if_neg h2])
  · intro a e
    rw [e_X12_leans_4]
    simp (disch := ((try simp only [kd_sF, kd_sA, gA_sF, gA_sA, gF_sF, gF_sA, List.length_set, reduceIte, and_true, and_false, true_and, false_and, Nat.reduceEqDiff, Int.reduceEq, hs.kd, hs.ln, hs.fs, kMs, lMs]); first | done | omega)) only [rF_ok, wF_ok, oK_ok, lA_ok, rA_ok, wA_ok, cI_ok, cV_ok, cL_ok, cR_ok, kd_sF, kd_sA, gA_sF, gF_sA, gF_sF, gA_sA, bk_0, bk_1, List.length_set, reduceIte, and_true, and_false, true_and, false_and, ne_eq, not_true_eq_false, not_false_eq_true, Int.toNat_natCast, Int.reduceToNat, Nat.reduceEqDiff, Int.reduceEq, Int.reduceLT, Int.reduceLE, Int.reduceAdd, Int.reduceSub, Int.reduceMul, Int.reduceNeg, hs.kd, hs.ln, hs.fs, kMs, lMs, hn, Int.lt_irrefl, e]
    exact rfl
theorem m_isWound {k : Nat} (hs : ShM s) (h1 : 1 ≤ k) (h2 : k < 13) (hp : pl3 (pf s (k - 1))) : X12_isWound d s 98 k = some ([(0, if wnd (pf s (k - 1)) (pf s k) = 1 then 1 else 0)], s) := by
  rw [e_X12_isWound]
  have e : ((k : Int) - 1).toNat = k - 1 := by omega
  simp (disch := ((try simp only [kd_sF, kd_sA, gA_sF, gA_sA, gF_sF, gF_sA, List.length_set, reduceIte, and_true, and_false, true_and, false_and, Nat.reduceEqDiff, Int.reduceEq, hs.kd, hs.ln, hs.fs, kMs, lMs]); first | done | omega)) only [rF_ok, wF_ok, oK_ok, lA_ok, rA_ok, wA_ok, cI_ok, cV_ok, cL_ok, cR_ok, kd_sF, kd_sA, gA_sF, gF_sA, gF_sF, gA_sA, bk_0, bk_1, List.length_set, reduceIte, and_true, and_false, true_and, false_and, ne_eq, not_true_eq_false, not_false_eq_true, Int.toNat_natCast, Int.reduceToNat, Nat.reduceEqDiff, Int.reduceEq, Int.reduceLT, Int.reduceLE, Int.reduceAdd, Int.reduceSub, Int.reduceMul, Int.reduceNeg, hs.kd, hs.ln, hs.fs, kMs, lMs, wi_sm, e]
  show (if pf s (k - 1) = 0 then (if pf s k = 2 then _ else _) else (if pf s (k - 1) = 2 then (if pf s k = 1 then _ else _) else (if pf s k = 0 then _ else _))) = _
  generalize pf s (k - 1) = a at *
  generalize pf s k = b
  unfold wnd
  rcases hp with rfl | rfl | rfl
  · by_cases h : b = 2
    · simp [h]
    · simp [h]
  · by_cases h : b = 0
    · simp [h]
    · simp [h]
  · by_cases h : b = 1
    · simp [h]
    · simp [h]
theorem m_twists (hs : ShM s) (hn : gF s 98 29 = n) (hn2 : n ≤ 13) (hp : ∀ k, k < n → pl3 (pf s k)) : X12_twists (d + 1) s 98 = some ([(0, twN (pf s) n)], s) := by
  rw [e_X12_twists]
  by_cases h2 : n < 2
  · rw [e_X12_twists_4]
    simp (disch := ((try simp only [kd_sF, kd_sA, gA_sF, gA_sA, gF_sF, gF_sA, List.length_set, reduceIte, and_true, and_false, true_and, false_and, Nat.reduceEqDiff, Int.reduceEq, hs.kd, hs.ln, hs.fs, kMs, lMs]); first | done | omega)) only [rF_ok, wF_ok, oK_ok, lA_ok, rA_ok, wA_ok, cI_ok, cV_ok, cL_ok, cR_ok, kd_sF, kd_sA, gA_sF, gF_sA, gF_sF, gA_sA, bk_0, bk_1, List.length_set, reduceIte, and_true, and_false, true_and, false_and, ne_eq, not_true_eq_false, not_false_eq_true, Int.toNat_natCast, Int.reduceToNat, Nat.reduceEqDiff, Int.reduceEq, Int.reduceLT, Int.reduceLE, Int.reduceAdd, Int.reduceSub, Int.reduceMul, Int.reduceNeg, hs.kd, hs.ln, hs.fs, kMs, lMs, hn]
    rw [if_neg (by omega)]
    have : n = 0 ∨ n = 1 := by omega
    rcases this with rfl | rfl <;> rfl
  refine lpG (T := fun r => r = some ([(0, twN (pf s) n)], s)) (fun k a => X12_twists_4 (d + 1) s 98 a k) (fun k a => 2 ≤ k ∧ a = twN (pf s) k) n ?_ ?_ 2 0 (by omega) ⟨by omega, rfl⟩
  · intro T k a hk ⟨k2, e⟩ hT
    have hb := twN_bd (pf s) k
    rw [e_X12_twists_4]
    have e1 : (k : Int) - 1 = ((k - 1 : Nat) : Int) := by omega
    simp (disch := ((try simp only [kd_sF, kd_sA, gA_sF, gA_sA, gF_sF, gF_sA, List.length_set, reduceIte, and_true, and_false, true_and, false_and, Nat.reduceEqDiff, Int.reduceEq, hs.kd, hs.ln, hs.fs, kMs, lMs]); first | done | omega)) only [rF_ok, wF_ok, oK_ok, lA_ok, rA_ok, wA_ok, cI_ok, cV_ok, cL_ok, cR_ok, kd_sF, kd_sA, gA_sF, gF_sA, gF_sF, gA_sA, bk_0, bk_1, List.length_set, reduceIte, and_true, and_false, true_and, false_and, ne_eq, not_true_eq_false, not_false_eq_true, Int.toNat_natCast, Int.reduceToNat, Nat.reduceEqDiff, Int.reduceEq, Int.reduceLT, Int.reduceLE, Int.reduceAdd, Int.reduceSub, Int.reduceMul, Int.reduceNeg, hs.kd, hs.ln, hs.fs, kMs, lMs, hn, wi_sm, Int.ofNat_lt, hk, e1, m_isWound hs (show 1 ≤ k by omega) (by omega) (hp (k - 1) (by omega)), m_isWound hs (show 1 ≤ k - 1 by omega) (by omega) (hp (k - 1 - 1) (by omega))]
    have e2 : k - 1 - 1 = k - 2 := by omega
    rw [e2]
    have hs1 : twN (pf s) (k + 1) = twN (pf s) k + if 2 ≤ k ∧ wnd (pf s (k - 1)) (pf s k) ≠ wnd (pf s (k - 2)) (pf s (k - 1)) then 1 else 0 := rfl
    rcases wnd_pm (pf s (k - 1)) (pf s k) with a1 | a1 <;> rcases wnd_pm (pf s (k - 2)) (pf s (k - 1)) with a2 | a2 <;> rw [a1, a2] at hs1 ⊢ <;> simp [k2] at hs1 ⊢ <;> exact hT _ ⟨by omega, by rw [e, hs1]⟩
  · intro a ⟨_, e⟩
    rw [e_X12_twists_4]
    simp (disch := ((try simp only [kd_sF, kd_sA, gA_sF, gA_sA, gF_sF, gF_sA, List.length_set, reduceIte, and_true, and_false, true_and, false_and, Nat.reduceEqDiff, Int.reduceEq, hs.kd, hs.ln, hs.fs, kMs, lMs]); first | done | omega)) only [rF_ok, wF_ok, oK_ok, lA_ok, rA_ok, wA_ok, cI_ok, cV_ok, cL_ok, cR_ok, kd_sF, kd_sA, gA_sF, gF_sA, gF_sF, gA_sA, bk_0, bk_1, List.length_set, reduceIte, and_true, and_false, true_and, false_and, ne_eq, not_true_eq_false, not_false_eq_true, Int.toNat_natCast, Int.reduceToNat, Nat.reduceEqDiff, Int.reduceEq, Int.reduceLT, Int.reduceLE, Int.reduceAdd, Int.reduceSub, Int.reduceMul, Int.reduceNeg, hs.kd, hs.ln, hs.fs, kMs, lMs, hn, Int.lt_irrefl, e]
    exact rfl
theorem m_leftOver (hs : ShM s) (hn : gF s 98 29 = n) (hn2 : n ≤ 13) (hp : ∀ k, k < n → pl3 (pf s k)) : X12_leftOver (d + 1) s 98 = some ([(0, lefN (pf s) n)], s) := by
  rw [e_X12_leftOver]
  by_cases h2 : n < 1
  · rw [e_X12_leftOver_4]
    simp (disch := ((try simp only [kd_sF, kd_sA, gA_sF, gA_sA, gF_sF, gF_sA, List.length_set, reduceIte, and_true, and_false, true_and, false_and, Nat.reduceEqDiff, Int.reduceEq, hs.kd, hs.ln, hs.fs, kMs, lMs]); first | done | omega)) only [rF_ok, wF_ok, oK_ok, lA_ok, rA_ok, wA_ok, cI_ok, cV_ok, cL_ok, cR_ok, kd_sF, kd_sA, gA_sF, gF_sA, gF_sF, gA_sA, bk_0, bk_1, List.length_set, reduceIte, and_true, and_false, true_and, false_and, ne_eq, not_true_eq_false, not_false_eq_true, Int.toNat_natCast, Int.reduceToNat, Nat.reduceEqDiff, Int.reduceEq, Int.reduceLT, Int.reduceLE, Int.reduceAdd, Int.reduceSub, Int.reduceMul, Int.reduceNeg, hs.kd, hs.ln, hs.fs, kMs, lMs, hn, e_X12_size0]
    rw [if_neg (by omega)]
    have : n = 0 := by omega
    subst this
    rfl
  refine lpG (T := fun r => r = some ([(0, lefN (pf s) n)], s)) (fun k a => X12_leftOver_4 (d + 1) s 98 a k) (fun k a => 1 ≤ k ∧ a = sumN (fun k => if 1 ≤ k then wnd (pf s (k - 1)) (pf s k) else 0) k) n ?_ ?_ 1 0 (by omega) ⟨by omega, rfl⟩
  · intro T k a hk ⟨k2, e⟩ hT
    have hb := lefS_bd (pf s) k
    rw [e_X12_leftOver_4]
    have hs1 : sumN (fun k => if 1 ≤ k then wnd (pf s (k - 1)) (pf s k) else 0) (k + 1) = sumN (fun k => if 1 ≤ k then wnd (pf s (k - 1)) (pf s k) else 0) k + if 1 ≤ k then wnd (pf s (k - 1)) (pf s k) else 0 := rfl
    rw [if_pos k2] at hs1
    simp (disch := ((try simp only [kd_sF, kd_sA, gA_sF, gA_sA, gF_sF, gF_sA, List.length_set, reduceIte, and_true, and_false, true_and, false_and, Nat.reduceEqDiff, Int.reduceEq, hs.kd, hs.ln, hs.fs, kMs, lMs]); first | done | omega)) only [rF_ok, wF_ok, oK_ok, lA_ok, rA_ok, wA_ok, cI_ok, cV_ok, cL_ok, cR_ok, kd_sF, kd_sA, gA_sF, gF_sA, gF_sF, gA_sA, bk_0, bk_1, List.length_set, reduceIte, and_true, and_false, true_and, false_and, ne_eq, not_true_eq_false, not_false_eq_true, Int.toNat_natCast, Int.reduceToNat, Nat.reduceEqDiff, Int.reduceEq, Int.reduceLT, Int.reduceLE, Int.reduceAdd, Int.reduceSub, Int.reduceMul, Int.reduceNeg, hs.kd, hs.ln, hs.fs, kMs, lMs, hn, wi_sm, Int.ofNat_lt, hk, m_isWound hs (show 1 ≤ k by omega) (by omega) (hp (k - 1) (by omega))]
    rcases wnd_pm (pf s (k - 1)) (pf s k) with a1 | a1 <;> rw [a1] at hs1 ⊢ <;> simp <;> exact hT _ ⟨by omega, by rw [e, hs1]⟩
  · intro a ⟨_, e⟩
    have hb := lefS_bd (pf s) n
    rw [e_X12_leftOver_4]
    simp (disch := ((try simp only [kd_sF, kd_sA, gA_sF, gA_sA, gF_sF, gF_sA, List.length_set, reduceIte, and_true, and_false, true_and, false_and, Nat.reduceEqDiff, Int.reduceEq, hs.kd, hs.ln, hs.fs, kMs, lMs]); first | done | omega)) only [rF_ok, wF_ok, oK_ok, lA_ok, rA_ok, wA_ok, cI_ok, cV_ok, cL_ok, cR_ok, kd_sF, kd_sA, gA_sF, gF_sA, gF_sF, gA_sA, bk_0, bk_1, List.length_set, reduceIte, and_true, and_false, true_and, false_and, ne_eq, not_true_eq_false, not_false_eq_true, Int.toNat_natCast, Int.reduceToNat, Nat.reduceEqDiff, Int.reduceEq, Int.reduceLT, Int.reduceLE, Int.reduceAdd, Int.reduceSub, Int.reduceMul, Int.reduceNeg, hs.kd, hs.ln, hs.fs, kMs, lMs, hn, Int.lt_irrefl, e_X12_size0]
    unfold lefN absI
    rw [← e] at hb ⊢
    by_cases h : a < 0
    · rw [if_pos h, if_pos h, cI_ok, wi_sm (by omega) (by omega)]
      exact rfl
    · rw [if_neg h, if_neg h, cI_ok]
      exact rfl
end MW
