/-! ===== the class: what is told of a row of places ===== -/
def af (s : St) (p : Int) (k : Nat) : Int := (gA s p).getD k 0
section CW
variable {d : Nat} {s : St} {p : Int} {n : Nat} {st : Int}
theorem c_centresOf (hk : kd s p = 20) (hl : n ≤ (gA s p).length) (hn2 : n ≤ 13) : X11_centresOf d s p n = some ([(0, cenN (af s p) n)], s) := by
  rw [e_X11_centresOf]
  refine lpG (T := fun r => r = some ([(0, cenN (af s p) n)], s)) (fun k a => X11_centresOf_4 d s p n a k) (fun k a => a = cenN (af s p) k) n ?_ ?_ 0 0 (by omega) rfl
  · intro T k a hk2 e hT
    have hb := cenN_bd (af s p) k
    have a1 : (gA s p).getD k 0 = af s p k := rfl
    rw [e_X11_centresOf_4]
    simp (disch := ((try simp only [kd_sF, kd_sA, gA_sF, gA_sA, gF_sF, gF_sA, List.length_set, reduceIte, and_true, and_false, true_and, false_and, Nat.reduceEqDiff, Int.reduceEq, hk]); first | done | omega)) only [rF_ok, wF_ok, oK_ok, lA_ok, rA_ok, wA_ok, cI_ok, cV_ok, cL_ok, cR_ok, kd_sF, kd_sA, gA_sF, gF_sA, gF_sF, gA_sA, bk_0, bk_1, List.length_set, reduceIte, and_true, and_false, true_and, false_and, ne_eq, not_true_eq_false, not_false_eq_true, Int.toNat_natCast, Int.reduceToNat, Nat.reduceEqDiff, Int.reduceEq, Int.reduceLT, Int.reduceLE, Int.reduceAdd, Int.reduceSub, Int.reduceMul, Int.reduceNeg, hk, wi_sm, Int.ofNat_lt, hk2, a1]
    by_cases h : af s p k = 2
    · rw [if_pos h]
      exact hT _ (by rw [e]; unfold cenN; rw [sumN, if_pos h])
    · rw [if_neg h]
      exact hT _ (by rw [e]; unfold cenN; rw [sumN, if_neg h])
  · intro a e
    rw [e_X11_centresOf_4, if_neg (by omega), e]
    exact rfl
theorem c_leanOf (hk : kd s p = 20) (hl : n ≤ (gA s p).length) (hn2 : n ≤ 13) : X11_leanOf d s p n = some ([(0, leanN (af s p) n)], s) := by
  rw [e_X11_leanOf]
  refine lpG (T := fun r => r = some ([(0, leanN (af s p) n)], s)) (fun k a => X11_leanOf_4 d s p n a k) (fun k a => a = leanN (af s p) k) n ?_ ?_ 0 0 (by omega) rfl
  · intro T k a hk2 e hT
    have hb := leanN_bd (af s p) k
    have a1 : (gA s p).getD k 0 = af s p k := rfl
    rw [e_X11_leanOf_4]
    simp (disch := ((try simp only [kd_sF, kd_sA, gA_sF, gA_sA, gF_sF, gF_sA, List.length_set, reduceIte, and_true, and_false, true_and, false_and, Nat.reduceEqDiff, Int.reduceEq, hk]); first | done | omega)) only [rF_ok, wF_ok, oK_ok, lA_ok, rA_ok, wA_ok, cI_ok, cV_ok, cL_ok, cR_ok, kd_sF, kd_sA, gA_sF, gF_sA, gF_sF, gA_sA, bk_0, bk_1, List.length_set, reduceIte, and_true, and_false, true_and, false_and, ne_eq, not_true_eq_false, not_false_eq_true, Int.toNat_natCast, Int.reduceToNat, Nat.reduceEqDiff, Int.reduceEq, Int.reduceLT, Int.reduceLE, Int.reduceAdd, Int.reduceSub, Int.reduceMul, Int.reduceNeg, hk, wi_sm, Int.ofNat_lt, hk2, a1]
    by_cases h : af s p k = 0
    · rw [if_pos h]
      exact hT _ (by rw [e]; unfold leanN; rw [sumN, if_pos h])
    · rw [if_neg h]
      by_cases h2 : af s p k = 1
      · rw [if_pos h2]
        exact hT _ (by rw [e]; unfold leanN; rw [sumN, if_neg h, if_pos h2])
      · rw [if_neg h2]
        exact hT _ (by rw [e]; unfold leanN; rw [sumN, if_neg h, if_neg h2])
  · intro a e
    rw [e_X11_leanOf_4, if_neg (by omega), e]
    exact rfl
theorem c_wound {a b : Int} : X11_wound d s a b = some ([(0, wnd a b)], s) := by
  rw [e_X11_wound]
  simp only [e_X11_wound_28, e_X11_wound_19]
  unfold wnd
  by_cases h0 : a = 0
  · subst h0
    by_cases h : b = 2
    · simp [h]
    · simp [h]
  · by_cases h2 : a = 2
    · subst h2
      by_cases h : b = 1
      · simp [h]
      · simp [h]
    · by_cases h1 : a = 1
      · subst h1
        by_cases h : b = 0
        · simp [h]
        · simp [h]
      · simp [h0, h1, h2]
theorem c_twistsOf (hk : kd s p = 20) (hl : n ≤ (gA s p).length) (hn2 : n ≤ 13) : X11_twistsOf (d + 1) s p n = some ([(0, twN (af s p) n)], s) := by
  rw [e_X11_twistsOf]
  by_cases h2 : n < 2
  · rw [e_X11_twistsOf_4, if_neg (by omega)]
    have : n = 0 ∨ n = 1 := by omega
    rcases this with rfl | rfl <;> rfl
  refine lpG (T := fun r => r = some ([(0, twN (af s p) n)], s)) (fun k a => X11_twistsOf_4 (d + 1) s p n a k) (fun k a => 2 ≤ k ∧ a = twN (af s p) k) n ?_ ?_ 2 0 (by omega) ⟨by omega, rfl⟩
  · intro T k a hk2 ⟨k2, e⟩ hT
    have hb := twN_bd (af s p) k
    have e1 : ((k : Int) - 1).toNat = k - 1 := by omega
    have e2 : ((k : Int) - 2).toNat = k - 2 := by omega
    have a0 : (gA s p).getD k 0 = af s p k := rfl
    have a1 : (gA s p).getD (k - 1) 0 = af s p (k - 1) := rfl
    have a2 : (gA s p).getD (k - 2) 0 = af s p (k - 2) := rfl
    rw [e_X11_twistsOf_4]
    simp (disch := ((try simp only [kd_sF, kd_sA, gA_sF, gA_sA, gF_sF, gF_sA, List.length_set, reduceIte, and_true, and_false, true_and, false_and, Nat.reduceEqDiff, Int.reduceEq, hk]); first | done | omega)) only [rF_ok, wF_ok, oK_ok, lA_ok, rA_ok, wA_ok, cI_ok, cV_ok, cL_ok, cR_ok, kd_sF, kd_sA, gA_sF, gF_sA, gF_sF, gA_sA, bk_0, bk_1, List.length_set, reduceIte, and_true, and_false, true_and, false_and, ne_eq, not_true_eq_false, not_false_eq_true, Int.toNat_natCast, Int.reduceToNat, Nat.reduceEqDiff, Int.reduceEq, Int.reduceLT, Int.reduceLE, Int.reduceAdd, Int.reduceSub, Int.reduceMul, Int.reduceNeg, hk, wi_sm, Int.ofNat_lt, hk2, e1, e2, a0, a1, a2, c_wound]
    have hs1 : twN (af s p) (k + 1) = twN (af s p) k + if 2 ≤ k ∧ wnd (af s p (k - 1)) (af s p k) ≠ wnd (af s p (k - 2)) (af s p (k - 1)) then 1 else 0 := rfl
    by_cases h : wnd (af s p (k - 1)) (af s p k) = wnd (af s p (k - 2)) (af s p (k - 1))
    · rw [if_pos h]
      rw [if_neg (fun q => q.2 h)] at hs1
      exact hT _ ⟨by omega, by rw [e, hs1]; omega⟩
    · rw [if_neg h]
      rw [if_pos ⟨k2, h⟩] at hs1
      exact hT _ ⟨by omega, by rw [e, hs1]⟩
  · intro a ⟨_, e⟩
    rw [e_X11_twistsOf_4, if_neg (by omega), e]
    exact rfl
theorem c_leftOf (hk : kd s p = 20) (hl : n ≤ (gA s p).length) (hn2 : n ≤ 13) : X11_leftOf (d + 1) s p n = some ([(0, lefN (af s p) n)], s) := by
  rw [e_X11_leftOf]
  by_cases h2 : n < 1
  · rw [e_X11_leftOf_4, if_neg (by omega)]
    have : n = 0 := by omega
    subst this
    rfl
  refine lpG (T := fun r => r = some ([(0, lefN (af s p) n)], s)) (fun k a => X11_leftOf_4 (d + 1) s p n a k) (fun k a => 1 ≤ k ∧ a = sumN (fun k => if 1 ≤ k then wnd (af s p (k - 1)) (af s p k) else 0) k) n ?_ ?_ 1 0 (by omega) ⟨by omega, rfl⟩
  · intro T k a hk2 ⟨k2, e⟩ hT
    have hb := lefS_bd (af s p) k
    have e1 : ((k : Int) - 1).toNat = k - 1 := by omega
    have a0 : (gA s p).getD k 0 = af s p k := rfl
    have a1 : (gA s p).getD (k - 1) 0 = af s p (k - 1) := rfl
    have hs1 : sumN (fun k => if 1 ≤ k then wnd (af s p (k - 1)) (af s p k) else 0) (k + 1) = sumN (fun k => if 1 ≤ k then wnd (af s p (k - 1)) (af s p k) else 0) k + if 1 ≤ k then wnd (af s p (k - 1)) (af s p k) else 0 := rfl
    rw [if_pos k2] at hs1
    have hw := wnd_pm (af s p (k - 1)) (af s p k)
    rw [e_X11_leftOf_4]
    simp (disch := ((try simp only [kd_sF, kd_sA, gA_sF, gA_sA, gF_sF, gF_sA, List.length_set, reduceIte, and_true, and_false, true_and, false_and, Nat.reduceEqDiff, Int.reduceEq, hk]); first | done | omega)) only [rF_ok, wF_ok, oK_ok, lA_ok, rA_ok, wA_ok, cI_ok, cV_ok, cL_ok, cR_ok, kd_sF, kd_sA, gA_sF, gF_sA, gF_sF, gA_sA, bk_0, bk_1, List.length_set, reduceIte, and_true, and_false, true_and, false_and, ne_eq, not_true_eq_false, not_false_eq_true, Int.toNat_natCast, Int.reduceToNat, Nat.reduceEqDiff, Int.reduceEq, Int.reduceLT, Int.reduceLE, Int.reduceAdd, Int.reduceSub, Int.reduceMul, Int.reduceNeg, hk, wi_sm, Int.ofNat_lt, hk2, e1, a0, a1, c_wound]
    exact hT _ ⟨by omega, by rw [e, hs1]⟩
  · intro a ⟨_, e⟩
    have hb := lefS_bd (af s p) n
    rw [e_X11_leftOf_4, if_neg (by omega)]
    unfold lefN absI
    rw [← e] at hb ⊢
    by_cases h : a < 0
    · rw [if_pos h, if_pos h, wi_sm (by omega) (by omega)]
      exact rfl
    · rw [if_neg h, if_neg h]
      exact rfl
theorem c_mirrored {x : Int} (h : pl3 x) : X11_mirrored d s x = some ([(0, mir x)], s) := by
  rw [e_X11_mirrored]
  rcases h with rfl | rfl | rfl <;> rfl
theorem c_canGoThrough (hk : kd s p = 20) (hl : n ≤ (gA s p).length) (hn2 : n ≤ 13) (hst : st = 0 ∨ st = 1) (hp : ∀ k, k < n → pl3 (af s p k)) : X11_canGoThrough (d + 1) s p n st = some ([(0, if canT st (af s p) n then 1 else 0)], s) := by
  rw [e_X11_canGoThrough]
  by_cases h3 : n < 3
  · rw [if_pos (by omega)]
    have : canT st (af s p) n = false := by unfold canT; rw [decide_eq_false (by omega)]; rfl
    rw [this]
    rfl
  · have e1 : ((n : Int) - 1).toNat = n - 1 := by omega
    have e2 : ((n : Int) - 2).toNat = n - 2 := by omega
    have e3 : ((n : Int) - 3).toNat = n - 3 := by omega
    have p2 := hp (n - 2) (by omega)
    have p3 := hp (n - 3) (by omega)
    have a1 : (gA s p).getD (n - 1) 0 = af s p (n - 1) := rfl
    have a2 : (gA s p).getD (n - 2) 0 = af s p (n - 2) := rfl
    have a3 : (gA s p).getD (n - 3) 0 = af s p (n - 3) := rfl
    have c1 : canT st (af s p) n = (decide (af s p (n - 1) = 2) && (decide ((st + n - 1) % 2 = 0) && (decide (af s p (n - 2) + af s p (n - 3) = 1) && decide (af s p (n - 2) ≠ af s p (n - 3))))) := by
      unfold canT; rw [decide_eq_true (show 3 ≤ n by omega)]; rfl
    rw [c1, if_neg (by omega)]
    simp (disch := ((try simp only [kd_sF, kd_sA, gA_sF, gA_sA, gF_sF, gF_sA, List.length_set, reduceIte, and_true, and_false, true_and, false_and, Nat.reduceEqDiff, Int.reduceEq, hk]); first | done | omega)) only [rF_ok, wF_ok, oK_ok, lA_ok, rA_ok, wA_ok, cI_ok, cV_ok, cL_ok, cR_ok, kd_sF, kd_sA, gA_sF, gF_sA, gF_sF, gA_sA, bk_0, bk_1, List.length_set, reduceIte, and_true, and_false, true_and, false_and, ne_eq, not_true_eq_false, not_false_eq_true, Int.toNat_natCast, Int.reduceToNat, Nat.reduceEqDiff, Int.reduceEq, Int.reduceLT, Int.reduceLE, Int.reduceAdd, Int.reduceSub, Int.reduceMul, Int.reduceNeg, hk, if_neg (show ¬ (((gA s p).length : Int) < n) by omega), wi_sm, e1, e2, e3, and1, a1, a2, a3, e_X11_canGoThrough_41]
    by_cases k2 : (st + n - 1) % 2 = 0
    · rw [if_pos k2]
      by_cases k1 : af s p (n - 1) = 2
      · simp only [k1, k2, reduceIte, Int.reduceEq, decide_true, Bool.true_and]
        by_cases k3 : af s p (n - 2) = 2
        · rw [if_pos k3]
          have : ¬ (af s p (n - 2) + af s p (n - 3) = 1) := by unfold pl3 at p3; omega
          simp [this]
        · rw [if_neg k3, c_mirrored p2, cI_ok]
          unfold pl3 at p2 p3
          unfold mir
          rw [if_neg k3]
          by_cases k4 : af s p (n - 3) = 1 - af s p (n - 2)
          · rw [if_pos k4]
            have g1 : af s p (n - 2) + af s p (n - 3) = 1 := by omega
            have g2 : af s p (n - 2) ≠ af s p (n - 3) := by omega
            simp [g1, g2]
          · rw [if_neg k4]
            have g1 : ¬ (af s p (n - 2) + af s p (n - 3) = 1) := by omega
            simp [g1]
      · simp [k1]
    · rw [if_neg k2]
      simp [k2]
theorem c_frontOf (hk : kd s p = 20) (hl : n ≤ (gA s p).length) (hn2 : n ≤ 13) (hst : st = 0 ∨ st = 1) (hp : ∀ k, k < n → pl3 (af s p k)) : X11_frontOf d s p n st = some ([(0, frN st (af s p) n)], s) := by
  rw [e_X11_frontOf, wi_sm (by omega) (by omega), show (n : Int) - 1 = n - 1 - (0 : Nat) by omega]
  refine lpG (T := fun r => r = some ([(0, frN st (af s p) n)], s)) (fun j (a : List Int) => X11_frontOf_13 d s p st (enc a) (2 * (a.length : Int)) (msk a) ((n : Int) - 1 - j)) (fun j a => a = frL st (af s p) n j) n ?_ ?_ 0 [] (by omega) rfl
  · intro T j a hj e hT
    have hin := frL_in (st := st) hp j (by omega)
    rw [← e] at hin
    have hbd := L16_bd a hin
    have hpl := hp (n - 1 - j) (by omega)
    have e1 : ((n : Int) - 1 - j).toNat = n - 1 - j := by omega
    have e2 : ((n : Int) - 1 - j) = ((n - 1 - j : Nat) : Int) := by omega
    have e3 : ((n : Int) - 1 - j) + -1 = (n : Int) - 1 - (j + 1 : Nat) := by omega
    have a1 : (gA s p).getD (n - 1 - j) 0 = af s p (n - 1 - j) := rfl
    have b1 : 0 ≤ af s p (n - 1 - j) ∧ af s p (n - 1 - j) ≤ 2 := by unfold pl3 at hpl; omega
    rw [e_X11_frontOf_13, if_neg (by omega)]
    simp (disch := ((try simp only [kd_sF, kd_sA, gA_sF, gA_sA, gF_sF, gF_sA, List.length_set, reduceIte, and_true, and_false, true_and, false_and, Nat.reduceEqDiff, Int.reduceEq, hk]); first | done | omega)) only [rF_ok, wF_ok, oK_ok, lA_ok, rA_ok, wA_ok, cI_ok, cV_ok, cL_ok, cR_ok, kd_sF, kd_sA, gA_sF, gF_sA, gF_sF, gA_sA, bk_0, bk_1, List.length_set, reduceIte, and_true, and_false, true_and, false_and, ne_eq, not_true_eq_false, not_false_eq_true, Int.toNat_natCast, Int.reduceToNat, Nat.reduceEqDiff, Int.reduceEq, Int.reduceLT, Int.reduceLE, Int.reduceAdd, Int.reduceSub, Int.reduceMul, Int.reduceNeg, hk, wi_sm, and1, e1, a1]
    have hmem : af s p (n - 1 - j) ∈ [(0 : Int), 1, 2] := by rcases hpl with q | q | q <;> rw [q] <;> decide
    obtain ⟨m1, m2⟩ := L16_in a hin (af s p (n - 1 - j)) hmem
    have hfr : frL st (af s p) n (j + 1) = if (st + ((n - 1 - j : Nat) : Int)) % 2 = 0 ∧ af s p (n - 1 - j) ∉ a then a ++ [af s p (n - 1 - j)] else a := by rw [frL, ← e]
    rw [← e2] at hfr
    by_cases k1 : (st + ((n : Int) - 1 - j)) % 2 = 0
    · rw [if_pos k1]
      by_cases k2 : af s p (n - 1 - j) ∈ a
      · rw [if_neg (m1 k2).2, e3]
        exact hT a (by rw [hfr, if_neg (fun q => q.2 k2)])
      · obtain ⟨z1, z2, z3, z4, z5, z6⟩ := m2 k2
        rw [if_pos z2, e3, z4, z6]
        have l1 : (2 : Int) * ((a ++ [af s p (n - 1 - j)]).length : Int) = 2 * a.length + 2 := by simp; omega
        have := hT (a ++ [af s p (n - 1 - j)]) (by rw [hfr, if_pos ⟨k1, k2⟩])
        rw [l1] at this
        exact this
    · rw [if_neg k1, e3]
      exact hT a (by rw [hfr, if_neg (fun q => k1 q.1)])
  · intro a e
    rw [e_X11_frontOf_13, if_pos (by omega), e]
    exact rfl
theorem c_isPlace1 {x : Int} (h : 0 ≤ x ∧ x ≤ 2) : X11_isPlace d s x = some ([(0, 1)], s) := by rw [e_X11_isPlace, if_neg (by omega), if_neg (by omega)]
theorem c_isPlace0 {x : Int} (h : x < 0 ∨ 2 < x) : X11_isPlace d s x = some ([(0, 0)], s) := by
  rw [e_X11_isPlace]
  by_cases e : x < 0
  · rw [if_pos e]
  · rw [if_neg e, if_pos (by omega)]
theorem c_isLong1 {x : Int} (h : 3 ≤ x ∧ x ≤ 12) : X11_isWordLength d s x = some ([(0, 1)], s) := by rw [e_X11_isWordLength, if_neg (by omega), if_neg (by omega)]
theorem c_isLong0 {x : Int} (h : x < 3 ∨ 12 < x) : X11_isWordLength d s x = some ([(0, 0)], s) := by
  rw [e_X11_isWordLength]
  by_cases e : x < 3
  · rw [if_pos e]
  · rw [if_neg e, if_pos (by omega)]
end CW
