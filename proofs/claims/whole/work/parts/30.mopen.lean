/-! ===== the reference: words by number, proper ones ===== -/
/-- the place k of the word w of n moves -/
def plN (n w : Nat) : Nat → Int
  | 0 => ((w / 2 ^ (n - 1) : Nat) : Int)
  | k + 1 => fol (plN n w k) ((w / 2 ^ (n - 1 - (k + 1)) % 2 : Nat) : Int)
theorem plN_pl {n w : Nat} (h : w < 3 * 2 ^ (n - 1)) : ∀ k, pl3 (plN n w k)
  | 0 => by
    have : w / 2 ^ (n - 1) < 3 := Nat.div_lt_of_lt_mul (by rw [Nat.mul_comm]; exact h)
    unfold plN pl3
    generalize w / 2 ^ (n - 1) = m at *
    omega
  | k + 1 => fol_pl _ _
def allN (p : Nat → Bool) : Nat → Bool
  | 0 => true
  | n + 1 => allN p n && p n
theorem allN_congr {p q : Nat → Bool} : ∀ {n : Nat}, (∀ k, k < n → p k = q k) → allN p n = allN q n
  | 0, _ => rfl
  | n + 1, h => by rw [allN, allN, allN_congr (fun k hk => h k (by omega)), h n (by omega)]
theorem allN_iff {p : Nat → Bool} : ∀ {n : Nat}, allN p n = true ↔ ∀ k, k < n → p k = true
  | 0 => ⟨fun _ k hk => by omega, fun _ => rfl⟩
  | n + 1 => by
    rw [allN, Bool.and_eq_true, allN_iff]
    constructor
    · rintro ⟨h1, h2⟩ k hk
      by_cases e : k = n
      · rw [e]; exact h2
      · exact h1 k (by omega)
    · intro h
      exact ⟨fun k hk => h k (by omega), h n (by omega)⟩
/-- a word is proper: it could be put through, and no move is barred -/
def prB (cls : List Cl) (mood th st : Int) (f : Nat → Int) (n : Nat) : Bool := canT st f n && allN (fun k => decide (brW cls mood th st f k = 0)) n
theorem prB_congr {cls : List Cl} {mood th st : Int} {f g : Nat → Int} {n : Nat} (h : ∀ k, k < n → f k = g k) : prB cls mood th st f n = prB cls mood th st g n := by
  unfold prB
  rw [canT_congr h, allN_congr fun k hk => by rw [brW_congr (g := g) fun j hj => h j (by omega)]]
section MOPEN
variable {d : Nat} {s : St} {n : Nat} {st th mood : Int} {cls : List Cl}
theorem m_canThrough (hs : ShM s) (hn : gF s 98 29 = n) (hn2 : n ≤ 13) (h27 : gF s 98 27 = st) (hst : st = 0 ∨ st = 1) (hp : ∀ k, k < n → pl3 (pf s k)) : X12_canThrough (d + 1) s 98 = some ([(0, if canT st (pf s) n then 1 else 0)], s) := by
  rw [e_X12_canThrough]
  by_cases h3 : n < 3
  · simp (disch := ((try simp only [kd_sF, kd_sA, gA_sF, gA_sA, gF_sF, gF_sA, List.length_set, reduceIte, and_true, and_false, true_and, false_and, Nat.reduceEqDiff, Int.reduceEq, hs.kd, hs.ln, hs.fs, kMs, lMs]); first | done | omega)) only [rF_ok, wF_ok, oK_ok, lA_ok, rA_ok, wA_ok, cI_ok, cV_ok, cL_ok, cR_ok, kd_sF, kd_sA, gA_sF, gF_sA, gF_sF, gA_sA, bk_0, bk_1, List.length_set, reduceIte, and_true, and_false, true_and, false_and, ne_eq, not_true_eq_false, not_false_eq_true, Int.toNat_natCast, Int.reduceToNat, Nat.reduceEqDiff, Int.reduceEq, Int.reduceLT, Int.reduceLE, Int.reduceAdd, Int.reduceSub, Int.reduceMul, Int.reduceNeg, hs.kd, hs.ln, hs.fs, kMs, lMs, hn, if_pos (show (n : Int) < 3 by omega)]
    have : canT st (pf s) n = false := by unfold canT; rw [decide_eq_false (by omega)]; rfl
    rw [this]
    rfl
  · have e1 : ((n : Int) - 1).toNat = n - 1 := by omega
    have e2 : ((n : Int) - 2).toNat = n - 2 := by omega
    have e3 : ((n : Int) - 3).toNat = n - 3 := by omega
    have p2 := hp (n - 2) (by omega)
    have p3 := hp (n - 3) (by omega)
    have b2 : 0 ≤ pf s (n - 2) ∧ pf s (n - 2) ≤ 2 := by unfold pl3 at p2; omega
    have b3 : 0 ≤ pf s (n - 3) ∧ pf s (n - 3) ≤ 2 := by unfold pl3 at p3; omega
    have a1 : (gA s 112).getD (n - 1) 0 = pf s (n - 1) := rfl
    have a2 : (gA s 112).getD (n - 2) 0 = pf s (n - 2) := rfl
    have a3 : (gA s 112).getD (n - 3) 0 = pf s (n - 3) := rfl
    have c1 : canT st (pf s) n = (decide (pf s (n - 1) = 2) && (decide ((st + n - 1) % 2 = 0) && (decide (pf s (n - 2) + pf s (n - 3) = 1) && decide (pf s (n - 2) ≠ pf s (n - 3))))) := by
      unfold canT; rw [decide_eq_true (show 3 ≤ n by omega)]; rfl
    rw [c1]
    simp (disch := ((try simp only [kd_sF, kd_sA, gA_sF, gA_sA, gF_sF, gF_sA, List.length_set, reduceIte, and_true, and_false, true_and, false_and, Nat.reduceEqDiff, Int.reduceEq, hs.kd, hs.ln, hs.fs, kMs, lMs]); first | done | omega)) only [rF_ok, wF_ok, oK_ok, lA_ok, rA_ok, wA_ok, cI_ok, cV_ok, cL_ok, cR_ok, kd_sF, kd_sA, gA_sF, gF_sA, gF_sF, gA_sA, bk_0, bk_1, List.length_set, reduceIte, and_true, and_false, true_and, false_and, ne_eq, not_true_eq_false, not_false_eq_true, Int.toNat_natCast, Int.reduceToNat, Nat.reduceEqDiff, Int.reduceEq, Int.reduceLT, Int.reduceLE, Int.reduceAdd, Int.reduceSub, Int.reduceMul, Int.reduceNeg, hs.kd, hs.ln, hs.fs, kMs, lMs, hn, if_neg (show ¬ ((n : Int) < 3) by omega), wi_sm, e1, e2, e3, e_X12_sideOf, h27, tm2, a1, a2, a3]
    rw [show st + ((n : Int) - 1) = st + n - 1 by omega]
    by_cases k1 : pf s (n - 1) = 2
    · by_cases k2 : (st + n - 1) % 2 = 0
      · by_cases k3 : pf s (n - 2) + pf s (n - 3) = 1
        · by_cases k4 : pf s (n - 2) = pf s (n - 3)
          · simp [k1, k2, k3, k4]
          · simp [k1, k2, k3, k4]
        · simp [k1, k2, k3]
      · simp [k1, k2]
    · simp [k1]
theorem m_frontOf (hs : ShM s) (hn : gF s 98 29 = n) (hn2 : n ≤ 13) (h27 : gF s 98 27 = st) (hst : st = 0 ∨ st = 1) (hp : ∀ k, k < n → pl3 (pf s k)) : X12_frontOf (d + 1) s 98 = some ([(0, frN st (pf s) n)], s) := by
  rw [e_X12_frontOf]
  simp (disch := ((try simp only [kd_sF, kd_sA, gA_sF, gA_sA, gF_sF, gF_sA, List.length_set, reduceIte, and_true, and_false, true_and, false_and, Nat.reduceEqDiff, Int.reduceEq, hs.kd, hs.ln, hs.fs, kMs, lMs]); first | done | omega)) only [rF_ok, wF_ok, oK_ok, lA_ok, rA_ok, wA_ok, cI_ok, cV_ok, cL_ok, cR_ok, kd_sF, kd_sA, gA_sF, gF_sA, gF_sF, gA_sA, bk_0, bk_1, List.length_set, reduceIte, and_true, and_false, true_and, false_and, ne_eq, not_true_eq_false, not_false_eq_true, Int.toNat_natCast, Int.reduceToNat, Nat.reduceEqDiff, Int.reduceEq, Int.reduceLT, Int.reduceLE, Int.reduceAdd, Int.reduceSub, Int.reduceMul, Int.reduceNeg, hs.kd, hs.ln, hs.fs, kMs, lMs, hn, wi_sm]
  rw [show (n : Int) - 1 = n - 1 - (0 : Nat) by omega]
  refine lpG (T := fun r => r = some ([(0, frN st (pf s) n)], s)) (fun j (a : List Int) => X12_frontOf_14 (d + 1) s 98 (enc a) (msk a) (4 ^ a.length) ((n : Int) - 1 - j)) (fun j a => a = frL st (pf s) n j) n ?_ ?_ 0 [] (by omega) rfl
  · intro T j a hj e hT
    have hin := frL_in (st := st) hp j (by omega)
    rw [← e] at hin
    have hbd := L16_bd a hin
    have hpl := hp (n - 1 - j) (by omega)
    have e1 : ((n : Int) - 1 - j).toNat = n - 1 - j := by omega
    have e2 : ((n : Int) - 1 - j) = ((n - 1 - j : Nat) : Int) := by omega
    have e3 : ((n : Int) - 1 - j) + -1 = (n : Int) - 1 - (j + 1 : Nat) := by omega
    have a1 : (gA s 112).getD (n - 1 - j) 0 = pf s (n - 1 - j) := rfl
    rw [e_X12_frontOf_14, if_neg (by omega)]
    simp (disch := ((try simp only [kd_sF, kd_sA, gA_sF, gA_sA, gF_sF, gF_sA, List.length_set, reduceIte, and_true, and_false, true_and, false_and, Nat.reduceEqDiff, Int.reduceEq, hs.kd, hs.ln, hs.fs, kMs, lMs]); first | done | omega)) only [rF_ok, wF_ok, oK_ok, lA_ok, rA_ok, wA_ok, cI_ok, cV_ok, cL_ok, cR_ok, kd_sF, kd_sA, gA_sF, gF_sA, gF_sF, gA_sA, bk_0, bk_1, List.length_set, reduceIte, and_true, and_false, true_and, false_and, ne_eq, not_true_eq_false, not_false_eq_true, Int.toNat_natCast, Int.reduceToNat, Nat.reduceEqDiff, Int.reduceEq, Int.reduceLT, Int.reduceLE, Int.reduceAdd, Int.reduceSub, Int.reduceMul, Int.reduceNeg, hs.kd, hs.ln, hs.fs, kMs, lMs, e_X12_sideOf, h27, wi_sm, tm2, e1, a1]
    have hmem : pf s (n - 1 - j) ∈ [(0 : Int), 1, 2] := by rcases hpl with q | q | q <;> rw [q] <;> decide
    obtain ⟨m1, m2⟩ := L16_in a hin (pf s (n - 1 - j)) hmem
    have hfr : frL st (pf s) n (j + 1) = if (st + ((n - 1 - j : Nat) : Int)) % 2 = 0 ∧ pf s (n - 1 - j) ∉ a then a ++ [pf s (n - 1 - j)] else a := by rw [frL, ← e]
    rw [← e2] at hfr
    by_cases k1 : (st + ((n : Int) - 1 - j)) % 2 = 0
    · rw [if_pos k1]
      by_cases k2 : pf s (n - 1 - j) ∈ a
      · rw [if_pos (m1 k2).1, e3]
        exact hT a (by rw [hfr, if_neg (fun q => q.2 k2)])
      · obtain ⟨z1, z2, z3, z4, z5, z6⟩ := m2 k2
        have hb2 := L16_bd _ z3
        have hpw : (4 : Int) ^ a.length ≤ 64 ∧ 0 < (4 : Int) ^ a.length := by
          have : a.length = 0 ∨ a.length = 1 ∨ a.length = 2 ∨ a.length = 3 := by omega
          rcases this with q | q | q | q <;> rw [q] <;> decide
        rw [if_neg z1, e3, z4]
        have b1 : 0 ≤ pf s (n - 1 - j) ∧ pf s (n - 1 - j) ≤ 2 := by unfold pl3 at hpl; omega
        have w1 : wi (pf s (n - 1 - j) + 1) = pf s (n - 1 - j) + 1 := wi_sm (by omega) (by omega)
        have w2 : wi (4 ^ a.length * (pf s (n - 1 - j) + 1)) = 4 ^ a.length * (pf s (n - 1 - j) + 1) := by
          refine wi_sm ?_ ?_ <;> omega
        rw [w1, w2, wi_sm (by omega) (by omega), z5, wi_sm (by omega) (by omega)]
        have l1 : (a ++ [pf s (n - 1 - j)]).length = a.length + 1 := by simp
        have := hT (a ++ [pf s (n - 1 - j)]) (by rw [hfr, if_pos ⟨k1, k2⟩])
        rw [l1, Int.pow_succ] at this
        exact this
    · rw [if_neg k1, e3]
      exact hT a (by rw [hfr, if_neg (fun q => k1 q.1)])
  · intro a e
    rw [e_X12_frontOf_14, if_pos (by omega), e]
    exact rfl
theorem m_following {b h : Int} : X12_following d s b h = some ([(0, fol b h)], s) := by
  rw [e_X12_following]
  unfold fol
  simp only [e_X12_following_9]
  by_cases h1 : b = 0
  · subst h1
    by_cases h2 : h = 1
    · simp [h2]
    · simp [h2]
  · by_cases h3 : b = 2
    · by_cases h2 : h = 1
      · simp [h1, h2, h3]
      · simp [h1, h2, h3]
    · by_cases h2 : h = 1
      · simp [h1, h2, h3]
      · simp [h1, h2, h3]
theorem m_opens {w : Nat} (hs : ShM s) (hn : 1 ≤ n ∧ n ≤ 12) (hw : w < 3 * 2 ^ (n - 1)) : Gl (GV fun s' => Fa [112] s s' ∧ gF s' 98 29 = n ∧ gF s' 98 27 = ((n : Int) - 1) % 2 ∧ gF s' 98 28 = (gA s 100).getD 169 0 ∧ ∀ k, k < n → pf s' k = plN n w k) (X12_opens (d + 1) s 98 n w) := by
  rw [e_X12_opens]
  have hw2 : w < 2147483648 := by
    have : 2 ^ (n - 1) ≤ 2 ^ 11 := Nat.pow_le_pow_right (by decide) (by omega)
    omega
  have e0 : (n : Int) - 1 = ((n - 1 : Nat) : Int) := by omega
  have e1 : shrI w ((n : Int) - 1) = ((w / 2 ^ (n - 1) : Nat) : Int) := by rw [e0, shr_n hw2 (by omega)]
  simp (disch := ((try simp only [kd_sF, kd_sA, gA_sF, gA_sA, gF_sF, gF_sA, List.length_set, reduceIte, and_true, and_false, true_and, false_and, Nat.reduceEqDiff, Int.reduceEq, hs.kd, hs.ln, hs.fs, kMs, lMs]); first | done | omega)) only [rF_ok, wF_ok, oK_ok, lA_ok, rA_ok, wA_ok, cI_ok, cV_ok, cL_ok, cR_ok, kd_sF, kd_sA, gA_sF, gF_sA, gF_sF, gA_sA, bk_0, bk_1, List.length_set, reduceIte, and_true, and_false, true_and, false_and, ne_eq, not_true_eq_false, not_false_eq_true, Int.toNat_natCast, Int.reduceToNat, Nat.reduceEqDiff, Int.reduceEq, Int.reduceLT, Int.reduceLE, Int.reduceAdd, Int.reduceSub, Int.reduceMul, Int.reduceNeg, hs.kd, hs.ln, hs.fs, kMs, lMs, wi_sm, tm2, e1]
  refine lpG (fun k s1 => X12_opens_39 (d + 1) s1 98 n w k) (fun k s1 => 1 ≤ k ∧ ShM s1 ∧ Fa [112] s s1 ∧ gF s1 98 29 = n ∧ gF s1 98 27 = ((n : Int) - 1) % 2 ∧ gF s1 98 28 = (gA s 100).getD 169 0 ∧ ∀ i, i < k → pf s1 i = plN n w i) n ?_ ?_ 1 _ (by omega) ⟨by omega, ?_, ?_, rfl, rfl, rfl, ?_⟩
  · intro T k s1 hk ⟨i0, i1, i2, i3, i4, i5, i6⟩ hT
    rw [e_X12_opens_39, if_pos (by omega)]
    have q1 : ((k : Int) - 1).toNat = k - 1 := by omega
    have q2 : (n : Int) - 1 - k = ((n - 1 - k : Nat) : Int) := by omega
    have q3 : andI (shrI w ((n : Int) - 1 - k)) 1 = ((w / 2 ^ (n - 1 - k) % 2 : Nat) : Int) := by
      rw [q2, shr_n hw2 (by omega), and1 (Int.natCast_nonneg _) (by have := Nat.div_le_self w (2 ^ (n - 1 - k)); generalize w / 2 ^ (n - 1 - k) = m at *; omega)]
      rfl
    have l112 : (gA s1 112).length = 13 := i1.ln 112
    simp (disch := ((try simp only [kd_sF, kd_sA, gA_sF, gA_sA, gF_sF, gF_sA, List.length_set, reduceIte, and_true, and_false, true_and, false_and, Nat.reduceEqDiff, Int.reduceEq, i1.kd, i1.ln, i1.fs, kMs, lMs]); first | done | omega)) only [rF_ok, wF_ok, oK_ok, lA_ok, rA_ok, wA_ok, cI_ok, cV_ok, cL_ok, cR_ok, kd_sF, kd_sA, gA_sF, gF_sA, gF_sF, gA_sA, bk_0, bk_1, List.length_set, reduceIte, and_true, and_false, true_and, false_and, ne_eq, not_true_eq_false, not_false_eq_true, Int.toNat_natCast, Int.reduceToNat, Nat.reduceEqDiff, Int.reduceEq, Int.reduceLT, Int.reduceLE, Int.reduceAdd, Int.reduceSub, Int.reduceMul, Int.reduceNeg, i1.kd, i1.ln, i1.fs, kMs, lMs, wi_sm, q1, q3, m_following]
    refine hT _ ⟨by omega, i1.sA (by rw [List.length_set]), i2.tr (Fa.sA _ (by decide)), i3, i4, i5, fun i hi => ?_⟩
    unfold pf
    rw [gA_eq, setD_getD (by omega)]
    by_cases e : k = i
    · rw [if_pos e, ← e]
      obtain ⟨m, rfl⟩ : ∃ m, k = m + 1 := ⟨k - 1, by omega⟩
      have := i6 m (by omega)
      unfold pf at this
      rw [show m + 1 - 1 = m by omega, this]
      rfl
    · rw [if_neg e]
      exact i6 i (by omega)
  · intro s1 ⟨i0, i1, i2, i3, i4, i5, i6⟩
    rw [e_X12_opens_39, if_neg (by omega)]
    exact reV ⟨i2, i3, i4, i5, i6⟩
  · (repeat first | exact hs | (refine ShM.sF ?_ (by decide)) | (refine ShM.sA ?_ (by simp only [List.length_set, gA_sA, gA_sF, reduceIte])))
  · intro p hp
    simp only [List.mem_singleton] at hp
    simp only [gA_sA, gA_sF, hp, reduceIte]
  · intro i hi
    have : i = 0 := by omega
    subst this
    have l112 : (gA s 112).length = 13 := hs.ln 112
    unfold pf
    simp only [gA_sA, gA_sF, reduceIte]
    rw [set_eq (by omega)]
    rfl
/-- the rows of what was asked hold for what is looked at -/
theorem m_askAt {k : Nat} (hs : ShM s) (h27 : gF s 98 27 = st) (hst : st = 0 ∨ st = 1) (hk : k < 12) (hp : pl3 (pf s k) ∧ pl3 (pf s (k - 1))) : ∃ e : Nat, e < 288 ∧ (e / 12 % 12 = 0 ↔ e / 3 % 4 = 0) ∧ X12_askAt (d + 1) s 98 k = some ([(0, (e : Int))], s) ∧ tkE cls mood th e = tkW cls mood th st (pf s) k ∧ gpE cls mood th e = gpW cls mood th st (pf s) k ∧ brE cls mood th e = brW cls mood th st (pf s) k := by
  obtain ⟨p1, p2⟩ := hp
  have b1 : 0 ≤ pf s k ∧ pf s k ≤ 2 := by unfold pl3 at p1; omega
  have b2 : 0 ≤ pf s (k - 1) ∧ pf s (k - 1) ≤ 2 := by unfold pl3 at p2; omega
  have key : ∀ b : Int, -1 ≤ b → b ≤ 2 → (k = 0 ↔ b = -1) → (if k = 0 then -1 else pf s (k - 1)) = b → (X12_askAt (d + 1) s 98 k = some ([(0, 144 * st + 12 * k + 3 * (b + 1) + pf s k)], s)) → ∃ e : Nat, e < 288 ∧ (e / 12 % 12 = 0 ↔ e / 3 % 4 = 0) ∧ X12_askAt (d + 1) s 98 k = some ([(0, (e : Int))], s) ∧ tkE cls mood th e = tkW cls mood th st (pf s) k ∧ gpE cls mood th e = gpW cls mood th st (pf s) k ∧ brE cls mood th e = brW cls mood th st (pf s) k := by
    intro b g1 g2 g3 g4 g5
    refine ⟨(144 * st + 12 * k + 3 * (b + 1) + pf s k).toNat, by omega, by omega, by rw [g5, i2n (by omega)], ?_, ?_, ?_⟩
    all_goals
      first | unfold tkE tkW | unfold gpE gpW | unfold brE brW
      rw [g4]
      congr 1
      all_goals omega
  rw [e_X12_askAt] at key ⊢
  by_cases h0 : k = 0
  · refine key (-1) (by omega) (by omega) (by omega) (if_pos h0) ?_
    have a1 : (gA s 112).getD k 0 = pf s k := rfl
    simp (disch := ((try simp only [kd_sF, kd_sA, gA_sF, gA_sA, gF_sF, gF_sA, List.length_set, reduceIte, and_true, and_false, true_and, false_and, Nat.reduceEqDiff, Int.reduceEq, hs.kd, hs.ln, hs.fs, kMs, lMs]); first | done | omega)) only [rF_ok, wF_ok, oK_ok, lA_ok, rA_ok, wA_ok, cI_ok, cV_ok, cL_ok, cR_ok, kd_sF, kd_sA, gA_sF, gF_sA, gF_sF, gA_sA, bk_0, bk_1, List.length_set, reduceIte, and_true, and_false, true_and, false_and, ne_eq, not_true_eq_false, not_false_eq_true, Int.toNat_natCast, Int.reduceToNat, Nat.reduceEqDiff, Int.reduceEq, Int.reduceLT, Int.reduceLE, Int.reduceAdd, Int.reduceSub, Int.reduceMul, Int.reduceNeg, hs.kd, hs.ln, hs.fs, kMs, lMs, h27, e_X12_askOf, wi_sm, a1, if_pos (show (k : Int) = 0 by omega)]
    refine congrArg (fun x : Int => (some ([((0 : Nat), x)], s) : Res)) ?_
    omega
  · refine key (pf s (k - 1)) (by omega) (by omega) (by omega) (if_neg h0) ?_
    have e1 : ((k : Int) - 1).toNat = k - 1 := by omega
    have a1 : (gA s 112).getD k 0 = pf s k := rfl
    have a2 : (gA s 112).getD (k - 1) 0 = pf s (k - 1) := rfl
    simp (disch := ((try simp only [kd_sF, kd_sA, gA_sF, gA_sA, gF_sF, gF_sA, List.length_set, reduceIte, and_true, and_false, true_and, false_and, Nat.reduceEqDiff, Int.reduceEq, hs.kd, hs.ln, hs.fs, kMs, lMs]); first | done | omega)) only [rF_ok, wF_ok, oK_ok, lA_ok, rA_ok, wA_ok, cI_ok, cV_ok, cL_ok, cR_ok, kd_sF, kd_sA, gA_sF, gF_sA, gF_sF, gA_sA, bk_0, bk_1, List.length_set, reduceIte, and_true, and_false, true_and, false_and, ne_eq, not_true_eq_false, not_false_eq_true, Int.toNat_natCast, Int.reduceToNat, Nat.reduceEqDiff, Int.reduceEq, Int.reduceLT, Int.reduceLE, Int.reduceAdd, Int.reduceSub, Int.reduceMul, Int.reduceNeg, hs.kd, hs.ln, hs.fs, kMs, lMs, h27, e_X12_askOf, wi_sm, e1, a1, a2, if_neg (show ¬ ((k : Int) = 0) by omega)]
    refine congrArg (fun x : Int => (some ([((0 : Nat), x)], s) : Res)) ?_
    omega
theorem m_isProper (hs : ShM s) (hn : gF s 98 29 = n) (hn2 : n ≤ 12) (h27 : gF s 98 27 = st) (hst : st = 0 ∨ st = 1) (hp : ∀ k, k < n → pl3 (pf s k)) (hR : Rt cls mood th 288 s) : X12_isProper (d + 2) s 98 = some ([(0, if prB cls mood th st (pf s) n then 1 else 0)], s) := by
  rw [e_X12_isProper]
  simp (disch := ((try simp only [kd_sF, kd_sA, gA_sF, gA_sA, gF_sF, gF_sA, List.length_set, reduceIte, and_true, and_false, true_and, false_and, Nat.reduceEqDiff, Int.reduceEq, hs.kd, hs.ln, hs.fs, kMs, lMs]); first | done | omega)) only [rF_ok, wF_ok, oK_ok, lA_ok, rA_ok, wA_ok, cI_ok, cV_ok, cL_ok, cR_ok, kd_sF, kd_sA, gA_sF, gF_sA, gF_sF, gA_sA, bk_0, bk_1, List.length_set, reduceIte, and_true, and_false, true_and, false_and, ne_eq, not_true_eq_false, not_false_eq_true, Int.toNat_natCast, Int.reduceToNat, Nat.reduceEqDiff, Int.reduceEq, Int.reduceLT, Int.reduceLE, Int.reduceAdd, Int.reduceSub, Int.reduceMul, Int.reduceNeg, hs.kd, hs.ln, hs.fs, kMs, lMs, m_canThrough hs hn (show n ≤ 13 by omega) h27 hst hp]
  have key : ∀ (k : Nat), k < n → prB cls mood th st (pf s) n = true → brW cls mood th st (pf s) k = 0 := by
    intro k hk hq
    unfold prB at hq
    rw [Bool.and_eq_true] at hq
    have := allN_iff.mp hq.2 k hk
    exact of_decide_eq_true this
  have h0 : ∀ (a : Bool), (a = (canT st (pf s) n && allN (fun k => decide (brW cls mood th st (pf s) k = 0)) 0)) → (if canT st (pf s) n then (1 : Int) else 0) = (if a then 1 else 0) := by
    intro a ha; rw [ha, allN, Bool.and_true]
  rw [h0 _ rfl]
  refine lpF (T := fun r => r = some ([(0, if prB cls mood th st (pf s) n then 1 else 0)], s)) (fun k (a : Bool) => X12_isProper_7 (d + 2) s 98 (if a then 1 else 0) k) (fun k a => a = (canT st (pf s) n && allN (fun k => decide (brW cls mood th st (pf s) k = 0)) k)) n ?_ ?_ 0 _ (by omega) rfl
  · intro k a hk ha hT
    rw [e_X12_isProper_7]
    cases a with
    | false =>
      have hf : prB cls mood th st (pf s) n = false := by
        cases hq : prB cls mood th st (pf s) n with
        | false => rfl
        | true =>
          have h2 : allN (fun k => decide (brW cls mood th st (pf s) k = 0)) k = true := allN_iff.mpr fun j hj => decide_eq_true (key j (by omega) hq)
          unfold prB at hq
          rw [Bool.and_eq_true] at hq
          rw [hq.1, h2] at ha
          cases ha
      simp (disch := ((try simp only [kd_sF, kd_sA, gA_sF, gA_sA, gF_sF, gF_sA, List.length_set, reduceIte, and_true, and_false, true_and, false_and, Nat.reduceEqDiff, Int.reduceEq, hs.kd, hs.ln, hs.fs, kMs, lMs]); first | done | omega)) only [rF_ok, wF_ok, oK_ok, lA_ok, rA_ok, wA_ok, cI_ok, cV_ok, cL_ok, cR_ok, kd_sF, kd_sA, gA_sF, gF_sA, gF_sF, gA_sA, bk_0, bk_1, List.length_set, reduceIte, and_true, and_false, true_and, false_and, ne_eq, not_true_eq_false, not_false_eq_true, Int.toNat_natCast, Int.reduceToNat, Nat.reduceEqDiff, Int.reduceEq, Int.reduceLT, Int.reduceLE, Int.reduceAdd, Int.reduceSub, Int.reduceMul, Int.reduceNeg, hs.kd, hs.ln, hs.fs, kMs, lMs, hn, Int.ofNat_lt, hk, Bool.false_eq_true, hf]
      exact rfl
    | true =>
      have pk : pl3 (pf s k) ∧ pl3 (pf s (k - 1)) := ⟨hp k hk, hp (k - 1) (by omega)⟩
      obtain ⟨e, e1, e2, e3, -, -, e4⟩ := m_askAt (d := d) (cls := cls) (mood := mood) (th := th) hs h27 hst (by omega) pk
      have e5 := (hR e e1 e2).2.2
      simp (disch := ((try simp only [kd_sF, kd_sA, gA_sF, gA_sA, gF_sF, gF_sA, List.length_set, reduceIte, and_true, and_false, true_and, false_and, Nat.reduceEqDiff, Int.reduceEq, hs.kd, hs.ln, hs.fs, kMs, lMs]); first | done | omega)) only [rF_ok, wF_ok, oK_ok, lA_ok, rA_ok, wA_ok, cI_ok, cV_ok, cL_ok, cR_ok, kd_sF, kd_sA, gA_sF, gF_sA, gF_sF, gA_sA, bk_0, bk_1, List.length_set, reduceIte, and_true, and_false, true_and, false_and, ne_eq, not_true_eq_false, not_false_eq_true, Int.toNat_natCast, Int.reduceToNat, Nat.reduceEqDiff, Int.reduceEq, Int.reduceLT, Int.reduceLE, Int.reduceAdd, Int.reduceSub, Int.reduceMul, Int.reduceNeg, hs.kd, hs.ln, hs.fs, kMs, lMs, hn, Int.ofNat_lt, hk, e3, e5, e4, wi_sm]
      by_cases q : brW cls mood th st (pf s) k = 0
      · rw [if_pos q]
        have := hT true (by rw [allN, decide_eq_true q, Bool.and_true]; exact ha)
        exact this
      · rw [if_neg q]
        have := hT false (by rw [allN, decide_eq_false q, Bool.and_false, Bool.and_false])
        exact this
  · intro a ha
    rw [e_X12_isProper_7]
    have : prB cls mood th st (pf s) n = a := by rw [ha]; rfl
    rw [this]
    simp (disch := ((try simp only [kd_sF, kd_sA, gA_sF, gA_sA, gF_sF, gF_sA, List.length_set, reduceIte, and_true, and_false, true_and, false_and, Nat.reduceEqDiff, Int.reduceEq, hs.kd, hs.ln, hs.fs, kMs, lMs]); first | done | omega)) only [rF_ok, wF_ok, oK_ok, lA_ok, rA_ok, wA_ok, cI_ok, cV_ok, cL_ok, cR_ok, kd_sF, kd_sA, gA_sF, gF_sA, gF_sF, gA_sA, bk_0, bk_1, List.length_set, reduceIte, and_true, and_false, true_and, false_and, ne_eq, not_true_eq_false, not_false_eq_true, Int.toNat_natCast, Int.reduceToNat, Nat.reduceEqDiff, Int.reduceEq, Int.reduceLT, Int.reduceLE, Int.reduceAdd, Int.reduceSub, Int.reduceMul, Int.reduceNeg, hs.kd, hs.ln, hs.fs, kMs, lMs, hn, Int.lt_irrefl]
    cases a <;> exact rfl
theorem m_takesWord (hs : ShM s) (hn : gF s 98 29 = n) (hn2 : n ≤ 12) (h27 : gF s 98 27 = st) (hst : st = 0 ∨ st = 1) (hth : 0 ≤ th ∧ th ≤ 9) (hp : ∀ k, k < n → pl3 (pf s k)) (hR : Rt cls mood th 288 s) : X12_takesWord (d + 2) s 98 = some ([(0, sumN (tkW cls mood th st (pf s)) n)], s) := by
  rw [e_X12_takesWord]
  refine lpG (T := fun r => r = some ([(0, sumN (tkW cls mood th st (pf s)) n)], s)) (fun k a => X12_takesWord_4 (d + 2) s 98 a k) (fun k a => a = sumN (tkW cls mood th st (pf s)) k) n ?_ ?_ 0 0 (by omega) rfl
  · intro T k a hk e hT
    have hb := sumN_bd (f := tkW cls mood th st (pf s)) (a := 0) (b := 20) (n := k) (fun j _ => tkQ_bd hth)
    have pk : pl3 (pf s k) ∧ pl3 (pf s (k - 1)) := ⟨hp k hk, hp (k - 1) (by omega)⟩
    obtain ⟨e0, e1, e2, e3, e4, -, -⟩ := m_askAt (d := d) (cls := cls) (mood := mood) (th := th) hs h27 hst (by omega) pk
    have e5 := (hR e0 e1 e2).1
    have hx : 0 ≤ tkW cls mood th st (pf s) k ∧ tkW cls mood th st (pf s) k ≤ 20 := tkQ_bd hth
    rw [e_X12_takesWord_4]
    simp (disch := ((try simp only [kd_sF, kd_sA, gA_sF, gA_sA, gF_sF, gF_sA, List.length_set, reduceIte, and_true, and_false, true_and, false_and, Nat.reduceEqDiff, Int.reduceEq, hs.kd, hs.ln, hs.fs, kMs, lMs]); first | done | omega)) only [rF_ok, wF_ok, oK_ok, lA_ok, rA_ok, wA_ok, cI_ok, cV_ok, cL_ok, cR_ok, kd_sF, kd_sA, gA_sF, gF_sA, gF_sF, gA_sA, bk_0, bk_1, List.length_set, reduceIte, and_true, and_false, true_and, false_and, ne_eq, not_true_eq_false, not_false_eq_true, Int.toNat_natCast, Int.reduceToNat, Nat.reduceEqDiff, Int.reduceEq, Int.reduceLT, Int.reduceLE, Int.reduceAdd, Int.reduceSub, Int.reduceMul, Int.reduceNeg, hs.kd, hs.ln, hs.fs, kMs, lMs, hn, wi_sm, Int.ofNat_lt, hk, e3, e5, e4]
    exact hT _ (by rw [e, sumN])
  · intro a e
    rw [e_X12_takesWord_4]
    simp (disch := ((try simp only [kd_sF, kd_sA, gA_sF, gA_sA, gF_sF, gF_sA, List.length_set, reduceIte, and_true, and_false, true_and, false_and, Nat.reduceEqDiff, Int.reduceEq, hs.kd, hs.ln, hs.fs, kMs, lMs]); first | done | omega)) only [rF_ok, wF_ok, oK_ok, lA_ok, rA_ok, wA_ok, cI_ok, cV_ok, cL_ok, cR_ok, kd_sF, kd_sA, gA_sF, gF_sA, gF_sF, gA_sA, bk_0, bk_1, List.length_set, reduceIte, and_true, and_false, true_and, false_and, ne_eq, not_true_eq_false, not_false_eq_true, Int.toNat_natCast, Int.reduceToNat, Nat.reduceEqDiff, Int.reduceEq, Int.reduceLT, Int.reduceLE, Int.reduceAdd, Int.reduceSub, Int.reduceMul, Int.reduceNeg, hs.kd, hs.ln, hs.fs, kMs, lMs, hn, Int.lt_irrefl, e]
    exact rfl
theorem m_gripsWord (hs : ShM s) (hn : gF s 98 29 = n) (hn2 : n ≤ 12) (h27 : gF s 98 27 = st) (hst : st = 0 ∨ st = 1) (hp : ∀ k, k < n → pl3 (pf s k)) (hR : Rt cls mood th 288 s) : X12_gripsWord (d + 2) s 98 = some ([(0, sumN (gpW cls mood th st (pf s)) n)], s) := by
  rw [e_X12_gripsWord]
  refine lpG (T := fun r => r = some ([(0, sumN (gpW cls mood th st (pf s)) n)], s)) (fun k a => X12_gripsWord_4 (d + 2) s 98 a k) (fun k a => a = sumN (gpW cls mood th st (pf s)) k) n ?_ ?_ 0 0 (by omega) rfl
  · intro T k a hk e hT
    have hb := sumN_bd (f := gpW cls mood th st (pf s)) (a := -9) (b := 9) (n := k) (fun j _ => gpA_bd)
    have pk : pl3 (pf s k) ∧ pl3 (pf s (k - 1)) := ⟨hp k hk, hp (k - 1) (by omega)⟩
    obtain ⟨e0, e1, e2, e3, -, e4, -⟩ := m_askAt (d := d) (cls := cls) (mood := mood) (th := th) hs h27 hst (by omega) pk
    have e5 := (hR e0 e1 e2).2.1
    have hx : -9 ≤ gpW cls mood th st (pf s) k ∧ gpW cls mood th st (pf s) k ≤ 9 := gpA_bd
    rw [e_X12_gripsWord_4]
    simp (disch := ((try simp only [kd_sF, kd_sA, gA_sF, gA_sA, gF_sF, gF_sA, List.length_set, reduceIte, and_true, and_false, true_and, false_and, Nat.reduceEqDiff, Int.reduceEq, hs.kd, hs.ln, hs.fs, kMs, lMs]); first | done | omega)) only [rF_ok, wF_ok, oK_ok, lA_ok, rA_ok, wA_ok, cI_ok, cV_ok, cL_ok, cR_ok, kd_sF, kd_sA, gA_sF, gF_sA, gF_sF, gA_sA, bk_0, bk_1, List.length_set, reduceIte, and_true, and_false, true_and, false_and, ne_eq, not_true_eq_false, not_false_eq_true, Int.toNat_natCast, Int.reduceToNat, Nat.reduceEqDiff, Int.reduceEq, Int.reduceLT, Int.reduceLE, Int.reduceAdd, Int.reduceSub, Int.reduceMul, Int.reduceNeg, hs.kd, hs.ln, hs.fs, kMs, lMs, hn, wi_sm, Int.ofNat_lt, hk, e3, e5, e4]
    exact hT _ (by rw [e, sumN])
  · intro a e
    rw [e_X12_gripsWord_4]
    simp (disch := ((try simp only [kd_sF, kd_sA, gA_sF, gA_sA, gF_sF, gF_sA, List.length_set, reduceIte, and_true, and_false, true_and, false_and, Nat.reduceEqDiff, Int.reduceEq, hs.kd, hs.ln, hs.fs, kMs, lMs]); first | done | omega)) only [rF_ok, wF_ok, oK_ok, lA_ok, rA_ok, wA_ok, cI_ok, cV_ok, cL_ok, cR_ok, kd_sF, kd_sA, gA_sF, gF_sA, gF_sF, gA_sA, bk_0, bk_1, List.length_set, reduceIte, and_true, and_false, true_and, false_and, ne_eq, not_true_eq_false, not_false_eq_true, Int.toNat_natCast, Int.reduceToNat, Nat.reduceEqDiff, Int.reduceEq, Int.reduceLT, Int.reduceLE, Int.reduceAdd, Int.reduceSub, Int.reduceMul, Int.reduceNeg, hs.kd, hs.ln, hs.fs, kMs, lMs, hn, Int.lt_irrefl, e]
    exact rfl
/-- a number opened: its places are looked at -/
def Opn (s : St) (n w : Nat) : Prop := gF s 98 29 = n ∧ gF s 98 27 = ((n : Int) - 1) % 2 ∧ ∀ k, k < n → pf s k = plN n w k
theorem m_opensProper {w : Nat} (hs : ShM s) (hn : 1 ≤ n ∧ n ≤ 12) (hw : w < 3 * 2 ^ (n - 1)) (hR : Rt cls mood th 288 s) : Gl (GI fun x s' => Fa [112] s s' ∧ Opn s' n w ∧ x = if prB cls mood th (((n : Int) - 1) % 2) (plN n w) n then 1 else 0) (X12_opensProper (d + 3) s 98 n w) := by
  rw [e_X12_opensProper]
  simp (disch := ((try simp only [kd_sF, kd_sA, gA_sF, gA_sA, gF_sF, gF_sA, List.length_set, reduceIte, and_true, and_false, true_and, false_and, Nat.reduceEqDiff, Int.reduceEq, hs.kd, hs.ln, hs.fs, kMs, lMs]); first | done | omega)) only [rF_ok, wF_ok, oK_ok, lA_ok, rA_ok, wA_ok, cI_ok, cV_ok, cL_ok, cR_ok, kd_sF, kd_sA, gA_sF, gF_sA, gF_sF, gA_sA, bk_0, bk_1, List.length_set, reduceIte, and_true, and_false, true_and, false_and, ne_eq, not_true_eq_false, not_false_eq_true, Int.toNat_natCast, Int.reduceToNat, Nat.reduceEqDiff, Int.reduceEq, Int.reduceLT, Int.reduceLE, Int.reduceAdd, Int.reduceSub, Int.reduceMul, Int.reduceNeg, hs.kd, hs.ln, hs.fs, kMs, lMs]
  refine biV (m_opens hs hn hw) fun s1 h1 ⟨q1, q2, q3, q4, q5⟩ => ?_
  have hs1 := hs.ev h1 rfl
  have hp : ∀ k, k < n → pl3 (pf s1 k) := fun k hk => by rw [q5 k hk]; exact plN_pl hw k
  simp (disch := ((try simp only [kd_sF, kd_sA, gA_sF, gA_sA, gF_sF, gF_sA, List.length_set, reduceIte, and_true, and_false, true_and, false_and, Nat.reduceEqDiff, Int.reduceEq, hs1.kd, hs1.ln, hs1.fs, kMs, lMs]); first | done | omega)) only [rF_ok, wF_ok, oK_ok, lA_ok, rA_ok, wA_ok, cI_ok, cV_ok, cL_ok, cR_ok, kd_sF, kd_sA, gA_sF, gF_sA, gF_sF, gA_sA, bk_0, bk_1, List.length_set, reduceIte, and_true, and_false, true_and, false_and, ne_eq, not_true_eq_false, not_false_eq_true, Int.toNat_natCast, Int.reduceToNat, Nat.reduceEqDiff, Int.reduceEq, Int.reduceLT, Int.reduceLE, Int.reduceAdd, Int.reduceSub, Int.reduceMul, Int.reduceNeg, hs1.kd, hs1.ln, hs1.fs, kMs, lMs, m_isProper hs1 q2 hn.2 q3 (by omega) hp (hR.fa q1 (by decide)), bk_ite]
  exact reI ⟨q1, ⟨q2, q3, q5⟩, by rw [prB_congr q5]⟩
end MOPEN
