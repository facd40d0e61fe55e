/-! ===== the class's paper: places, sums of a word that is kept; ways and word ===== -/
def wN (f : Nat → Int) : Nat → Nat
  | 0 => 0
  | k + 1 => wN f k * 4 + (f k).toNat
theorem wN_w4 {f : Nat → Int} : ∀ {k : Nat}, (∀ j, j < k → pl3 (f j)) → w4p f k = (wN f k : Int)
  | 0, _ => rfl
  | k + 1, h => by
    have h2 := h k (by omega)
    unfold pl3 at h2
    rw [w4p, wN, wN_w4 (fun j hj => h j (by omega))]
    omega
theorem wN_div {f : Nat → Int} {k : Nat} : ∀ (m : Nat), (∀ j, j < k + m → pl3 (f j)) → wN f (k + m) / 4 ^ m = wN f k
  | 0, _ => by rw [Nat.pow_zero, Nat.div_one, Nat.add_zero]
  | m + 1, h => by
    have h2 := h (k + m) (by omega)
    unfold pl3 at h2
    rw [Nat.pow_succ, Nat.mul_comm, ← Nat.div_div_eq_div_mul, ← Nat.add_assoc, wN, show (wN f (k + m) * 4 + (f (k + m)).toNat) / 4 = wN f (k + m) by omega]
    exact wN_div m (fun j hj => h j (by omega))
theorem wN_bd {f : Nat → Int} : ∀ {k : Nat}, (∀ j, j < k → pl3 (f j)) → wN f k < 4 ^ k
  | 0, _ => by simp [wN]
  | k + 1, h => by
    have h1 := wN_bd (k := k) (fun j hj => h j (by omega))
    have h2 := h k (by omega)
    unfold pl3 at h2
    rw [wN, Nat.pow_succ]
    omega
section PL
variable {cls : List Cl} {mood th : Int} {n d : Nat} {s : St}
theorem c_placeOf {f : Nat → Int} {k : Nat} (hn : n ≤ 12) (hk : k < n) (hp : ∀ j, j < n → pl3 (f j)) : X4_placeOf d s (w4p f n) n k = some ([(0, f k)], s) := by
  have hb := wN_bd (f := f) (k := n) hp
  have h12 : 4 ^ n ≤ 4 ^ 12 := Nat.pow_le_pow_right (by decide) hn
  have e12 : 4 ^ 12 = 16777216 := by decide
  rw [e_X4_placeOf, wN_w4 hp]
  have e1 : wi (2 * wi (wi ((n : Int) - 1) - k)) = ((2 * (n - 1 - k) : Nat) : Int) := by
    simp (disch := omega) only [wi_sm]
    omega
  rw [e1, shr_n (by omega) (by omega), Nat.pow_mul, show 2 ^ 2 = 4 from rfl]
  have hd := wN_div (f := f) (k := k + 1) (n - 1 - k) (fun j hj => hp j (by omega))
  rw [show k + 1 + (n - 1 - k) = n by omega] at hd
  rw [hd]
  have hb2 := wN_bd (f := f) (k := k + 1) (fun j hj => hp j (by omega))
  have h13 : 4 ^ (k + 1) ≤ 4 ^ 12 := Nat.pow_le_pow_right (by decide) (by omega)
  have h2 := hp k hk
  unfold pl3 at h2
  rw [and3 (by omega) (by omega), wN]
  refine congrArg (fun x : Int => (some ([((0 : Nat), x)], s) : Res)) ?_
  omega
/-- the word i of n moves stands on the paper -/
theorem c_placeIn {i k : Nat} (hs : ShC s) (hn : 3 ≤ n ∧ n ≤ 12) (Wd : WdC cls mood th n s) (hi : i < (prW cls mood th n).length) (hk : k < n) : X4_placeIn (d + 1) s 78 n i k = some ([(0, plN n ((prW cls mood th n).getD i 0) k)], s) := by
  obtain ⟨w1, w2, w3⟩ := Wd
  have hb := SLn_bd n (by omega) hn.1
  have l84 : (gA s 84).length = 2046 := hs.2.1 84 (by decide) (by decide)
  have e1 : ((SLn n : Int) + i).toNat = SLn n + i := by omega
  have hu : (prW cls mood th n).getD i 0 < WN n := prU_mem (gdMem (a := 0) hi)
  have g1 := (w3 i hi).1
  rw [e_X4_placeIn]
  simp (disch := ((try simp only [kd_sF, kd_sA, gA_sF, gA_sA, gF_sF, gF_sA, List.length_set, reduceIte, and_true, and_false, true_and, false_and, Nat.reduceEqDiff, Int.reduceEq, hs.o78]); first | done | omega)) only [rF_ok, wF_ok, oK_ok, lA_ok, rA_ok, wA_ok, cI_ok, cV_ok, cL_ok, cR_ok, kd_sF, kd_sA, gA_sF, gF_sA, gF_sF, gA_sA, bk_0, bk_1, List.length_set, reduceIte, and_true, and_false, true_and, false_and, ne_eq, not_true_eq_false, not_false_eq_true, Int.toNat_natCast, Int.reduceToNat, Nat.reduceEqDiff, Int.reduceEq, Int.reduceLT, Int.reduceLE, Int.reduceAdd, Int.reduceSub, Int.reduceMul, Int.reduceNeg, hs.o78, c_firstSlot hn, wi_sm, e1, g1, c_placeOf hn.2 hk (fun j _ => plN_pl hu j)]
theorem c_takesIn {i : Nat} (hs : ShC s) (hn : 3 ≤ n ∧ n ≤ 12) (Wd : WdC cls mood th n s) (hi : i < (prW cls mood th n).length) : X4_takesIn (d + 1) s 78 n i = some ([(0, tkS cls mood th n ((prW cls mood th n).getD i 0))], s) := by
  obtain ⟨w1, w2, w3⟩ := Wd
  have hb := SLn_bd n (by omega) hn.1
  have l85 : (gA s 85).length = 2046 := hs.2.1 85 (by decide) (by decide)
  have e1 : ((SLn n : Int) + i).toNat = SLn n + i := by omega
  have g1 := (w3 i hi).2.1
  rw [e_X4_takesIn]
  simp (disch := ((try simp only [kd_sF, kd_sA, gA_sF, gA_sA, gF_sF, gF_sA, List.length_set, reduceIte, and_true, and_false, true_and, false_and, Nat.reduceEqDiff, Int.reduceEq, hs.o78]); first | done | omega)) only [rF_ok, wF_ok, oK_ok, lA_ok, rA_ok, wA_ok, cI_ok, cV_ok, cL_ok, cR_ok, kd_sF, kd_sA, gA_sF, gF_sA, gF_sF, gA_sA, bk_0, bk_1, List.length_set, reduceIte, and_true, and_false, true_and, false_and, ne_eq, not_true_eq_false, not_false_eq_true, Int.toNat_natCast, Int.reduceToNat, Nat.reduceEqDiff, Int.reduceEq, Int.reduceLT, Int.reduceLE, Int.reduceAdd, Int.reduceSub, Int.reduceMul, Int.reduceNeg, hs.o78, c_firstSlot hn, wi_sm, e1, g1]
theorem c_gripsIn {i : Nat} (hs : ShC s) (hn : 3 ≤ n ∧ n ≤ 12) (Wd : WdC cls mood th n s) (hi : i < (prW cls mood th n).length) : X4_gripsIn (d + 1) s 78 n i = some ([(0, gpS cls mood th n ((prW cls mood th n).getD i 0))], s) := by
  obtain ⟨w1, w2, w3⟩ := Wd
  have hb := SLn_bd n (by omega) hn.1
  have l86 : (gA s 86).length = 2046 := hs.2.1 86 (by decide) (by decide)
  have e1 : ((SLn n : Int) + i).toNat = SLn n + i := by omega
  have g1 := (w3 i hi).2.2
  rw [e_X4_gripsIn]
  simp (disch := ((try simp only [kd_sF, kd_sA, gA_sF, gA_sA, gF_sF, gF_sA, List.length_set, reduceIte, and_true, and_false, true_and, false_and, Nat.reduceEqDiff, Int.reduceEq, hs.o78]); first | done | omega)) only [rF_ok, wF_ok, oK_ok, lA_ok, rA_ok, wA_ok, cI_ok, cV_ok, cL_ok, cR_ok, kd_sF, kd_sA, gA_sF, gF_sA, gF_sF, gA_sA, bk_0, bk_1, List.length_set, reduceIte, and_true, and_false, true_and, false_and, ne_eq, not_true_eq_false, not_false_eq_true, Int.toNat_natCast, Int.reduceToNat, Nat.reduceEqDiff, Int.reduceEq, Int.reduceLT, Int.reduceLE, Int.reduceAdd, Int.reduceSub, Int.reduceMul, Int.reduceNeg, hs.o78, c_firstSlot hn, wi_sm, e1, g1]
/-- spelled out to the row of places, 87 -/
theorem c_spell {i : Nat} (hs : ShC s) (hn : 3 ≤ n ∧ n ≤ 12) (Wd : WdC cls mood th n s) (hi : i < (prW cls mood th n).length) : Gl (GV fun s' => ShC s' ∧ FrX [87] s s' ∧ ∀ k, k < n → af s' 87 k = plN n ((prW cls mood th n).getD i 0) k) (X4_spell (d + 1) s 78 n i) := by
  obtain ⟨w1, w2, w3⟩ := Wd
  have hb := SLn_bd n (by omega) hn.1
  have l84 : (gA s 84).length = 2046 := hs.2.1 84 (by decide) (by decide)
  have e1 : ((SLn n : Int) + i).toNat = SLn n + i := by omega
  have hu : (prW cls mood th n).getD i 0 < WN n := prU_mem (gdMem (a := 0) hi)
  have g1 := (w3 i hi).1
  rw [e_X4_spell]
  simp (disch := ((try simp only [kd_sF, kd_sA, gA_sF, gA_sA, gF_sF, gF_sA, List.length_set, reduceIte, and_true, and_false, true_and, false_and, Nat.reduceEqDiff, Int.reduceEq, hs.o78]); first | done | omega)) only [rF_ok, wF_ok, oK_ok, lA_ok, rA_ok, wA_ok, cI_ok, cV_ok, cL_ok, cR_ok, kd_sF, kd_sA, gA_sF, gF_sA, gF_sF, gA_sA, bk_0, bk_1, List.length_set, reduceIte, and_true, and_false, true_and, false_and, ne_eq, not_true_eq_false, not_false_eq_true, Int.toNat_natCast, Int.reduceToNat, Nat.reduceEqDiff, Int.reduceEq, Int.reduceLT, Int.reduceLE, Int.reduceAdd, Int.reduceSub, Int.reduceMul, Int.reduceNeg, hs.o78, c_firstSlot hn, wi_sm, e1, g1]
  generalize hU : (prW cls mood th n).getD i 0 = U at *
  have hu' : U < WN n := hu
  refine lpG (fun k s1 => X4_spell_15 (d + 1) s1 78 n (w4p (plN n U) n) k) (fun k s1 => ShC s1 ∧ FrX [87] s s1 ∧ ∀ j, j < k → af s1 87 j = plN n U j) n ?_ ?_ 0 s (by omega) ⟨hs, FrX.rf _ _, fun j hj => by omega⟩
  · intro T k s1 hk ⟨i1, i2, i3⟩ hT
    have l87 : (gA s1 87).length = 12 := i1.2.1 87 (by decide) (by decide)
    rw [e_X4_spell_15, if_pos (by omega)]
    simp (disch := ((try simp only [kd_sF, kd_sA, gA_sF, gA_sA, gF_sF, gF_sA, List.length_set, reduceIte, and_true, and_false, true_and, false_and, Nat.reduceEqDiff, Int.reduceEq, i1.o78]); first | done | omega)) only [rF_ok, wF_ok, oK_ok, lA_ok, rA_ok, wA_ok, cI_ok, cV_ok, cL_ok, cR_ok, kd_sF, kd_sA, gA_sF, gF_sA, gF_sF, gA_sA, bk_0, bk_1, List.length_set, reduceIte, and_true, and_false, true_and, false_and, ne_eq, not_true_eq_false, not_false_eq_true, Int.toNat_natCast, Int.reduceToNat, Nat.reduceEqDiff, Int.reduceEq, Int.reduceLT, Int.reduceLE, Int.reduceAdd, Int.reduceSub, Int.reduceMul, Int.reduceNeg, i1.o78, c_placeOf hn.2 hk (fun j _ => plN_pl hu' j), wi_sm]
    refine hT _ ⟨i1.sA (by rw [List.length_set]) (by rw [i1.1 87 (by decide) (by decide)]; decide), i2.tr (FrX.sA _ (by decide)), fun j hj => ?_⟩
    unfold af
    rw [gA_eq, setD_getD (by omega)]
    by_cases e : k = j
    · rw [if_pos e, e]
    · rw [if_neg e]; exact i3 j (by omega)
  · intro s1 ⟨i1, i2, i3⟩
    rw [e_X4_spell_15, if_neg (by omega)]
    exact reV ⟨i1, i2, i3⟩
theorem WdC.fx {s' : St} {A : List Int} (h : WdC cls mood th n s) (g : Fa A s s') (hA : (83 : Int) ∉ A ∧ (84 : Int) ∉ A ∧ (85 : Int) ∉ A ∧ (86 : Int) ∉ A) : WdC cls mood th n s' := by
  obtain ⟨h1, h2, h3⟩ := h
  exact ⟨h1, by rw [g 83 hA.1]; exact h2, fun i hi => by rw [g 84 hA.2.1, g 85 hA.2.2.1, g 86 hA.2.2.2]; exact h3 i hi⟩
theorem getD_take_s {L : List Nat} {i : Nat} (h : i < L.length) : L.take (i + 1) = L.take i ++ [L.getD i 0] := by
  rw [List.take_succ, List.getElem?_eq_getElem h, Option.toList_some, List.getD_eq_getElem?_getD, List.getElem?_eq_getElem h]
  rfl
theorem c_howMany {c : Int} (hs : ShC s) (hn : 3 ≤ n ∧ n ≤ 12) (Wd : WdC cls mood th n s) : Gl (GI fun x s' => x = waysL c n (prW cls mood th n) ∧ ShC s' ∧ FrX [87] s s') (X4_howMany (d + 2) s 78 n c) := by
  have hb := SLn_bd n (by omega) hn.1
  rw [e_X4_howMany]
  refine lpG (fun i (a : St × Int) => X4_howMany_5 (d + 2) a.1 78 n c a.2 i) (fun i a => ShC a.1 ∧ FrX [87] s a.1 ∧ a.2 = waysL c n ((prW cls mood th n).take i)) (prW cls mood th n).length ?_ ?_ 0 (s, 0) (by omega) ⟨hs, FrX.rf _ _, rfl⟩
  · intro T i ⟨s1, a⟩ hi ⟨i1, i2, i3⟩ hT
    dsimp only at i1 i2 i3 ⊢
    have W1 := Wd.fx i2.2.2 (by decide)
    have c1 := W1.2.1
    have hlen := W1.1
    have hwb := waysL_bd (c := c) (n := n) (L := (prW cls mood th n).take i)
    rw [List.length_take] at hwb
    have hx := waysL_a (c := c) (n := n) (u := (prW cls mood th n).getD i 0) (L := (prW cls mood th n).take i)
    rw [← getD_take_s hi, ← i3] at hx
    rw [e_X4_howMany_5]
    simp (disch := ((try simp only [kd_sF, kd_sA, gA_sF, gA_sA, gF_sF, gF_sA, List.length_set, reduceIte, and_true, and_false, true_and, false_and, Nat.reduceEqDiff, Int.reduceEq, i1.o78]); first | done | omega)) only [rF_ok, wF_ok, oK_ok, lA_ok, rA_ok, wA_ok, cI_ok, cV_ok, cL_ok, cR_ok, kd_sF, kd_sA, gA_sF, gF_sA, gF_sF, gA_sA, bk_0, bk_1, List.length_set, reduceIte, and_true, and_false, true_and, false_and, ne_eq, not_true_eq_false, not_false_eq_true, Int.toNat_natCast, Int.reduceToNat, Nat.reduceEqDiff, Int.reduceEq, Int.reduceLT, Int.reduceLE, Int.reduceAdd, Int.reduceSub, Int.reduceMul, Int.reduceNeg, i1.o78, c1, Int.ofNat_lt, hi]
    refine biV (c_spell (d := d) i1 hn W1 hi) fun s2 h2 ⟨q1, q2, q3⟩ => ?_
    have l87 : (gA s2 87).length = 12 := q1.2.1 87 (by decide) (by decide)
    have k87 : kd s2 87 = 20 := q1.1 87 (by decide) (by decide)
    have ec : cenN (af s2 87) n = cenN (plN n ((prW cls mood th n).getD i 0)) n := cenN_congr q3
    have f2 := i2.tr q2
    by_cases h1 : c = -1
    · rw [if_pos h1, wi_sm (by omega) (by omega), wi_sc (by omega)]
      rw [if_pos (Or.inl h1)] at hx
      exact hT (s2, a + 1) ⟨q1, f2, hx.symm⟩
    · rw [if_neg h1]
      simp (disch := ((try simp only [kd_sF, kd_sA, gA_sF, gA_sA, gF_sF, gF_sA, List.length_set, reduceIte, and_true, and_false, true_and, false_and, Nat.reduceEqDiff, Int.reduceEq, q1.o78]); first | done | omega)) only [rF_ok, wF_ok, oK_ok, lA_ok, rA_ok, wA_ok, cI_ok, cV_ok, cL_ok, cR_ok, kd_sF, kd_sA, gA_sF, gF_sA, gF_sF, gA_sA, bk_0, bk_1, List.length_set, reduceIte, and_true, and_false, true_and, false_and, ne_eq, not_true_eq_false, not_false_eq_true, Int.toNat_natCast, Int.reduceToNat, Nat.reduceEqDiff, Int.reduceEq, Int.reduceLT, Int.reduceLE, Int.reduceAdd, Int.reduceSub, Int.reduceMul, Int.reduceNeg, q1.o78, c_centresOf k87 (show n ≤ (gA s2 87).length by omega) (show n ≤ 13 by omega), ec]
      by_cases h2 : cenN (plN n ((prW cls mood th n).getD i 0)) n = c
      · rw [if_pos h2, wi_sm (by omega) (by omega), wi_sc (by omega)]
        rw [if_pos (Or.inr h2)] at hx
        exact hT (s2, a + 1) ⟨q1, f2, hx.symm⟩
      · rw [if_neg h2, wi_sc (by omega)]
        rw [if_neg (fun q => q.elim h1 h2)] at hx
        exact hT (s2, a) ⟨q1, f2, by show a = _; rw [hx]; omega⟩
  · intro ⟨s1, a⟩ ⟨i1, i2, i3⟩
    dsimp only at i1 i2 i3 ⊢
    have c1 := (Wd.fx i2.2.2 (by decide)).2.1
    rw [e_X4_howMany_5]
    simp (disch := ((try simp only [kd_sF, kd_sA, gA_sF, gA_sA, gF_sF, gF_sA, List.length_set, reduceIte, and_true, and_false, true_and, false_and, Nat.reduceEqDiff, Int.reduceEq, i1.o78]); first | done | omega)) only [rF_ok, wF_ok, oK_ok, lA_ok, rA_ok, wA_ok, cI_ok, cV_ok, cL_ok, cR_ok, kd_sF, kd_sA, gA_sF, gF_sA, gF_sF, gA_sA, bk_0, bk_1, List.length_set, reduceIte, and_true, and_false, true_and, false_and, ne_eq, not_true_eq_false, not_false_eq_true, Int.toNat_natCast, Int.reduceToNat, Nat.reduceEqDiff, Int.reduceEq, Int.reduceLT, Int.reduceLE, Int.reduceAdd, Int.reduceSub, Int.reduceMul, Int.reduceNeg, i1.o78, c1, Int.lt_irrefl]
    rw [List.take_length] at i3
    exact reI ⟨i3, i1, i2⟩
end PL
