/-! ===== the class's paper: where to look, fronts, the nearest word ===== -/
theorem ShD.no6 {s : St} {D : Int} (h : ShD s D) (q : Int) (h1 : D ≤ q) (h2 : q ≤ D + 26) : kd s q ≠ 6 := by
  obtain ⟨k0, -, ⟨k1, -⟩, ⟨k2, -⟩, ⟨k3, -⟩, ⟨k4, -⟩, ⟨k5, -⟩, ⟨k6, -⟩, ⟨k7, -⟩, hx, hy⟩ := h
  by_cases e : q ≤ D + 10
  · have : q = D ∨ q = D + 1 ∨ q = D + 2 ∨ q = D + 3 ∨ q = D + 4 ∨ q = D + 5 ∨ q = D + 6 ∨ q = D + 7 ∨ q = D + 8 ∨ q = D + 9 ∨ q = D + 10 := by omega
    rcases this with rfl | rfl | rfl | rfl | rfl | rfl | rfl | rfl | rfl | rfl | rfl
    · rw [k0]; decide
    · rw [k1]; decide
    · rw [k2]; decide
    · rw [k3]; decide
    · rw [k4]; decide
    · rw [k5]; decide
    · rw [k6]; decide
    · rw [k7]; decide
    · rw [(hx 8 (by decide) (by decide)).1]; decide
    · rw [(hx 9 (by decide) (by decide)).1]; decide
    · rw [(hx 10 (by decide) (by decide)).1]; decide
  · have hi := hy ((q - D - 11) / 2) (by omega) (by omega)
    by_cases e2 : (q - D - 11) % 2 = 0
    · have : q = D + 11 + 2 * ((q - D - 11) / 2) := by omega
      rw [this, hi.1]; decide
    · have : q = D + 12 + 2 * ((q - D - 11) / 2) := by omega
      rw [this, hi.2.2.1]; decide
theorem DrC.fx {s s' : St} {dr : Dr} {A : List Int} (R : DrC s 3 dr) (W : wfDr dr) (g : FrX A s s') (hA : A.all (fun x => decide (30 ≤ x) && decide (x < 98)) = true) : DrC s' 3 dr := by
  refine R.fr W (fun q _ => g.1 q) (fun q k hq hk => g.2.1 q k ?_ hk) (fun q hq => g.2.2 q fun hm => ?_)
  · rcases hq with ⟨q1, q2⟩ | ⟨-, q2⟩
    · exact R.1.no6 q q1 q2
    · rw [q2]; decide
  · have := List.all_eq_true.mp hA q hm
    rw [Bool.and_eq_true] at this
    have t1 := of_decide_eq_true this.1
    have t2 := of_decide_eq_true this.2
    omega
section CLK
variable {cls : List Cl} {mood th : Int} {n d : Nat} {s : St} {dr : Dr} {mi : Int}
theorem c_clearTally (hs : ShC s) : Gl (GV fun s' => ShC s' ∧ FrX [88] s s' ∧ ∀ v, v < 64 → (gA s' 88).getD v 0 = 0) (X4_clearTally d s 78) := by
  rw [e_X4_clearTally]
  refine lpG (fun k s1 => X4_clearTally_2 d s1 78 k) (fun k s1 => ShC s1 ∧ FrX [88] s s1 ∧ ∀ v, v < k → (gA s1 88).getD v 0 = 0) 64 ?_ ?_ 0 s (by omega) ⟨hs, FrX.rf _ _, fun v hv => by omega⟩
  · intro T k s1 hk ⟨i1, i2, i3⟩ hT
    have l88 : (gA s1 88).length = 64 := i1.2.1 88 (by decide) (by decide)
    rw [e_X4_clearTally_2]
    simp (disch := ((try simp only [kd_sF, kd_sA, gA_sF, gA_sA, gF_sF, gF_sA, List.length_set, reduceIte, and_true, and_false, true_and, false_and, Nat.reduceEqDiff, Int.reduceEq, i1.o78]); first | done | omega)) only [rF_ok, wF_ok, oK_ok, lA_ok, rA_ok, wA_ok, cI_ok, cV_ok, cL_ok, cR_ok, kd_sF, kd_sA, gA_sF, gF_sA, gF_sF, gA_sA, bk_0, bk_1, List.length_set, reduceIte, and_true, and_false, true_and, false_and, ne_eq, not_true_eq_false, not_false_eq_true, Int.toNat_natCast, Int.reduceToNat, Nat.reduceEqDiff, Int.reduceEq, Int.reduceLT, Int.reduceLE, Int.reduceAdd, Int.reduceSub, Int.reduceMul, Int.reduceNeg, i1.o78, if_pos (show (k : Int) < ((64 : Nat) : Int) by omega), wi_sm]
    refine hT _ ⟨i1.sA (by rw [List.length_set]) (by rw [i1.1 88 (by decide) (by decide)]; decide), i2.tr (FrX.sA _ (by decide)), fun v hv => ?_⟩
    rw [gA_eq, setD_getD (by omega)]
    by_cases e : k = v
    · rw [if_pos e]
    · rw [if_neg e]; exact i3 v (by omega)
  · intro s1 ⟨i1, i2, i3⟩
    rw [e_X4_clearTally_2]
    simp (disch := ((try simp only [kd_sF, kd_sA, gA_sF, gA_sA, gF_sF, gF_sA, List.length_set, reduceIte, and_true, and_false, true_and, false_and, Nat.reduceEqDiff, Int.reduceEq, i1.o78]); first | done | omega)) only [rF_ok, wF_ok, oK_ok, lA_ok, rA_ok, wA_ok, cI_ok, cV_ok, cL_ok, cR_ok, kd_sF, kd_sA, gA_sF, gF_sA, gF_sF, gA_sA, bk_0, bk_1, List.length_set, reduceIte, and_true, and_false, true_and, false_and, ne_eq, not_true_eq_false, not_false_eq_true, Int.toNat_natCast, Int.reduceToNat, Nat.reduceEqDiff, Int.reduceEq, Int.reduceLT, Int.reduceLE, Int.reduceAdd, Int.reduceSub, Int.reduceMul, Int.reduceNeg, i1.o78, Int.lt_irrefl]
    exact reV ⟨i1, i2, i3⟩
theorem c_look39 {T : Res → Prop} {i : Nat} {L : List Nat} {a : Int} (hs : ShC s) (hn : 3 ≤ n ∧ n ≤ 12) (Wd : WdC cls mood th n s) (hi : i < (prW cls mood th n).length) (hL : L.length ≤ 2046) (h0 : ∀ k, k < n → ∀ p, p < 3 → (gA s 88).getD (3 * k + p) 0 = cnt n L k (p : Nat)) (hT : ∀ s', ShC s' → FrX [88] s s' → (∀ k, k < n → ∀ p, p < 3 → (gA s' 88).getD (3 * k + p) 0 = cnt n (L ++ [(prW cls mood th n).getD i 0]) k (p : Nat)) → Gl T (X4_whereToLook_10 (d + 2) s' 78 3 n mi a (wi ((i : Int) + 1)))) : Gl T (X4_whereToLook_39 (d + 2) s 78 3 n mi a i 0) := by
  have hu : (prW cls mood th n).getD i 0 < WN n := prU_mem (gdMem (a := 0) hi)
  generalize hU : (prW cls mood th n).getD i 0 = U at *
  refine lpG (fun j s1 => X4_whereToLook_39 (d + 2) s1 78 3 n mi a i j) (fun j s1 => ShC s1 ∧ FrX [88] s s1 ∧ (∀ k, k < n → ∀ p, p < 3 → (gA s1 88).getD (3 * k + p) 0 = cnt n (if k < j then L ++ [U] else L) k (p : Nat))) n ?_ ?_ 0 s (by omega) ⟨hs, FrX.rf _ _, fun k hk p hp => by rw [if_neg (by omega)]; exact h0 k hk p hp⟩
  · intro T j s1 hj ⟨i1, i2, i3⟩ hT1
    have l88 : (gA s1 88).length = 64 := i1.2.1 88 (by decide) (by decide)
    have W1 := Wd.fx i2.2.2 (by decide)
    have pi := c_placeIn (d := d) (k := j) i1 hn W1 hi hj
    rw [hU] at pi
    have hpl := plN_pl hu j
    obtain ⟨p, hp, hp2⟩ : ∃ p : Nat, p < 3 ∧ plN n U j = p := by
      rcases hpl with q | q | q
      · exact ⟨0, by omega, q⟩
      · exact ⟨1, by omega, q⟩
      · exact ⟨2, by omega, q⟩
    have e2 := i3 j hj p hp
    rw [if_neg (Nat.lt_irrefl _)] at e2
    have hb := cnt_bd (n := n) (k := j) (p := (p : Nat)) (L := L)
    have e3 : ((j : Int) * 3 + p).toNat = 3 * j + p := by omega
    rw [e_X4_whereToLook_39, if_pos (by omega)]
    simp (disch := ((try simp only [kd_sF, kd_sA, gA_sF, gA_sA, gF_sF, gF_sA, List.length_set, reduceIte, and_true, and_false, true_and, false_and, Nat.reduceEqDiff, Int.reduceEq, i1.o78]); first | done | omega)) only [rF_ok, wF_ok, oK_ok, lA_ok, rA_ok, wA_ok, cI_ok, cV_ok, cL_ok, cR_ok, kd_sF, kd_sA, gA_sF, gF_sA, gF_sF, gA_sA, bk_0, bk_1, List.length_set, reduceIte, and_true, and_false, true_and, false_and, ne_eq, not_true_eq_false, not_false_eq_true, Int.toNat_natCast, Int.reduceToNat, Nat.reduceEqDiff, Int.reduceEq, Int.reduceLT, Int.reduceLE, Int.reduceAdd, Int.reduceSub, Int.reduceMul, Int.reduceNeg, i1.o78, pi, hp2, wi_sm, e3, e2]
    refine hT1 _ ⟨i1.sA (by rw [List.length_set]) (by rw [i1.1 88 (by decide) (by decide)]; decide), i2.tr (FrX.sA _ (by decide)), fun k hk q hq => ?_⟩
    rw [gA_eq, setD_getD (by omega)]
    by_cases ek : k = j
    · rw [ek, if_pos (show j < j + 1 by omega), cnt_a, hp2]
      by_cases eq : q = p
      · rw [eq, if_pos rfl, if_pos rfl]
      · rw [if_neg (by omega), if_neg (by omega)]
        have := i3 j hj q hq
        rw [if_neg (Nat.lt_irrefl _)] at this
        rw [this]; omega
    · rw [if_neg (by omega), i3 k hk q hq]
      by_cases e5 : k < j
      · rw [if_pos e5, if_pos (by omega)]
      · rw [if_neg e5, if_neg (by omega)]
  · intro s1 ⟨i1, i2, i3⟩
    rw [e_X4_whereToLook_39, if_neg (by omega)]
    exact hT s1 i1 i2 fun k hk p hp => by rw [i3 k hk p hp, if_pos hk]
theorem maxI3 (a b c : Int) : maxI a (maxI b c) = gtr (gtr a b) c := by
  unfold maxI gtr
  by_cases h1 : b < c
  · rw [if_pos h1]
    by_cases h2 : a < c
    · rw [if_pos h2]
      by_cases h3 : b < a
      · rw [if_pos h3, if_neg (by omega)]
      · rw [if_neg h3, if_neg (by omega)]
    · rw [if_neg h2, if_pos (show b < a by omega)]
      by_cases h4 : c < a
      · rw [if_pos h4]
      · rw [if_neg h4]; omega
  · rw [if_neg h1]
    by_cases h2 : a < b
    · rw [if_pos h2, if_neg (show ¬ (b < a) by omega)]
      by_cases h4 : c < b
      · rw [if_pos h4]
      · rw [if_neg h4]; omega
    · rw [if_neg h2]
      by_cases h3 : b < a
      · rw [if_pos h3, if_pos (show c < a by omega)]
      · rw [if_neg h3]
        by_cases h4 : c < b
        · rw [if_pos h4]; omega
        · rw [if_neg h4]; omega
/-- the search from a bound that the first move beats -/
theorem lkS_b {g : Nat → Int} {B : Int} (h0 : g 0 < B) (h1 : g 0 < 1000000) (hB : ∀ k, g k < B) : ∀ (k : Nat) (a : Int × Int), a = (if k = 0 then (-1, B) else lkS g k) → (if g k < a.2 then ((k : Int), g k) else a) = lkS g (k + 1)
  | 0, a, ha => by
    rw [ha, if_pos rfl, if_pos h0, lkS]
    show _ = if g 0 < 1000000 then _ else _
    rw [if_pos h1]
  | k + 1, a, ha => by
    rw [if_neg (Nat.succ_ne_zero k)] at ha
    rw [ha]
    rfl
theorem c_whereToLook (hs : ShC s) (R : DrC s 3 dr) (W : wfDr dr) (hn : 3 ≤ n ∧ n ≤ 12) (Wd : WdC cls mood th n s) (hmi : mi = 0 ∨ mi = 1) : Gl (GI fun x s' => x = lookA n (ftT dr mi n (prW cls mood th n)) ∧ ShC s' ∧ FrX [88] s s') (X4_whereToLook (d + 3) s 78 3 n mi) := by
  have hb := SLn_bd n (by omega) hn.1
  have k78 : kd s 78 = 8 := hs.o78.1
  rw [e_X4_whereToLook]
  simp (disch := ((try simp only [kd_sF, kd_sA, gA_sF, gA_sA, gF_sF, gF_sA, List.length_set, reduceIte, and_true, and_false, true_and, false_and, Nat.reduceEqDiff, Int.reduceEq, k78]); first | done | omega)) only [rF_ok, wF_ok, oK_ok, lA_ok, rA_ok, wA_ok, cI_ok, cV_ok, cL_ok, cR_ok, kd_sF, kd_sA, gA_sF, gF_sA, gF_sF, gA_sA, bk_0, bk_1, List.length_set, reduceIte, and_true, and_false, true_and, false_and, ne_eq, not_true_eq_false, not_false_eq_true, Int.toNat_natCast, Int.reduceToNat, Nat.reduceEqDiff, Int.reduceEq, Int.reduceLT, Int.reduceLE, Int.reduceAdd, Int.reduceSub, Int.reduceMul, Int.reduceNeg, k78]
  refine biV (c_clearTally (d := d + 2) hs) fun s1 _ ⟨i1, i2, i3⟩ => ?_
  refine lpG (fun i (a : St × Int) => X4_whereToLook_10 (d + 3) a.1 78 3 n mi a.2 i) (fun i a => ShC a.1 ∧ FrX [88] s a.1 ∧ a.2 = ((ftT dr mi n ((prW cls mood th n).take i)).length : Int) ∧ ∀ k, k < n → ∀ p, p < 3 → (gA a.1 88).getD (3 * k + p) 0 = cnt n (ftT dr mi n ((prW cls mood th n).take i)) k (p : Nat)) (prW cls mood th n).length ?_ ?_ 0 (s1, 0) (by omega) ⟨i1, i2, rfl, fun k hk p hp => i3 _ (by omega)⟩
  · intro T i ⟨s2, a⟩ hi ⟨j1, j2, j3, j4⟩ hT
    dsimp only at j1 j2 j3 j4 ⊢
    have W2 := Wd.fx j2.2.2 (by decide)
    have c1 := W2.2.1
    have hlen := W2.1
    have R2 : DrC s2 3 dr := R.fx W j2 (by decide)
    have hl := ftT_len (dr := dr) (mi := mi) (n := n) (L := (prW cls mood th n).take i)
    rw [List.length_take] at hl
    rw [e_X4_whereToLook_10]
    simp (disch := ((try simp only [kd_sF, kd_sA, gA_sF, gA_sA, gF_sF, gF_sA, List.length_set, reduceIte, and_true, and_false, true_and, false_and, Nat.reduceEqDiff, Int.reduceEq, j1.o78]); first | done | omega)) only [rF_ok, wF_ok, oK_ok, lA_ok, rA_ok, wA_ok, cI_ok, cV_ok, cL_ok, cR_ok, kd_sF, kd_sA, gA_sF, gF_sA, gF_sF, gA_sA, bk_0, bk_1, List.length_set, reduceIte, and_true, and_false, true_and, false_and, ne_eq, not_true_eq_false, not_false_eq_true, Int.toNat_natCast, Int.reduceToNat, Nat.reduceEqDiff, Int.reduceEq, Int.reduceLT, Int.reduceLE, Int.reduceAdd, Int.reduceSub, Int.reduceMul, Int.reduceNeg, j1.o78, c1, Int.ofNat_lt, hi, c_isFitting j1 R2 W hn W2 hi hmi]
    cases hf : fitB (smD dr) (spD dr) dr.2.2.1.length mi n (plN n ((prW cls mood th n).getD i 0)) with
    | false =>
      simp only [Bool.false_eq_true, reduceIte]
      rw [wi_sc (by omega)]
      exact hT (s2, a) ⟨j1, j2, by rw [getD_take_s hi, ftT_0 hf]; exact j3, by rw [getD_take_s hi, ftT_0 hf]; exact j4⟩
    | true =>
      simp only [reduceIte, Int.reduceEq]
      rw [wi_sm (by omega) (by omega)]
      refine c_look39 (L := ftT dr mi n ((prW cls mood th n).take i)) j1 hn W2 hi (by omega) j4 fun s3 k1 k2 k3 => ?_
      rw [wi_sc (by omega)]
      exact hT (s3, a + 1) ⟨k1, j2.tr k2, by rw [getD_take_s hi, ftT_1 hf, List.length_append]; show a + 1 = _; rw [j3]; simp, by rw [getD_take_s hi, ftT_1 hf]; exact k3⟩
  · intro ⟨s2, a⟩ ⟨j1, j2, j3, j4⟩
    dsimp only at j1 j2 j3 j4 ⊢
    have W2 := Wd.fx j2.2.2 (by decide)
    have c1 := W2.2.1
    have hlen := W2.1
    rw [List.take_length] at j3 j4
    have hl := ftT_len (dr := dr) (mi := mi) (n := n) (L := prW cls mood th n)
    rw [e_X4_whereToLook_10]
    simp (disch := ((try simp only [kd_sF, kd_sA, gA_sF, gA_sA, gF_sF, gF_sA, List.length_set, reduceIte, and_true, and_false, true_and, false_and, Nat.reduceEqDiff, Int.reduceEq, j1.o78]); first | done | omega)) only [rF_ok, wF_ok, oK_ok, lA_ok, rA_ok, wA_ok, cI_ok, cV_ok, cL_ok, cR_ok, kd_sF, kd_sA, gA_sF, gF_sA, gF_sF, gA_sA, bk_0, bk_1, List.length_set, reduceIte, and_true, and_false, true_and, false_and, ne_eq, not_true_eq_false, not_false_eq_true, Int.toNat_natCast, Int.reduceToNat, Nat.reduceEqDiff, Int.reduceEq, Int.reduceLT, Int.reduceLE, Int.reduceAdd, Int.reduceSub, Int.reduceMul, Int.reduceNeg, j1.o78, c1, Int.lt_irrefl, wi_sm]
    generalize ftT dr mi n (prW cls mood th n) = L at *
    by_cases hL0 : L = []
    · rw [e_X4_whereToLook_92, if_pos (by omega), if_neg (by rw [j3, hL0]; decide)]
      exact reI ⟨by unfold lookA; rw [if_pos hL0], j1, j2⟩
    · have hpos : 0 < a := by
        rw [j3]
        have : 0 < L.length := List.length_pos_iff.mpr hL0
        omega
      have hmx : ∀ k, 0 ≤ mx3 n L k ∧ mx3 n L k < a + 1 := by
        intro k
        have q0 := cnt_bd (n := n) (k := k) (p := 0) (L := L)
        have q1 := cnt_bd (n := n) (k := k) (p := 1) (L := L)
        have q2 := cnt_bd (n := n) (k := k) (p := 2) (L := L)
        unfold mx3 gtr
        split <;> split <;> omega
      refine lpG (fun k (b : Int × Int) => X4_whereToLook_92 (d + 3) s2 78 n a b.1 b.2 k) (fun k b => b = (if k = 0 then (-1, a + 1) else lkS (mx3 n L) k)) n ?_ ?_ 0 (-1, a + 1) (by omega) rfl
      · intro T k b hk hb2 hT
        have q0 := j4 k hk 0 (by omega)
        have q1 := j4 k hk 1 (by omega)
        have q2 := j4 k hk 2 (by omega)
        have e1 : ((k : Int) * 3).toNat = 3 * k + 0 := by omega
        have e2 : ((k : Int) * 3 + 1).toNat = 3 * k + 1 := by omega
        have e3 : ((k : Int) * 3 + 2).toNat = 3 * k + 2 := by omega
        have l88 : (gA s2 88).length = 64 := j1.2.1 88 (by decide) (by decide)
        have hst := lkS_b (g := mx3 n L) (B := a + 1) (hmx 0).2 (by have := (hmx 0).2; omega) (fun k => (hmx k).2) k b hb2
        rw [e_X4_whereToLook_92, if_pos (by omega), if_pos hpos]
        simp (disch := ((try simp only [kd_sF, kd_sA, gA_sF, gA_sA, gF_sF, gF_sA, List.length_set, reduceIte, and_true, and_false, true_and, false_and, Nat.reduceEqDiff, Int.reduceEq, j1.o78]); first | done | omega)) only [rF_ok, wF_ok, oK_ok, lA_ok, rA_ok, wA_ok, cI_ok, cV_ok, cL_ok, cR_ok, kd_sF, kd_sA, gA_sF, gF_sA, gF_sF, gA_sA, bk_0, bk_1, List.length_set, reduceIte, and_true, and_false, true_and, false_and, ne_eq, not_true_eq_false, not_false_eq_true, Int.toNat_natCast, Int.reduceToNat, Nat.reduceEqDiff, Int.reduceEq, Int.reduceLT, Int.reduceLE, Int.reduceAdd, Int.reduceSub, Int.reduceMul, Int.reduceNeg, j1.o78, wi_sm, e1, e2, e3, q0, q1, q2, maxI3]
        have hx : gtr (gtr (cnt n L k (0 : Nat)) (cnt n L k (1 : Nat))) (cnt n L k (2 : Nat)) = mx3 n L k := rfl
        rw [hx]
        by_cases e : mx3 n L k < b.2
        · rw [if_pos e]
          rw [if_pos e] at hst
          exact hT ((k : Int), mx3 n L k) (by rw [if_neg (by omega)]; exact hst)
        · rw [if_neg e]
          rw [if_neg e] at hst
          exact hT b (by rw [if_neg (by omega)]; exact hst)
      · intro b hb2
        rw [e_X4_whereToLook_92, if_neg (by omega)]
        rw [if_neg (by omega)] at hb2
        exact reI ⟨by unfold lookA; rw [if_neg hL0, ← hb2], j1, j2⟩
end CLK
