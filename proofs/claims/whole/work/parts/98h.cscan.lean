/-! ===== the class: the text is scanned ===== -/
def scA : List Int := [72, 73, 74]
section CSD
variable {s s' s0 : St} {t : List Int} {d : Nat}
/-- tokens P stand in the rows -/
def SnI (t : List Int) (s0 : St) (P : List (Nat × Nat)) (s : St) : Prop := ShC s ∧ FrK [] [62] scA s0 s ∧ (∀ k, k ≠ 4 → gF s 62 k = gF s0 62 k) ∧ gF s 62 4 = P.length ∧ ∀ i, i < P.length → (gA s 72).getD i 0 = kT (cdT t (P.getD i (0, 0))) ∧ (gA s 73).getD i 0 = ((P.getD i (0, 0)).1 : Int) ∧ (gA s 74).getD i 0 = vcT t (P.getD i (0, 0))
theorem SnI.tp {P : List (Nat × Nat)} (h : SnI t s0 P s) (T : TpR s0 t) : TpR s t := ⟨(h.2.1.1 2).trans T.1, by rw [h.2.1.2.2 2 (by decide)]; exact T.2.1, T.2.2.1, fun i hi => by rw [h.2.1.2.2 2 (by decide)]; exact T.2.2.2 i hi⟩
theorem sA_cm {p q : Int} {l m : List Int} (h : p ≠ q) : sA (sA s p l) q m = sA (sA s q m) p l := by
  unfold sA
  refine Prod.ext rfl (Prod.ext rfl (Prod.ext ?_ rfl))
  funext x
  dsimp only
  by_cases e : x = q
  · rw [if_pos e, if_neg (fun e2 => h (e2.symm.trans e)), if_pos e]
  · rw [if_neg e]
    by_cases e2 : x = p
    · rw [if_pos e2, if_pos e2]
    · rw [if_neg e2, if_neg e2, if_neg e]
theorem set2 {l : List Int} {i : Nat} {x y : Int} : (l.set i x).set i y = l.set i y := by simp
/-- the end of a token -/
theorem SnI.ad {P : List (Nat × Nat)} {p : Nat × Nat} {a b z : List Int} (h : SnI t s0 P s) (hP : P.length < 401) (ha : a = (gA s 72).set P.length (kT (cdT t p))) (hb : b = (gA s 73).set P.length (p.1 : Int)) (hz : z = (gA s 74).set P.length (vcT t p)) (hs' : s' = sF (sA (sA (sA s 73 b) 74 z) 72 a) 62 4 ((P.length : Int) + 1)) : SnI t s0 (P ++ [p]) s' := by
  obtain ⟨h1, h2, h3, h4, h5⟩ := h
  have l72 : (gA s 72).length = 401 := h1.2.1 72 (by decide) (by decide)
  have l73 : (gA s 73).length = 401 := h1.2.1 73 (by decide) (by decide)
  have l74 : (gA s 74).length = 401 := h1.2.1 74 (by decide) (by decide)
  have k72 : kd s 72 = 20 := h1.1 72 (by decide) (by decide)
  have k73 : kd s 73 = 20 := h1.1 73 (by decide) (by decide)
  have k74 : kd s 74 = 20 := h1.1 74 (by decide) (by decide)
  have k62 : kd s 62 = 9 := h1.o62.1
  have hA : ShC (sA (sA (sA s 73 b) 74 z) 72 a) := ((h1.sA (by rw [hb, List.length_set]) (by rw [k73]; decide)).sA (by rw [hz, List.length_set, gA_ne (by decide)]) (by rw [kd_sA, k74]; decide)).sA (by rw [ha, List.length_set, gA_ne (by decide), gA_ne (by decide)]) (by rw [kd_sA, kd_sA, k72]; decide)
  subst hs'
  refine ⟨hA.sF (by rw [kd_sA, kd_sA, kd_sA, k62]; decide), h2.tr ((((FrK.sA _ (by decide)).tr (FrK.sA _ (by decide))).tr (FrK.sA _ (by decide))).tr (FrK.sF (by decide))), fun k hk => by rw [gF_nk hk, gF_sA, gF_sA, gF_sA]; exact h3 k hk, by rw [gF_eq, List.length_append]; rfl, fun i hi => ?_⟩
  rw [List.length_append] at hi
  simp only [List.length_cons, List.length_nil] at hi
  simp only [gA_sF, gA_sA, Int.reduceEq, reduceIte]
  rw [ha, hb, hz, setD_getD (by omega), setD_getD (by omega), setD_getD (by omega)]
  by_cases e : P.length = i
  · rw [if_pos e, if_pos e, if_pos e, ← e, gdApp2]; exact ⟨rfl, rfl, rfl⟩
  · rw [if_neg e, if_neg e, if_neg e, gdApp (by omega)]; exact h5 i (by omega)
theorem tkN_dig {k q : Nat} (hd : isD (tA t k) = true) (h1 : k ≤ q) (h2 : q < tkN t k) : isD (tA t q) = true := by
  by_cases e : q = k
  · rw [e]; exact hd
  · unfold tkN at h2
    by_cases e1 : isL (tA t k) = true
    · rw [isLD e1] at hd; cases hd
    · rw [if_neg e1, if_pos hd] at h2
      exact extT_in _ _ q (by omega) h2
theorem c_addToken {P : List (Nat × Nat)} {k : Nat} (I : SnI t s0 P s) (T : TpR s0 t) (hk : k < t.length) (hP : P.length < 401) (hb : ∀ b ∈ t, 0 ≤ b ∧ b < 256) : ∃ s', X5_addToken (d + 1) s 62 2 k (tkN t k) = some ([], s') ∧ SnI t s0 (P ++ [(k, tkN t k)]) s' := by
  have T1 := I.tp T
  obtain ⟨h1, h2, h3, h4, h5⟩ := id I
  obtain ⟨p1, p2, p3, p4⟩ := id T1
  have l72 : (gA s 72).length = 401 := h1.2.1 72 (by decide) (by decide)
  have l73 : (gA s 73).length = 401 := h1.2.1 73 (by decide) (by decide)
  have l74 : (gA s 74).length = 401 := h1.2.1 74 (by decide) (by decide)
  have a2 := p4 k hk
  have gt := tkN_gt (t := t) (k := k)
  have le := tkN_le (t := t) hk
  have T2 : ∀ x y : List Int, TpR (sA (sA s 73 x) 74 y) t := fun x y => ⟨p1, by rw [gA_ne (by decide), gA_ne (by decide)]; exact p2, p3, fun i hi => by rw [gA_ne (by decide), gA_ne (by decide)]; exact p4 i hi⟩
  have bk : 0 ≤ tA t k ∧ tA t k < 256 := hb _ (gdMem hk)
  rw [e_X5_addToken]
  by_cases eL : isL (tA t k) = true
  · have hc : kT (cdT t (k, tkN t k)) = kwK (slT t k (tkN t k)) := by
      unfold cdT
      dsimp only
      rw [if_pos eL]
      exact (kwC_r _).2
    have hv : vcT t (k, tkN t k) = 0 := by unfold vcT; dsimp only; rw [if_pos eL]
    simp (disch := ((try simp only [kd_sF, kd_sA, gA_sF, gA_sA, gF_sF, gF_sA, List.length_set, reduceIte, and_true, and_false, true_and, false_and, Nat.reduceEqDiff, Int.reduceEq, h1.o62, p1]); first | done | omega)) only [rF_ok, wF_ok, oK_ok, lA_ok, rA_ok, wA_ok, cI_ok, cV_ok, cL_ok, cR_ok, kd_sF, kd_sA, gA_sF, gF_sA, gF_sF, gA_sA, bk_0, bk_1, List.length_set, reduceIte, and_true, and_false, true_and, false_and, ne_eq, not_true_eq_false, not_false_eq_true, Int.toNat_natCast, Int.reduceToNat, Nat.reduceEqDiff, Int.reduceEq, Int.reduceLT, Int.reduceLE, Int.reduceAdd, Int.reduceSub, Int.reduceMul, Int.reduceNeg, h1.o62, p1, h4, p2, a2, c_isLetter, if_pos eL]
    have K0 := c_kw0 (d := d) (a := k) (T2 ((gA s 73).set P.length (k : Int)) ((gA s 74).set P.length 0)) le (by omega)
    have K1 := c_kw1 (d := d) (a := k) (T2 ((gA s 73).set P.length (k : Int)) ((gA s 74).set P.length 0)) le (by omega)
    rw [K0, cI_ok]
    simp (disch := ((try simp only [kd_sF, kd_sA, gA_sF, gA_sA, gF_sF, gF_sA, List.length_set, reduceIte, and_true, and_false, true_and, false_and, Nat.reduceEqDiff, Int.reduceEq, h1.o62]); first | done | omega)) only [rF_ok, wF_ok, oK_ok, lA_ok, rA_ok, wA_ok, cI_ok, cV_ok, cL_ok, cR_ok, kd_sF, kd_sA, gA_sF, gF_sA, gF_sF, gA_sA, bk_0, bk_1, List.length_set, reduceIte, and_true, and_false, true_and, false_and, ne_eq, not_true_eq_false, not_false_eq_true, Int.toNat_natCast, Int.reduceToNat, Nat.reduceEqDiff, Int.reduceEq, Int.reduceLT, Int.reduceLE, Int.reduceAdd, Int.reduceSub, Int.reduceMul, Int.reduceNeg, h1.o62, h4]
    unfold kwK at hc
    by_cases e : fdW (slT t k (tkN t k)) 258 kw0 300 = 258
    · rw [if_pos e] at hc ⊢
      rw [K1, cI_ok]
      simp (disch := ((try simp only [kd_sF, kd_sA, gA_sF, gA_sA, gF_sF, gF_sA, List.length_set, reduceIte, and_true, and_false, true_and, false_and, Nat.reduceEqDiff, Int.reduceEq, h1.o62]); first | done | omega)) only [rF_ok, wF_ok, oK_ok, lA_ok, rA_ok, wA_ok, cI_ok, cV_ok, cL_ok, cR_ok, kd_sF, kd_sA, gA_sF, gF_sA, gF_sF, gA_sA, bk_0, bk_1, List.length_set, reduceIte, and_true, and_false, true_and, false_and, ne_eq, not_true_eq_false, not_false_eq_true, Int.toNat_natCast, Int.reduceToNat, Nat.reduceEqDiff, Int.reduceEq, Int.reduceLT, Int.reduceLE, Int.reduceAdd, Int.reduceSub, Int.reduceMul, Int.reduceNeg, h1.o62, h4, wi_sm]
      exact ⟨_, rfl, I.ad hP (by rw [hc]) rfl (by rw [hv]) rfl⟩
    · rw [if_neg e] at hc ⊢
      simp (disch := ((try simp only [kd_sF, kd_sA, gA_sF, gA_sA, gF_sF, gF_sA, List.length_set, reduceIte, and_true, and_false, true_and, false_and, Nat.reduceEqDiff, Int.reduceEq, h1.o62]); first | done | omega)) only [rF_ok, wF_ok, oK_ok, lA_ok, rA_ok, wA_ok, cI_ok, cV_ok, cL_ok, cR_ok, kd_sF, kd_sA, gA_sF, gF_sA, gF_sF, gA_sA, bk_0, bk_1, List.length_set, reduceIte, and_true, and_false, true_and, false_and, ne_eq, not_true_eq_false, not_false_eq_true, Int.toNat_natCast, Int.reduceToNat, Nat.reduceEqDiff, Int.reduceEq, Int.reduceLT, Int.reduceLE, Int.reduceAdd, Int.reduceSub, Int.reduceMul, Int.reduceNeg, h1.o62, h4, wi_sm]
      exact ⟨_, rfl, I.ad hP (by rw [hc]) rfl (by rw [hv]) rfl⟩
  · simp (disch := ((try simp only [kd_sF, kd_sA, gA_sF, gA_sA, gF_sF, gF_sA, List.length_set, reduceIte, and_true, and_false, true_and, false_and, Nat.reduceEqDiff, Int.reduceEq, h1.o62, p1]); first | done | omega)) only [rF_ok, wF_ok, oK_ok, lA_ok, rA_ok, wA_ok, cI_ok, cV_ok, cL_ok, cR_ok, kd_sF, kd_sA, gA_sF, gF_sA, gF_sF, gA_sA, bk_0, bk_1, List.length_set, reduceIte, and_true, and_false, true_and, false_and, ne_eq, not_true_eq_false, not_false_eq_true, Int.toNat_natCast, Int.reduceToNat, Nat.reduceEqDiff, Int.reduceEq, Int.reduceLT, Int.reduceLE, Int.reduceAdd, Int.reduceSub, Int.reduceMul, Int.reduceNeg, h1.o62, p1, h4, p2, a2, c_isLetter, if_neg eL, c_isDigit]
    by_cases eD : isD (tA t k) = true
    · have hc : kT (cdT t (k, tkN t k)) = 256 := by
        unfold cdT
        dsimp only
        rw [if_neg eL, if_pos eD]
        rfl
      have hv : vcT t (k, tkN t k) = nvC t k (tkN t k - k) := by unfold vcT; dsimp only; rw [if_neg eL, if_pos eD]
      rw [if_pos eD]
      have T3 : ∀ x y z : List Int, TpR (sA (sA (sA s 73 x) 74 y) 72 z) t := fun x y z => ⟨p1, by rw [gA_ne (by decide), gA_ne (by decide), gA_ne (by decide)]; exact p2, p3, fun i hi => by rw [gA_ne (by decide), gA_ne (by decide), gA_ne (by decide)]; exact p4 i hi⟩
      have nn := c_numberOf (d := d) (T3 ((gA s 73).set P.length (k : Int)) ((gA s 74).set P.length 0) ((gA s 72).set P.length 256)) (Nat.le_of_lt gt) le (fun q q1 q2 => tkN_dig eD q1 q2)
      simp (disch := ((try simp only [kd_sF, kd_sA, gA_sF, gA_sA, gF_sF, gF_sA, List.length_set, reduceIte, and_true, and_false, true_and, false_and, Nat.reduceEqDiff, Int.reduceEq, h1.o62, p1]); first | done | omega)) only [rF_ok, wF_ok, oK_ok, lA_ok, rA_ok, wA_ok, cI_ok, cV_ok, cL_ok, cR_ok, kd_sF, kd_sA, gA_sF, gF_sA, gF_sF, gA_sA, bk_0, bk_1, List.length_set, reduceIte, and_true, and_false, true_and, false_and, ne_eq, not_true_eq_false, not_false_eq_true, Int.toNat_natCast, Int.reduceToNat, Nat.reduceEqDiff, Int.reduceEq, Int.reduceLT, Int.reduceLE, Int.reduceAdd, Int.reduceSub, Int.reduceMul, Int.reduceNeg, h1.o62, p1, h4, nn, wi_sm]
      refine ⟨_, rfl, I.ad (p := (k, tkN t k)) hP rfl rfl rfl ?_⟩
      rw [hc, hv]
      congr 1
      rw [sA_cm (show (72 : Int) ≠ 74 by decide), sA_ov, set2]
    · have hc : kT (cdT t (k, tkN t k)) = tA t k := by
        unfold cdT
        dsimp only
        rw [if_neg eL, if_neg eD]
        unfold kT
        rw [if_neg (by omega), if_neg (by omega), if_neg (by omega), if_neg (by omega), if_neg (by omega)]
        omega
      have hv : vcT t (k, tkN t k) = 0 := by unfold vcT; dsimp only; rw [if_neg eL, if_neg eD]
      rw [if_neg eD]
      simp (disch := ((try simp only [kd_sF, kd_sA, gA_sF, gA_sA, gF_sF, gF_sA, List.length_set, reduceIte, and_true, and_false, true_and, false_and, Nat.reduceEqDiff, Int.reduceEq, h1.o62, p1]); first | done | omega)) only [rF_ok, wF_ok, oK_ok, lA_ok, rA_ok, wA_ok, cI_ok, cV_ok, cL_ok, cR_ok, kd_sF, kd_sA, gA_sF, gF_sA, gF_sF, gA_sA, bk_0, bk_1, List.length_set, reduceIte, and_true, and_false, true_and, false_and, ne_eq, not_true_eq_false, not_false_eq_true, Int.toNat_natCast, Int.reduceToNat, Nat.reduceEqDiff, Int.reduceEq, Int.reduceLT, Int.reduceLE, Int.reduceAdd, Int.reduceSub, Int.reduceMul, Int.reduceNeg, h1.o62, p1, h4, p2, a2, wi_sm]
      exact ⟨_, rfl, I.ad hP (by rw [hc]) rfl (by rw [hv]) rfl⟩
end CSD
