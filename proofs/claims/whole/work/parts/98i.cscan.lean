/-! ===== the class: the text is scanned, whole ===== -/
section PTK
variable {t : List Int}
theorem tkz_len : ∀ (f k : Nat), (tkz t f k).length ≤ t.length - k
  | 0, k => by simp [tkz]
  | f + 1, k => by
    rw [tkz]
    split
    · split
      · have := tkz_len f (k + 1); omega
      · have := tkz_len f (tkN t k)
        have g := tkN_gt (t := t) (k := k)
        simp only [List.length_cons]
        omega
    · simp
theorem fdW_eq {w : List Int} : ∀ (ws : List (List Int)) (n m : Int), fdW w 258 ws n = m → m ≠ 258 → n ≤ m ∧ ws.getD (m - n).toNat [] = w
  | [], n, m, h, hm => absurd h.symm hm
  | x :: r, n, m, h, hm => by
    rw [fdW] at h
    split at h
    · rename_i e
      rw [← h]
      refine ⟨by omega, ?_⟩
      rw [show (n - n).toNat = 0 by omega]
      exact e.symm
    · obtain ⟨h1, h2⟩ := fdW_eq r (n + 1) m h hm
      refine ⟨by omega, ?_⟩
      rw [show (m - n).toNat = (m - (n + 1)).toNat + 1 by omega]
      exact h2
theorem kwC_7 {w : List Int} (h : kwC w = 7) : w.length = 3 := by
  have r := kwK_r w
  have hk : kwK w = 306 := by
    unfold kwC at h
    split at h
    · cases h
    · split at h
      · omega
      · split at h <;> omega
  unfold kwK at hk
  by_cases e : fdW w 258 kw0 300 = 258
  · rw [if_pos e] at hk
    have := fdW_eq kw1 313 306 hk (by decide)
    omega
  · rw [if_neg e] at hk
    have := (fdW_eq kw0 300 306 hk (by decide)).2
    rw [← this]
    rfl
theorem slT_len {a b : Nat} (hb : b ≤ t.length) (hab : a ≤ b) : (slT t a b).length = b - a := by unfold slT; rw [List.length_take, List.length_drop]; omega
theorem cdT_7 {k : Nat} (hk : k < t.length) (hb : 0 ≤ tA t k) (h : cdT t (k, tkN t k) = 7) : k + 3 = tkN t k := by
  unfold cdT at h
  dsimp only at h
  have g := tkN_gt (t := t) (k := k)
  have l := tkN_le (t := t) hk
  split at h
  · have := kwC_7 h
    rw [slT_len l (by omega)] at this
    omega
  · split at h
    · cases h
    · omega
theorem tkz_7 (hb : ∀ b ∈ t, 0 ≤ b ∧ b < 256) : ∀ (f k : Nat), 3 * ((tkz t f k).filter fun p => decide (cdT t p = 7)).length ≤ t.length - k
  | 0, k => by simp [tkz]
  | f + 1, k => by
    rw [tkz]
    split
    · rename_i hk
      split
      · have := tkz_7 hb f (k + 1); omega
      · have ih := tkz_7 hb f (tkN t k)
        have g := tkN_gt (t := t) (k := k)
        have l := tkN_le (t := t) hk
        rw [List.filter_cons]
        split
        · rename_i e
          have := cdT_7 hk (hb _ (gdMem hk)).1 (of_decide_eq_true e)
          simp only [List.length_cons]
          omega
        · omega
    · simp
theorem nN_map (P : List (Nat × Nat)) : ∀ i, i ≤ P.length → nN (fun j => (P.map (cdT t)).getD j 0) i = ((P.take i).filter fun p => decide (cdT t p = 7)).length
  | 0, _ => by simp [nN]
  | i + 1, h => by
    have ih := nN_map P i (by omega)
    have eg : (P.map (cdT t)).getD i 0 = cdT t (P[i]'(by omega)) := by
      rw [List.getD_eq_getElem?_getD, List.getElem?_map, List.getElem?_eq_getElem (by omega)]
      rfl
    rw [nN, ih, List.take_succ, List.getElem?_eq_getElem (by omega), Option.toList_some, List.filter_append, List.length_append, eg]
    by_cases e : cdT t (P[i]'(by omega)) = 7
    · rw [if_pos e]
      simp [e]
    · rw [if_neg e]
      simp [e]
theorem cdT_V {p : Nat × Nat} (hb : 0 ≤ tA t p.1 ∧ tA t p.1 < 256) : cdV (cdT t p) := by
  unfold cdT cdV
  split
  · exact Or.inl (kwC_r _).1
  · split
    · exact Or.inr (Or.inl rfl)
    · omega
/-- all tokens are where they should be -/
theorem tkz_in : ∀ (f k : Nat) (p : Nat × Nat), p ∈ tkz t f k → p.1 < t.length ∧ p.2 = tkN t p.1
  | 0, k, p, h => by simp [tkz] at h
  | f + 1, k, p, h => by
    rw [tkz] at h
    split at h
    · rename_i hk
      split at h
      · exact tkz_in f (k + 1) p h
      · rcases List.mem_cons.mp h with e | e
        · rw [e]; exact ⟨hk, rfl⟩
        · exact tkz_in f (tkN t k) p e
    · simp at h
theorem vcT_bd {p : Nat × Nat} (h2 : p.2 = tkN t p.1) : 0 ≤ vcT t p ∧ vcT t p ≤ 1001 := by
  unfold vcT
  split
  · decide
  · split
    · rename_i e
      exact nvC_bd _ fun q hq => tkN_dig e (by omega) (by omega)
    · decide
theorem gd_map {α : Type} {P : List (Nat × Nat)} {f : Nat × Nat → α} {z : α} {i : Nat} (h : i < P.length) : (P.map f).getD i z = f (P.getD i (0, 0)) := by
  rw [List.getD_eq_getElem?_getD, List.getD_eq_getElem?_getD, List.getElem?_map, List.getElem?_eq_getElem h]
  rfl
theorem gd_out {α : Type} {l : List α} {z : α} {i : Nat} (h : l.length ≤ i) : l.getD i z = z := by
  rw [List.getD_eq_getElem?_getD, List.getElem?_eq_none h]
  rfl
theorem tokW (hl : t.length ≤ 400) (hb : ∀ b ∈ t, 0 ≤ b ∧ b < 256) : TokW (cTx t) (vTx t) (tkF t 0).length := by
  have hlen := tkz_len (t := t) (t.length - 0) 0
  refine ⟨?_, fun i => ?_, fun i hi => ?_, fun i => ?_, ?_⟩
  · unfold tkF; omega
  · unfold cTx
    by_cases e : i < (tkF t 0).length
    · rw [gd_map e]
      obtain ⟨h1, h2⟩ := tkz_in _ _ _ (gdMem (a := (0, 0)) e)
      exact cdT_V (hb _ (gdMem h1))
    · rw [gd_out (by rw [List.length_map]; omega)]
      exact Or.inl (by decide)
  · unfold cTx
    rw [gd_out (by rw [List.length_map]; omega)]
  · unfold vTx
    by_cases e : i < (tkF t 0).length
    · rw [gd_map e]
      exact vcT_bd (tkz_in _ _ _ (gdMem (a := (0, 0)) e)).2
    · rw [gd_out (by rw [List.length_map]; omega)]
      decide
  · have e1 : cTx t = fun j => ((tkF t 0).map (cdT t)).getD j 0 := rfl
    rw [e1, nN_map (tkF t 0) _ (Nat.le_refl _), List.take_length]
    have := tkz_7 hb (t.length - 0) 0
    unfold tkF
    omega
end PTK
section CSE
variable {s s' s0 : St} {t : List Int} {d : Nat}
theorem c_scan (hs : ShC s) (T : TpR s t) (hb : ∀ b ∈ t, 0 ≤ b ∧ b < 256) : Gl (GV fun s' => ShC s' ∧ FrK [] [62] scA s s' ∧ (∀ k, k ≠ 4 → gF s' 62 k = gF s 62 k) ∧ TokR (cTx t) (vTx t) (sTx t) (tkF t 0).length s') (X5_scan (d + 2) s 62 2 t.length) := by
  have k62 : kd s 62 = 9 := hs.o62.1
  have hl := T.2.2.1
  rw [e_X5_scan]
  simp (disch := ((try simp only [kd_sF, kd_sA, gA_sF, gA_sA, gF_sF, gF_sA, List.length_set, reduceIte, and_true, and_false, true_and, false_and, Nat.reduceEqDiff, Int.reduceEq, k62]); first | done | omega)) only [rF_ok, wF_ok, oK_ok, lA_ok, rA_ok, wA_ok, cI_ok, cV_ok, cL_ok, cR_ok, kd_sF, kd_sA, gA_sF, gF_sA, gF_sF, gA_sA, bk_0, bk_1, List.length_set, reduceIte, and_true, and_false, true_and, false_and, ne_eq, not_true_eq_false, not_false_eq_true, Int.toNat_natCast, Int.reduceToNat, Nat.reduceEqDiff, Int.reduceEq, Int.reduceLT, Int.reduceLE, Int.reduceAdd, Int.reduceSub, Int.reduceMul, Int.reduceNeg, k62]
  have I0 : SnI t s [] (sF s 62 4 0) := ⟨hs.sF (by rw [k62]; decide), FrK.sF (by decide), fun k hk => gF_nk hk, gF_eq _ _ _ _, fun i hi => absurd hi (by simp)⟩
  have hlen := tkz_len (t := t) (t.length - 0) 0
  refine lpG (fun k (a : St × Nat × List (Nat × Nat)) => X5_scan_10 (d + 2) a.1 62 2 t.length (a.2.1 : Nat) k) (fun k a => SnI t s a.2.2 a.1 ∧ a.2.1 ≤ t.length ∧ tkF t 0 = a.2.2 ++ tkF t (if k < a.2.1 then a.2.1 else k)) t.length ?_ ?_ 0 (sF s 62 4 0, 0, []) (by omega) ⟨I0, Nat.zero_le _, by simp⟩
  · intro T' k ⟨s1, e, P⟩ hk ⟨i1, i2, i3⟩ hT
    dsimp only at i1 i2 i3 ⊢
    have T1 := i1.tp T
    rw [e_X5_scan_10, if_pos (by omega), wi_sc (by omega)]
    by_cases h1 : k < e
    · rw [if_pos (show (k : Int) < (e : Int) by omega)]
      refine hT (s1, e, P) ⟨i1, i2, ?_⟩
      rw [if_pos h1] at i3
      rw [i3]
      by_cases h2 : k + 1 < e
      · rw [if_pos h2]
      · rw [if_neg h2, show e = k + 1 by omega]
    · rw [if_neg (show ¬ ((k : Int) < (e : Int)) by omega), c_rowEnd T1 hk, cI_ok]
      rw [if_neg h1] at i3
      have gt := tkN_gt (t := t) (k := k)
      have le := tkN_le (t := t) hk
      have a2 := T1.2.2.2 k hk
      rw [rA_ok T1.1 (by omega) (by rw [T1.2.1]; omega), Int.toNat_natCast, a2]
      by_cases h2 : tA t k = 32
      · rw [if_pos h2]
        have en : tkN t k = k + 1 := by unfold tkN; rw [h2]; rfl
        refine hT (s1, tkN t k, P) ⟨i1, le, ?_⟩
        dsimp only
        rw [i3, tkF_sp hk h2, if_neg (by omega)]
      · rw [if_neg h2]
        have hP : P.length < 401 := by
          have : (tkF t 0).length = P.length + (tkF t k).length := by rw [i3, List.length_append]
          unfold tkF at this
          omega
        obtain ⟨s2, e1, e2⟩ := c_addToken (d := d) i1 T hk hP hb
        have hs1 := i1.1
        simp (disch := ((try simp only [kd_sF, kd_sA, gA_sF, gA_sA, gF_sF, gF_sA, List.length_set, reduceIte, and_true, and_false, true_and, false_and, Nat.reduceEqDiff, Int.reduceEq, hs1.o62]); first | done | omega)) only [rF_ok, wF_ok, oK_ok, lA_ok, rA_ok, wA_ok, cI_ok, cV_ok, cL_ok, cR_ok, kd_sF, kd_sA, gA_sF, gF_sA, gF_sF, gA_sA, bk_0, bk_1, List.length_set, reduceIte, and_true, and_false, true_and, false_and, ne_eq, not_true_eq_false, not_false_eq_true, Int.toNat_natCast, Int.reduceToNat, Nat.reduceEqDiff, Int.reduceEq, Int.reduceLT, Int.reduceLE, Int.reduceAdd, Int.reduceSub, Int.reduceMul, Int.reduceNeg, hs1.o62, e1]
        refine hT (s2, tkN t k, P ++ [(k, tkN t k)]) ⟨e2, le, ?_⟩
        dsimp only
        rw [i3, tkF_tk hk h2, List.append_assoc]
        by_cases h3 : k + 1 < tkN t k
        · rw [if_pos h3]; rfl
        · rw [if_neg h3, show tkN t k = k + 1 by omega]; rfl
  · intro ⟨s1, e, P⟩ ⟨i1, i2, i3⟩
    dsimp only at i1 i2 i3 ⊢
    have eP : P = tkF t 0 := by
      rw [i3]
      by_cases h : t.length < e
      · omega
      · rw [if_neg h, tkF_end (Nat.le_refl _), List.append_nil]
    have hP : P.length ≤ 400 := by rw [eP]; unfold tkF; omega
    obtain ⟨h1, h2, h3, h4, h5⟩ := i1
    have l72 : (gA s1 72).length = 401 := h1.2.1 72 (by decide) (by decide)
    have l73 : (gA s1 73).length = 401 := h1.2.1 73 (by decide) (by decide)
    have l74 : (gA s1 74).length = 401 := h1.2.1 74 (by decide) (by decide)
    have k72 : kd s1 72 = 20 := h1.1 72 (by decide) (by decide)
    have k73 : kd s1 73 = 20 := h1.1 73 (by decide) (by decide)
    have k74 : kd s1 74 = 20 := h1.1 74 (by decide) (by decide)
    have k62' : kd s1 62 = 9 := h1.o62.1
    rw [e_X5_scan_10, if_neg (by omega)]
    simp (disch := ((try simp only [kd_sF, kd_sA, gA_sF, gA_sA, gF_sF, gF_sA, List.length_set, reduceIte, and_true, and_false, true_and, false_and, Nat.reduceEqDiff, Int.reduceEq, h1.o62]); first | done | omega)) only [rF_ok, wF_ok, oK_ok, lA_ok, rA_ok, wA_ok, cI_ok, cV_ok, cL_ok, cR_ok, kd_sF, kd_sA, gA_sF, gF_sA, gF_sF, gA_sA, bk_0, bk_1, List.length_set, reduceIte, and_true, and_false, true_and, false_and, ne_eq, not_true_eq_false, not_false_eq_true, Int.toNat_natCast, Int.reduceToNat, Nat.reduceEqDiff, Int.reduceEq, Int.reduceLT, Int.reduceLE, Int.reduceAdd, Int.reduceSub, Int.reduceMul, Int.reduceNeg, h1.o62, h4, wi_sm]
    have hA : ShC (sA (sA (sA s1 72 ((gA s1 72).set P.length 257)) 73 ((gA s1 73).set P.length t.length)) 74 ((gA s1 74).set P.length 0)) := ((h1.sA (by rw [List.length_set]) (by rw [k72]; decide)).sA (by rw [List.length_set, gA_ne (by decide)]) (by rw [kd_sA, k73]; decide)).sA (by rw [List.length_set, gA_ne (by decide), gA_ne (by decide)]) (by rw [kd_sA, kd_sA, k74]; decide)
    refine reV ⟨hA.sF (by rw [kd_sA, kd_sA, kd_sA, k62']; decide), h2.tr ((((FrK.sA _ (by decide)).tr (FrK.sA _ (by decide))).tr (FrK.sA _ (by decide))).tr (FrK.sF (by decide))), fun k hk => by rw [gF_nk hk, gF_sA, gF_sA, gF_sA]; exact h3 k hk, by rw [gF_eq, ← eP], fun i hi => ?_⟩
    rw [← eP] at hi
    simp only [gA_sF, gA_sA, Int.reduceEq, reduceIte]
    rw [setD_getD (by omega), setD_getD (by omega), setD_getD (by omega), ← eP]
    unfold kI cTx sTx vTx
    rw [← eP]
    by_cases e : P.length = i
    · rw [if_pos e, if_pos e, if_pos e, if_neg (by omega), gd_out (by rw [List.length_map]; omega), gd_out (by rw [List.length_map]; omega)]
      exact ⟨rfl, rfl, rfl, by omega⟩
    · have hi2 : i < P.length := by omega
      rw [if_neg e, if_neg e, if_neg e, if_pos hi2, gd_map hi2, gd_map hi2, gd_map hi2]
      obtain ⟨g1, g2, g3⟩ := h5 i hi2
      exact ⟨g1, g2, g3, by omega⟩
end CSE
