/-! ===== the reference splits a text into tokens, whole ===== -/
section MTL
variable {s s' s0 : St} {d : Nat} {t : List Int}
/-- the number of a token that begins at k, read up to j -/
theorem m_169 {T : Res → Prop} {k e n : Nat} (hk : k < t.length) (he : k < e ∧ e ≤ t.length) (hd : isD (tA t k) = true) (hall : ∀ q, k ≤ q → q < e → isD (tA t q) = true) (P : TpT t s0) (hn : n < 401) (hT : ∀ s', ShM s' → Fa [108] s0 s' → (∀ j, gF s' 98 j = gF s0 98 j) → (gA s' 108).getD n 0 = nvM t k (e - k) → (∀ i, i ≠ n → (gA s' 108).getD i 0 = (gA s0 108).getD i 0) → Gl T (X12_splits_169 (d + 1) s' 98 t.length (wb (tA t k)) e e)) (hs : ShM s0) (h18 : gF s0 98 18 = n) (h0 : (gA s0 108).getD n 0 = 0) : Gl T (X12_splits_169 (d + 1) s0 98 t.length (wb (tA t k)) e k) := by
  obtain ⟨p0, p1, p2, p3⟩ := id P
  have go := lpG (T := T) (fun j s => X12_splits_169 (d + 1) s 98 t.length (wb (tA t k)) e ((k + j : Nat) : Int)) (fun j s1 => ShM s1 ∧ Fa [108] s0 s1 ∧ (∀ j, gF s1 98 j = gF s0 98 j) ∧ (gA s1 108).getD n 0 = nvM t k j ∧ ∀ i, i ≠ n → (gA s1 108).getD i 0 = (gA s0 108).getD i 0) (e - k) (by
    intro T j s1 hj ⟨i1, i2, i3, i4, i5⟩ hT
    have l108 : (gA s1 108).length = 401 := i1.ln 108
    have e18 : gF s1 98 18 = n := by rw [i3, h18]
    have eb : (gA s1 105).getD (k + j) 0 = wb (tA t (k + j)) := by rw [i2 105 (by decide)]; exact p1 _ (by omega)
    have d1 := hall (k + j) (by omega) (by omega)
    have nb : 0 ≤ nvM t k j ∧ nvM t k j ≤ 10000020 := by
      refine ⟨nvM_nn j fun q hq => hall (k + q) (by omega) (by omega), ?_⟩
      have : ∀ m, (∀ q, q < m → isD (tA t (k + q)) = true) → nvM t k m ≤ 10000020 := by
        intro m
        induction m with
        | zero => intro _; simp [nvM]
        | succ m ih =>
          intro h
          have h1 := ih fun q hq => h q (by omega)
          have h2 := h m (by omega)
          unfold isD at h2
          simp only [Bool.and_eq_true, decide_eq_true_eq] at h2
          rw [nvM]
          split <;> omega
      exact this j fun q hq => hall (k + q) (by omega) (by omega)
    have ub : wb (tA t (k + j)) = tA t (k + j) := by
      have := wb_u (p2 (k + j) (by omega))
      unfold isD at d1
      simp only [Bool.and_eq_true, decide_eq_true_eq] at d1
      omega
    have ub2 : 48 ≤ tA t (k + j) ∧ tA t (k + j) ≤ 57 := by
      unfold isD at d1
      simpa using d1
    rw [e_X12_splits_169, if_pos (by omega), digit_if (p2 k hk), hd, if_pos rfl, cI_ok, if_neg (show ¬ ((1 : Int) = 0) by decide)]
    have wr : ∀ v : Int, v = nvM t k (j + 1) → Gl T (X12_splits_169 (d + 1) (sA s1 108 ((gA s1 108).set n v)) 98 t.length (wb (tA t k)) e ((k + (j + 1) : Nat) : Int)) := fun v hv => hT _ ⟨i1.sA (by rw [List.length_set]), i2.tr (Fa.sA _ (by decide)), i3, by rw [gA_eq, set_eq (by omega)]; exact hv, fun i hi => by rw [gA_eq, set_ne (fun h => hi h.symm)]; exact i5 i hi⟩
    simp (disch := ((try simp only [kd_sF, kd_sA, gA_sF, gA_sA, gF_sF, gF_sA, List.length_set, reduceIte, and_true, and_false, true_and, false_and, Nat.reduceEqDiff, Int.reduceEq, i1.kd, i1.ln, i1.fs, kMs, lMs]); first | done | omega)) only [rF_ok, wF_ok, oK_ok, lA_ok, rA_ok, wA_ok, cI_ok, cV_ok, cL_ok, cR_ok, kd_sF, kd_sA, gA_sF, gF_sA, gF_sF, gA_sA, bk_0, bk_1, List.length_set, reduceIte, and_true, and_false, true_and, false_and, ne_eq, not_true_eq_false, not_false_eq_true, Int.toNat_natCast, Int.reduceToNat, Nat.reduceEqDiff, Int.reduceEq, Int.reduceLT, Int.reduceLE, Int.reduceAdd, Int.reduceSub, Int.reduceMul, Int.reduceNeg, i1.kd, i1.ln, i1.fs, kMs, lMs, e18, i4]
    by_cases c : 1000000 < nvM t k j
    · rw [if_pos c]
      simp (disch := ((try simp only [kd_sF, kd_sA, gA_sF, gA_sA, gF_sF, gF_sA, List.length_set, reduceIte, and_true, and_false, true_and, false_and, Nat.reduceEqDiff, Int.reduceEq, i1.kd, i1.ln, i1.fs, kMs, lMs]); first | done | omega)) only [rF_ok, wF_ok, oK_ok, lA_ok, rA_ok, wA_ok, cI_ok, cV_ok, cL_ok, cR_ok, kd_sF, kd_sA, gA_sF, gF_sA, gF_sF, gA_sA, bk_0, bk_1, List.length_set, reduceIte, and_true, and_false, true_and, false_and, ne_eq, not_true_eq_false, not_false_eq_true, Int.toNat_natCast, Int.reduceToNat, Nat.reduceEqDiff, Int.reduceEq, Int.reduceLT, Int.reduceLE, Int.reduceAdd, Int.reduceSub, Int.reduceMul, Int.reduceNeg, i1.kd, i1.ln, i1.fs, kMs, lMs, e18, i4, wi_sc]
      exact wr _ (by rw [nvM, if_pos c])
    · rw [if_neg c]
      simp (disch := ((try simp only [kd_sF, kd_sA, gA_sF, gA_sA, gF_sF, gF_sA, List.length_set, reduceIte, and_true, and_false, true_and, false_and, Nat.reduceEqDiff, Int.reduceEq, i1.kd, i1.ln, i1.fs, kMs, lMs]); first | done | omega)) only [rF_ok, wF_ok, oK_ok, lA_ok, rA_ok, wA_ok, cI_ok, cV_ok, cL_ok, cR_ok, kd_sF, kd_sA, gA_sF, gF_sA, gF_sF, gA_sA, bk_0, bk_1, List.length_set, reduceIte, and_true, and_false, true_and, false_and, ne_eq, not_true_eq_false, not_false_eq_true, Int.toNat_natCast, Int.reduceToNat, Nat.reduceEqDiff, Int.reduceEq, Int.reduceLT, Int.reduceLE, Int.reduceAdd, Int.reduceSub, Int.reduceMul, Int.reduceNeg, i1.kd, i1.ln, i1.fs, kMs, lMs, e18, i4, wi_sc, eb, ub, wi_sm]
      exact wr _ (by rw [nvM, if_neg c])) (by
    intro s1 ⟨i1, i2, i3, i4, i5⟩
    have := hT s1 i1 i2 i3 i4 i5
    rw [show k + (e - k) = e by omega]
    exact this)
  exact go 0 s0 (by omega) ⟨hs, Fa.rf _ _, fun _ => rfl, h0, fun _ _ => rfl⟩
theorem extT_all {p : Int → Bool} {k : Nat} (h : p (tA t k) = true) : ∀ q, k ≤ q → q < extT t p (t.length - (k + 1)) (k + 1) → p (tA t q) = true := fun q h1 h2 => by
  by_cases e : q = k
  · rw [e]; exact h
  · exact extT_in _ _ q (by omega) h2
theorem m_tok {T : Res → Prop} {k : Nat} {L : List (Nat × Nat)} (P : TpT t s0) (I : TkI t s0 L s) (hk : k < t.length) (hL : L.length ≤ k) (h32 : tA t k ≠ 32) (hT : ∀ s', TkI t s0 (L ++ [(k, tkN t k)]) s' → Gl T (X12_splits_7 (d + 1) s' 98 t.length (tkN t k))) : Gl T (X12_splits_7 (d + 1) s 98 t.length k) := by
  obtain ⟨hs, F, f, h18, hI⟩ := id I
  have Ps := P.fr F
  obtain ⟨p0, p1, p2, p3⟩ := id Ps
  have hb := p2 k hk
  have l105 : (gA s 105).length = 400 := hs.ln 105
  have ng := tkN_gt (t := t) (k := k)
  have nl := tkN_le hk
  -- the rest, from 100 on
  have h100 : Gl T (X12_splits_100 (d + 1) s 98 t.length k (wb (tA t k)) (tkN t k)) := by
    rw [e_X12_splits_100]
    have l107 : (gA s 107).length = 401 := hs.ln 107
    have l108 : (gA s 108).length = 401 := hs.ln 108
    have l109 : (gA s 109).length = 401 := hs.ln 109
    simp (disch := ((try simp only [kd_sF, kd_sA, gA_sF, gA_sA, gF_sF, gF_sA, List.length_set, reduceIte, and_true, and_false, true_and, false_and, Nat.reduceEqDiff, Int.reduceEq, hs.kd, hs.ln, hs.fs, kMs, lMs]); first | done | omega)) only [rF_ok, wF_ok, oK_ok, lA_ok, rA_ok, wA_ok, cI_ok, cV_ok, cL_ok, cR_ok, kd_sF, kd_sA, gA_sF, gF_sA, gF_sF, gA_sA, bk_0, bk_1, List.length_set, reduceIte, and_true, and_false, true_and, false_and, ne_eq, not_true_eq_false, not_false_eq_true, Int.toNat_natCast, Int.reduceToNat, Nat.reduceEqDiff, Int.reduceEq, Int.reduceLT, Int.reduceLE, Int.reduceAdd, Int.reduceSub, Int.reduceMul, Int.reduceNeg, hs.kd, hs.ln, hs.fs, kMs, lMs, h18, small_if hb]
    -- after placed and value
    have hs1 : ShM (sA (sA s 109 ((gA s 109).set L.length k)) 108 ((gA s 108).set L.length 0)) := (hs.sA (by rw [List.length_set])).sA (by rw [List.length_set, gA_ne (by decide)])
    have fin : ∀ (c : Int) (s5 : St), s5 = sA (sA (sA s 109 ((gA s 109).set L.length k)) 108 ((gA s 108).set L.length 0)) 107 ((gA s 107).set L.length c) → c = cdT t (k, tkN t k) → Gl T (X12_splits_169 (d + 1) s5 98 t.length (wb (tA t k)) (tkN t k) k) := by
      intro c s5 h5 hc
      have hs5 : ShM s5 := by rw [h5]; exact hs1.sA (by rw [List.length_set, gA_ne (by decide), gA_ne (by decide)])
      have F5 : Fa [107, 108, 109] s0 s5 := by
        rw [h5]
        exact ((F.tr (Fa.sA _ (by decide))).tr (Fa.sA _ (by decide))).tr (Fa.sA _ (by decide))
      have f5 : ∀ j, gF s5 98 j = gF s 98 j := fun j => by rw [h5]; rfl
      have a107 : gA s5 107 = (gA s 107).set L.length c := by rw [h5, gA_eq]
      have a108 : gA s5 108 = (gA s 108).set L.length 0 := by rw [h5, gA_ne (by decide), gA_eq]
      have a109 : gA s5 109 = (gA s 109).set L.length k := by rw [h5, gA_ne (by decide), gA_ne (by decide), gA_eq]
      have e18 : gF s5 98 18 = (L.length : Int) := by rw [f5, h18]
      -- at the end: one token more
      have last : ∀ s6 : St, ShM s6 → Fa [108] s5 s6 → (∀ j, gF s6 98 j = gF s5 98 j) → (gA s6 108).getD L.length 0 = vmT t (k, tkN t k) → (∀ i, i ≠ L.length → (gA s6 108).getD i 0 = (gA s5 108).getD i 0) → Gl T (X12_splits_7 (d + 1) (sF s6 98 18 ((L.length : Int) + 1)) 98 t.length (tkN t k)) := by
        intro s6 q1 q2 q3 q4 q5
        refine hT _ ⟨q1.sF (by decide), F5.tr (q2.mono (by decide)), fun j hj => (gF_nk hj).trans ((q3 j).trans ((f5 j).trans (f j hj))), by rw [gF_eq, List.length_append]; rfl, fun i hi => ?_⟩
        rw [List.length_append] at hi
        have hi' : i < L.length + 1 := hi
        rw [gd_app (by omega), gA_sF, gA_sF, gA_sF, q2 107 (by decide), q2 109 (by decide), a107, a109, setD_getD (by omega), setD_getD (by omega)]
        by_cases ei : i = L.length
        · rw [if_pos ei.symm, if_pos ei.symm, if_pos ei, ei]
          exact ⟨hc, q4, rfl⟩
        · rw [if_neg ei, if_neg (show ¬ (L.length = i) from fun h => ei h.symm), if_neg (show ¬ (L.length = i) from fun h => ei h.symm), q5 i ei, a108, set_ne (fun h => ei h.symm)]
          exact hI i (by omega)
      by_cases hd : isD (tA t k) = true
      · have nL : isL (tA t k) = false := by
          unfold isD at hd
          unfold isL
          simp only [Bool.and_eq_true, decide_eq_true_eq] at hd
          rw [decide_eq_false (show ¬ (97 ≤ tA t k) by omega)]
          rfl
        have et : tkN t k = extT t isD (t.length - (k + 1)) (k + 1) := by
          unfold tkN
          rw [nL, hd]
          rfl
        refine m_169 (n := L.length) hk ⟨ng, nl⟩ hd (by rw [et]; exact extT_all hd) (P.fr F5) (by omega) (fun s6 q1 q2 q3 q4 q5 => ?_) hs5 e18 (by rw [a108, set_eq (by omega)])
        rw [e_X12_splits_169, if_neg (by omega), rF_ok q1.k98, wF_ok q1.k98, q3, e18, wi_sm (by omega) (by omega)]
        refine last s6 q1 q2 q3 ?_ q5
        rw [q4]
        unfold vmT
        rw [nL, hd]
        rfl
      · rw [e_X12_splits_169, if_pos (by omega), digit_if hb, if_neg hd, cI_ok, if_pos rfl, rF_ok hs5.k98, wF_ok hs5.k98, e18, wi_sm (by omega) (by omega)]
        refine last s5 hs5 (Fa.rf _ _) (fun _ => rfl) ?_ (fun _ _ => rfl)
        rw [a108, set_eq (by omega)]
        unfold vmT
        rw [if_neg hd]
        split <;> rfl
    by_cases hl : isL (tA t k) = true
    · have Pw : TpT t (sA (sA s 109 ((gA s 109).set L.length k)) 108 ((gA s 108).set L.length 0)) := Ps.fr ((Fa.sA _ (by decide)).tr (Fa.sA _ (by decide)))
      rw [if_pos hl, if_neg (show ¬ ((1 : Int) = 0) by decide), m_wordOf hs1 Pw ⟨by omega, nl⟩, cI_ok]
      have hs1' := hs1
      rw [wA_ok (show kd (sA (sA s 109 ((gA s 109).set L.length k)) 108 ((gA s 108).set L.length 0)) 107 = 20 from hs1.kd 107) (by omega) (by rw [hs1.ln 107]; show (L.length : Int) < 401; omega), Int.toNat_natCast]
      refine fin (kwC (slT t k (tkN t k))) _ (by rw [gA_ne (by decide), gA_ne (by decide)]) ?_
      unfold cdT
      rw [if_pos hl]
    · rw [if_neg hl, if_pos rfl, digit_if hb, cI_ok]
      by_cases hd : isD (tA t k) = true
      · rw [if_pos hd, if_neg (show ¬ ((1 : Int) = 0) by decide)]
        rw [wA_ok (show kd (sA (sA s 109 ((gA s 109).set L.length k)) 108 ((gA s 108).set L.length 0)) 107 = 20 from hs1.kd 107) (by omega) (by rw [hs1.ln 107]; show (L.length : Int) < 401; omega), Int.toNat_natCast]
        refine fin 50 _ (by rw [gA_ne (by decide), gA_ne (by decide)]) ?_
        unfold cdT
        rw [if_neg hl, if_pos hd]
      · rw [if_neg hd, if_pos rfl]
        rw [wA_ok (show kd (sA (sA s 109 ((gA s 109).set L.length k)) 108 ((gA s 108).set L.length 0)) 107 = 20 from hs1.kd 107) (by omega) (by rw [hs1.ln 107]; show (L.length : Int) < 401; omega), Int.toNat_natCast, and255, (wb_u hb).1, wi_sm (by omega) (by omega)]
        refine fin (100 + tA t k) _ (by rw [gA_ne (by decide), gA_ne (by decide)]) ?_
        unfold cdT
        rw [if_neg hl, if_neg hd]
  rw [e_X12_splits_7, if_pos (by omega)]
  simp (disch := ((try simp only [kd_sF, kd_sA, gA_sF, gA_sA, gF_sF, gF_sA, List.length_set, reduceIte, and_true, and_false, true_and, false_and, Nat.reduceEqDiff, Int.reduceEq, hs.kd, hs.ln, hs.fs, kMs, lMs]); first | done | omega)) only [rF_ok, wF_ok, oK_ok, lA_ok, rA_ok, wA_ok, cI_ok, cV_ok, cL_ok, cR_ok, kd_sF, kd_sA, gA_sF, gF_sA, gF_sF, gA_sA, bk_0, bk_1, List.length_set, reduceIte, and_true, and_false, true_and, false_and, ne_eq, not_true_eq_false, not_false_eq_true, Int.toNat_natCast, Int.reduceToNat, Nat.reduceEqDiff, Int.reduceEq, Int.reduceLT, Int.reduceLE, Int.reduceAdd, Int.reduceSub, Int.reduceMul, Int.reduceNeg, hs.kd, hs.ln, hs.fs, kMs, lMs, p1 k hk, small_if hb]
  rw [if_neg (fun h => h32 ((wb_lt hb (by decide)).mp h))]
  by_cases hl : isL (tA t k) = true
  · rw [if_pos hl, if_neg (show ¬ ((1 : Int) = 0) by decide), wi_sc (by omega)]
    refine m_43 hs Ps hk hl (t.length - (k + 1)) (k + 1) (by omega) (by omega) ?_
    have et : tkN t k = extT t isL (t.length - (k + 1)) (k + 1) := by
      unfold tkN
      rw [if_pos hl]
    rw [← et]
    exact h100
  · rw [if_neg hl, if_pos rfl, digit_if hb, cI_ok]
    by_cases hd : isD (tA t k) = true
    · rw [if_pos hd, if_neg (show ¬ ((1 : Int) = 0) by decide), wi_sc (by omega)]
      refine m_75 hs Ps hk (t.length - (k + 1)) (k + 1) (by omega) (by omega) ?_
      have et : tkN t k = extT t isD (t.length - (k + 1)) (k + 1) := by
        unfold tkN
        rw [if_neg hl, if_pos hd]
      rw [← et]
      exact h100
    · rw [if_neg hd, if_pos rfl, wi_sc (by omega)]
      have et : tkN t k = k + 1 := by
        unfold tkN
        rw [if_neg hl, if_neg hd]
      rw [et] at h100
      exact h100
def vmX (t : List Int) (i : Nat) : Int := ((tkF t 0).map (vmT t)).getD i 0
/-- the tokens as they lie after splits -/
def TkR (t : List Int) (s : St) : Prop := gF s 98 18 = (tkF t 0).length ∧ ∀ i, i ≤ (tkF t 0).length → (gA s 107).getD i 0 = cTx t i ∧ (gA s 108).getD i 0 = vTk (toks t) i ∧ (gA s 109).getD i 0 = sTx t i
theorem tkF_len : ∀ (f k : Nat), t.length - k ≤ f → k ≤ t.length → (tkF t k).length ≤ t.length - k
  | f, k, hf, hk => by
    by_cases h : k < t.length
    · match f, hf with
      | 0, hf => omega
      | f + 1, hf =>
        by_cases e : tA t k = 32
        · rw [tkF_sp h e]
          have := tkF_len f (k + 1) (by omega) (by omega)
          omega
        · rw [tkF_tk h e, List.length_cons]
          have g := tkN_gt (t := t) (k := k)
          have l := tkN_le h
          have := tkF_len f (tkN t k) (by omega) l
          omega
    · rw [tkF_end (by omega)]
      simp
theorem m_splits (hs : ShM s) (P : TpT t s) : Gl (GV fun s' => ShM s' ∧ Fa [107, 108, 109] s s' ∧ (∀ j, j ≠ 18 → gF s' 98 j = gF s 98 j) ∧ TkR t s') (X12_splits (d + 1) s 98 t.length) := by
  have p0 := P.1
  rw [e_X12_splits, wF_ok hs.k98]
  have I0 : TkI t s [] (sF s 98 18 0) := ⟨hs.sF (by decide), fun _ _ => rfl, fun j hj => gF_nk hj, gF_eq _ _ _ _, fun i hi => absurd hi (by simp)⟩
  have go : ∀ (f k : Nat) (L : List (Nat × Nat)) (s1 : St), t.length - k ≤ f → k ≤ t.length → L.length ≤ k → tkF t 0 = L ++ tkF t k → TkI t s L s1 → Gl (GV fun s' => ShM s' ∧ Fa [107, 108, 109] s s' ∧ (∀ j, j ≠ 18 → gF s' 98 j = gF s 98 j) ∧ TkR t s') (X12_splits_7 (d + 1) s1 98 t.length k) := by
    intro f
    induction f with
    | zero =>
      intro k L s1 hf hk hL hE I
      obtain ⟨hs1, F, g, h18, hI⟩ := id I
      have ek : k = t.length := by omega
      rw [tkF_end (k := k) (by omega), List.append_nil] at hE
      have l107 : (gA s1 107).length = 401 := hs1.ln 107
      have l108 : (gA s1 108).length = 401 := hs1.ln 108
      have l109 : (gA s1 109).length = 401 := hs1.ln 109
      rw [e_X12_splits_7, if_neg (by omega)]
      simp (disch := ((try simp only [kd_sF, kd_sA, gA_sF, gA_sA, gF_sF, gF_sA, List.length_set, reduceIte, and_true, and_false, true_and, false_and, Nat.reduceEqDiff, Int.reduceEq, hs1.kd, hs1.ln, hs1.fs, kMs, lMs]); first | done | omega)) only [rF_ok, wF_ok, oK_ok, lA_ok, rA_ok, wA_ok, cI_ok, cV_ok, cL_ok, cR_ok, kd_sF, kd_sA, gA_sF, gF_sA, gF_sF, gA_sA, bk_0, bk_1, List.length_set, reduceIte, and_true, and_false, true_and, false_and, ne_eq, not_true_eq_false, not_false_eq_true, Int.toNat_natCast, Int.reduceToNat, Nat.reduceEqDiff, Int.reduceEq, Int.reduceLT, Int.reduceLE, Int.reduceAdd, Int.reduceSub, Int.reduceMul, Int.reduceNeg, hs1.kd, hs1.ln, hs1.fs, kMs, lMs, h18]
      refine reV ⟨((hs1.sA (by rw [List.length_set])).sA (by rw [List.length_set, gA_ne (by decide)])).sA (by rw [List.length_set, gA_ne (by decide), gA_ne (by decide)]), ((F.tr (Fa.sA _ (by decide))).tr (Fa.sA _ (by decide))).tr (Fa.sA _ (by decide)), fun j hj => g j hj, ?_, fun i hi => ?_⟩
      · show gF s1 98 18 = _
        rw [h18, hE]
      · rw [hE] at hi
        have a1 : gA (sA (sA (sA s1 109 ((gA s1 109).set L.length t.length)) 107 ((gA s1 107).set L.length 0)) 108 ((gA s1 108).set L.length 0)) 107 = (gA s1 107).set L.length 0 := by rw [gA_ne (by decide), gA_eq]
        have a2 : gA (sA (sA (sA s1 109 ((gA s1 109).set L.length t.length)) 107 ((gA s1 107).set L.length 0)) 108 ((gA s1 108).set L.length 0)) 108 = (gA s1 108).set L.length 0 := by rw [gA_eq]
        have a3 : gA (sA (sA (sA s1 109 ((gA s1 109).set L.length t.length)) 107 ((gA s1 107).set L.length 0)) 108 ((gA s1 108).set L.length 0)) 109 = (gA s1 109).set L.length t.length := by rw [gA_ne (by decide), gA_ne (by decide), gA_eq]
        rw [a1, a2, a3, setD_getD (by omega), setD_getD (by omega), setD_getD (by omega)]
        unfold cTx sTx vTk toks
        rw [hE]
        by_cases ei : i = L.length
        · rw [if_pos ei.symm, if_pos ei.symm, if_pos ei.symm, gd_end (by rw [List.length_map]; omega), gd_end (by rw [List.length_map]; omega), gd_end (by rw [List.length_map]; omega)]
          exact ⟨rfl, rfl, rfl⟩
        · rw [if_neg (fun h => ei h.symm), if_neg (fun h => ei h.symm), if_neg (fun h => ei h.symm)]
          obtain ⟨q1, q2, q3⟩ := hI i (by omega)
          have gm : ∀ {β : Type} (f : Nat × Nat → β) (y : β), (L.map f).getD i y = f (L.getD i (0, 0)) := fun f y => by
            rw [List.getD_eq_getElem?_getD, List.getElem?_map, List.getElem?_eq_getElem (by omega), List.getD_eq_getElem?_getD, List.getElem?_eq_getElem (by omega)]
            rfl
          rw [gm, gm, gm]
          exact ⟨q1, q2, q3⟩
    | succ f ih =>
      intro k L s1 hf hk hL hE I
      by_cases hk2 : k < t.length
      · by_cases h32 : tA t k = 32
        · obtain ⟨hs1, F, g, h18, hI⟩ := id I
          obtain ⟨q0, q1, q2, q3⟩ := P.fr F
          have l105 : (gA s1 105).length = 400 := hs1.ln 105
          rw [e_X12_splits_7, if_pos (by omega)]
          have e32 : wb (tA t k) = 32 := by rw [h32]; rfl
          simp (disch := ((try simp only [kd_sF, kd_sA, gA_sF, gA_sA, gF_sF, gF_sA, List.length_set, reduceIte, and_true, and_false, true_and, false_and, Nat.reduceEqDiff, Int.reduceEq, hs1.kd, hs1.ln, hs1.fs, kMs, lMs]); first | done | omega)) only [rF_ok, wF_ok, oK_ok, lA_ok, rA_ok, wA_ok, cI_ok, cV_ok, cL_ok, cR_ok, kd_sF, kd_sA, gA_sF, gF_sA, gF_sF, gA_sA, bk_0, bk_1, List.length_set, reduceIte, and_true, and_false, true_and, false_and, ne_eq, not_true_eq_false, not_false_eq_true, Int.toNat_natCast, Int.reduceToNat, Nat.reduceEqDiff, Int.reduceEq, Int.reduceLT, Int.reduceLE, Int.reduceAdd, Int.reduceSub, Int.reduceMul, Int.reduceNeg, hs1.kd, hs1.ln, hs1.fs, kMs, lMs, q1 k hk2, e32, wi_sc]
          exact ih (k + 1) L s1 (by omega) (by omega) (by omega) (by rw [hE, tkF_sp hk2 h32]) I
        · refine m_tok P I hk2 hL h32 fun s2 I2 => ?_
          have g := tkN_gt (t := t) (k := k)
          refine ih (tkN t k) (L ++ [(k, tkN t k)]) s2 (by omega) (tkN_le hk2) (by rw [List.length_append]; show L.length + 1 ≤ _; omega) ?_ I2
          rw [hE, tkF_tk hk2 h32, List.append_assoc]
          rfl
      · exact ih k L s1 (by omega) hk hL hE I
  exact go t.length 0 [] _ (by omega) (by omega) (by simp) rfl I0
end MTL
