/-! ===== the reference: a text is read, kept; the call law ===== -/
section MLW
variable {s s' : St} {a : Ab} {d : Nat} {t : List Int}
theorem sTx_nn (i : Nat) : 0 ≤ sTx t i := by
  unfold sTx
  by_cases h : i < ((tkF t 0).map fun p => (p.1 : Int)).length
  · have := gdMem (a := (t.length : Int)) h
    obtain ⟨p, -, hp⟩ := List.mem_map.mp this
    rw [← hp]
    omega
  · rw [gd_end (by omega)]
    omega
theorem cTx_end : cTx t (tkF t 0).length = 0 := by
  unfold cTx
  rw [gd_end (by rw [List.length_map]; exact Nat.le_refl _)]
/-- fields that reading writes -/
def rdF : List Nat := [8, 9, 10, 13, 14, 18, 19, 20, 21]
def RdE (a : Ab) (s : St) (fw : Int) (x : Int) (s' : St) : Prop := Fa [107, 108, 109] s s' ∧ (∀ j, j ∉ rdF → gF s' 98 j = gF s 98 j) ∧ match rdT a.2.2.2.1 fw with
  | .ok _ => x = 1 ∧ RepM (setFt (setTp a []) (-1)) s' ∧ TkR a.2.2.2.1 s'
  | .error e => x = 0 ∧ RepM (setFt (setTp a []) (sTx a.2.2.2.1 e)) s'
theorem RepM.rdE {f : Int} (R : RepM a s) (hs : ShM s') (F : Fa [107, 108, 109] s s') (hf : ∀ j, j ∉ rdF → gF s' 98 j = gF s 98 j) (h13 : gF s' 98 13 = 0) (h14 : gF s' 98 14 = f) : RepM (setFt (setTp a []) f) s' := by
  obtain ⟨r1, r2, r3, r4, r5, r6, r7, r8, r9⟩ := id R
  exact R.up hs (fun p hp => F p (by revert p; decide)) (fun k hk => hf k (by revert k; decide)) (by rw [kA_fr (F 100 (by decide))]; exact r2) (r4.fr (hf 33 (by decide)) (F 113 (by decide))) ⟨h13, fun i hi => absurd hi (Nat.not_lt_zero i)⟩ ⟨(hf 0 (by decide)).trans r6.1, (hf 6 (by decide)).trans r6.2.1, h14, (hf 49 (by decide)).trans r6.2.2.2⟩ (r7.fr (F 99 (by decide)))
theorem mm_reads {fw lw : Int} (R : RepM a s) (W : wfA a) (h8 : gF s 98 8 = fw) (h9 : gF s 98 9 = lw) (L : LgM s fw lw) : Gl (GI fun x s' => RdE a s fw x s') (X12_reads (d + 47) s 98) := by
  have hs := R.1
  obtain ⟨t1, t2⟩ := R.2.2.2.2.1
  obtain ⟨wt, wb0⟩ := W.2.2.2.1
  have P : TpT a.2.2.2.1 s := ⟨wt, t2, fun i hi => wb0 _ (gdMem hi), R.2.2.2.2.2.2.2.2⟩
  rw [e_X12_reads, rF_ok hs.k98, t1, oK_ok hs.k98]
  refine biV (m_splits (d := d + 45) hs P) fun s1 _ ⟨h1, F1, f1, K1⟩ => ?_
  have hs2 : ShM (sF s1 98 13 0) := h1.sF (by decide)
  rw [wF_ok h1.k98, wF_ok hs2.k98, wF_ok (show kd (sF (sF s1 98 13 0) 98 19 0) 98 = 16 from h1.k98), wF_ok (show kd (sF (sF (sF s1 98 13 0) 98 19 0) 98 20 0) 98 = 16 from h1.k98), oK_ok (show kd (sF (sF (sF (sF s1 98 13 0) 98 19 0) 98 20 0) 98 21 (-1)) 98 = 16 from h1.k98)]
  have f2 : ∀ j, j ≠ 13 → j ≠ 18 → gF (sF s1 98 13 0) 98 j = gF s 98 j := fun j h h' => (gF_nk h).trans (f1 j h')
  have X : RdX (sF s1 98 13 0) (cTx a.2.2.2.1) (vTk (toks a.2.2.2.1)) (sTx a.2.2.2.1) (tkF a.2.2.2.1 0).length fw lw := by
    refine ⟨hs2, ?_, K1.2, cTx_end, fun i => vTk_nn i, fun i => sTx_nn i, (f2 8 (by decide) (by decide)).trans h8, (f2 9 (by decide) (by decide)).trans h9, ?_⟩
    · have := tkF_len (t := a.2.2.2.1) a.2.2.2.1.length 0 (by omega) (by omega)
      omega
    · rcases L with ⟨rfl, rfl, _⟩ | ⟨rfl, rfl, _⟩ <;> decide
  have L2 : LgM (sF s1 98 13 0) fw lw := by
    unfold LgM
    rw [f2 10 (by decide) (by decide)]
    exact L
  have g18 : gF (sF s1 98 13 0) 98 18 = ((tkF a.2.2.2.1 0).length : Int) := (gF_nk (by decide)).trans K1.1
  have T := r_text (d := d) X L2 g18
  have er : rdT a.2.2.2.1 fw = pText (pCl (cTx a.2.2.2.1) (vTk (toks a.2.2.2.1)) fw) (cTx a.2.2.2.1) (tkF a.2.2.2.1 0).length := by
    rw [rdT_toks, toks_len, cTk_toks]
  show Gl _ (cV (X12_readOne (d + 46) (rd (sF s1 98 13 0) 0 0 (-1)) 98) fun s6 => X12_reads_34 (d + 47) s6 98 1)
  rw [← er] at T
  have fin : ∀ i' l' b x : Int, ShM (sF (rd (sF s1 98 13 0) i' l' b) 98 14 x) ∧ Fa [107, 108, 109] s (sF (rd (sF s1 98 13 0) i' l' b) 98 14 x) ∧ (∀ j, j ∉ rdF → gF (sF (rd (sF s1 98 13 0) i' l' b) 98 14 x) 98 j = gF s 98 j) ∧ gF (sF (rd (sF s1 98 13 0) i' l' b) 98 14 x) 98 13 = 0 ∧ gF (sF (rd (sF s1 98 13 0) i' l' b) 98 14 x) 98 14 = x := by
    intro i' l' b x
    refine ⟨(X.sh i' l' b).sF (by decide), F1, fun j hj => ?_, ?_, gF_eq _ _ _ _⟩
    · have n : ∀ k, k ∈ rdF → j ≠ k := fun k hk e => hj (e ▸ hk)
      rw [gF_nk (n 14 (by decide)), rd_o _ _ _ _ ⟨n 19 (by decide), n 20 (by decide), n 21 (by decide)⟩]
      exact f2 j (n 13 (by decide)) (n 18 (by decide))
    · rw [gF_nk (by decide), rd_o _ _ _ _ (by decide), gF_eq]
  cases hr : rdT a.2.2.2.1 fw with
  | error e =>
    rw [hr] at T
    obtain ⟨i', l', T⟩ := T
    rw [T]
    obtain ⟨q1, q2, q3, q4, q5⟩ := fin i' l' (sTx a.2.2.2.1 e) (sTx a.2.2.2.1 e)
    refine reI ⟨q2, q3, ?_⟩
    rw [hr]
    exact ⟨rfl, R.rdE q1 q2 q3 q4 q5⟩
  | ok cls =>
    rw [hr] at T
    obtain ⟨i', l', T⟩ := T
    rw [T]
    obtain ⟨q1, q2, q3, q4, q5⟩ := fin i' l' (-1) (-1)
    refine reI ⟨q2, q3, ?_⟩
    rw [hr]
    refine ⟨rfl, R.rdE q1 q2 q3 q4 q5, ?_, fun i hi => K1.2 i hi⟩
    rw [gF_nk (by decide), rd_o _ _ _ _ (by decide)]
    exact g18
theorem mm_readsAs {fl fw lw : Int} (R : RepM a s) (W : wfA a) (L : (fl = 0 ∧ fw = 8 ∧ lw = 13) ∨ (fl = 1 ∧ fw = 14 ∧ lw = 19)) : Gl (GI fun x s' => RdE a s fw x s') (X12_readsAs (d + 48) s 98 fl) := by
  have hs := R.1
  have hs1 : ShM (sF s 98 10 fl) := hs.sF (by decide)
  have hs2 : ShM (sF (sF s 98 10 fl) 98 8 fw) := hs1.sF (by decide)
  have hs3 : ShM (sF (sF (sF s 98 10 fl) 98 8 fw) 98 9 lw) := hs2.sF (by decide)
  have R3 : RepM a (sF (sF (sF s 98 10 fl) 98 8 fw) 98 9 lw) := R.fr hs3 (fun _ _ => rfl) (fun k hk => by
    rw [gF_nk (by revert k; decide), gF_nk (by revert k; decide), gF_nk (by revert k; decide)])
  have L3 : LgM (sF (sF (sF s 98 10 fl) 98 8 fw) 98 9 lw) fw lw := by
    unfold LgM
    rw [gF_nk (by decide), gF_nk (by decide), gF_eq]
    rcases L with ⟨h1, h2, h3⟩ | ⟨h1, h2, h3⟩
    · exact Or.inl ⟨h2, h3, h1⟩
    · exact Or.inr ⟨h2, h3, h1⟩
  have T := mm_reads (d := d) R3 W (by rw [gF_nk (by decide), gF_eq]) (gF_eq _ _ _ _) L3
  have go : Gl (GI fun x s' => RdE a s fw x s') (cI (X12_reads (d + 47) (sF (sF (sF s 98 10 fl) 98 8 fw) 98 9 lw) 98) fun x1 s3 => bk x1 (some ([(0, x1)], s3))) := by
    refine biI T fun x s' _ ⟨q1, q2, q3⟩ => ?_
    have hx : x = 0 ∨ x = 1 := by
      cases hr : rdT a.2.2.2.1 fw with
      | error e => rw [hr] at q3; exact Or.inl q3.1
      | ok cls => rw [hr] at q3; exact Or.inr q3.1
    rw [bk_b hx]
    refine reI ⟨q1, fun j hj => ?_, q3⟩
    have n : ∀ k, k ∈ rdF → j ≠ k := fun k hk e => hj (e ▸ hk)
    rw [q2 j hj, gF_nk (n 9 (by decide)), gF_nk (n 8 (by decide)), gF_nk (n 10 (by decide))]
  rw [e_X12_readsAs]
  rcases L with ⟨rfl, rfl, rfl⟩ | ⟨rfl, rfl, rfl⟩
  · rw [bk_0, wF_ok hs.k98, if_pos rfl, e_X12_readsAs_17, wF_ok hs1.k98, if_pos rfl, wF_ok hs2.k98, oK_ok hs3.k98]
    exact go
  · rw [bk_1, wF_ok hs.k98, if_neg (by decide), e_X12_readsAs_17, wF_ok hs1.k98, if_neg (by decide), wF_ok hs2.k98, oK_ok hs3.k98]
    exact go
/-- the tokens are kept in row t of the laws -/
theorem m_lays {tt : Nat} (hs : ShM s) (K : TkR t s) (hn : (tkF t 0).length ≤ 400) (ht : tt ≤ 6) : Gl (GV fun s' => ShM s' ∧ Fa [100] s s' ∧ (∀ j, gF s' 98 j = gF s 98 j) ∧ ∀ j, kA s' j = if j = 174 + tt then ((tkF t 0).length : Int) else if 181 + 400 * tt ≤ j ∧ j < 181 + 400 * tt + (tkF t 0).length then cTx t (j - (181 + 400 * tt)) else if 2981 + 400 * tt ≤ j ∧ j < 2981 + 400 * tt + (tkF t 0).length then vTk (toks t) (j - (2981 + 400 * tt)) else kA s j) (X12_lays d s 98 tt) := by
  have e1 : ((174 : Int) + (tt : Int)).toNat = 174 + tt := by omega
  have e18 := K.1
  rw [e_X12_lays]
  simp (disch := ((try simp only [kd_sF, kd_sA, gA_sF, gA_sA, gF_sF, gF_sA, List.length_set, reduceIte, and_true, and_false, true_and, false_and, Nat.reduceEqDiff, Int.reduceEq, hs.kd, hs.ln, hs.fs, kMs, lMs]); first | done | omega)) only [rF_ok, wF_ok, oK_ok, lA_ok, rA_ok, wA_ok, cI_ok, cV_ok, cL_ok, cR_ok, kd_sF, kd_sA, gA_sF, gF_sA, gF_sF, gA_sA, bk_0, bk_1, List.length_set, reduceIte, and_true, and_false, true_and, false_and, ne_eq, not_true_eq_false, not_false_eq_true, Int.toNat_natCast, Int.reduceToNat, Nat.reduceEqDiff, Int.reduceEq, Int.reduceLT, Int.reduceLE, Int.reduceAdd, Int.reduceSub, Int.reduceMul, Int.reduceNeg, hs.kd, hs.ln, hs.fs, kMs, lMs, wi_sm, e1, e18]
  obtain ⟨p1, p2, p3⟩ := set_pf (i := 174 + tt) (v := ((tkF t 0).length : Int)) hs (by omega)
  have f0 : ∀ j, gF (sA s 100 ((gA s 100).set (174 + tt) ((tkF t 0).length : Int))) 98 j = gF s 98 j := fun _ => rfl
  generalize sA s 100 ((gA s 100).set (174 + tt) ((tkF t 0).length : Int)) = s1 at p1 p2 p3 f0 ⊢
  refine lpG (fun k s => X12_lays_16 d s 98 tt k) (fun k s2 => ShM s2 ∧ Fa [100] s1 s2 ∧ (∀ j, gF s2 98 j = gF s1 98 j) ∧ ∀ j, kA s2 j = if 181 + 400 * tt ≤ j ∧ j < 181 + 400 * tt + k then cTx t (j - (181 + 400 * tt)) else if 2981 + 400 * tt ≤ j ∧ j < 2981 + 400 * tt + k then vTk (toks t) (j - (2981 + 400 * tt)) else kA s1 j) (tkF t 0).length ?_ ?_ 0 s1 (by omega) ⟨p2, Fa.rf _ _, fun _ => rfl, fun j => by rw [if_neg (by omega), if_neg (by omega)]⟩
  · intro T k s2 hk ⟨i1, i2, i3, i4⟩ hT
    have g18 : gF s2 98 18 = ((tkF t 0).length : Int) := by rw [i3, f0, e18]
    obtain ⟨k1, k2, -⟩ := K.2 k (by omega)
    have g107 : (gA s2 107).getD k 0 = cTx t k := by rw [i2 107 (by decide), p1 107 (by decide)]; exact k1
    have g108 : (gA s2 108).getD k 0 = vTk (toks t) k := by rw [i2 108 (by decide), p1 108 (by decide)]; exact k2
    have u1 : ((181 : Int) + 400 * (tt : Int) + (k : Int)).toNat = 181 + 400 * tt + k := by omega
    have u2 : ((2981 : Int) + 400 * (tt : Int) + (k : Int)).toNat = 2981 + 400 * tt + k := by omega
    have l107 : (gA s2 107).length = 401 := i1.ln 107
    have l108 : (gA s2 108).length = 401 := i1.ln 108
    rw [e_X12_lays_16]
    simp (disch := ((try simp only [kd_sF, kd_sA, gA_sF, gA_sA, gF_sF, gF_sA, List.length_set, reduceIte, and_true, and_false, true_and, false_and, Nat.reduceEqDiff, Int.reduceEq, i1.kd, i1.ln, i1.fs, kMs, lMs]); first | done | omega)) only [rF_ok, wF_ok, oK_ok, lA_ok, rA_ok, wA_ok, cI_ok, cV_ok, cL_ok, cR_ok, kd_sF, kd_sA, gA_sF, gF_sA, gF_sF, gA_sA, bk_0, bk_1, List.length_set, reduceIte, and_true, and_false, true_and, false_and, ne_eq, not_true_eq_false, not_false_eq_true, Int.toNat_natCast, Int.reduceToNat, Nat.reduceEqDiff, Int.reduceEq, Int.reduceLT, Int.reduceLE, Int.reduceAdd, Int.reduceSub, Int.reduceMul, Int.reduceNeg, i1.kd, i1.ln, i1.fs, kMs, lMs, g18, if_pos (show (k : Int) < ((tkF t 0).length : Int) by omega), wi_sm, wi_sc, u1, u2, g107, g108, sA_ov]
    refine hT _ ⟨i1.sA (by rw [List.length_set, List.length_set]), i2.tr (Fa.sA _ (by decide)), i3, fun j => ?_⟩
    have l100 : (gA s2 100).length = 5781 := i1.ln 100
    unfold kA
    rw [gA_eq, setD_getD (by rw [List.length_set]; omega), setD_getD (by omega), show (gA s2 100).getD j 0 = _ from i4 j]
    by_cases a1 : 181 + 400 * tt ≤ j ∧ j < 181 + 400 * tt + k
    · rw [if_neg (by omega), if_neg (by omega), if_pos a1, if_pos (by omega)]
    · by_cases a2 : 181 + 400 * tt + k = j
      · rw [if_neg (by omega), if_pos a2, if_pos (by omega), show j - (181 + 400 * tt) = k by omega]
      · by_cases a3 : 2981 + 400 * tt + k = j
        · rw [if_pos a3, if_neg (by omega), if_pos (by omega), show j - (2981 + 400 * tt) = k by omega]
        · rw [if_neg a3, if_neg a2, if_neg a1]
          by_cases a4 : 2981 + 400 * tt ≤ j ∧ j < 2981 + 400 * tt + k
          · rw [if_pos a4, if_neg (by omega), if_pos (by omega)]
          · rw [if_neg a4, if_neg (by omega), if_neg (by omega)]
            rfl
  · intro s2 ⟨i1, i2, i3, i4⟩
    have g18 : gF s2 98 18 = ((tkF t 0).length : Int) := by rw [i3, f0, e18]
    rw [e_X12_lays_16]
    simp (disch := ((try simp only [kd_sF, kd_sA, gA_sF, gA_sA, gF_sF, gF_sA, List.length_set, reduceIte, and_true, and_false, true_and, false_and, Nat.reduceEqDiff, Int.reduceEq, i1.kd, i1.ln, i1.fs, kMs, lMs]); first | done | omega)) only [rF_ok, wF_ok, oK_ok, lA_ok, rA_ok, wA_ok, cI_ok, cV_ok, cL_ok, cR_ok, kd_sF, kd_sA, gA_sF, gF_sA, gF_sF, gA_sA, bk_0, bk_1, List.length_set, reduceIte, and_true, and_false, true_and, false_and, ne_eq, not_true_eq_false, not_false_eq_true, Int.toNat_natCast, Int.reduceToNat, Nat.reduceEqDiff, Int.reduceEq, Int.reduceLT, Int.reduceLE, Int.reduceAdd, Int.reduceSub, Int.reduceMul, Int.reduceNeg, i1.kd, i1.ln, i1.fs, kMs, lMs, g18, Int.lt_irrefl]
    refine reV ⟨i1, p1.tr i2, fun j => (i3 j).trans (f0 j), fun j => ?_⟩
    rw [i4, p3]
    by_cases a0 : j = 174 + tt
    · rw [if_neg (by omega), if_neg (by omega), if_pos a0.symm, if_pos a0]
    · rw [if_neg a0]
      by_cases a1 : 181 + 400 * tt ≤ j ∧ j < 181 + 400 * tt + (tkF t 0).length
      · rw [if_pos a1, if_pos a1]
      · rw [if_neg a1, if_neg a1]
        by_cases a2 : 2981 + 400 * tt ≤ j ∧ j < 2981 + 400 * tt + (tkF t 0).length
        · rw [if_pos a2, if_pos a2]
        · rw [if_neg a2, if_neg a2, if_neg (fun h => a0 h.symm)]
theorem mm_law (R : RepM a s) (W : wfA a) : Gl (GI fun x s' => x = (aLaw a).1 ∧ RepM (aLaw a).2 s') (X12_law (d + 49) s 98) := by
  have hs := R.1
  have n0 : (gA s 100).getD 172 0 = (a.1.2.2.2.2.1.length : Int) := R.2.1.2.2.2.2.1.1
  have h6 := W.1.2.2.2.2.1.1
  have wt := W.2.2.2.1.1
  rw [e_X12_law]
  unfold aLaw
  simp (disch := ((try simp only [kd_sF, kd_sA, gA_sF, gA_sA, gF_sF, gF_sA, List.length_set, reduceIte, and_true, and_false, true_and, false_and, Nat.reduceEqDiff, Int.reduceEq, hs.kd, hs.ln, hs.fs, kMs, lMs]); first | done | omega)) only [rF_ok, wF_ok, oK_ok, lA_ok, rA_ok, wA_ok, cI_ok, cV_ok, cL_ok, cR_ok, kd_sF, kd_sA, gA_sF, gF_sA, gF_sF, gA_sA, bk_0, bk_1, List.length_set, reduceIte, and_true, and_false, true_and, false_and, ne_eq, not_true_eq_false, not_false_eq_true, Int.toNat_natCast, Int.reduceToNat, Nat.reduceEqDiff, Int.reduceEq, Int.reduceLT, Int.reduceLE, Int.reduceAdd, Int.reduceSub, Int.reduceMul, Int.reduceNeg, hs.kd, hs.ln, hs.fs, kMs, lMs, n0]
  by_cases h : a.1.2.2.2.2.1.length < 6
  · rw [if_pos h, if_neg (show ¬ ((a.1.2.2.2.2.1.length : Int) = 6) by omega)]
    refine biI (mm_readsAs (d := d) R W (Or.inl ⟨rfl, rfl, rfl⟩)) fun x s1 _ ⟨F1, f1, q⟩ => ?_
    cases hr : rdT a.2.2.2.1 8 with
    | error e =>
      rw [hr] at q
      obtain ⟨hx, R1⟩ := q
      rw [hx, if_pos rfl]
      exact mm_ref (d := d + 48) (v := -6) (by decide) R1 (fun _ _ => rfl)
    | ok cls =>
      rw [hr] at q
      obtain ⟨hx, R1, K1⟩ := q
      have hs1 := R1.1
      have n1 : (gA s1 100).getD 172 0 = (a.1.2.2.2.2.1.length : Int) := by rw [F1 100 (by decide), n0]
      have hn := tkF_len (t := a.2.2.2.1) a.2.2.2.1.length 0 (by omega) (by omega)
      rw [hx, if_neg (show ¬ ((1 : Int) = 0) by decide)]
      simp (disch := ((try simp only [kd_sF, kd_sA, gA_sF, gA_sA, gF_sF, gF_sA, List.length_set, reduceIte, and_true, and_false, true_and, false_and, Nat.reduceEqDiff, Int.reduceEq, hs1.kd, hs1.ln, hs1.fs, kMs, lMs]); first | done | omega)) only [rF_ok, wF_ok, oK_ok, lA_ok, rA_ok, wA_ok, cI_ok, cV_ok, cL_ok, cR_ok, kd_sF, kd_sA, gA_sF, gF_sA, gF_sF, gA_sA, bk_0, bk_1, List.length_set, reduceIte, and_true, and_false, true_and, false_and, ne_eq, not_true_eq_false, not_false_eq_true, Int.toNat_natCast, Int.reduceToNat, Nat.reduceEqDiff, Int.reduceEq, Int.reduceLT, Int.reduceLE, Int.reduceAdd, Int.reduceSub, Int.reduceMul, Int.reduceNeg, hs1.kd, hs1.ln, hs1.fs, kMs, lMs, n1]
      refine biV (m_lays (d := d + 48) (t := a.2.2.2.1) (tt := a.1.2.2.2.2.1.length) hs1 K1 (by omega) (by omega)) fun s2 _ ⟨g1, g2, g3, g4⟩ => ?_
      have n2 : (gA s2 100).getD 172 0 = (a.1.2.2.2.2.1.length : Int) := by
        have := g4 172
        rw [if_neg (by omega), if_neg (by omega), if_neg (by omega)] at this
        exact this.trans n1
      obtain ⟨p1, p2, p3⟩ := set_pf (i := 172) (v := (a.1.2.2.2.2.1.length : Int) + 1) g1 (by decide)
      have n3 : ((gA s2 100).set 172 ((a.1.2.2.2.2.1.length : Int) + 1)).getD 172 0 = (a.1.2.2.2.2.1.length : Int) + 1 := set_eq (by rw [g1.ln 100]; decide)
      have n4 : (a.1.2.2.2.2.1.length : Int) + 1 - 1 = (a.1.2.2.2.2.1.length : Int) := by omega
      simp (disch := ((try simp only [kd_sF, kd_sA, gA_sF, gA_sA, gF_sF, gF_sA, List.length_set, reduceIte, and_true, and_false, true_and, false_and, Nat.reduceEqDiff, Int.reduceEq, g1.kd, g1.ln, g1.fs, kMs, lMs]); first | done | omega)) only [rF_ok, wF_ok, oK_ok, lA_ok, rA_ok, wA_ok, cI_ok, cV_ok, cL_ok, cR_ok, kd_sF, kd_sA, gA_sF, gF_sA, gF_sF, gA_sA, bk_0, bk_1, List.length_set, reduceIte, and_true, and_false, true_and, false_and, ne_eq, not_true_eq_false, not_false_eq_true, Int.toNat_natCast, Int.reduceToNat, Nat.reduceEqDiff, Int.reduceEq, Int.reduceLT, Int.reduceLE, Int.reduceAdd, Int.reduceSub, Int.reduceMul, Int.reduceNeg, g1.kd, g1.ln, g1.fs, kMs, lMs, n2, n3, wi_sm, n4]
      have f2 : ∀ j, gF (sA s2 100 ((gA s2 100).set 172 ((a.1.2.2.2.2.1.length : Int) + 1))) 98 j = gF s1 98 j := fun j => g3 j
      have R2 : RepM (addLw (setFt (setTp a []) (-1)) (toks a.2.2.2.1)) (sA s2 100 ((gA s2 100).set 172 ((a.1.2.2.2.2.1.length : Int) + 1))) := by
        refine R1.k100 p2 (g2.tr p1) (fun k _ => f2 k) ?_
        have E : ∀ j, kA (sA s2 100 ((gA s2 100).set 172 ((a.1.2.2.2.2.1.length : Int) + 1))) j = if 172 = j then (a.1.2.2.2.2.1.length : Int) + 1 else if j = 174 + a.1.2.2.2.2.1.length then ((tkF a.2.2.2.1 0).length : Int) else if 181 + 400 * a.1.2.2.2.2.1.length ≤ j ∧ j < 181 + 400 * a.1.2.2.2.2.1.length + (tkF a.2.2.2.1 0).length then cTx a.2.2.2.1 (j - (181 + 400 * a.1.2.2.2.2.1.length)) else if 2981 + 400 * a.1.2.2.2.2.1.length ≤ j ∧ j < 2981 + 400 * a.1.2.2.2.2.1.length + (tkF a.2.2.2.1 0).length then vTk (toks a.2.2.2.1) (j - (2981 + 400 * a.1.2.2.2.2.1.length)) else kA s1 j := fun j => by rw [p3, g4]
        have N : ∀ j, j < 172 ∨ j = 173 → kA (sA s2 100 ((gA s2 100).set 172 ((a.1.2.2.2.2.1.length : Int) + 1))) j = kA s1 j := fun j hj => by rw [E, if_neg (by omega), if_neg (by omega), if_neg (by omega), if_neg (by omega)]
        obtain ⟨d1, d2, d3, d4, d5, d6⟩ := R1.2.1
        refine ⟨d1.cg (wK_ok W.1.1) fun j hj => N j (by omega), d2.cg W.1.2.1.1 fun j hj => N j (by omega), d3.cg W.1.2.2.1.1 fun j hj => N j (by omega), d4.cg fun j hj => N j (by omega), ⟨?_, fun i hi => ?_⟩, (N 173 (by omega)).trans d6⟩
        · rw [E, if_pos rfl, List.length_append]
          rfl
        · rw [List.length_append] at hi
          have hi' : i < a.1.2.2.2.2.1.length + 1 := hi
          rw [gd_app (by exact Nat.le_of_lt_succ hi')]
          by_cases ei : i = a.1.2.2.2.2.1.length
          · have ei' : i = (setFt (setTp a []) (-1)).1.2.2.2.2.1.length := ei
            rw [if_pos ei']
            subst ei
            refine ⟨?_, fun j hj => ?_⟩
            · rw [E, if_neg (by omega), if_pos rfl, toks_len]
            · rw [toks_len] at hj
              rw [E, E, if_neg (by omega), if_neg (by omega), if_pos (by omega), if_neg (by omega), if_neg (by omega), if_neg (by omega), if_pos (by omega), cTk_toks]
              exact ⟨by rw [show 181 + 400 * a.1.2.2.2.2.1.length + j - (181 + 400 * a.1.2.2.2.2.1.length) = j by omega], by rw [show 2981 + 400 * a.1.2.2.2.2.1.length + j - (2981 + 400 * a.1.2.2.2.2.1.length) = j by omega]⟩
          · have ei' : ¬ (i = (setFt (setTp a []) (-1)).1.2.2.2.2.1.length) := ei
            rw [if_neg ei']
            obtain ⟨l1, l2⟩ := d5.2 i (by show i < a.1.2.2.2.2.1.length; omega)
            have wl := (wL_ok W.1).2 i (by omega)
            have wl' : (List.getD (setFt (setTp a []) (-1)).1.2.2.2.2.1 i []).length ≤ 400 := wl
            refine ⟨?_, fun j hj => ?_⟩
            · rw [E, if_neg (by omega), if_neg (by omega), if_neg (by omega), if_neg (by omega)]
              exact l1
            · rw [E, E, if_neg (by omega), if_neg (by omega), if_neg (by omega), if_neg (by omega), if_neg (by omega), if_neg (by omega), if_neg (by omega), if_neg (by omega)]
              exact l2 j hj
      have g := mm_grant (d := d + 48) (v := (a.1.2.2.2.2.1.length : Int)) (K := fun x s' => some ([(0, x)], s')) R2 (fun _ _ => rfl)
      rw [oK_ok (R2.1.k98)] at g
      exact g
  · rw [if_neg h, if_pos (by omega)]
    have R1 : RepM (setTp a []) (sF s 98 13 0) := R.tape ⟨gF_eq _ _ _ _, fun i hi => absurd hi (by simp)⟩
    have g := mm_ref (d := d + 48) (v := -5) (K := fun x s' => some ([(0, x)], s')) (by decide) R1 (fun _ _ => rfl)
    rw [oK_ok (R1.1.k98)] at g
    exact g
end MLW
