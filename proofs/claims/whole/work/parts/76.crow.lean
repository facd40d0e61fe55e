/-! ===== the class: row ===== -/
section CRW
variable {s s' s1 : St} {a : Ab} {d : Nat} {dr : Dr}
/-- after j triples of the tape t -/
def RwI (dr : Dr) (t : List Int) (s0 : St) (j : Nat) (s : St) (c : Int) : Prop := ShC s ∧ FrK [] kPs [] s0 s ∧ (∀ k, k ≠ 14 → gF s 1 k = gF s0 1 k) ∧ gF s 1 14 = (rowN t dr.1 j).2.2 ∧ c = (rowN t dr.1 j).2.1 ∧ DrC s 3 ((rowN t dr.1 j).1, dr.2)
theorem c_row103 {v3 c L : Int} (hs : ShC s) : X11_row_103 d s 1 L c v3 = X11_row_25 d (sF s 1 14 (wi (gF s 1 14 + 1))) 1 L c (wi (v3 + 3)) := by
  rw [e_X11_row_103]
  simp (disch := ((try simp only [kd_sF, kd_sA, gA_sF, gA_sA, gF_sF, gF_sA, List.length_set, reduceIte, and_true, and_false, true_and, false_and, Nat.reduceEqDiff, Int.reduceEq, hs.o1]); first | done | omega)) only [rF_ok, wF_ok, oK_ok, lA_ok, rA_ok, wA_ok, cI_ok, cV_ok, cL_ok, cR_ok, kd_sF, kd_sA, gA_sF, gF_sA, gF_sF, gA_sA, bk_0, bk_1, List.length_set, reduceIte, and_true, and_false, true_and, false_and, ne_eq, not_true_eq_false, not_false_eq_true, Int.toNat_natCast, Int.reduceToNat, Nat.reduceEqDiff, Int.reduceEq, Int.reduceLT, Int.reduceLE, Int.reduceAdd, Int.reduceSub, Int.reduceMul, Int.reduceNeg, hs.o1]
theorem c_rowj {T : Res → Prop} {t : List Int} {s0 : St} {j : Nat} {c : Int} (W : wfDr dr) (hl : t.length ≤ 400) (hj : j < t.length / 3) (ht : ∀ i, i < t.length → af s0 2 i = t.getD i 0) (I : RwI dr t s0 j s c) (hT : ∀ s' c', RwI dr t s0 (j + 1) s' c' → Gl T (X11_row_25 (d + 2) s' 1 t.length c' (3 * (j + 1) : Nat))) : Gl T (X11_row_25 (d + 2) s 1 t.length c (3 * j : Nat)) := by
  obtain ⟨i1, i2, i3, i4, i5, i6⟩ := I
  have wfn := rowN_wf (t := t) W.1 j
  have l2 : (gA s 2).length = 400 := i1.2.1 2 (by decide) (by decide)
  have at' : ∀ i, i < t.length → (gA s 2).getD i 0 = t.getD i 0 := fun i hi => by rw [i2.2.2 2 (by decide)]; exact ht i hi
  have h0 : (gA s 2).getD (3 * j) 0 = t.getD (3 * j) 0 := at' _ (by omega)
  have h1 : (gA s 2).getD (((3 * j : Nat) : Int) + 1).toNat 0 = t.getD (3 * j + 1) 0 := by rw [show (((3 * j : Nat) : Int) + 1).toNat = 3 * j + 1 by omega]; exact at' _ (by omega)
  have h2 : (gA s 2).getD (((3 * j : Nat) : Int) + 2).toNat 0 = t.getD (3 * j + 2) 0 := by rw [show (((3 * j : Nat) : Int) + 2).toNat = 3 * j + 2 by omega]; exact at' _ (by omega)
  have e3 : ((3 * j : Nat) : Int) + 3 = ((3 * (j + 1) : Nat) : Int) := by omega
  have es : rowN t dr.1 (j + 1) = rowS t (rowN t dr.1 j) j := rfl
  have k1 : kd s 1 = 15 := i1.o1.1
  have no : ¬ (((0 ≤ t.getD (3 * j) 0 ∧ t.getD (3 * j) 0 ≤ 1) ∧ (1 ≤ t.getD (3 * j + 1) 0 ∧ t.getD (3 * j + 1) 0 ≤ 9) ∧ (1 ≤ t.getD (3 * j + 2) 0 ∧ t.getD (3 * j + 2) 0 ≤ 200)) ∧ (rowN t dr.1 j).1.length < 8) → Gl T (X11_row_103 (d + 2) s 1 t.length c (3 * j : Nat)) := by
    intro hn
    unfold rowS at es
    rw [if_neg hn] at es
    rw [c_row103 i1, i4, wi_sm (by omega) (by omega), wi_sm (by omega) (by omega), e3]
    refine hT _ _ ⟨i1.sF (by rw [k1]; decide), i2.tr (FrK.sF (by decide)), fun k hk => (gF_nk hk).trans (i3 k hk), (gF_eq _ _ _ _).trans (by rw [es]), by rw [es]; exact i5, ?_⟩
    rw [es]
    exact i6.kns (K' := (rowN t dr.1 j).1) (i1.sF (by rw [k1]; decide)) (fun _ => rfl) (fun k _ _ => gF_np (by decide)) (fun p k hp _ => gF_np (by omega)) (fun _ _ => rfl) ((gF_np (by decide)).trans i6.2.1.1) (fun i hi => (i6.2.1.2 i hi).fr ⟨rfl, rfl⟩ (fun j _ => gF_np (by omega)) rfl)
  rw [e_X11_row_25, if_pos (by omega), wi_sm (by omega) (by omega), wi_sm (by omega) (by omega), if_pos (by omega)]
  simp (disch := ((try simp only [kd_sF, kd_sA, gA_sF, gA_sA, gF_sF, gF_sA, List.length_set, reduceIte, and_true, and_false, true_and, false_and, Nat.reduceEqDiff, Int.reduceEq, i1.o1, i1.o3]); first | done | omega)) only [rF_ok, wF_ok, oK_ok, lA_ok, rA_ok, wA_ok, cI_ok, cV_ok, cL_ok, cR_ok, kd_sF, kd_sA, gA_sF, gF_sA, gF_sF, gA_sA, bk_0, bk_1, List.length_set, reduceIte, and_true, and_false, true_and, false_and, ne_eq, not_true_eq_false, not_false_eq_true, Int.toNat_natCast, Int.reduceToNat, Nat.reduceEqDiff, Int.reduceEq, Int.reduceLT, Int.reduceLE, Int.reduceAdd, Int.reduceSub, Int.reduceMul, Int.reduceNeg, i1.o1, i1.o3, h0, h1, h2, c_knotCanBe]
  generalize hx : t.getD (3 * j) 0 = x at *
  generalize hy : t.getD (3 * j + 1) 0 = y at *
  generalize hz : t.getD (3 * j + 2) 0 = z at *
  by_cases hb : (0 ≤ x ∧ x ≤ 1) ∧ (1 ≤ y ∧ y ≤ 9) ∧ (1 ≤ z ∧ z ≤ 200)
  · rw [if_pos hb, if_neg (show ¬ ((1 : Int) = 0) by decide)]
    by_cases h8 : (rowN t dr.1 j).1.length < 8
    · obtain ⟨s2, f1, f2, f3, f4, f5⟩ := c_addKnot1 (d := d) (st := x) (th := y) (cl := z) i1 i6 h8
      rw [f1, cI_ok, if_neg (show ¬ ((1 : Int) = 0) by decide), wi_sm (by omega) (by omega), wi_sm (by omega) (by omega), e3]
      unfold rowS at es
      rw [hx, hy, hz, if_pos ⟨hb, h8⟩] at es
      have I' : RwI dr t s0 (j + 1) s2 (c + 1) := by
        unfold RwI
        rw [es]
        exact ⟨f2, i2.tr f3, fun k hk => (f4 1 k (Or.inl rfl)).trans (i3 k hk), (f4 1 14 (Or.inl rfl)).trans i4, by rw [i5], f5⟩
      exact hT s2 (c + 1) I'
    · rw [c_addKnot0 (d := d) (st := x) (th := y) (cl := z) i1 i6 h8, cI_ok, if_pos rfl]
      exact no (fun e => h8 e.2)
  · rw [if_neg hb, if_pos rfl]
    exact no (fun e => hb e.1)
theorem cc_row (R : RepC a s) (W : wfA a) : Gl (GI fun r s' => r = (aRow a).1 ∧ RepC (aRow a).2 s') (X11_row (d + 2) s 1) := by
  have hs := R.1
  have k1 : kd s 1 = 15 := hs.o1.1
  obtain ⟨t1, t2⟩ := R.2.2.2.2.1
  have hl := W.2.2.2.1.1
  obtain ⟨-, -, -, -, -, ⟨f1, f2, f3, f4⟩, r7, -, -⟩ := id R
  rw [e_X11_row]
  simp only [e_X11_emptiedTape]
  unfold aRow
  simp (disch := ((try simp only [kd_sF, kd_sA, gA_sF, gA_sA, gF_sF, gF_sA, List.length_set, reduceIte, and_true, and_false, true_and, false_and, Nat.reduceEqDiff, Int.reduceEq, hs.o1]); first | done | omega)) only [rF_ok, wF_ok, oK_ok, lA_ok, rA_ok, wA_ok, cI_ok, cV_ok, cL_ok, cR_ok, kd_sF, kd_sA, gA_sF, gF_sA, gF_sF, gA_sA, bk_0, bk_1, List.length_set, reduceIte, and_true, and_false, true_and, false_and, ne_eq, not_true_eq_false, not_false_eq_true, Int.toNat_natCast, Int.reduceToNat, Nat.reduceEqDiff, Int.reduceEq, Int.reduceLT, Int.reduceLE, Int.reduceAdd, Int.reduceSub, Int.reduceMul, Int.reduceNeg, hs.o1, t1]
  have hs1 : ShC (sF s 1 1 0) := hs.sF (by rw [k1]; decide)
  by_cases h : a.2.2.2.1.length = 0
  · rw [if_pos (show (a.2.2.2.1.length : Int) = 0 by omega), if_pos h]
    have hn : a.2.2.2.1 = [] := List.eq_nil_of_length_eq_zero h
    have R1 : RepC a (sF s 1 1 0) := by
      have := R.m (t := []) (f := a.2.2.2.2.1) (r := a.2.2.2.2.2.1) W (FrK.sF (by decide)) hs1 ⟨gF_eq _ _ _ _, fun i hi => absurd hi (by simp)⟩ ⟨(gF_nk (by decide)).trans f1, (gF_nk (by decide)).trans f2, (gF_nk (by decide)).trans f3, (gF_np (by decide)).trans f4⟩ r7
      rw [← hn] at this
      exact this
    exact cc_ref (by decide) R1 W fun _ _ => rfl
  · rw [if_neg (show ¬ ((a.2.2.2.1.length : Int) = 0) by omega), if_neg h]
    have hs2 : ShC (sF (sF s 1 1 0) 1 14 0) := hs1.sF (by rw [kd_sF, k1]; decide)
    have F2 : FrK [] kPs [] s (sF (sF s 1 1 0) 1 14 0) := (FrK.sF (by decide)).tr (FrK.sF (by decide))
    have D2 : DrC (sF (sF s 1 1 0) 1 14 0) 3 a.1 := R.2.1.kns (K' := a.1.1) hs2 (fun _ => rfl) (fun k _ _ => by rw [gF_np (by decide), gF_np (by decide)]) (fun p k hp _ => by rw [gF_np (by omega), gF_np (by omega)]) (fun _ _ => rfl) (by rw [gF_np (by decide), gF_np (by decide)]; exact R.2.1.2.1.1) (fun i hi => (R.2.1.2.1.2 i hi).fr ⟨rfl, rfl⟩ (fun j _ => by rw [gF_np (by omega), gF_np (by omega)]) rfl)
    have g1 : gF (sF (sF s 1 1 0) 1 14 0) 1 1 = 0 := by rw [gF_nk (by decide), gF_eq]
    have g12 : gF (sF (sF s 1 1 0) 1 14 0) 1 12 = a.2.2.2.2.1.1 := by rw [gF_nk (by decide), gF_nk (by decide)]; exact f1
    have g13 : gF (sF (sF s 1 1 0) 1 14 0) 1 13 = a.2.2.2.2.1.2.2.1 := by rw [gF_nk (by decide), gF_nk (by decide)]; exact f3
    have g14 : gF (sF (sF s 1 1 0) 1 14 0) 1 14 = 0 := gF_eq _ _ _ _
    have g75 : gF (sF (sF s 1 1 0) 1 14 0) 75 3 = a.2.2.2.2.1.2.2.2 := by rw [gF_np (by decide), gF_np (by decide)]; exact f4
    have t2' : ∀ i, i < a.2.2.2.1.length → af (sF (sF s 1 1 0) 1 14 0) 2 i = a.2.2.2.1.getD i 0 := t2
    generalize sF (sF s 1 1 0) 1 14 0 = S at *
    -- the end
    have fin : ∀ (s' : St) (c lint : Int), ShC s' → FrK [] kPs [] S s' → (∀ k, k ≠ 14 → gF s' 1 k = gF S 1 k) → gF s' 1 14 = lint → DrC s' 3 ((rowN a.2.2.2.1 a.1.1 (a.2.2.2.1.length / 3)).1, a.1.2) → c = (rowN a.2.2.2.1 a.1.1 (a.2.2.2.1.length / 3)).2.1 → lint = (rowN a.2.2.2.1 a.1.1 (a.2.2.2.1.length / 3)).2.2 + (if a.2.2.2.1.length % 3 = 0 then 0 else 1) → ∀ v3 : Int, ¬ (v3 < a.2.2.2.1.length) → Gl (GI fun r s' => r = (rowN a.2.2.2.1 a.1.1 (a.2.2.2.1.length / 3)).2.1 ∧ RepC (((rowN a.2.2.2.1 a.1.1 (a.2.2.2.1.length / 3)).1, a.1.2), a.2.1, [], [], (0, (rowN a.2.2.2.1 a.1.1 (a.2.2.2.1.length / 3)).2.2 + (if a.2.2.2.1.length % 3 = 0 then 0 else 1), a.2.2.2.2.1.2.2), a.2.2.2.2.2) s') (X11_row_25 (d + 2) s' 1 a.2.2.2.1.length c v3) := by
      intro s' c lint q1 q2 q3 q4 q5 q6 q7 v3 q8
      have wfn := rowN_wf (t := a.2.2.2.1) W.1.1 (a.2.2.2.1.length / 3)
      rw [e_X11_row_25, if_neg q8]
      simp (disch := ((try simp only [kd_sF, kd_sA, gA_sF, gA_sA, gF_sF, gF_sA, List.length_set, reduceIte, and_true, and_false, true_and, false_and, Nat.reduceEqDiff, Int.reduceEq, q1.o1, q1.o3, q1.o10]); first | done | omega)) only [rF_ok, wF_ok, oK_ok, lA_ok, rA_ok, wA_ok, cI_ok, cV_ok, cL_ok, cR_ok, kd_sF, kd_sA, gA_sF, gF_sA, gF_sF, gA_sA, bk_0, bk_1, List.length_set, reduceIte, and_true, and_false, true_and, false_and, ne_eq, not_true_eq_false, not_false_eq_true, Int.toNat_natCast, Int.reduceToNat, Nat.reduceEqDiff, Int.reduceEq, Int.reduceLT, Int.reduceLE, Int.reduceAdd, Int.reduceSub, Int.reduceMul, Int.reduceNeg, q1.o1, q1.o3, q1.o10]
      rw [e_X9_clear]
      obtain ⟨R3, hs3⟩ := R.settle2 (t := []) (f := (a.2.2.2.2.1.1, lint, a.2.2.2.2.1.2.2)) W q1 (F2.tr q2) (by decide) (by decide) (by decide) q5 ⟨(q3 1 (by decide)).trans g1, fun i hi => absurd hi (by simp)⟩ ⟨(q3 12 (by decide)).trans g12, q4, (q3 13 (by decide)).trans g13, (q2.2.1 75 3 (by decide) List.not_mem_nil (by decide)).trans g75⟩
      simp (disch := ((try simp only [kd_sF, kd_sA, gA_sF, gA_sA, gF_sF, gF_sA, List.length_set, reduceIte, and_true, and_false, true_and, false_and, Nat.reduceEqDiff, Int.reduceEq, q1.o1, q1.o10]); first | done | omega)) only [rF_ok, wF_ok, oK_ok, lA_ok, rA_ok, wA_ok, cI_ok, cV_ok, cL_ok, cR_ok, kd_sF, kd_sA, gA_sF, gF_sA, gF_sF, gA_sA, bk_0, bk_1, List.length_set, reduceIte, and_true, and_false, true_and, false_and, ne_eq, not_true_eq_false, not_false_eq_true, Int.toNat_natCast, Int.reduceToNat, Nat.reduceEqDiff, Int.reduceEq, Int.reduceLT, Int.reduceLE, Int.reduceAdd, Int.reduceSub, Int.reduceMul, Int.reduceNeg, q1.o1, q1.o10]
      have Wn : wfA ((((rowN a.2.2.2.1 a.1.1 (a.2.2.2.1.length / 3)).1, a.1.2), a.2.1, [], [], (a.2.2.2.2.1.1, lint, a.2.2.2.2.1.2.2), a.2.2.2.2.2) : Ab) := ⟨⟨wfn.1, W.1.2⟩, W.2.1, ⟨by simp, fun x hx => absurd hx (by simp)⟩, ⟨by simp, fun x hx => absurd hx (by simp)⟩, W.2.2.2.2⟩
      obtain ⟨s'', e1, e2⟩ := c_granted (d := d + 1) R3 Wn c
      rw [e1, cI_ok]
      rw [q7] at e2
      exact reI ⟨q6, e2⟩
    refine lpG (fun j (b : St × Int) => X11_row_25 (d + 2) b.1 1 a.2.2.2.1.length b.2 (3 * j : Nat)) (fun j b => RwI a.1 a.2.2.2.1 S j b.1 b.2) (a.2.2.2.1.length / 3) ?_ ?_ 0 (S, 0) (by omega) ⟨hs2, FrK.rf _ _ _ _, fun _ _ => rfl, g14, rfl, D2⟩
    · intro T j ⟨s1, c1⟩ hj I hT
      exact c_rowj W.1 hl hj t2' I fun s' c' I' => hT (s', c') I'
    · intro ⟨s1, c1⟩ ⟨i1, i2, i3, i4, i5, i6⟩
      dsimp only at i1 i2 i3 i4 i5 i6 ⊢
      by_cases hm : a.2.2.2.1.length % 3 = 0
      · exact fin s1 c1 _ i1 i2 i3 i4 i6 i5 (by rw [if_pos hm, Int.add_zero]) _ (by omega)
      · have wfn := rowN_wf (t := a.2.2.2.1) W.1.1 (a.2.2.2.1.length / 3)
        have k1' : kd s1 1 = 15 := i1.o1.1
        rw [e_X11_row_25, if_pos (show ((3 * (a.2.2.2.1.length / 3) : Nat) : Int) < (a.2.2.2.1.length : Int) by omega), wi_sm (x := ((3 * (a.2.2.2.1.length / 3) : Nat) : Int) + 2) (by omega) (by omega), if_neg (show ¬ (((3 * (a.2.2.2.1.length / 3) : Nat) : Int) + 2 < (a.2.2.2.1.length : Int)) by omega), c_row103 i1, i4, wi_sm (by omega) (by omega), wi_sm (by omega) (by omega)]
        exact fin _ c1 _ (i1.sF (by rw [k1']; decide)) (i2.tr (FrK.sF (by decide))) (fun k hk => (gF_nk hk).trans (i3 k hk)) (gF_eq _ _ _ _) (i6.kns (K' := (rowN a.2.2.2.1 a.1.1 (a.2.2.2.1.length / 3)).1) (i1.sF (by rw [k1']; decide)) (fun _ => rfl) (fun k _ _ => gF_np (by decide)) (fun p k hp _ => gF_np (by omega)) (fun _ _ => rfl) ((gF_np (by decide)).trans i6.2.1.1) (fun i hi => (i6.2.1.2 i hi).fr ⟨rfl, rfl⟩ (fun j _ => gF_np (by omega)) rfl)) i5 (by rw [if_neg hm]) _ (by omega)
end CRW
