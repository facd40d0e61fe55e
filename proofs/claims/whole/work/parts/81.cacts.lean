/-! ===== the class: the calls lay, through, draw, mirror, undo ===== -/
section WFA
variable {a : Ab} {k : Kn} {q : Int}
theorem pushH_len {H : Hi} {x : Int} {K : List Kn} (h : H.length ≤ 16) : (pushH H x K).length ≤ 16 := by
  unfold pushH
  rw [List.length_append]
  split
  · rw [List.length_tail]; simp; omega
  · simp; omega
theorem pushH_mem {H : Hi} {x : Int} {K : List Kn} {y : Int × List Kn} (h : y ∈ pushH H x K) : y ∈ H ∨ y = (x, K) := by
  unfold pushH at h
  rcases List.mem_append.mp h with h | h
  · left
    split at h
    · exact List.mem_of_mem_tail h
    · exact h
  · exact Or.inr (List.mem_singleton.mp h)
theorem wfKns_set {K : List Kn} {i : Nat} (h : wfKns K) (hk : wfKn k) : wfKns (K.set i k) := by
  refine ⟨by rw [List.length_set]; exact h.1, fun x hx => ?_⟩
  rcases List.mem_or_eq_of_mem_set hx with h1 | h1
  · exact h.2 x h1
  · rw [h1]; exact hk
theorem wfA_setK {kind : Int} (W : wfA a) (hk : wfKn k) (hn : 0 ≤ kind ∧ kind ≤ 3) : wfA (setK a q k kind) := by
  refine ⟨⟨wfKns_set W.1.1 hk, W.1.2⟩, W.2.1, ⟨pushH_len W.2.2.1.1, fun x hx => ?_⟩, W.2.2.2⟩
  show wfKns x.2 ∧ x.2.length = (a.1.1.set q.toNat k).length ∧ (0 ≤ x.1 ∧ x.1 ≤ 3)
  rw [List.length_set]
  rcases pushH_mem hx with h | h
  · exact W.2.2.1.2 x h
  · rw [h]; exact ⟨W.1.1, rfl, hn⟩
theorem pF_push {x : Int} {j : Nat} (h : j ≤ kLen k) : pF (knPush k x) j = if j = kLen k then x else pF k j := by
  unfold pF knPush
  dsimp only
  by_cases e : j = kLen k
  · rw [if_pos e, e]; exact gdApp2
  · rw [if_neg e]; exact gdApp (show j < k.2.2.2.2.length by unfold kLen at h e; omega)
theorem wfKn_push {x : Int} (w : wfKn k) (h0 : k.2.2.2.1 = 0) (hl : kLen k < 12) (hx : 0 ≤ x ∧ x ≤ 2) (hne : lastP k ≠ x) : wfKn (knPush k x) := by
  obtain ⟨w1, w2, w3, w4, w5, w6, w7, w8⟩ := w
  have el : kLen (knPush k x) = kLen k + 1 := by unfold kLen knPush; simp
  refine ⟨w1, w2, w3, w4, by rw [el]; omega, fun j hj => ?_, fun j hj => ?_, fun e => ?_⟩
  · rw [el] at hj
    rw [pF_push (by omega)]
    split
    · unfold pl3; omega
    · exact w6 j (by omega)
  · rw [el] at hj
    rw [pF_push (by omega), pF_push (by omega), if_neg (show ¬ (j = kLen k) by omega)]
    split
    · rename_i e
      unfold lastP at hne
      rw [if_neg (by omega)] at hne
      rw [show j = kLen k - 1 by omega]
      exact fun e => hne e.symm
    · exact w7 j (by omega)
  · have : k.2.2.2.1 = 1 := e
    omega
theorem canT_3 {st : Int} {f : Nat → Int} {n : Nat} (h : canT st f n = true) : 3 ≤ n := by
  unfold canT at h
  rw [Bool.and_eq_true] at h
  exact of_decide_eq_true h.1
theorem wfKn_thr {v : Int} (w : wfKn k) (hv : v = 0 ∨ (v = 1 ∧ 3 ≤ kLen k)) : wfKn (knThr k v) := by
  obtain ⟨w1, w2, w3, w4, w5, w6, w7, w8⟩ := w
  refine ⟨w1, w2, w3, by show v = 0 ∨ v = 1; omega, w5, w6, w7, fun e => ?_⟩
  have : v = 1 := e
  show 3 ≤ kLen k
  omega
theorem pF_pop {j : Nat} (h : j < kLen k - 1) : pF (knPop k) j = pF k j := by
  unfold pF knPop
  dsimp only
  rw [List.getD_eq_getElem?_getD, List.getD_eq_getElem?_getD, List.getElem?_dropLast, if_pos (by unfold kLen at h; exact h)]
theorem wfKn_pop (w : wfKn k) (h0 : k.2.2.2.1 = 0) : wfKn (knPop k) := by
  obtain ⟨w1, w2, w3, w4, w5, w6, w7, w8⟩ := w
  have el : kLen (knPop k) = kLen k - 1 := by unfold kLen knPop; exact List.length_dropLast
  refine ⟨w1, w2, w3, w4, by rw [el]; omega, fun j hj => ?_, fun j hj => ?_, fun e => ?_⟩
  · rw [el] at hj
    rw [pF_pop hj]; exact w6 j (by omega)
  · rw [el] at hj
    rw [pF_pop hj, pF_pop (by omega)]; exact w7 j (by omega)
  · have : k.2.2.2.1 = 1 := e
    omega
theorem pF_mir {j : Nat} (h : j < kLen k) : pF (knMir k) j = mir (pF k j) := by
  unfold pF knMir
  dsimp only
  have hj' : j < k.2.2.2.2.length := h
  rw [List.getD_eq_getElem?_getD, List.getD_eq_getElem?_getD, List.getElem?_map, List.getElem?_eq_getElem hj']
  rfl
theorem wfKn_mir (w : wfKn k) : wfKn (knMir k) := by
  obtain ⟨w1, w2, w3, w4, w5, w6, w7, w8⟩ := w
  have el : kLen (knMir k) = kLen k := by unfold kLen knMir; exact List.length_map _
  refine ⟨w1, w2, w3, w4, by rw [el]; exact w5, fun j hj => ?_, fun j hj => ?_, fun e => by rw [el]; exact w8 e⟩
  · rw [el] at hj
    rw [pF_mir hj]; exact mir_pl (w6 j hj)
  · rw [el] at hj
    rw [pF_mir hj, pF_mir (by omega)]
    intro e
    refine w7 j hj ?_
    rw [← mir_mir (w6 (j + 1) hj), e, mir_mir (w6 j (by omega))]
theorem wf_dLay {pl : Int} (W : wfA a) : wfA (dLay a q pl).2 ∧ ((dLay a q pl).1 < 0 → (dLay a q pl).1 = -1 ∨ (dLay a q pl).1 = -2 ∨ (dLay a q pl).1 = -3 ∨ (dLay a q pl).1 = -5 ∨ (dLay a q pl).1 = -6) := by
  unfold dLay
  split
  · exact ⟨W, fun _ => by dsimp only; decide⟩
  split
  · exact ⟨W, fun _ => by dsimp only; decide⟩
  split
  · exact ⟨W, fun _ => by dsimp only; decide⟩
  split
  · exact ⟨W, fun _ => by dsimp only; decide⟩
  split
  · exact ⟨W, fun _ => by dsimp only; decide⟩
  · rename_i h1 h2 h3 h4 h5
    have hq0 := Decidable.not_not.mp h2
    have hq : isKn a.1 q := hq0
    have wk := wfKn_q W.1 hq
    refine ⟨wfA_setK W (wfKn_push wk ?_ (Decidable.not_not.mp h4) (Decidable.not_not.mp h1) (fun e => h3 (Or.inr e))) (by decide), fun h => ?_⟩
    · rcases wk.2.2.2.1 with e | e
      · exact e
      · exact absurd (Or.inl e) h3
    · dsimp only at h; omega
theorem wf_dThr (W : wfA a) : wfA (dThr a q).2 ∧ ((dThr a q).1 < 0 → (dThr a q).1 = -1 ∨ (dThr a q).1 = -2 ∨ (dThr a q).1 = -3 ∨ (dThr a q).1 = -5 ∨ (dThr a q).1 = -6) := by
  unfold dThr
  split
  · exact ⟨W, fun _ => by dsimp only; decide⟩
  split
  · exact ⟨W, fun _ => by dsimp only; decide⟩
  · rename_i h2 h3
    have hq0 := Decidable.not_not.mp h2
    have hq : isKn a.1 q := hq0
    have wk := wfKn_q W.1 hq
    refine ⟨wfA_setK W (wfKn_thr wk (Or.inr ⟨rfl, canT_3 (st := (knQ a.1 q).1) (f := pF (knQ a.1 q)) ?_⟩)) (by decide), fun h => ?_⟩
    · cases hc : canT (knQ a.1 q).1 (pF (knQ a.1 q)) (kLen (knQ a.1 q)) with
      | true => rfl
      | false => exact absurd (Or.inr hc) h3
    · dsimp only at h; omega
theorem wf_dDrw (W : wfA a) : wfA (dDrw a q).2 ∧ ((dDrw a q).1 < 0 → (dDrw a q).1 = -1 ∨ (dDrw a q).1 = -2 ∨ (dDrw a q).1 = -3 ∨ (dDrw a q).1 = -5 ∨ (dDrw a q).1 = -6) := by
  unfold dDrw
  split
  · exact ⟨W, fun _ => by dsimp only; decide⟩
  split
  · exact ⟨W, fun _ => by dsimp only; decide⟩
  rename_i h2 h3
  have hq0 := Decidable.not_not.mp h2
  have hq : isKn a.1 q := hq0
  have wk := wfKn_q W.1 hq
  split
  · exact ⟨wfA_setK W (wfKn_thr wk (Or.inl rfl)) (by decide), fun h => by dsimp only at h; omega⟩
  · rename_i h4
    refine ⟨wfA_setK W (wfKn_pop wk ?_) (by decide), fun h => by dsimp only at h; omega⟩
    rcases wk.2.2.2.1 with e | e
    · exact e
    · exact absurd e h4
theorem wf_dMir (W : wfA a) : wfA (dMir a q).2 ∧ ((dMir a q).1 < 0 → (dMir a q).1 = -1 ∨ (dMir a q).1 = -2 ∨ (dMir a q).1 = -3 ∨ (dMir a q).1 = -5 ∨ (dMir a q).1 = -6) := by
  unfold dMir
  split
  · exact ⟨W, fun _ => by dsimp only; decide⟩
  · rename_i h2
    have hq0 := Decidable.not_not.mp h2
    have hq : isKn a.1 q := hq0
    exact ⟨wfA_setK W (wfKn_mir (wfKn_q W.1 hq)) (by decide), fun h => by dsimp only at h; omega⟩
theorem wf_dUnd (W : wfA a) : wfA (dUnd a).2 ∧ ((dUnd a).1 < 0 → (dUnd a).1 = -1 ∨ (dUnd a).1 = -2 ∨ (dUnd a).1 = -3 ∨ (dUnd a).1 = -5 ∨ (dUnd a).1 = -6) := by
  unfold dUnd
  split
  · exact ⟨W, fun _ => by dsimp only; decide⟩
  · rename_i h
    have wH := W.2.2.1.2 _ (gdMem (a := (0, [])) (show a.2.2.1.length - 1 < a.2.2.1.length by omega))
    refine ⟨⟨⟨wH.1, W.1.2⟩, W.2.1, ⟨by show a.2.2.1.dropLast.length ≤ 16; rw [List.length_dropLast]; have := W.2.2.1.1; omega, fun x hx => ?_⟩, W.2.2.2⟩, fun h => ?_⟩
    · have hm := W.2.2.1.2 x ((List.dropLast_sublist _).mem hx)
      exact ⟨hm.1, hm.2.1.trans wH.2.1.symm, hm.2.2⟩
    · dsimp only at h; omega
end WFA
section CAE
variable {s s' : St} {a : Ab} {d : Nat}
def aOut (r : Int × Ab) : Int × Ab := outA r.2 r.1
theorem cc_lay {q pl : Int} (R : RepC a s) (W : wfA a) : Gl (GI fun x s' => x = (aOut (dLay a q pl)).1 ∧ RepC (aOut (dLay a q pl)).2 s') (X11_lay (d + 5) s 1 q pl) := by
  have hs := R.1
  rw [e_X11_lay]
  simp (disch := ((try simp only [kd_sF, kd_sA, gA_sF, gA_sA, gF_sF, gF_sA, List.length_set, reduceIte, and_true, and_false, true_and, false_and, Nat.reduceEqDiff, Int.reduceEq, hs.o1]); first | done | omega)) only [rF_ok, wF_ok, oK_ok, lA_ok, rA_ok, wA_ok, cI_ok, cV_ok, cL_ok, cR_ok, kd_sF, kd_sA, gA_sF, gF_sA, gF_sF, gA_sA, bk_0, bk_1, List.length_set, reduceIte, and_true, and_false, true_and, false_and, ne_eq, not_true_eq_false, not_false_eq_true, Int.toNat_natCast, Int.reduceToNat, Nat.reduceEqDiff, Int.reduceEq, Int.reduceLT, Int.reduceLE, Int.reduceAdd, Int.reduceSub, Int.reduceMul, Int.reduceNeg, hs.o1]
  refine biI (c_layOn (d := d) R W) fun x s1 _ ⟨e1, e2, _⟩ => ?_
  have h1 := e2.1
  simp (disch := ((try simp only [kd_sF, kd_sA, gA_sF, gA_sA, gF_sF, gF_sA, List.length_set, reduceIte, and_true, and_false, true_and, false_and, Nat.reduceEqDiff, Int.reduceEq, h1.o1]); first | done | omega)) only [rF_ok, wF_ok, oK_ok, lA_ok, rA_ok, wA_ok, cI_ok, cV_ok, cL_ok, cR_ok, kd_sF, kd_sA, gA_sF, gF_sA, gF_sF, gA_sA, bk_0, bk_1, List.length_set, reduceIte, and_true, and_false, true_and, false_and, ne_eq, not_true_eq_false, not_false_eq_true, Int.toNat_natCast, Int.reduceToNat, Nat.reduceEqDiff, Int.reduceEq, Int.reduceLT, Int.reduceLE, Int.reduceAdd, Int.reduceSub, Int.reduceMul, Int.reduceNeg, h1.o1]
  subst e1
  exact cc_outcome (d := d + 3) (wf_dLay W).2 e2 (wf_dLay W).1 fun _ _ => rfl
theorem cc_through {q : Int} (R : RepC a s) (W : wfA a) : Gl (GI fun x s' => x = (aOut (dThr a q)).1 ∧ RepC (aOut (dThr a q)).2 s') (X11_through (d + 5) s 1 q) := by
  have hs := R.1
  rw [e_X11_through]
  simp (disch := ((try simp only [kd_sF, kd_sA, gA_sF, gA_sA, gF_sF, gF_sA, List.length_set, reduceIte, and_true, and_false, true_and, false_and, Nat.reduceEqDiff, Int.reduceEq, hs.o1]); first | done | omega)) only [rF_ok, wF_ok, oK_ok, lA_ok, rA_ok, wA_ok, cI_ok, cV_ok, cL_ok, cR_ok, kd_sF, kd_sA, gA_sF, gF_sA, gF_sF, gA_sA, bk_0, bk_1, List.length_set, reduceIte, and_true, and_false, true_and, false_and, ne_eq, not_true_eq_false, not_false_eq_true, Int.toNat_natCast, Int.reduceToNat, Nat.reduceEqDiff, Int.reduceEq, Int.reduceLT, Int.reduceLE, Int.reduceAdd, Int.reduceSub, Int.reduceMul, Int.reduceNeg, hs.o1]
  refine biI (c_putThrough (d := d + 1) R W) fun x s1 _ ⟨e1, e2, _⟩ => ?_
  have h1 := e2.1
  simp (disch := ((try simp only [kd_sF, kd_sA, gA_sF, gA_sA, gF_sF, gF_sA, List.length_set, reduceIte, and_true, and_false, true_and, false_and, Nat.reduceEqDiff, Int.reduceEq, h1.o1]); first | done | omega)) only [rF_ok, wF_ok, oK_ok, lA_ok, rA_ok, wA_ok, cI_ok, cV_ok, cL_ok, cR_ok, kd_sF, kd_sA, gA_sF, gF_sA, gF_sF, gA_sA, bk_0, bk_1, List.length_set, reduceIte, and_true, and_false, true_and, false_and, ne_eq, not_true_eq_false, not_false_eq_true, Int.toNat_natCast, Int.reduceToNat, Nat.reduceEqDiff, Int.reduceEq, Int.reduceLT, Int.reduceLE, Int.reduceAdd, Int.reduceSub, Int.reduceMul, Int.reduceNeg, h1.o1]
  subst e1
  exact cc_outcome (d := d + 3) (wf_dThr W).2 e2 (wf_dThr W).1 fun _ _ => rfl
theorem cc_draw {q : Int} (R : RepC a s) (W : wfA a) : Gl (GI fun x s' => x = (aOut (dDrw a q)).1 ∧ RepC (aOut (dDrw a q)).2 s') (X11_draw (d + 5) s 1 q) := by
  have hs := R.1
  rw [e_X11_draw]
  simp (disch := ((try simp only [kd_sF, kd_sA, gA_sF, gA_sA, gF_sF, gF_sA, List.length_set, reduceIte, and_true, and_false, true_and, false_and, Nat.reduceEqDiff, Int.reduceEq, hs.o1]); first | done | omega)) only [rF_ok, wF_ok, oK_ok, lA_ok, rA_ok, wA_ok, cI_ok, cV_ok, cL_ok, cR_ok, kd_sF, kd_sA, gA_sF, gF_sA, gF_sF, gA_sA, bk_0, bk_1, List.length_set, reduceIte, and_true, and_false, true_and, false_and, ne_eq, not_true_eq_false, not_false_eq_true, Int.toNat_natCast, Int.reduceToNat, Nat.reduceEqDiff, Int.reduceEq, Int.reduceLT, Int.reduceLE, Int.reduceAdd, Int.reduceSub, Int.reduceMul, Int.reduceNeg, hs.o1]
  refine biI (c_drawBack (d := d + 1) R W) fun x s1 _ ⟨e1, e2, _⟩ => ?_
  have h1 := e2.1
  simp (disch := ((try simp only [kd_sF, kd_sA, gA_sF, gA_sA, gF_sF, gF_sA, List.length_set, reduceIte, and_true, and_false, true_and, false_and, Nat.reduceEqDiff, Int.reduceEq, h1.o1]); first | done | omega)) only [rF_ok, wF_ok, oK_ok, lA_ok, rA_ok, wA_ok, cI_ok, cV_ok, cL_ok, cR_ok, kd_sF, kd_sA, gA_sF, gF_sA, gF_sF, gA_sA, bk_0, bk_1, List.length_set, reduceIte, and_true, and_false, true_and, false_and, ne_eq, not_true_eq_false, not_false_eq_true, Int.toNat_natCast, Int.reduceToNat, Nat.reduceEqDiff, Int.reduceEq, Int.reduceLT, Int.reduceLE, Int.reduceAdd, Int.reduceSub, Int.reduceMul, Int.reduceNeg, h1.o1]
  subst e1
  exact cc_outcome (d := d + 3) (wf_dDrw W).2 e2 (wf_dDrw W).1 fun _ _ => rfl
theorem cc_mirror {q : Int} (R : RepC a s) (W : wfA a) : Gl (GI fun x s' => x = (aOut (dMir a q)).1 ∧ RepC (aOut (dMir a q)).2 s') (X11_mirror (d + 5) s 1 q) := by
  have hs := R.1
  rw [e_X11_mirror]
  simp (disch := ((try simp only [kd_sF, kd_sA, gA_sF, gA_sA, gF_sF, gF_sA, List.length_set, reduceIte, and_true, and_false, true_and, false_and, Nat.reduceEqDiff, Int.reduceEq, hs.o1]); first | done | omega)) only [rF_ok, wF_ok, oK_ok, lA_ok, rA_ok, wA_ok, cI_ok, cV_ok, cL_ok, cR_ok, kd_sF, kd_sA, gA_sF, gF_sA, gF_sF, gA_sA, bk_0, bk_1, List.length_set, reduceIte, and_true, and_false, true_and, false_and, ne_eq, not_true_eq_false, not_false_eq_true, Int.toNat_natCast, Int.reduceToNat, Nat.reduceEqDiff, Int.reduceEq, Int.reduceLT, Int.reduceLE, Int.reduceAdd, Int.reduceSub, Int.reduceMul, Int.reduceNeg, hs.o1]
  refine biI (c_turnOver (d := d + 1) R W) fun x s1 _ ⟨e1, e2, _⟩ => ?_
  have h1 := e2.1
  simp (disch := ((try simp only [kd_sF, kd_sA, gA_sF, gA_sA, gF_sF, gF_sA, List.length_set, reduceIte, and_true, and_false, true_and, false_and, Nat.reduceEqDiff, Int.reduceEq, h1.o1]); first | done | omega)) only [rF_ok, wF_ok, oK_ok, lA_ok, rA_ok, wA_ok, cI_ok, cV_ok, cL_ok, cR_ok, kd_sF, kd_sA, gA_sF, gF_sA, gF_sF, gA_sA, bk_0, bk_1, List.length_set, reduceIte, and_true, and_false, true_and, false_and, ne_eq, not_true_eq_false, not_false_eq_true, Int.toNat_natCast, Int.reduceToNat, Nat.reduceEqDiff, Int.reduceEq, Int.reduceLT, Int.reduceLE, Int.reduceAdd, Int.reduceSub, Int.reduceMul, Int.reduceNeg, h1.o1]
  subst e1
  exact cc_outcome (d := d + 3) (wf_dMir W).2 e2 (wf_dMir W).1 fun _ _ => rfl
theorem cc_undo (R : RepC a s) (W : wfA a) : Gl (GI fun x s' => x = (aOut (dUnd a)).1 ∧ RepC (aOut (dUnd a)).2 s') (X11_undo (d + 5) s 1) := by
  have hs := R.1
  rw [e_X11_undo]
  simp (disch := ((try simp only [kd_sF, kd_sA, gA_sF, gA_sA, gF_sF, gF_sA, List.length_set, reduceIte, and_true, and_false, true_and, false_and, Nat.reduceEqDiff, Int.reduceEq, hs.o1]); first | done | omega)) only [rF_ok, wF_ok, oK_ok, lA_ok, rA_ok, wA_ok, cI_ok, cV_ok, cL_ok, cR_ok, kd_sF, kd_sA, gA_sF, gF_sA, gF_sF, gA_sA, bk_0, bk_1, List.length_set, reduceIte, and_true, and_false, true_and, false_and, ne_eq, not_true_eq_false, not_false_eq_true, Int.toNat_natCast, Int.reduceToNat, Nat.reduceEqDiff, Int.reduceEq, Int.reduceLT, Int.reduceLE, Int.reduceAdd, Int.reduceSub, Int.reduceMul, Int.reduceNeg, hs.o1]
  refine biI (c_undoLatest (d := d + 1) R W) fun x s1 _ ⟨e1, e2⟩ => ?_
  have h1 := e2.1
  simp (disch := ((try simp only [kd_sF, kd_sA, gA_sF, gA_sA, gF_sF, gF_sA, List.length_set, reduceIte, and_true, and_false, true_and, false_and, Nat.reduceEqDiff, Int.reduceEq, h1.o1]); first | done | omega)) only [rF_ok, wF_ok, oK_ok, lA_ok, rA_ok, wA_ok, cI_ok, cV_ok, cL_ok, cR_ok, kd_sF, kd_sA, gA_sF, gF_sA, gF_sF, gA_sA, bk_0, bk_1, List.length_set, reduceIte, and_true, and_false, true_and, false_and, ne_eq, not_true_eq_false, not_false_eq_true, Int.toNat_natCast, Int.reduceToNat, Nat.reduceEqDiff, Int.reduceEq, Int.reduceLT, Int.reduceLE, Int.reduceAdd, Int.reduceSub, Int.reduceMul, Int.reduceNeg, h1.o1]
  subst e1
  exact cc_outcome (d := d + 3) (wf_dUnd W).2 e2 (wf_dUnd W).1 fun _ _ => rfl
end CAE
