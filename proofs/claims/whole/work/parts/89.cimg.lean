/-! ===== the class: the call image ===== -/
def D00 : Dr := ([], [], [], (0, 3, 2), [], -1)
theorem wf_D00 : wfDr D00 := by
  refine ⟨⟨by decide, fun x hx => absurd hx (by simp [D00])⟩, ⟨by decide, fun x hx => absurd hx (by simp [D00])⟩, ⟨by decide, fun x hx => absurd hx (by simp [D00])⟩, ⟨by decide, by decide, by decide⟩, ⟨by decide, fun x hx => absurd hx (by simp [D00])⟩, by decide⟩
section CKG
variable {s s' s0 : St} {a : Ab} {d : Nat} {n : Int}
theorem NwD.dr (h : NwD s0 s n) : DrC s n D00 := by
  obtain ⟨h1, ⟨f1, f3, f6, f9, f10, -, a5⟩, -⟩ := h
  exact ⟨h1, ⟨f1, fun i hi => absurd hi (by simp [D00])⟩, ⟨f3, fun i hi => absurd hi (by simp [D00])⟩, ⟨f6, fun i hi => absurd hi (by simp [D00])⟩, a5, ⟨f9, fun i hi => absurd hi (by simp [D00])⟩, f10⟩
theorem ShC.gen (h : ShC s) (o : ∀ p, 0 < p → p < 98 → kd s' p = kd s p ∧ (∀ k, gF s' p k = gF s p k) ∧ (gA s' p).length = (gA s p).length) (h4 : gA s' 4 = gA s 4 ∧ gA s' 36 = gA s 36) (hx : 98 ≤ nx s') : ShC s' := by
  obtain ⟨h1, h2, h3, h4', h5⟩ := h
  refine ⟨fun p a b => (o p a b).1.trans (h1 p a b), fun p a b => (o p a b).2.2.trans (h2 p a b), fun q hq => ?_, by rw [h4.1, h4.2]; exact h4', hx⟩
  have hin := List.all_eq_true.mp fC_in q hq
  rw [Bool.and_eq_true] at hin
  rw [(o q.1 (of_decide_eq_true hin.1) (of_decide_eq_true hin.2)).2.1]
  exact h3 q hq
theorem Fz.lt (Z : Fz s) {p : Int} (h : kd s p ≠ 0) : p < nx s := by
  by_cases e : nx s ≤ p
  · exact absurd (Z p e) h
  · omega
theorem ScR.lt {l : Int} {cls : List Cl} (h : ScR s l cls) (Z : Fz s) : l + 8 < nx s := by
  obtain ⟨⟨n, m, hsc, -⟩, -⟩ := h
  exact Z.lt (by rw [hsc.2.2.1 8 (by decide) (by decide)]; decide)
theorem ShD.lt {D : Int} (h : ShD s D) (Z : Fz s) : D + 26 < nx s := by
  have := h.2.2.2.2.2.2.2.2.2.2 7 (by decide) (by decide)
  exact Z.lt (by rw [show D + 26 = D + 12 + 2 * 7 by omega, this.2.2.1]; decide)
theorem cc_image {k : Int} (R : RepC a s) (W : wfA a) (Z : Fz s) : Gl (GI fun x s' => x = (aImage a k).1 ∧ RepC (aImage a k).2 s' ∧ Fz s' ∧ (nx s ≤ nx s' ∧ nx s' ≤ nx s + 27) ∧ (sl s ≤ sl s' ∧ sl s' ≤ sl s + 255)) (X11_image (d + 2) s 1 k) := by
  have hs := R.1
  have l30 : (gA s 30).length = 2 := hs.2.1 30 (by decide) (by decide)
  -- refused
  have no : ¬ (0 ≤ k ∧ k ≤ 1) → Gl (GI fun x s' => x = (aImage a k).1 ∧ RepC (aImage a k).2 s' ∧ Fz s' ∧ (nx s ≤ nx s' ∧ nx s' ≤ nx s + 27) ∧ (sl s ≤ sl s' ∧ sl s' ≤ sl s + 255)) (cI (X11_refused (d + 1) s 1 (-1)) fun x1 s1 => some ([(0, x1)], s1)) := by
    intro h
    unfold aImage
    rw [if_neg h]
    obtain ⟨s', e1, e2⟩ := c_refused (d := d + 1) (v := -1) (by decide) R W
    have pv := ev_pv e1 rfl
    rw [e1, cI_ok]
    refine reI ⟨rfl, e2, fun p hp => ?_, ?_, ?_⟩
    · rw [pv.1]; rw [pv.2.1] at hp; exact Z p hp
    · rw [pv.2.1]; omega
    · rw [pv.2.2.1]; omega
  rw [e_X11_image]
  simp (disch := ((try simp only [kd_sF, kd_sA, gA_sF, gA_sA, gF_sF, gF_sA, List.length_set, reduceIte, and_true, and_false, true_and, false_and, Nat.reduceEqDiff, Int.reduceEq, hs.o1]); first | done | omega)) only [rF_ok, wF_ok, oK_ok, lA_ok, rA_ok, wA_ok, cI_ok, cV_ok, cL_ok, cR_ok, kd_sF, kd_sA, gA_sF, gF_sA, gF_sF, gA_sA, bk_0, bk_1, List.length_set, reduceIte, and_true, and_false, true_and, false_and, ne_eq, not_true_eq_false, not_false_eq_true, Int.toNat_natCast, Int.reduceToNat, Nat.reduceEqDiff, Int.reduceEq, Int.reduceLT, Int.reduceLE, Int.reduceAdd, Int.reduceSub, Int.reduceMul, Int.reduceNeg, hs.o1]
  by_cases h1 : k < 0
  · rw [if_pos h1]; exact no (by omega)
  rw [if_neg h1]
  by_cases h2 : k < 2
  · rw [if_pos h2]
    have hk : 0 ≤ k ∧ k ≤ 1 := by omega
    unfold aImage
    rw [if_pos hk]
    have wfI : wfA (setIm a k) := by
      refine ⟨W.1, ?_, W.2.2⟩
      show wfIm (if k = 0 then (some a.1, a.2.1.2) else (a.2.1.1, some a.1)).1 ∧ wfIm (if k = 0 then (some a.1, a.2.1.2) else (a.2.1.1, some a.1)).2
      split
      · exact ⟨fun D e => by cases e; exact W.1, W.2.1.2⟩
      · exact ⟨W.2.1.1, fun D e => by cases e; exact W.1⟩
    -- the end
    have fin : ∀ s2, RepC (setIm a k) s2 → Fz s2 → (nx s ≤ nx s2 ∧ nx s2 ≤ nx s + 27) → (sl s ≤ sl s2 ∧ sl s2 ≤ sl s + 255) → Gl (GI fun x s' => x = (goodA (setIm a k) 0).1 ∧ RepC (goodA (setIm a k) 0).2 s' ∧ Fz s' ∧ (nx s ≤ nx s' ∧ nx s' ≤ nx s + 27) ∧ (sl s ≤ sl s' ∧ sl s' ≤ sl s + 255)) (oK s2 1 15 (cI (X11_granted (d + 1) s2 1 0) fun x7 s3 => some ([(0, x7)], s3))) := by
      intro s2 R2 Z2 b1 b2
      obtain ⟨s', e1, e2⟩ := c_granted (d := d + 1) R2 wfI 0
      have pv := ev_pv e1 rfl
      rw [oK_ok R2.1.o1.1, e1, cI_ok]
      refine reI ⟨rfl, e2, fun p hp => ?_, ?_, ?_⟩
      · rw [pv.1]; rw [pv.2.1] at hp; exact Z2 p hp
      · rw [pv.2.1]; exact b1
      · rw [pv.2.2.1]; exact b2
    generalize hp : (gA s 30).getD k.toNat 0 = p
    by_cases h0 : p = 0
    · -- a new one
      rw [if_pos h0]
      unfold mO
      dsimp only
      obtain ⟨n, hn⟩ : ∃ n, n = nx s := ⟨_, rfl⟩
      have n98 : 98 ≤ n := by rw [hn]; exact hs.2.2.2.2
      rw [← hn]
      rw [← hn] at fin
      have kO : kd (nO s 0 12) n = 4 := by rw [kd_nO, if_pos hn]
      have xO : nx (nO s 0 12) = n + 1 := by rw [nx_nO, hn]
      simp (disch := ((try simp only [kd_sF, kd_sA, gA_sF, gA_sA, gF_sF, gF_sA, List.length_set, reduceIte, and_true, and_false, true_and, false_and, Nat.reduceEqDiff, Int.reduceEq, kO]); first | done | omega)) only [rF_ok, wF_ok, oK_ok, lA_ok, rA_ok, wA_ok, cI_ok, cV_ok, cL_ok, cR_ok, kd_sF, kd_sA, gA_sF, gF_sA, gF_sF, gA_sA, bk_0, bk_1, List.length_set, reduceIte, and_true, and_false, true_and, false_and, ne_eq, not_true_eq_false, not_false_eq_true, Int.toNat_natCast, Int.reduceToNat, Nat.reduceEqDiff, Int.reduceEq, Int.reduceLT, Int.reduceLE, Int.reduceAdd, Int.reduceSub, Int.reduceMul, Int.reduceNeg, kO]
      refine biV (c_dInit (d := d) (by omega) kO xO) fun s5 _ N => ?_
      have N' := N
      obtain ⟨g1, g2, g3, g4, g5⟩ := N
      have out : ∀ q, q < n → Sm s s5 q := fun q hq => by
        obtain ⟨y1, y2, y3⟩ := g5 q (by omega)
        refine ⟨y1.trans ?_, fun k => (y2 k).trans ?_, y3.trans ?_⟩
        · rw [kd_nO, if_neg (by omega)]
        · rw [gF_nO, if_neg (by omega)]
        · rw [gA_nO]
      have k4 : kd s5 n = 4 := g1.1
      have k30 : kd s5 30 = 25 := (out 30 (by omega)).1.trans (hs.1 30 (by decide) (by decide))
      have l30' : (gA s5 30).length = 2 := by rw [(out 30 (by omega)).2.2]; exact l30
      rw [rk_ok k4, wA_ok k30 (by omega) (by rw [l30']; omega)]
      have out6 : ∀ q, q < n → q ≠ 30 → Sm s (sA s5 30 ((gA s5 30).set k.toNat n)) q := fun q hq h => ⟨(out q hq).1, (out q hq).2.1, (gA_ne h).trans (out q hq).2.2⟩
      have a6 : gA (sA s5 30 ((gA s5 30).set k.toNat n)) 30 = (gA s 30).set k.toNat n := by rw [gA_eq, (out 30 (by omega)).2.2]
      have kO6 : ∀ q, n + 27 ≤ q → kd (sA s5 30 ((gA s5 30).set k.toNat n)) q = 0 := fun q hq => by
        rw [kd_sA, (g5 q (by omega)).1, kd_nO, if_neg (by omega)]
        exact Z q (by omega)
      have x6 : nx (sA s5 30 ((gA s5 30).set k.toNat n)) = n + 27 := g3
      have sl6 : sl (sA s5 30 ((gA s5 30).set k.toNat n)) = sl s + 255 := by rw [sl_sA, g4, sl_nO]; omega
      have D6 : DrC (sA s5 30 ((gA s5 30).set k.toNat n)) n D00 := N'.dr.gen wf_D00 (fun q h1 h2 => ⟨rfl, fun _ => rfl, gA_ne (by omega)⟩) (fun l cls hl h => h.fr (fun _ _ _ => rfl) (fun _ _ => rfl) (fun q q1 q2 => gA_ne (by omega)))
      have hs6 : ShC (sA s5 30 ((gA s5 30).set k.toNat n)) := by
        refine hs.gen (fun q h1 h2 => ?_) ⟨(out6 4 (by omega) (by decide)).2.2, (out6 36 (by omega) (by decide)).2.2⟩ (by rw [x6]; omega)
        by_cases e : q = 30
        · rw [e]
          exact ⟨(out 30 (by omega)).1, (out 30 (by omega)).2.1, by rw [a6, List.length_set]⟩
        · obtain ⟨y1, y2, y3⟩ := out6 q (by omega) e
          exact ⟨y1, y2, by rw [y3]⟩
      generalize sA s5 30 ((gA s5 30).set k.toNat n) = S6 at *
      have os : ∀ l cls, 98 ≤ l → ScR s l cls → ScR S6 l cls := fun l cls hl h => by
        have := h.lt Z
        exact h.fr (fun q q1 q2 => (out6 q (by omega) (by omega)).1) (fun j _ => (out6 l (by omega) (by omega)).2.1 j) (fun q q1 q2 => (out6 q (by omega) (by omega)).2.2)
      obtain ⟨m1, m2, m3⟩ := R.2.2.1
      have ot : ∀ (p' : Int) (o : Option Dr), wfIm o → ImC s p' o → ImC S6 p' o ∧ p' ≠ n := by
        intro p' o wo h
        rcases h with ⟨h, h'⟩ | ⟨g1, D, g2, g3⟩
        · exact ⟨Or.inl ⟨h, h'⟩, by omega⟩
        · have := g3.1.lt Z
          exact ⟨Or.inr ⟨g1, D, g2, g3.gen (wo D g2) (fun q q1 q2 => out6 q (by omega) (by omega)) os⟩, by omega⟩
      have me : ImC S6 n (some D00) := Or.inr ⟨n98, D00, rfl, D6⟩
      have R6 : RepC (a.1, (if k = 0 then (some D00, a.2.1.2) else (a.2.1.1, some D00)), a.2.2) S6 := by
        refine R.gen W hs6 (fun q _ hq h => out6 q (by omega) h) os ?_
        unfold IsC af
        rw [a6, setD_getD (by omega), setD_getD (by omega)]
        have h : k = 0 ∨ k = 1 := by omega
        rcases h with rfl | rfl
        · rw [if_pos rfl, if_pos (show Int.toNat 0 = 0 from rfl), if_neg (show ¬ (Int.toNat 0 = 1) by decide)]
          have q := ot _ _ W.2.1.2 m2
          exact ⟨me, q.1, Or.inr (fun e => q.2 e.symm)⟩
        · rw [if_neg (show ¬ (Int.toNat 1 = 0) by decide), if_neg (show ¬ ((1 : Int) = 0) by decide), if_pos (show Int.toNat 1 = 1 from rfl)]
          have q := ot _ _ W.2.1.1 m1
          exact ⟨q.1, me, Or.inr q.2⟩
      have W6 : wfA (a.1, (if k = 0 then (some D00, a.2.1.2) else (a.2.1.1, some D00)), a.2.2) := by
        refine ⟨W.1, ?_, W.2.2⟩
        show wfIm (if k = 0 then (some D00, a.2.1.2) else (a.2.1.1, some D00)).1 ∧ wfIm (if k = 0 then (some D00, a.2.1.2) else (a.2.1.1, some D00)).2
        split
        · exact ⟨fun D e => by cases e; exact wf_D00, W.2.1.2⟩
        · exact ⟨W.2.1.1, fun D e => by cases e; exact wf_D00⟩
      have hp6 : (gA S6 30).getD k.toNat 0 = n := by rw [a6, set_eq (by omega)]
      have l6 : (gA S6 30).length = 2 := hs6.2.1 30 (by decide) (by decide)
      have kn6 : kd S6 n = 4 := D6.1.1
      simp (disch := ((try simp only [kd_sF, kd_sA, gA_sF, gA_sA, gF_sF, gF_sA, List.length_set, reduceIte, and_true, and_false, true_and, false_and, Nat.reduceEqDiff, Int.reduceEq, hs6.o1, l6]); first | done | omega)) only [rF_ok, wF_ok, oK_ok, lA_ok, rA_ok, wA_ok, cI_ok, cV_ok, cL_ok, cR_ok, kd_sF, kd_sA, gA_sF, gF_sA, gF_sF, gA_sA, bk_0, bk_1, List.length_set, reduceIte, and_true, and_false, true_and, false_and, ne_eq, not_true_eq_false, not_false_eq_true, Int.toNat_natCast, Int.reduceToNat, Nat.reduceEqDiff, Int.reduceEq, Int.reduceLT, Int.reduceLE, Int.reduceAdd, Int.reduceSub, Int.reduceMul, Int.reduceNeg, hs6.o1, l6, hp6, kn6]
      refine biV (c_img2 (d := d) R6 W6 hk hp6 (by omega)) fun s7 _ ⟨r1, r2, r3, r4⟩ => ?_
      have eqI : setIm (a.1, (if k = 0 then (some D00, a.2.1.2) else (a.2.1.1, some D00)), a.2.2) k = setIm a k := by
        unfold setIm
        by_cases e : k = 0
        · simp only [if_pos e]
        · simp only [if_neg e]
      rw [eqI] at r1
      refine fin s7 r1 (fun q hq => ?_) (by rw [r3, x6]; omega) (by rw [r4, sl6]; omega)
      rw [r2]
      rw [r3, x6] at hq
      exact kO6 q hq
    · rw [if_neg h0]
      have kp : kd s p = 4 := by
        obtain ⟨m1, m2, -⟩ := R.2.2.1
        have h : k = 0 ∨ k = 1 := by omega
        rcases h with rfl | rfl
        · rcases m1 with ⟨q1, -⟩ | ⟨q1, D, -, q3⟩
          · exact absurd (hp.symm.trans q1) h0
          · rw [← hp]; exact q3.1.1
        · rcases m2 with ⟨q1, -⟩ | ⟨q1, D, -, q3⟩
          · exact absurd (hp.symm.trans q1) h0
          · rw [← hp]; exact q3.1.1
      simp (disch := ((try simp only [kd_sF, kd_sA, gA_sF, gA_sA, gF_sF, gF_sA, List.length_set, reduceIte, and_true, and_false, true_and, false_and, Nat.reduceEqDiff, Int.reduceEq, hs.o1, kp]); first | done | omega)) only [rF_ok, wF_ok, oK_ok, lA_ok, rA_ok, wA_ok, cI_ok, cV_ok, cL_ok, cR_ok, kd_sF, kd_sA, gA_sF, gF_sA, gF_sF, gA_sA, bk_0, bk_1, List.length_set, reduceIte, and_true, and_false, true_and, false_and, ne_eq, not_true_eq_false, not_false_eq_true, Int.toNat_natCast, Int.reduceToNat, Nat.reduceEqDiff, Int.reduceEq, Int.reduceLT, Int.reduceLE, Int.reduceAdd, Int.reduceSub, Int.reduceMul, Int.reduceNeg, hs.o1, kp, hp]
      refine biV (c_img2 (d := d) R W hk hp h0) fun s7 _ ⟨r1, r2, r3, r4⟩ => ?_
      refine fin s7 r1 (fun q hq => ?_) (by rw [r3]; omega) (by rw [r4]; omega)
      rw [r2]
      rw [r3] at hq
      exact Z q hq
  · rw [if_neg h2]; exact no (by omega)
end CKG
