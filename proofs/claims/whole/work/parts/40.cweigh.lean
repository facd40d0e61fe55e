/-! ===== the class: what a run of the judge leaves; knots weighed ===== -/
theorem ev_only {d j i cl : Nat} {L : Lc} {st : List V} {s s' : St} {r : List V} (h : EV d j i L st s = some (r, s')) (hj : okB j = true) (hw : (wsT.getD j []).all (fun x => x / 100 == cl) = true) (p : Int) (k : Nat) (hp : kd s p ≠ cl) (hk : k < 100) : gF s' p k = gF s p k := by
  refine (ev_pv h hj).2.2.2.2.1 p k ?_
  unfold wsB
  rw [List.any_eq_false]
  intro x hx e
  have h1 := List.all_eq_true.mp hw x hx
  rw [beq_iff_eq] at h1 e
  exact hp (by omega)
theorem ev_kd {d j i : Nat} {L : Lc} {st : List V} {s s' : St} {r : List V} (h : EV d j i L st s = some (r, s')) (hj : okB j = true) (p : Int) : kd s' p = kd s p := (ev_pv h hj).1 p
theorem ev_ln {d j i : Nat} {L : Lc} {st : List V} {s s' : St} {r : List V} (h : EV d j i L st s = some (r, s')) (hj : okB j = true) (p : Int) : (gA s' p).length = (gA s p).length := (ev_pv h hj).2.2.2.1 p
theorem ScR.fr {s s' : St} {l : Int} {cls : List Cl} (h : ScR s l cls) (hk : ∀ p, l ≤ p → p ≤ l + 8 → kd s' p = kd s p) (hf : ∀ k, k < 100 → gF s' l k = gF s l k) (ha : ∀ p, l ≤ p → p ≤ l + 8 → gA s' p = gA s p) : ScR s' l cls := by
  obtain ⟨⟨n, m, ⟨h1, h2, h3, h4, h5⟩, h6⟩, h7, h8, h9, h10⟩ := h
  have a : ∀ i : Int, 1 ≤ i → i ≤ 8 → gA s' (l + i) = gA s (l + i) := fun i i1 i2 => ha _ (by omega) (by omega)
  refine ⟨⟨n, m, ⟨by rw [hk l (by omega) (by omega)]; exact h1, ?_, fun i i1 i2 => by rw [hk (l + i) (by omega) (by omega)]; exact h3 i i1 i2, by rw [a 1 (by decide) (by decide), a 2 (by decide) (by decide)]; exact h4, fun i i1 i2 => by rw [a i (by omega) i2]; exact h5 i i1 i2⟩, h6⟩, by rw [hf 3 (by decide)]; exact h7, by rw [hf 2 (by decide)]; exact h8, ?_, fun c hc => ?_⟩
  · rw [hf 0 (by decide), hf 1 (by decide), hf 4 (by decide), hf 5 (by decide), hf 6 (by decide), hf 7 (by decide), hf 8 (by decide), hf 9 (by decide)]
    exact h2
  · unfold seg
    rw [a 1 (by decide) (by decide), a 2 (by decide) (by decide)]
    exact h9
  · rw [a 3 (by decide) (by decide), a 4 (by decide) (by decide), a 5 (by decide) (by decide), a 6 (by decide) (by decide), a 7 (by decide) (by decide), a 8 (by decide) (by decide)]
    exact h10 c hc
theorem KnC.fr {s s' : St} {p : Int} {k : Kn} (h : KnC s p k) (hk : kd s' p = kd s p ∧ kd s' (p + 1) = kd s (p + 1)) (hf : ∀ j, j < 100 → gF s' p j = gF s p j) (ha : gA s' (p + 1) = gA s (p + 1)) : KnC s' p k := by
  obtain ⟨⟨h1, h2, h3, h4⟩, h5, h6, h7, h8, h9, h10⟩ := h
  refine ⟨⟨by rw [hk.1]; exact h1, by rw [hf 5 (by decide)]; exact h2, by rw [hk.2]; exact h3, by rw [ha]; exact h4⟩, by rw [hf 0 (by decide)]; exact h5, by rw [hf 1 (by decide)]; exact h6, by rw [hf 2 (by decide)]; exact h7, by rw [hf 3 (by decide)]; exact h8, by rw [hf 4 (by decide)]; exact h9, fun j hj => ?_⟩
  unfold af
  rw [ha]
  exact h10 j hj
theorem ShD.fr {s s' : St} {D : Int} (h : ShD s D) (hk : ∀ p, D ≤ p → p ≤ D + 26 → kd s' p = kd s p) (hf : ∀ p j, D ≤ p → p ≤ D + 26 → (p = D ∧ (j = 0 ∨ j = 2 ∨ j = 4 ∨ j = 5 ∨ j = 7 ∨ j = 8 ∨ j = 11)) ∨ (p = D + 7 ∧ 1 ≤ j ∧ j ≤ 3) ∨ (D + 11 ≤ p ∧ j = 5) → gF s' p j = gF s p j) (ha : gA s' (D + 1) = gA s (D + 1)) (hl : ∀ p, D ≤ p → p ≤ D + 26 → (gA s' p).length = (gA s p).length) : ShD s' D := by
  obtain ⟨h1, ⟨f0, f2, f4, f5, f7, f8, f11⟩, ⟨k1, a1⟩, ⟨k2, l2⟩, ⟨k3, l3⟩, ⟨k4, l4⟩, ⟨k5, l5⟩, ⟨k6, l6⟩, ⟨k7, g1, g2, g3⟩, hx, hy⟩ := h
  refine ⟨by rw [hk D (by omega) (by omega)]; exact h1, ⟨?_, ?_, ?_, ?_, ?_, ?_, ?_⟩, ⟨by rw [hk _ (by omega) (by omega)]; exact k1, by rw [ha]; exact a1⟩, ⟨by rw [hk _ (by omega) (by omega)]; exact k2, by rw [hl _ (by omega) (by omega)]; exact l2⟩, ⟨by rw [hk _ (by omega) (by omega)]; exact k3, by rw [hl _ (by omega) (by omega)]; exact l3⟩, ⟨by rw [hk _ (by omega) (by omega)]; exact k4, by rw [hl _ (by omega) (by omega)]; exact l4⟩, ⟨by rw [hk _ (by omega) (by omega)]; exact k5, by rw [hl _ (by omega) (by omega)]; exact l5⟩, ⟨by rw [hk _ (by omega) (by omega)]; exact k6, by rw [hl _ (by omega) (by omega)]; exact l6⟩, ⟨by rw [hk _ (by omega) (by omega)]; exact k7, ?_, ?_, ?_⟩, fun i i1 i2 => ⟨by rw [hk _ (by omega) (by omega)]; exact (hx i i1 i2).1, by rw [hl _ (by omega) (by omega)]; exact (hx i i1 i2).2⟩, fun i i1 i2 => ⟨by rw [hk _ (by omega) (by omega)]; exact (hy i i1 i2).1, ?_, by rw [hk _ (by omega) (by omega)]; exact (hy i i1 i2).2.2.1, by rw [hl _ (by omega) (by omega)]; exact (hy i i1 i2).2.2.2⟩⟩
  · rw [hf D 0 (by omega) (by omega) (by omega)]; exact f0
  · rw [hf D 2 (by omega) (by omega) (by omega)]; exact f2
  · rw [hf D 4 (by omega) (by omega) (by omega)]; exact f4
  · rw [hf D 5 (by omega) (by omega) (by omega)]; exact f5
  · rw [hf D 7 (by omega) (by omega) (by omega)]; exact f7
  · rw [hf D 8 (by omega) (by omega) (by omega)]; exact f8
  · rw [hf D 11 (by omega) (by omega) (by omega)]; exact f11
  · rw [hf (D + 7) 1 (by omega) (by omega) (by omega)]; exact g1
  · rw [hf (D + 7) 2 (by omega) (by omega) (by omega)]; exact g2
  · rw [hf (D + 7) 3 (by omega) (by omega) (by omega)]; exact g3
  · rw [hf (D + 11 + 2 * i) 5 (by omega) (by omega) (by omega)]; exact (hy i i1 i2).2.1
/-- a drawer whose own cells, and all cells from 98 on, are as before -/
theorem DrC.fr {s s' : St} {D : Int} {dr : Dr} (R : DrC s D dr) (W : wfDr dr) (hk : ∀ p, (D ≤ p ∧ p ≤ D + 26) ∨ 98 ≤ p → kd s' p = kd s p) (hf : ∀ p k, (D ≤ p ∧ p ≤ D + 26) ∨ (98 ≤ p ∧ kd s p = 11) → k < 100 → gF s' p k = gF s p k) (ha : ∀ p, (D ≤ p ∧ p ≤ D + 26) ∨ 98 ≤ p → gA s' p = gA s p) : DrC s' D dr := by
  obtain ⟨h1, ⟨k1, k2⟩, ⟨b1, b2⟩, ⟨s1, s2⟩, t1, ⟨l1, l2⟩, f1⟩ := R
  have hn := W.1.1
  have a : ∀ i : Int, 0 ≤ i → i ≤ 26 → gA s' (D + i) = gA s (D + i) := fun i i1 i2 => ha _ (Or.inl (by omega))
  have g : ∀ k, k < 100 → gF s' D k = gF s D k := fun k hk => hf D k (Or.inl (by omega)) hk
  refine ⟨h1.fr (fun p q1 q2 => hk p (Or.inl ⟨q1, q2⟩)) (fun p j q1 q2 q3 => hf p j (Or.inl ⟨q1, q2⟩) (by omega)) (a 1 (by decide) (by decide)) (fun p q1 q2 => by rw [ha p (Or.inl ⟨q1, q2⟩)]), ⟨by rw [g 1 (by decide)]; exact k1, fun i hi => ?_⟩, ⟨by rw [g 3 (by decide)]; exact b1, fun i hi => ?_⟩, ⟨by rw [g 6 (by decide)]; exact s1, fun i hi => ?_⟩, by rw [a 5 (by decide) (by decide)]; exact t1, ⟨by rw [g 9 (by decide)]; exact l1, fun t ht => ?_⟩, by rw [g 10 (by decide)]; exact f1⟩
  · exact (k2 i hi).fr ⟨hk _ (Or.inl (by omega)), hk _ (Or.inl (by omega))⟩ (fun j hj => hf _ j (Or.inl (by omega)) hj) (ha _ (Or.inl (by omega)))
  · unfold af; rw [a 2 (by decide) (by decide)]; exact b2 i hi
  · unfold af; rw [a 3 (by decide) (by decide), a 4 (by decide) (by decide)]; exact s2 i hi
  · have e : af s' (D + 6) t = af s (D + 6) t := by unfold af; rw [a 6 (by decide) (by decide)]
    rw [e]
    have h98 := (l2 t ht).1
    exact ⟨h98, (l2 t ht).2.fr (fun p q1 q2 => hk p (Or.inr (by omega))) (fun k hk => hf _ k (Or.inr ⟨h98, by obtain ⟨⟨n, m, hsc, -⟩, -⟩ := (l2 t ht).2; exact hsc.1⟩) hk) (fun p q1 q2 => ha p (Or.inr (by omega)))⟩
/-- the cells of the judge alone have changed -/
def JR (s s' : St) : Prop := (∀ p, kd s' p = kd s p) ∧ (∀ p k, kd s p ≠ 6 → k < 100 → gF s' p k = gF s p k) ∧ Fa [32, 33] s s' ∧ (∀ p, (gA s' p).length = (gA s p).length) ∧ gF s' 31 0 = gF s 31 0 ∧ gF s' 31 1 = gF s 31 1
theorem JR.rf (s : St) : JR s s := ⟨fun _ => rfl, fun _ _ _ _ => rfl, Fa.rf _ _, fun _ => rfl, rfl, rfl⟩
theorem JR.tr {a b c : St} (h : JR a b) (g : JR b c) : JR a c := ⟨fun p => (g.1 p).trans (h.1 p), fun p k hp hk => (g.2.1 p k (by rw [h.1]; exact hp) hk).trans (h.2.1 p k hp hk), h.2.2.1.tr g.2.2.1, fun p => (g.2.2.2.1 p).trans (h.2.2.2.1 p), g.2.2.2.2.1.trans h.2.2.2.2.1, g.2.2.2.2.2.trans h.2.2.2.2.2⟩
theorem JR.ev {d j i : Nat} {L : Lc} {st : List V} {s s' : St} {r : List V} (J : ShJ s) (h : EV d j i L st s = some (r, s')) (hj : okB j = true) (hw : (wsT.getD j []).all (fun x => x / 100 == 6) = true) (h0 : (wsB j 6 0 || wsB j 6 1) = false) (hF : Fa [32, 33] s s') : JR s s' := by
  rw [Bool.or_eq_false_iff] at h0
  exact ⟨ev_kd h hj, ev_only h hj hw, hF, ev_ln h hj, (ev_pv h hj).2.2.2.2.1 31 0 (by rw [J.1]; exact h0.1), (ev_pv h hj).2.2.2.2.1 31 1 (by rw [J.1]; exact h0.2)⟩
theorem ShJ.jr {s s' : St} (J : ShJ s) (h : JR s s') : ShJ s' := by
  obtain ⟨j1, j2, j3, j4, j5, j6, j7⟩ := J
  obtain ⟨h1, h2, h3, h4, h5, h6⟩ := h
  exact ⟨by rw [h1]; exact j1, by rw [h5]; exact j2, by rw [h6]; exact j3, by rw [h1]; exact j4, by rw [h1]; exact j5, by rw [h4]; exact j6, by rw [h4]; exact j7⟩
theorem LwP.jr {s s' : St} {p : Int} {cls : List Cl} (h : LwP s p cls) (g : JR s s') (J : ShJ s) : LwP s' p cls := by
  rcases h with h | ⟨h1, h2, h3⟩
  · exact Or.inl h
  · refine Or.inr ⟨h1, h2.fr (fun q _ _ => g.1 q) (fun k hk => g.2.1 p k ?_ hk) (fun q q1 q2 => g.2.2.1 q (by simp; omega)), h3⟩
    obtain ⟨⟨n, m, hs, -⟩, -⟩ := h2
    rw [hs.1]
    decide
theorem KnC.jr {s s' : St} {p : Int} {k : Kn} (h : KnC s p k) (g : JR s s') (hp : p + 1 ≠ 32 ∧ p + 1 ≠ 33) : KnC s' p k := h.fr ⟨g.1 p, g.1 (p + 1)⟩ (fun j hj => g.2.1 p j (by rw [h.1.1]; decide) hj) (g.2.2.1 _ (by simp; omega))
section CWE
variable {s : St} {D p : Int} {dr : Dr} {k : Kn} {d : Nat}
theorem c_side {j : Nat} (hs : k.1 = 0 ∨ k.1 = 1) (hj : j ≤ 13) (R : KnC s p k) : X3_side d s p j = some ([(0, (k.1 + j) % 2)], s) := by
  obtain ⟨⟨h1, -⟩, h5, -⟩ := R
  rw [e_X3_side]
  simp (disch := ((try simp only [kd_sF, kd_sA, gA_sF, gA_sA, gF_sF, gF_sA, List.length_set, reduceIte, and_true, and_false, true_and, false_and, Nat.reduceEqDiff, Int.reduceEq, h1]); first | done | omega)) only [rF_ok, wF_ok, oK_ok, lA_ok, rA_ok, wA_ok, cI_ok, cV_ok, cL_ok, cR_ok, kd_sF, kd_sA, gA_sF, gF_sA, gF_sF, gA_sA, bk_0, bk_1, List.length_set, reduceIte, and_true, and_false, true_and, false_and, ne_eq, not_true_eq_false, not_false_eq_true, Int.toNat_natCast, Int.reduceToNat, Nat.reduceEqDiff, Int.reduceEq, Int.reduceLT, Int.reduceLE, Int.reduceAdd, Int.reduceSub, Int.reduceMul, Int.reduceNeg, h1, h5, wi_sm, and1]
theorem c_lastPlace (R : KnC s p k) (hl : kLen k ≤ 12) : X3_lastPlace d s p = some ([(0, lastP k)], s) := by
  obtain ⟨⟨h1, h2, h3, h4⟩, h5, h6, h7, h8, h9, h10⟩ := R
  rw [e_X3_lastPlace]
  unfold lastP
  by_cases e : kLen k = 0
  · simp (disch := ((try simp only [kd_sF, kd_sA, gA_sF, gA_sA, gF_sF, gF_sA, List.length_set, reduceIte, and_true, and_false, true_and, false_and, Nat.reduceEqDiff, Int.reduceEq, h1]); first | done | omega)) only [rF_ok, wF_ok, oK_ok, lA_ok, rA_ok, wA_ok, cI_ok, cV_ok, cL_ok, cR_ok, kd_sF, kd_sA, gA_sF, gF_sA, gF_sF, gA_sA, bk_0, bk_1, List.length_set, reduceIte, and_true, and_false, true_and, false_and, ne_eq, not_true_eq_false, not_false_eq_true, Int.toNat_natCast, Int.reduceToNat, Nat.reduceEqDiff, Int.reduceEq, Int.reduceLT, Int.reduceLE, Int.reduceAdd, Int.reduceSub, Int.reduceMul, Int.reduceNeg, h1, h8, if_neg (show ¬ ((0 : Int) < (kLen k : Int)) by omega), if_pos e]
  · have e1 : ((kLen k : Int) - 1).toNat = kLen k - 1 := by omega
    have e2 := h10 (kLen k - 1) (by omega)
    unfold af at e2
    simp (disch := ((try simp only [kd_sF, kd_sA, gA_sF, gA_sA, gF_sF, gF_sA, List.length_set, reduceIte, and_true, and_false, true_and, false_and, Nat.reduceEqDiff, Int.reduceEq, h1, h2, h3, h4]); first | done | omega)) only [rF_ok, wF_ok, oK_ok, lA_ok, rA_ok, wA_ok, cI_ok, cV_ok, cL_ok, cR_ok, kd_sF, kd_sA, gA_sF, gF_sA, gF_sF, gA_sA, bk_0, bk_1, List.length_set, reduceIte, and_true, and_false, true_and, false_and, ne_eq, not_true_eq_false, not_false_eq_true, Int.toNat_natCast, Int.reduceToNat, Nat.reduceEqDiff, Int.reduceEq, Int.reduceLT, Int.reduceLE, Int.reduceAdd, Int.reduceSub, Int.reduceMul, Int.reduceNeg, h1, h2, h3, h4, h8, if_pos (show (0 : Int) < (kLen k : Int) by omega), if_neg e, wi_sm, e1, e2]
theorem c_weigh (J : ShJ s) (R : DrC s D dr) (W : wfDr dr) (hD : D + 5 ≠ 32 ∧ D + 5 ≠ 33) (K : KnC s p k) (wk : wfKn k) (hp : p + 1 ≠ 32 ∧ p + 1 ≠ 33) : Gl (GV fun s' => JR s s' ∧ gF s' 31 5 = tkK dr k ∧ gF s' 31 6 = gpK dr k) (X2_weigh (d + 3) s 31 D p) := by
  obtain ⟨q, e1, hL⟩ := c_lawInForce (d := d + 2) R W
  obtain ⟨⟨h1, ⟨-, -, -, -, f7, -⟩, -, -, -, -, ⟨k5, l5⟩, -⟩, -, -, -, t1, -⟩ := R
  have hm := W.2.2.2.1.1
  obtain ⟨w1, w2, w3, w4, w5, w6, w7, w8⟩ := wk
  have J' := J
  obtain ⟨j1, j2, j3, j4, j5, j6, j7⟩ := J
  have d31 : D ≠ 31 := fun e => by rw [e] at h1; omega
  rw [e_X2_weigh]
  simp (disch := ((try simp only [kd_sF, kd_sA, gA_sF, gA_sA, gF_sF, gF_sA, List.length_set, reduceIte, and_true, and_false, true_and, false_and, Nat.reduceEqDiff, Int.reduceEq, h1, j1]); first | done | omega)) only [rF_ok, wF_ok, oK_ok, lA_ok, rA_ok, wA_ok, cI_ok, cV_ok, cL_ok, cR_ok, kd_sF, kd_sA, gA_sF, gF_sA, gF_sF, gA_sA, bk_0, bk_1, List.length_set, reduceIte, and_true, and_false, true_and, false_and, ne_eq, not_true_eq_false, not_false_eq_true, Int.toNat_natCast, Int.reduceToNat, Nat.reduceEqDiff, Int.reduceEq, Int.reduceLT, Int.reduceLE, Int.reduceAdd, Int.reduceSub, Int.reduceMul, Int.reduceNeg, h1, j1, e1]
  generalize hS : sF (sF s 31 5 0) 31 6 0 = S
  have GS : JR s S := by
    rw [← hS]
    refine ⟨fun _ => rfl, fun q kk hq _ => ?_, fun _ _ => rfl, fun _ => rfl, rfl, rfl⟩
    have : q ≠ 31 := fun e => hq (by rw [e]; exact j1)
    rw [gF_np this, gF_np this]
  have hS5 : gF S 31 5 = 0 := by rw [← hS]; rfl
  have hS6 : gF S 31 6 = 0 := by rw [← hS]; rfl
  clear hS
  refine lpG (fun i (a : St × Int) => X2_weigh_21 (d + 3) a.1 31 D p q a.2 i) (fun i a => JR s a.1 ∧ a.2 = (if i = 0 then -1 else pF k (i - 1)) ∧ gF a.1 31 5 = sumN (tkW (clsD dr) (moodD dr) k.2.1 k.1 (pF k)) i ∧ gF a.1 31 6 = sumN (gpW (clsD dr) (moodD dr) k.2.1 k.1 (pF k)) i) (kLen k) ?_ ?_ 0 (S, -1) (by omega) ⟨GS, rfl, hS5, hS6⟩
  · intro T i ⟨s1, b⟩ hi ⟨G1, hb, g5, g6⟩ hT
    dsimp only at G1 hb g5 g6 ⊢
    have J1 := J'.jr G1
    have K1 := K.jr G1 hp
    have L1 := hL.jr G1 J'
    have kD : kd s1 D = 4 := by rw [G1.1]; exact h1
    have fD : gF s1 D 7 = D + 5 := by rw [G1.2.1 D 7 (by rw [h1]; decide) (by decide)]; exact f7
    have kA : kd s1 (D + 5) = 20 := by rw [G1.1]; exact k5
    have aA : gA s1 (D + 5) = [moodD dr, needD dr, thickD dr] := by rw [G1.2.2.1 (D + 5) (by simp; exact hD)]; exact t1
    have lA' : (gA s1 (D + 5)).length = 3 := by rw [aA]; rfl
    have aA0 : (gA s1 (D + 5)).getD 0 0 = moodD dr := by rw [aA]; rfl
    have K1' := K1
    obtain ⟨⟨a1, a2, a3, a4⟩, a5, a6, a7, a8, a9, a10⟩ := K1
    have ai := a10 i hi
    have pi := w6 i hi
    unfold af at ai
    have hbb : -1 ≤ b ∧ b ≤ 2 := by
      rw [hb]
      by_cases e : i = 0
      · rw [if_pos e]; omega
      · rw [if_neg e]
        have := w6 (i - 1) (by omega)
        unfold pl3 at this
        omega
    have c1 := sumN_bd (f := tkW (clsD dr) (moodD dr) k.2.1 k.1 (pF k)) (a := 0) (b := 20) (n := i) (fun j _ => tkQ_bd (by omega))
    have c2 := sumN_bd (f := gpW (clsD dr) (moodD dr) k.2.1 k.1 (pF k)) (a := -9) (b := 9) (n := i) (fun j _ => gpA_bd)
    have kJ1 : kd s1 31 = 6 := J1.1
    rw [e_X2_weigh_21]
    simp (disch := ((try simp only [kd_sF, kd_sA, gA_sF, gA_sA, gF_sF, gF_sA, List.length_set, reduceIte, and_true, and_false, true_and, false_and, Nat.reduceEqDiff, Int.reduceEq, a1, a2, a3, a4, kD, fD, kA, lA', kJ1]); first | done | omega)) only [rF_ok, wF_ok, oK_ok, lA_ok, rA_ok, wA_ok, cI_ok, cV_ok, cL_ok, cR_ok, kd_sF, kd_sA, gA_sF, gF_sA, gF_sF, gA_sA, bk_0, bk_1, List.length_set, reduceIte, and_true, and_false, true_and, false_and, ne_eq, not_true_eq_false, not_false_eq_true, Int.toNat_natCast, Int.reduceToNat, Nat.reduceEqDiff, Int.reduceEq, Int.reduceLT, Int.reduceLE, Int.reduceAdd, Int.reduceSub, Int.reduceMul, Int.reduceNeg, a1, a2, a3, a4, kD, fD, kA, lA', kJ1, a8, Int.ofNat_lt, hi, a6, aA0, c_side w1 (show i ≤ 13 by omega) K1', ai]
    refine biV (c_ask (d := d) (mood := moodD dr) (th := k.2.1) (side := (k.1 + i) % 2) (k := (i : Int)) (bef := b) (pl := pF k i) J1 L1 hm (by omega) (by omega) (by omega) hbb (by unfold pl3 at pi; omega)) fun s2 h2 ⟨q1, q2, q3, q4⟩ => ?_
    have G2 : JR s1 s2 := JR.ev J1 h2 rfl (by decide) rfl q1
    have J2 := J1.jr G2
    have K2 := K1'.jr G2 hp
    obtain ⟨⟨b1, b2, b3, b4⟩, b5, b6, b7, b8, b9, b10⟩ := K2
    have bi := b10 i hi
    unfold af at bi
    have e5 : gF s2 31 5 = gF s1 31 5 := (ev_pv h2 rfl).2.2.2.2.1 31 5 (by rw [J1.1]; rfl)
    have e6 : gF s2 31 6 = gF s1 31 6 := (ev_pv h2 rfl).2.2.2.2.1 31 6 (by rw [J1.1]; rfl)
    have p31 : p ≠ 31 := fun e => by rw [e] at b1; have := J2.1; omega
    have x1 : tkQ (clsD dr) (moodD dr) k.2.1 ((k.1 + i) % 2) i b (pF k i) = tkW (clsD dr) (moodD dr) k.2.1 k.1 (pF k) i := by unfold tkW; rw [hb]
    have x2 : gpA (clsD dr) (moodD dr) k.2.1 ((k.1 + i) % 2) i b (pF k i) = gpW (clsD dr) (moodD dr) k.2.1 k.1 (pF k) i := by unfold gpW; rw [hb]
    have y1 : 0 ≤ tkW (clsD dr) (moodD dr) k.2.1 k.1 (pF k) i ∧ tkW (clsD dr) (moodD dr) k.2.1 k.1 (pF k) i ≤ 20 := tkQ_bd (by omega)
    have y2 : -9 ≤ gpW (clsD dr) (moodD dr) k.2.1 k.1 (pF k) i ∧ gpW (clsD dr) (moodD dr) k.2.1 k.1 (pF k) i ≤ 9 := gpA_bd
    rw [x1] at q2
    rw [x2] at q3
    have kJ2 : kd s2 31 = 6 := J2.1
    simp (disch := ((try simp only [kd_sF, kd_sA, gA_sF, gA_sA, gF_sF, gF_sA, List.length_set, reduceIte, and_true, and_false, true_and, false_and, Nat.reduceEqDiff, Int.reduceEq, kJ2, b1, b2, b3, b4]); first | done | omega)) only [rF_ok, wF_ok, oK_ok, lA_ok, rA_ok, wA_ok, cI_ok, cV_ok, cL_ok, cR_ok, kd_sF, kd_sA, gA_sF, gF_sA, gF_sF, gA_sA, bk_0, bk_1, List.length_set, reduceIte, and_true, and_false, true_and, false_and, ne_eq, not_true_eq_false, not_false_eq_true, Int.toNat_natCast, Int.reduceToNat, Nat.reduceEqDiff, Int.reduceEq, Int.reduceLT, Int.reduceLE, Int.reduceAdd, Int.reduceSub, Int.reduceMul, Int.reduceNeg, kJ2, b1, b2, b3, b4, e5, e6, g5, g6, q2, q3, wi_sm, if_neg (show ¬ (p = 31 ∧ _) from fun e => p31 e.1), p31, bi]
    refine hT (_, pF k i) ⟨G1.tr (G2.tr ⟨fun _ => rfl, fun z zz hz _ => ?_, fun _ _ => rfl, fun _ => rfl, rfl, rfl⟩), by rw [if_neg (by omega)]; rfl, ?_, ?_⟩
    · have : z ≠ 31 := fun e => hz (by rw [e]; exact J2.1)
      exact (gF_np (s := sF s2 31 5 _) this).trans (gF_np this)
    · rw [sumN]; rfl
    · rw [sumN]; rfl
  · intro ⟨s1, b⟩ ⟨G1, hb, g5, g6⟩
    dsimp only at G1 hb g5 g6 ⊢
    have K1 := K.jr G1 hp
    obtain ⟨⟨a1, -⟩, a5, a6, a7, a8, -⟩ := K1
    rw [e_X2_weigh_21]
    simp (disch := ((try simp only [kd_sF, kd_sA, gA_sF, gA_sA, gF_sF, gF_sA, List.length_set, reduceIte, and_true, and_false, true_and, false_and, Nat.reduceEqDiff, Int.reduceEq, a1]); first | done | omega)) only [rF_ok, wF_ok, oK_ok, lA_ok, rA_ok, wA_ok, cI_ok, cV_ok, cL_ok, cR_ok, kd_sF, kd_sA, gA_sF, gF_sA, gF_sF, gA_sA, bk_0, bk_1, List.length_set, reduceIte, and_true, and_false, true_and, false_and, ne_eq, not_true_eq_false, not_false_eq_true, Int.toNat_natCast, Int.reduceToNat, Nat.reduceEqDiff, Int.reduceEq, Int.reduceLT, Int.reduceLE, Int.reduceAdd, Int.reduceSub, Int.reduceMul, Int.reduceNeg, a1, a8, Int.lt_irrefl]
    exact reV ⟨G1, g5, g6⟩
end CWE
