/-! ===== the class's paper: the nearest word, its answer ===== -/
section CNS
variable {cls : List Cl} {mood th : Int} {n d : Nat} {s : St} {q : Int}
/-- what the paper holds of the nearest so far -/
def NrR (g : Nat → Int) (n : Nat) (L : List Nat) (i : Nat) (x : Int) (s : St) : Prop := (i = 0 ∧ x = -1) ∨ (0 < i ∧ (chL g n (L.take i)).1 ≠ -1 ∧ 0 ≤ x ∧ x = (chL g n (L.take i)).2 ∧ ∃ c : Nat, c < i ∧ gF s 78 14 = c ∧ ((L.getD c 0 : Nat) : Int) = (chL g n (L.take i)).1)
theorem FrW.wd {s' : St} {A : List Int} (h : WdC cls mood th n s) (g : FrW A s s') (hA : (83 : Int) ∉ A ∧ (84 : Int) ∉ A ∧ (85 : Int) ∉ A ∧ (86 : Int) ∉ A) : WdC cls mood th n s' := h.fx g.2.2 hA
theorem NrR.s0 {g : Nat → Int} {L : List Nat} {s : St} {i : Nat} {x : Int} (hn : n ≤ 12) (hi : i < L.length) (h : NrR g n L i x s) {s' : St} {y : Int} (hs' : s' = if x = -1 ∨ unlN (plN n (L.getD i 0)) g n < x then sF s 78 14 i else s) (hy : y = if x = -1 ∨ unlN (plN n (L.getD i 0)) g n < x then unlN (plN n (L.getD i 0)) g n else x) : NrR g n L (i + 1) y s' := by
  have hb := unlN_bd (plN n (L.getD i 0)) g n
  have ht := chL_a (g := g) (n := n) (u := L.getD i 0) (L := L.take i)
  rw [← getD_take_s hi] at ht
  refine Or.inr ⟨by omega, ?_⟩
  rcases h with ⟨h1, h2⟩ | ⟨h1, h2, h3, h4, c, h5, h6, h7⟩
  · have e0 : chL g n (L.take i) = (-1, 1000000) := by rw [h1]; rfl
    rw [if_pos (Or.inl h2)] at hs' hy
    rw [e0] at ht
    unfold chS at ht
    rw [if_pos (show unlN (plN n (L.getD i 0)) g n < ((-1, 1000000) : Int × Int).2 by show _ < (1000000 : Int); omega)] at ht
    rw [ht, hs', hy]
    exact ⟨by dsimp only; omega, hb.1, rfl, i, by omega, gF_eq _ _ _ _, rfl⟩
  · unfold chS at ht
    rw [← h4] at ht
    by_cases c2 : unlN (plN n (L.getD i 0)) g n < x
    · rw [if_pos (Or.inr c2)] at hs' hy
      rw [if_pos c2] at ht
      rw [ht, hs', hy]
      exact ⟨by dsimp only; omega, hb.1, rfl, i, by omega, gF_eq _ _ _ _, rfl⟩
    · have hx : ¬ (x = -1 ∨ unlN (plN n (L.getD i 0)) g n < x) := fun e => e.elim (fun e => by omega) c2
      rw [if_neg hx] at hs' hy
      rw [if_neg c2] at ht
      rw [ht, hs', hy]
      exact ⟨h2, h3, h4, c, by omega, h6, h7⟩
theorem c_near (hs : ShC s) (hn : 3 ≤ n ∧ n ≤ 12) (Wd : WdC cls mood th n s) (hk : kd s q = 20) (hl : n ≤ (gA s q).length) : Gl (GI fun x s' => ShC s' ∧ FrW [] s s' ∧ NrR (af s q) n (prW cls mood th n) (prW cls mood th n).length x s') (X4_chooseNearest (d + 2) s 78 q n) := by
  have hb := SLn_bd n (by omega) hn.1
  have hlen := Wd.1
  rw [e_X4_chooseNearest]
  refine lpG (fun i (a : St × Int) => X4_chooseNearest_5 (d + 2) a.1 78 q n a.2 i) (fun i a => ShC a.1 ∧ FrW [] s a.1 ∧ NrR (af s q) n (prW cls mood th n) i a.2 a.1) (prW cls mood th n).length ?_ ?_ 0 (s, -1) (by omega) ⟨hs, FrW.rf _ _, Or.inl ⟨rfl, rfl⟩⟩
  · intro T i ⟨s1, a⟩ hi ⟨i1, i2, i3⟩ hT
    dsimp only at i1 i2 i3 ⊢
    have W1 := FrW.wd Wd i2 (by decide)
    have l83 : (gA s1 83).length = 13 := i1.2.1 83 (by decide) (by decide)
    have c1 := W1.2.1
    have k78 : kd s1 78 = 8 := i1.1 78 (by decide) (by decide)
    have ea : gA s1 q = gA s q := i2.2.2 q (by simp)
    have ef : af s1 q = af s q := by unfold af; rw [ea]
    rw [e_X4_chooseNearest_5]
    simp (disch := ((try simp only [kd_sF, kd_sA, gA_sF, gA_sA, gF_sF, gF_sA, List.length_set, reduceIte, and_true, and_false, true_and, false_and, Nat.reduceEqDiff, Int.reduceEq, i1.o78]); first | done | omega)) only [rF_ok, wF_ok, oK_ok, lA_ok, rA_ok, wA_ok, cI_ok, cV_ok, cL_ok, cR_ok, kd_sF, kd_sA, gA_sF, gF_sA, gF_sF, gA_sA, bk_0, bk_1, List.length_set, reduceIte, and_true, and_false, true_and, false_and, ne_eq, not_true_eq_false, not_false_eq_true, Int.toNat_natCast, Int.reduceToNat, Nat.reduceEqDiff, Int.reduceEq, Int.reduceLT, Int.reduceLE, Int.reduceAdd, Int.reduceSub, Int.reduceMul, Int.reduceNeg, i1.o78, c1, Int.ofNat_lt, hi]
    refine c_near22 (d := d) i1 hn W1 hi (by rw [i2.1]; exact hk) (by rw [ea]; exact hl) fun s2 e2 => ?_
    rw [ef] at e2 ⊢
    rw [wi_sm (by omega) (by omega)]
    refine hT (s2, _) ⟨?_, ?_, i3.s0 hn.2 hi e2 rfl⟩
    · dsimp only
      rw [e2]
      split
      · exact i1.sF (by rw [k78]; decide)
      · exact i1
    · dsimp only
      rw [e2]
      split
      · exact i2.tr (FrW.sF (by decide))
      · exact i2
  · intro ⟨s1, a⟩ ⟨i1, i2, i3⟩
    dsimp only at i1 i2 i3 ⊢
    have W1 := FrW.wd Wd i2 (by decide)
    have l83 : (gA s1 83).length = 13 := i1.2.1 83 (by decide) (by decide)
    have c1 := W1.2.1
    rw [e_X4_chooseNearest_5]
    simp (disch := ((try simp only [kd_sF, kd_sA, gA_sF, gA_sA, gF_sF, gF_sA, List.length_set, reduceIte, and_true, and_false, true_and, false_and, Nat.reduceEqDiff, Int.reduceEq, i1.o78]); first | done | omega)) only [rF_ok, wF_ok, oK_ok, lA_ok, rA_ok, wA_ok, cI_ok, cV_ok, cL_ok, cR_ok, kd_sF, kd_sA, gA_sF, gF_sA, gF_sF, gA_sA, bk_0, bk_1, List.length_set, reduceIte, and_true, and_false, true_and, false_and, ne_eq, not_true_eq_false, not_false_eq_true, Int.toNat_natCast, Int.reduceToNat, Nat.reduceEqDiff, Int.reduceEq, Int.reduceLT, Int.reduceLE, Int.reduceAdd, Int.reduceSub, Int.reduceMul, Int.reduceNeg, i1.o78, c1, Int.lt_irrefl]
    exact reI ⟨i1, i2, i3⟩
end CNS
