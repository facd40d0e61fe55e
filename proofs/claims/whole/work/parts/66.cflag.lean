/-! ===== the class: refused and granted; a word that is dealt has its number ===== -/
def outA (a : Ab) (v : Int) : Int × Ab := if v < 0 then refu a v else goodA a v
section CG
variable {s : St} {a : Ab} {d : Nat}
theorem RepC.m {s' : St} {t : List Int} {f : Int × Int × Int × Int} {r : Int × Int × Int × Int × Int} (R : RepC a s) (W : wfA a) (F : FrK [] [1, 75] [2, 97] s s') (hs : ShC s') (ht : TpC s' t) (hf : FlC s' f) (hr : RfC s' r) : RepC (a.1, a.2.1, a.2.2.1, t, f, r, a.2.2.2.2.2.2) s' := by
  have R' := R
  obtain ⟨r1, r2, r3, r4, -, -, -, -, r9⟩ := R'
  exact R.up W F hs (by decide) (by decide) (r9.k2 r1.o78.1 F (by decide) (by decide) (by decide)) (r2.k W.1 F (by decide) (by decide)) (r4.k r1.o10.1 F (by decide) (by decide) (by decide)) ht hf hr
theorem RepC.st (R : RepC a s) (W : wfA a) (v : Int) : RepC (setSt a v) (sF s 1 12 v) := by
  have hs := R.1
  have k1 : kd s 1 = 15 := hs.o1.1
  obtain ⟨-, -, -, -, ⟨t1, t2⟩, ⟨f1, f2, f3, f4⟩, r7, -, -⟩ := id R
  exact R.m W (FrK.sF (by decide)) (hs.sF (by rw [k1]; decide)) ⟨(gF_nk (by decide)).trans t1, t2⟩ ⟨gF_eq _ _ _ _, (gF_nk (by decide)).trans f2, (gF_nk (by decide)).trans f3, (gF_np (by decide)).trans f4⟩ r7
theorem c_granted (R : RepC a s) (W : wfA a) (v : Int) : ∃ s', X11_granted d s 1 v = some ([(0, v)], s') ∧ RepC (setSt a 0) s' := by
  have hs := R.1
  refine ⟨sF s 1 12 0, ?_, R.st W 0⟩
  rw [e_X11_granted]
  simp (disch := ((try simp only [kd_sF, kd_sA, gA_sF, gA_sA, gF_sF, gF_sA, List.length_set, reduceIte, and_true, and_false, true_and, false_and, Nat.reduceEqDiff, Int.reduceEq, hs.o1]); first | done | omega)) only [rF_ok, wF_ok, oK_ok, lA_ok, rA_ok, wA_ok, cI_ok, cV_ok, cL_ok, cR_ok, kd_sF, kd_sA, gA_sF, gF_sA, gF_sF, gA_sA, bk_0, bk_1, List.length_set, reduceIte, and_true, and_false, true_and, false_and, ne_eq, not_true_eq_false, not_false_eq_true, Int.toNat_natCast, Int.reduceToNat, Nat.reduceEqDiff, Int.reduceEq, Int.reduceLT, Int.reduceLE, Int.reduceAdd, Int.reduceSub, Int.reduceMul, Int.reduceNeg, hs.o1]
theorem c_refused {v : Int} (hv : v = -1 ∨ v = -2 ∨ v = -3 ∨ v = -5 ∨ v = -6) (R : RepC a s) (W : wfA a) : ∃ s', X11_refused d s 1 v = some ([(0, v)], s') ∧ RepC (refu a v).2 s' := by
  have hs := R.1
  have k1 : kd s 1 = 15 := hs.o1.1
  have k97 : kd s 97 = 20 := hs.1 97 (by decide) (by decide)
  have l97 : (gA s 97).length = 5 := hs.2.1 97 (by decide) (by decide)
  obtain ⟨-, -, -, -, ⟨t1, t2⟩, ⟨f1, f2, f3, f4⟩, r7, -, -⟩ := id R
  have key : ∀ (i : Nat) (r : Int × Int × Int × Int × Int), (gA s 97).set i (wi ((gA s 97).getD i 0 + 1)) = [r.1, r.2.1, r.2.2.1, r.2.2.2.1, r.2.2.2.2] → RepC (a.1, a.2.1, a.2.2.1, a.2.2.2.1, (v, a.2.2.2.2.1.2), r, a.2.2.2.2.2.2) (sA (sF s 1 12 v) 97 ((gA s 97).set i (wi ((gA s 97).getD i 0 + 1)))) := by
    intro i r hr
    have h1 : ShC (sF s 1 12 v) := hs.sF (by rw [k1]; decide)
    exact R.m W ((FrK.sF (by decide)).tr (FrK.sA _ (by decide))) (h1.sA (by rw [List.length_set]; rfl) (by rw [kd_sF, k97]; decide)) ⟨by rw [gF_sA, gF_nk (by decide)]; exact t1, t2⟩ ⟨by rw [gF_sA, gF_eq], by rw [gF_sA, gF_nk (by decide)]; exact f2, by rw [gF_sA, gF_nk (by decide)]; exact f3, by rw [gF_sA, gF_np (by decide)]; exact f4⟩ ((gA_eq _ _ _).trans hr)
  unfold RfC at r7
  rcases hv with rfl | rfl | rfl | rfl | rfl
  · refine ⟨_, ?_, key 0 _ (by rw [r7]; rfl)⟩
    rw [e_X11_refused]
    simp (disch := ((try simp only [kd_sF, kd_sA, gA_sF, gA_sA, gF_sF, gF_sA, List.length_set, reduceIte, and_true, and_false, true_and, false_and, Nat.reduceEqDiff, Int.reduceEq, hs.o1]); first | done | omega)) only [rF_ok, wF_ok, oK_ok, lA_ok, rA_ok, wA_ok, cI_ok, cV_ok, cL_ok, cR_ok, kd_sF, kd_sA, gA_sF, gF_sA, gF_sF, gA_sA, bk_0, bk_1, List.length_set, reduceIte, and_true, and_false, true_and, false_and, ne_eq, not_true_eq_false, not_false_eq_true, Int.toNat_natCast, Int.reduceToNat, Nat.reduceEqDiff, Int.reduceEq, Int.reduceLT, Int.reduceLE, Int.reduceAdd, Int.reduceSub, Int.reduceMul, Int.reduceNeg, hs.o1]
  · refine ⟨_, ?_, key 1 _ (by rw [r7]; rfl)⟩
    rw [e_X11_refused]
    simp (disch := ((try simp only [kd_sF, kd_sA, gA_sF, gA_sA, gF_sF, gF_sA, List.length_set, reduceIte, and_true, and_false, true_and, false_and, Nat.reduceEqDiff, Int.reduceEq, hs.o1]); first | done | omega)) only [rF_ok, wF_ok, oK_ok, lA_ok, rA_ok, wA_ok, cI_ok, cV_ok, cL_ok, cR_ok, kd_sF, kd_sA, gA_sF, gF_sA, gF_sF, gA_sA, bk_0, bk_1, List.length_set, reduceIte, and_true, and_false, true_and, false_and, ne_eq, not_true_eq_false, not_false_eq_true, Int.toNat_natCast, Int.reduceToNat, Nat.reduceEqDiff, Int.reduceEq, Int.reduceLT, Int.reduceLE, Int.reduceAdd, Int.reduceSub, Int.reduceMul, Int.reduceNeg, hs.o1]
  · refine ⟨_, ?_, key 2 _ (by rw [r7]; rfl)⟩
    rw [e_X11_refused]
    simp (disch := ((try simp only [kd_sF, kd_sA, gA_sF, gA_sA, gF_sF, gF_sA, List.length_set, reduceIte, and_true, and_false, true_and, false_and, Nat.reduceEqDiff, Int.reduceEq, hs.o1]); first | done | omega)) only [rF_ok, wF_ok, oK_ok, lA_ok, rA_ok, wA_ok, cI_ok, cV_ok, cL_ok, cR_ok, kd_sF, kd_sA, gA_sF, gF_sA, gF_sF, gA_sA, bk_0, bk_1, List.length_set, reduceIte, and_true, and_false, true_and, false_and, ne_eq, not_true_eq_false, not_false_eq_true, Int.toNat_natCast, Int.reduceToNat, Nat.reduceEqDiff, Int.reduceEq, Int.reduceLT, Int.reduceLE, Int.reduceAdd, Int.reduceSub, Int.reduceMul, Int.reduceNeg, hs.o1]
  · refine ⟨_, ?_, key 3 _ (by rw [r7]; rfl)⟩
    rw [e_X11_refused]
    simp (disch := ((try simp only [kd_sF, kd_sA, gA_sF, gA_sA, gF_sF, gF_sA, List.length_set, reduceIte, and_true, and_false, true_and, false_and, Nat.reduceEqDiff, Int.reduceEq, hs.o1]); first | done | omega)) only [rF_ok, wF_ok, oK_ok, lA_ok, rA_ok, wA_ok, cI_ok, cV_ok, cL_ok, cR_ok, kd_sF, kd_sA, gA_sF, gF_sA, gF_sF, gA_sA, bk_0, bk_1, List.length_set, reduceIte, and_true, and_false, true_and, false_and, ne_eq, not_true_eq_false, not_false_eq_true, Int.toNat_natCast, Int.reduceToNat, Nat.reduceEqDiff, Int.reduceEq, Int.reduceLT, Int.reduceLE, Int.reduceAdd, Int.reduceSub, Int.reduceMul, Int.reduceNeg, hs.o1]
  · refine ⟨_, ?_, key 4 _ (by rw [r7]; rfl)⟩
    rw [e_X11_refused]
    simp (disch := ((try simp only [kd_sF, kd_sA, gA_sF, gA_sA, gF_sF, gF_sA, List.length_set, reduceIte, and_true, and_false, true_and, false_and, Nat.reduceEqDiff, Int.reduceEq, hs.o1]); first | done | omega)) only [rF_ok, wF_ok, oK_ok, lA_ok, rA_ok, wA_ok, cI_ok, cV_ok, cL_ok, cR_ok, kd_sF, kd_sA, gA_sF, gF_sA, gF_sF, gA_sA, bk_0, bk_1, List.length_set, reduceIte, and_true, and_false, true_and, false_and, ne_eq, not_true_eq_false, not_false_eq_true, Int.toNat_natCast, Int.reduceToNat, Nat.reduceEqDiff, Int.reduceEq, Int.reduceLT, Int.reduceLE, Int.reduceAdd, Int.reduceSub, Int.reduceMul, Int.reduceNeg, hs.o1]
/-- a refusal at the end of a call -/
theorem cc_ref {v : Int} {K : Int → St → Res} (hv : v = -1 ∨ v = -2 ∨ v = -3 ∨ v = -5 ∨ v = -6) (R : RepC a s) (W : wfA a) (hK : ∀ x s', K x s' = some ([(0, x)], s')) : Gl (GI fun x s' => x = (refu a v).1 ∧ RepC (refu a v).2 s') (cI (X11_refused d s 1 v) K) := by
  obtain ⟨s', e1, e2⟩ := c_refused (d := d) hv R W
  rw [e1, cI_ok, hK]
  exact reI ⟨rfl, e2⟩
theorem cc_grant {v : Int} {K : Int → St → Res} (R : RepC a s) (W : wfA a) (hK : ∀ x s', K x s' = some ([(0, x)], s')) : Gl (GI fun x s' => x = (goodA a v).1 ∧ RepC (goodA a v).2 s') (cI (X11_granted d s 1 v) K) := by
  obtain ⟨s', e1, e2⟩ := c_granted (d := d) R W v
  rw [e1, cI_ok, hK]
  exact reI ⟨rfl, e2⟩
theorem cc_outcome {v : Int} {K : Int → St → Res} (hv : v < 0 → v = -1 ∨ v = -2 ∨ v = -3 ∨ v = -5 ∨ v = -6) (R : RepC a s) (W : wfA a) (hK : ∀ x s', K x s' = some ([(0, x)], s')) : Gl (GI fun x s' => x = (outA a v).1 ∧ RepC (outA a v).2 s') (cI (X11_outcome (d + 1) s 1 v) K) := by
  have hs := R.1
  unfold outA
  rw [e_X11_outcome]
  by_cases h : v < 0
  · rw [if_pos h, if_pos h]
    obtain ⟨s', e1, e2⟩ := c_refused (d := d) (hv h) R W
    simp (disch := ((try simp only [kd_sF, kd_sA, gA_sF, gA_sA, gF_sF, gF_sA, List.length_set, reduceIte, and_true, and_false, true_and, false_and, Nat.reduceEqDiff, Int.reduceEq, hs.o1]); first | done | omega)) only [rF_ok, wF_ok, oK_ok, lA_ok, rA_ok, wA_ok, cI_ok, cV_ok, cL_ok, cR_ok, kd_sF, kd_sA, gA_sF, gF_sA, gF_sF, gA_sA, bk_0, bk_1, List.length_set, reduceIte, and_true, and_false, true_and, false_and, ne_eq, not_true_eq_false, not_false_eq_true, Int.toNat_natCast, Int.reduceToNat, Nat.reduceEqDiff, Int.reduceEq, Int.reduceLT, Int.reduceLE, Int.reduceAdd, Int.reduceSub, Int.reduceMul, Int.reduceNeg, hs.o1, e1, hK]
    exact reI ⟨rfl, e2⟩
  · rw [if_neg h, if_neg h]
    obtain ⟨s', e1, e2⟩ := c_granted (d := d) R W v
    simp (disch := ((try simp only [kd_sF, kd_sA, gA_sF, gA_sA, gF_sF, gF_sA, List.length_set, reduceIte, and_true, and_false, true_and, false_and, Nat.reduceEqDiff, Int.reduceEq, hs.o1]); first | done | omega)) only [rF_ok, wF_ok, oK_ok, lA_ok, rA_ok, wA_ok, cI_ok, cV_ok, cL_ok, cR_ok, kd_sF, kd_sA, gA_sF, gF_sA, gF_sF, gA_sA, bk_0, bk_1, List.length_set, reduceIte, and_true, and_false, true_and, false_and, ne_eq, not_true_eq_false, not_false_eq_true, Int.toNat_natCast, Int.reduceToNat, Nat.reduceEqDiff, Int.reduceEq, Int.reduceLT, Int.reduceLE, Int.reduceAdd, Int.reduceSub, Int.reduceMul, Int.reduceNeg, hs.o1, e1, hK]
    exact reI ⟨rfl, e2⟩
end CG
theorem unlN_0 {f g : Nat → Int} : ∀ {n : Nat}, unlN f g n = 0 → ∀ k, k < n → f k = g k
  | 0, _, k, hk => by omega
  | n + 1, h, k, hk => by
    have hb := unlN_bd f g n
    have es : unlN f g (n + 1) = unlN f g n + (if f n = g n then 0 else 1) := rfl
    rw [es] at h
    by_cases e : f n = g n
    · rw [if_pos e] at h
      by_cases e2 : k = n
      · rw [e2]; exact e
      · exact unlN_0 (n := n) (by omega) k (by omega)
    · rw [if_neg e] at h
      omega
theorem dealF_num (x : Int) : ∀ m, ∃ w, w < WN (m + 1) ∧ ∀ k, k < m + 1 → plN (m + 1) w k = dealF x k
  | 0 => by
    refine ⟨(lcg x % 3).toNat, ?_, fun k hk => ?_⟩
    · unfold WN; simp only [Nat.add_sub_cancel, Nat.pow_zero, Nat.mul_one]; omega
    · rw [show k = 0 by omega]
      unfold dealF plN
      simp only [Nat.add_sub_cancel, Nat.pow_zero, Nat.div_one]
      omega
  | m + 1 => by
    obtain ⟨w, h1, h2⟩ := dealF_num x m
    have hb : (lcgI x (m + 2) % 2).toNat < 2 := by omega
    obtain ⟨g1, g2⟩ := plN_step (a := m + 1) (u := w) (b := (lcgI x (m + 2) % 2).toNat) (by omega) hb
    refine ⟨2 * w + (lcgI x (m + 2) % 2).toNat, ?_, fun k hk => ?_⟩
    · unfold WN at h1 ⊢
      simp only [Nat.add_sub_cancel] at h1 ⊢
      rw [Nat.pow_succ]
      omega
    · by_cases e : k < m + 1
      · rw [g1 k e, h2 k e]
      · rw [show k = m + 1 by omega, g2, Nat.add_sub_cancel, h2 m (by omega)]
        show fol _ _ = fol (dealF x m) (lcgI x (m + 2) % 2)
        rw [i2n (by omega)]
section PD
variable {cls : List Cl} {mood th : Int} {m : Nat}
theorem prW_in {u : Nat} : u ∈ prW cls mood th m ↔ u < WN m ∧ prB cls mood th (((m : Int) - 1) % 2) (plN m u) m = true := by
  unfold prW prU
  rw [List.mem_filter, List.mem_range]
theorem deal_rank (x : Int) (hm : 3 ≤ m ∧ m ≤ 12) : (rankL (dealF x) m (prW cls mood th m) = -1 ∧ prB cls mood th (((m : Int) - 1) % 2) (dealF x) m = false) ∨ ∃ i, i < (prW cls mood th m).length ∧ rankL (dealF x) m (prW cls mood th m) = i ∧ prB cls mood th (((m : Int) - 1) % 2) (dealF x) m = true ∧ ∀ k, k < m → plN m ((prW cls mood th m).getD i 0) k = dealF x k := by
  obtain ⟨j, rfl⟩ : ∃ j, m = j + 1 := ⟨m - 1, by omega⟩
  obtain ⟨w, h1, h2⟩ := dealF_num x j
  by_cases hp : prB cls mood th ((((j + 1 : Nat) : Int) - 1) % 2) (dealF x) (j + 1) = true
  · right
    have hw : w ∈ prW cls mood th (j + 1) := prW_in.mpr ⟨h1, by rw [prB_congr h2]; exact hp⟩
    obtain ⟨i, hi, e⟩ := List.mem_iff_getElem.mp hw
    have eg : (prW cls mood th (j + 1)).getD i 0 = w := by rw [List.getD_eq_getElem?_getD, List.getElem?_eq_getElem hi]; exact e
    have ew : wdI cls mood th (j + 1) i = w4p (dealF x) (j + 1) := by
      unfold wdI
      rw [eg]
      exact w4p_congr h2
    refine ⟨i, hi, ?_, hp, fun k hk => by rw [eg]; exact h2 k hk⟩
    rw [rank_wd (lo := i) hm.1 (fun k _ => dealF_pl x k) (by omega) (fun l hl => by rw [← ew]; exact wdI_lt hm.1 hl hi) (fun l h3 h4 => by
      rw [← ew]
      by_cases e3 : l = i
      · rw [e3]; exact Int.le_refl _
      · exact Int.le_of_lt (wdI_lt hm.1 (by omega) h4)), if_pos ⟨hi, ew⟩]
  · left
    rw [Bool.not_eq_true] at hp
    refine ⟨fidx_none fun l hl => ?_, hp⟩
    refine decide_eq_false fun e => ?_
    have hm2 := (prW_in.mp (gdMem (a := 0) hl)).2
    rw [prB_congr (unlN_0 e), hp] at hm2
    cases hm2
end PD
