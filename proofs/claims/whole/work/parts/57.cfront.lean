/-! ===== the class's paper: its fronts, counted ===== -/
section CFS
variable {cls : List Cl} {mood th : Int} {n d : Nat} {s : St}
theorem tal_nil {n v : Nat} : tal n [] v = 0 := rfl
theorem posN_z {f : Nat → Int} (h : ∀ k, f k = 0) : ∀ n, posN f n = 0
  | 0 => rfl
  | n + 1 => by
    have e : posN f (n + 1) = posN f n + (if 0 < f n then 1 else 0) := rfl
    rw [e, posN_z h n, h n]; rfl
theorem maxN_z {f : Nat → Int} (h : ∀ k, f k = 0) : ∀ n, maxN f n = 0
  | 0 => rfl
  | n + 1 => by
    have e : maxN f (n + 1) = if f n < maxN f n then maxN f n else f n := rfl
    rw [e, maxN_z h n, h n]; rfl
theorem FrW.mono {A B : List Int} {a b : St} (h : FrW A a b) (hq : A.all (fun x => B.any fun y => y == x) = true) : FrW B a b := ⟨h.1, h.2.1, h.2.2.mono hq⟩
theorem c_countFronts (hs : ShC s) (hn : 3 ≤ n ∧ n ≤ 12) (Wd : WdC cls mood th n s) : Gl (GV fun s' => ShC s' ∧ FrW [87, 88] s s' ∧ gF s' 78 15 = posN (tal n (prW cls mood th n)) 64 ∧ gF s' 78 16 = maxN (tal n (prW cls mood th n)) 64) (X4_countFronts (d + 2) s 78 n) := by
  have hb := SLn_bd n (by omega) hn.1
  have hlen := Wd.1
  rw [e_X4_countFronts]
  simp (disch := ((try simp only [kd_sF, kd_sA, gA_sF, gA_sA, gF_sF, gF_sA, List.length_set, reduceIte, and_true, and_false, true_and, false_and, Nat.reduceEqDiff, Int.reduceEq, hs.o78]); first | done | omega)) only [rF_ok, wF_ok, oK_ok, lA_ok, rA_ok, wA_ok, cI_ok, cV_ok, cL_ok, cR_ok, kd_sF, kd_sA, gA_sF, gF_sA, gF_sF, gA_sA, bk_0, bk_1, List.length_set, reduceIte, and_true, and_false, true_and, false_and, ne_eq, not_true_eq_false, not_false_eq_true, Int.toNat_natCast, Int.reduceToNat, Nat.reduceEqDiff, Int.reduceEq, Int.reduceLT, Int.reduceLE, Int.reduceAdd, Int.reduceSub, Int.reduceMul, Int.reduceNeg, hs.o78]
  refine biV (c_clearTally (d := d + 1) hs) fun s1 _ ⟨h1, h2, h3⟩ => ?_
  have k78 : kd s1 78 = 8 := h1.1 78 (by decide) (by decide)
  simp (disch := ((try simp only [kd_sF, kd_sA, gA_sF, gA_sA, gF_sF, gF_sA, List.length_set, reduceIte, and_true, and_false, true_and, false_and, Nat.reduceEqDiff, Int.reduceEq, h1.o78]); first | done | omega)) only [rF_ok, wF_ok, oK_ok, lA_ok, rA_ok, wA_ok, cI_ok, cV_ok, cL_ok, cR_ok, kd_sF, kd_sA, gA_sF, gF_sA, gF_sF, gA_sA, bk_0, bk_1, List.length_set, reduceIte, and_true, and_false, true_and, false_and, ne_eq, not_true_eq_false, not_false_eq_true, Int.toNat_natCast, Int.reduceToNat, Nat.reduceEqDiff, Int.reduceEq, Int.reduceLT, Int.reduceLE, Int.reduceAdd, Int.reduceSub, Int.reduceMul, Int.reduceNeg, h1.o78]
  have hS : ShC (sF (sF s1 78 15 0) 78 16 0) := by
    refine ShC.sF (h1.sF (by rw [k78]; decide)) ?_
    show finC.all (fun q => !(q.1 == kd s1 78 && q.2 == 16)) = true
    rw [k78]; decide
  have hF : FrW [87, 88] s (sF (sF s1 78 15 0) 78 16 0) := (h2.w.mono (by decide)).tr ((FrW.sF (by decide)).tr (FrW.sF (by decide)))
  have hTl : TlC n [] (sF (sF s1 78 15 0) 78 16 0) := by
    refine ⟨fun v hv => h3 v hv, ?_, ?_⟩
    · rw [posN_z (fun k => tal_nil) 64]; exact (gF_nk (by decide)).trans (gF_eq _ _ _ _)
    · rw [maxN_z (fun k => tal_nil) 64]; exact gF_eq _ _ _ _
  generalize sF (sF s1 78 15 0) 78 16 0 = S at hS hF hTl
  refine lpG (fun i a => X4_countFronts_16 (d + 2) a 78 n i) (fun i a => ShC a ∧ FrW [87, 88] s a ∧ TlC n ((prW cls mood th n).take i) a) (prW cls mood th n).length ?_ ?_ 0 S (by omega) ⟨hS, hF, hTl⟩
  · intro T i a hi ⟨i1, i2, i3⟩ hT
    have W1 := FrW.wd Wd i2 (by decide)
    have l83 : (gA a 83).length = 13 := i1.2.1 83 (by decide) (by decide)
    have c1 := W1.2.1
    rw [e_X4_countFronts_16]
    simp (disch := ((try simp only [kd_sF, kd_sA, gA_sF, gA_sA, gF_sF, gF_sA, List.length_set, reduceIte, and_true, and_false, true_and, false_and, Nat.reduceEqDiff, Int.reduceEq, i1.o78]); first | done | omega)) only [rF_ok, wF_ok, oK_ok, lA_ok, rA_ok, wA_ok, cI_ok, cV_ok, cL_ok, cR_ok, kd_sF, kd_sA, gA_sF, gF_sA, gF_sF, gA_sA, bk_0, bk_1, List.length_set, reduceIte, and_true, and_false, true_and, false_and, ne_eq, not_true_eq_false, not_false_eq_true, Int.toNat_natCast, Int.reduceToNat, Nat.reduceEqDiff, Int.reduceEq, Int.reduceLT, Int.reduceLE, Int.reduceAdd, Int.reduceSub, Int.reduceMul, Int.reduceNeg, i1.o78, c1, Int.ofNat_lt, hi]
    refine biV (c_spell (d := d) i1 hn W1 hi) fun s2 _ ⟨j1, j2, j3⟩ => ?_
    have hu : (prW cls mood th n).getD i 0 < WN n := prU_mem (gdMem (a := 0) hi)
    have gt := getD_take_s hi
    generalize hU : (prW cls mood th n).getD i 0 = U at *
    have l87 : (gA s2 87).length = 12 := j1.2.1 87 (by decide) (by decide)
    have l88 : (gA s2 88).length = 64 := j1.2.1 88 (by decide) (by decide)
    have k87 : kd s2 87 = 20 := j1.1 87 (by decide) (by decide)
    have ka : kd a 78 = 8 := i1.1 78 (by decide) (by decide)
    have fb := frN_bd (st := ((n : Int) - 1) % 2) (f := plN n U) (n := n) (fun k _ => plN_pl hu k)
    have fr := c_frontOf (d := d + 1) (st := ((n : Int) - 1) % 2) (n := n) k87 (by omega) (by omega) (by omega) (fun k hk => by rw [j3 k hk]; exact plN_pl hu k)
    rw [frN_congr j3] at fr
    obtain ⟨v, hv⟩ : ∃ v : Nat, frN (((n : Int) - 1) % 2) (plN n U) n = v := Int.eq_ofNat_of_zero_le fb.1
    have hv64 : v < 64 := by omega
    have i3' : TlC n ((prW cls mood th n).take i) s2 := by
      obtain ⟨t1, t2, t3⟩ := i3
      refine ⟨fun w hw => by rw [j2.2.2 88 (by decide)]; exact t1 w hw, ?_, ?_⟩
      · rw [j2.2.1 78 15 (by rw [ka]; decide) (by decide)]; exact t2
      · rw [j2.2.1 78 16 (by rw [ka]; decide) (by decide)]; exact t3
    have ea : andI (v : Int) 63 = v := by rw [and63 (by omega) (by omega)]; omega
    have tv := i3'.1 v hv64
    have fin := c_front67 (d := d + 2) (T := T) (i := i) (u := U) j1 hv64 hv (by rw [List.length_take]; omega) i3' (fun s' a1 a2 a3 => by
      rw [wi_sm (by omega) (by omega)]
      exact hT s' ⟨a1, i2.tr ((j2.w.mono (by decide)).tr a2), by rw [gt]; exact a3⟩)
    rw [hv] at fr
    simp (disch := ((try simp only [kd_sF, kd_sA, gA_sF, gA_sA, gF_sF, gF_sA, List.length_set, reduceIte, and_true, and_false, true_and, false_and, Nat.reduceEqDiff, Int.reduceEq, j1.o78]); first | done | omega)) only [rF_ok, wF_ok, oK_ok, lA_ok, rA_ok, wA_ok, cI_ok, cV_ok, cL_ok, cR_ok, kd_sF, kd_sA, gA_sF, gF_sA, gF_sF, gA_sA, bk_0, bk_1, List.length_set, reduceIte, and_true, and_false, true_and, false_and, ne_eq, not_true_eq_false, not_false_eq_true, Int.toNat_natCast, Int.reduceToNat, Nat.reduceEqDiff, Int.reduceEq, Int.reduceLT, Int.reduceLE, Int.reduceAdd, Int.reduceSub, Int.reduceMul, Int.reduceNeg, j1.o78, e_X11_startOfWord, wi_sm, and1, fr, ea, tv]
    by_cases z : tal n ((prW cls mood th n).take i) v = 0
    · rw [if_pos z] at fin ⊢; exact fin
    · rw [if_neg z] at fin ⊢; exact fin
  · intro a ⟨i1, i2, i3⟩
    have W1 := FrW.wd Wd i2 (by decide)
    have l83 : (gA a 83).length = 13 := i1.2.1 83 (by decide) (by decide)
    have c1 := W1.2.1
    rw [List.take_length] at i3
    rw [e_X4_countFronts_16]
    simp (disch := ((try simp only [kd_sF, kd_sA, gA_sF, gA_sA, gF_sF, gF_sA, List.length_set, reduceIte, and_true, and_false, true_and, false_and, Nat.reduceEqDiff, Int.reduceEq, i1.o78]); first | done | omega)) only [rF_ok, wF_ok, oK_ok, lA_ok, rA_ok, wA_ok, cI_ok, cV_ok, cL_ok, cR_ok, kd_sF, kd_sA, gA_sF, gF_sA, gF_sF, gA_sA, bk_0, bk_1, List.length_set, reduceIte, and_true, and_false, true_and, false_and, ne_eq, not_true_eq_false, not_false_eq_true, Int.toNat_natCast, Int.reduceToNat, Nat.reduceEqDiff, Int.reduceEq, Int.reduceLT, Int.reduceLE, Int.reduceAdd, Int.reduceSub, Int.reduceMul, Int.reduceNeg, i1.o78, c1, Int.lt_irrefl]
    exact reV ⟨i1, i2, i3.2.1, i3.2.2⟩
end CFS
