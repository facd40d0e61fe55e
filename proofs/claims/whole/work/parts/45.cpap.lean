/-! ===== the class's paper as it is kept; prepared for a length ===== -/
/-- two laws that tell the same -/
def AskEq (c1 c2 : List Cl) (mood th : Int) : Prop := ∀ side k bef pl : Int, 0 ≤ side ∧ side ≤ 1 → 0 ≤ k ∧ k ≤ 12 → -1 ≤ bef ∧ bef ≤ 2 → 0 ≤ pl ∧ pl ≤ 2 → tkQ c1 mood th side k bef pl = tkQ c2 mood th side k bef pl ∧ gpA c1 mood th side k bef pl = gpA c2 mood th side k bef pl ∧ brA c1 mood th side k bef pl = brA c2 mood th side k bef pl
theorem ask_same {s : St} {p mood th : Int} {c1 c2 : List Cl} (J : ShJ s) (h1 : LwP s p c1) (h2 : LwP s p c2) (hm : 0 ≤ mood ∧ mood ≤ 9) (hth : 0 ≤ th ∧ th ≤ 9) : AskEq c1 c2 mood th := by
  intro side k bef pl a1 a2 a3 a4
  obtain ⟨s1, e1, -, q1, q2, q3⟩ := c_ask (d := 0) (mood := mood) (th := th) (side := side) (k := k) (bef := bef) (pl := pl) J h1 hm hth a1 a2 a3 a4
  obtain ⟨s2, e2, -, r1, r2, r3⟩ := c_ask (d := 0) (mood := mood) (th := th) (side := side) (k := k) (bef := bef) (pl := pl) J h2 hm hth a1 a2 a3 a4
  rw [e1] at e2
  cases e2
  exact ⟨q1.symm.trans r1, q2.symm.trans r2, q3.symm.trans r3⟩
theorem ask_W {c1 c2 : List Cl} {mood th st : Int} {f : Nat → Int} {k : Nat} (h : AskEq c1 c2 mood th) (hst : st = 0 ∨ st = 1) (hk : k < 12) (hp : ∀ j, pl3 (f j)) : tkW c1 mood th st f k = tkW c2 mood th st f k ∧ gpW c1 mood th st f k = gpW c2 mood th st f k ∧ brW c1 mood th st f k = brW c2 mood th st f k := by
  have p1 := hp k
  have p2 := hp (k - 1)
  unfold pl3 at p1 p2
  exact h _ _ _ _ (by omega) (by omega) (by split <;> omega) (by omega)
section PA
variable {c1 c2 : List Cl} {mood th : Int} {n : Nat}
theorem ask_prW (h : AskEq c1 c2 mood th) (hn : n ≤ 12) : prW c1 mood th n = prW c2 mood th n := by
  unfold prW prU
  refine List.filter_congr fun u hu => ?_
  have hu2 : u < 3 * 2 ^ (n - 1) := List.mem_range.mp hu
  unfold prB
  congr 1
  refine allN_congr fun k hk => ?_
  rw [(ask_W h (by omega) (by omega) (fun j => plN_pl hu2 j)).2.2]
theorem ask_S (h : AskEq c1 c2 mood th) (hn : n ≤ 12) {u : Nat} (hu : u < WN n) : tkS c1 mood th n u = tkS c2 mood th n u ∧ gpS c1 mood th n u = gpS c2 mood th n u := by
  unfold tkS gpS
  exact ⟨sumN_congr fun k hk => (ask_W h (by omega) (by omega) (fun j => plN_pl hu j)).1, sumN_congr fun k hk => (ask_W h (by omega) (by omega) (fun j => plN_pl hu j)).2.1⟩
/-- the proper words of n moves stand on the paper -/
def WdC (cls : List Cl) (mood th : Int) (n : Nat) (s : St) : Prop := (prW cls mood th n).length ≤ 2 ^ (n - 2) ∧ (gA s 83).getD n 0 = (prW cls mood th n).length ∧ ∀ i, i < (prW cls mood th n).length → (gA s 84).getD (SLn n + i) 0 = w4p (plN n ((prW cls mood th n).getD i 0)) n ∧ (gA s 85).getD (SLn n + i) 0 = tkS cls mood th n ((prW cls mood th n).getD i 0) ∧ (gA s 86).getD (SLn n + i) 0 = gpS cls mood th n ((prW cls mood th n).getD i 0)
theorem WdC.eq {s : St} (h : WdC c1 mood th n s) (e : AskEq c1 c2 mood th) (hn : n ≤ 12) : WdC c2 mood th n s := by
  obtain ⟨h1, h2, h3⟩ := h
  have hp := ask_prW e hn
  refine ⟨by rw [← hp]; exact h1, by rw [← hp]; exact h2, fun i hi => ?_⟩
  rw [← hp] at hi ⊢
  obtain ⟨g1, g2, g3⟩ := h3 i hi
  have hu := prU_mem (gdMem (a := 0) hi)
  obtain ⟨t1, t2⟩ := ask_S e hn hu
  exact ⟨g1, g2.trans t1, g3.trans t2⟩
theorem RtC.eq {s : St} {st c : Nat} (h : RtC c1 mood th st c s) (e : AskEq c1 c2 mood th) (hst : st < 2) (hc : c ≤ 144) : RtC c2 mood th st c s := by
  intro x hx hv hne
  obtain ⟨g1, g2, g3⟩ := h x hx hv hne
  have hE : 144 * st + x < 288 := by omega
  obtain ⟨t1, t2, t3⟩ := e ((((144 * st + x) / 144 + (144 * st + x) / 12 % 12) % 2 : Nat) : Int) (((144 * st + x) / 12 % 12 : Nat) : Int) ((((144 * st + x) / 3 % 4 : Nat) : Int) - 1) (((144 * st + x) % 3 : Nat) : Int) (by omega) (by omega) (by omega) (by omega)
  exact ⟨g1.trans t1, g2.trans t2, g3.trans t3⟩
/-- what the paper keeps is right for its law, mood and thickness -/
def PgR (cls : List Cl) (mood th : Int) (s : St) : Prop := gF s 78 2 = mood ∧ gF s 78 3 = th ∧ LwP s (gF s 78 1) cls ∧ (∀ st, st < 2 → (gA s 82).getD st 0 = 0 ∨ ((gA s 82).getD st 0 = 1 ∧ RtC cls mood th st 144 s)) ∧ ∀ n, 3 ≤ n → n ≤ 12 → (gA s 83).getD n 0 = -1 ∨ WdC cls mood th n s
def PgC (s : St) : Prop := gF s 78 2 = -1 ∨ ∃ cls mood th, (0 ≤ mood ∧ mood ≤ 9) ∧ (0 ≤ th ∧ th ≤ 9) ∧ PgR cls mood th s
end PA
theorem SLn_ap : ∀ n, n < 13 → ∀ m, m < 13 → 3 ≤ n → n < m → SLn n + 2 ^ (n - 2) ≤ SLn m := by decide +kernel
/-- only the judge's and the paper's cells are written -/
def FrP (s s' : St) : Prop := (∀ p, kd s' p = kd s p) ∧ (∀ p k, kd s p ≠ 6 → kd s p ≠ 8 → k < 100 → gF s' p k = gF s p k) ∧ Fa [32, 33, 79, 80, 81, 82, 83, 84, 85, 86, 87, 88] s s'
theorem FrP.tr {a b c : St} (h : FrP a b) (g : FrP b c) : FrP a c := ⟨fun p => (g.1 p).trans (h.1 p), fun p k hp hq hk => (g.2.1 p k (by rw [h.1]; exact hp) (by rw [h.1]; exact hq) hk).trans (h.2.1 p k hp hq hk), h.2.2.tr g.2.2⟩
theorem FrP.rf (s : St) : FrP s s := ⟨fun _ => rfl, fun _ _ _ _ _ => rfl, Fa.rf _ _⟩
theorem FrX.p {A : List Int} {s s' : St} (h : FrX A s s') (hA : A.all (fun x => [32, 33, 79, 80, 81, 82, 83, 84, 85, 86, 87, 88].any fun y => y == x) = true) : FrP s s' := ⟨h.1, fun p k hp _ hk => h.2.1 p k hp hk, h.2.2.mono hA⟩
section PB
variable {cls : List Cl} {mood th : Int} {n d : Nat} {s : St}
theorem c_prep100 (hs : ShC s) (hm : 0 ≤ mood ∧ mood ≤ 9) (hth : 0 ≤ th ∧ th ≤ 9) (P : PgR cls mood th s) (hn : 3 ≤ n ∧ n ≤ 12) : Gl (GV fun s' => ShC s' ∧ FrX [32, 33, 79, 80, 81, 82, 83, 84, 85, 86] s s' ∧ PgR cls mood th s' ∧ WdC cls mood th n s' ∧ ∀ m, 3 ≤ m → m ≤ 12 → WdC cls mood th m s → WdC cls mood th m s') (X4_prepare_100 (d + 27) s 78 n) := by
  have P' := P
  obtain ⟨p1, p2, p3, p4, p5⟩ := P
  rw [e_X4_prepare_100]
  simp (disch := ((try simp only [kd_sF, kd_sA, gA_sF, gA_sA, gF_sF, gF_sA, List.length_set, reduceIte, and_true, and_false, true_and, false_and, Nat.reduceEqDiff, Int.reduceEq, hs.o78]); first | done | omega)) only [rF_ok, wF_ok, oK_ok, lA_ok, rA_ok, wA_ok, cI_ok, cV_ok, cL_ok, cR_ok, kd_sF, kd_sA, gA_sF, gF_sA, gF_sF, gA_sA, bk_0, bk_1, List.length_set, reduceIte, and_true, and_false, true_and, false_and, ne_eq, not_true_eq_false, not_false_eq_true, Int.toNat_natCast, Int.reduceToNat, Nat.reduceEqDiff, Int.reduceEq, Int.reduceLT, Int.reduceLE, Int.reduceAdd, Int.reduceSub, Int.reduceMul, Int.reduceNeg, hs.o78]
  by_cases h1 : (gA s 83).getD n 0 = -1
  · rw [if_pos h1, e_X11_startOfWord, wi_sm (by omega) (by omega), and1 (by omega) (by omega), cI_ok, show ((n : Int) - 1) % 2 = (((n - 1) % 2 : Nat) : Int) by omega]
    have hst : (n - 1) % 2 < 2 := by omega
    simp (disch := ((try simp only [kd_sF, kd_sA, gA_sF, gA_sA, gF_sF, gF_sA, List.length_set, reduceIte, and_true, and_false, true_and, false_and, Nat.reduceEqDiff, Int.reduceEq, hs.o78]); first | done | omega)) only [rF_ok, wF_ok, oK_ok, lA_ok, rA_ok, wA_ok, cI_ok, cV_ok, cL_ok, cR_ok, kd_sF, kd_sA, gA_sF, gF_sA, gF_sF, gA_sA, bk_0, bk_1, List.length_set, reduceIte, and_true, and_false, true_and, false_and, ne_eq, not_true_eq_false, not_false_eq_true, Int.toNat_natCast, Int.reduceToNat, Nat.reduceEqDiff, Int.reduceEq, Int.reduceLT, Int.reduceLE, Int.reduceAdd, Int.reduceSub, Int.reduceMul, Int.reduceNeg, hs.o78]
    -- the cells
    have cells : Gl (GV fun s2 => ShC s2 ∧ FrX [32, 33, 79, 80, 81, 82] s s2 ∧ RtC cls mood th ((n - 1) % 2) 144 s2 ∧ ∀ st, st < 2 → (gA s2 82).getD st 0 = 0 ∨ ((gA s2 82).getD st 0 = 1 ∧ RtC cls mood th st 144 s2)) (X4_fillCells (d + 26) s 78 ((n - 1) % 2 : Nat)) := by
      rcases p4 _ hst with h0 | ⟨h0, h00⟩
      · refine wkV (c_fillCells (d := d + 22) hs p3 p1 p2 hm hth hst h0) fun s2 _ ⟨s1, e1, i1, i2, i3, i4⟩ => ?_
        have l82 : (gA s 82).length = 2 := hs.2.1 82 (by decide) (by decide)
        have e82 : gA s2 82 = (gA s 82).set ((n - 1) % 2) 1 := by rw [i2.2.2 82 (by decide), e1, gA_eq]
        refine ⟨i1, ((FrX.sA _ (by decide)).tr (e1 ▸ (i2.mono (by decide)))), i3, fun st hs2 => ?_⟩
        rw [e82, setD_getD (by omega)]
        by_cases e : (n - 1) % 2 = st
        · rw [if_pos e, ← e]; exact Or.inr ⟨rfl, i3⟩
        · rw [if_neg e]
          rcases p4 st hs2 with g | ⟨g, g2⟩
          · exact Or.inl g
          · refine Or.inr ⟨g, fun x hx hv hne => ?_⟩
            obtain ⟨r1, r2, r3⟩ := i4 (144 * st + x) (by omega)
            rw [r1, r2, r3, e1, gA_ne (by decide), gA_ne (by decide), gA_ne (by decide)]
            exact g2 x hx hv hne
      · rw [e_X4_fillCells]
        simp (disch := ((try simp only [kd_sF, kd_sA, gA_sF, gA_sA, gF_sF, gF_sA, List.length_set, reduceIte, and_true, and_false, true_and, false_and, Nat.reduceEqDiff, Int.reduceEq, hs.o78]); first | done | omega)) only [rF_ok, wF_ok, oK_ok, lA_ok, rA_ok, wA_ok, cI_ok, cV_ok, cL_ok, cR_ok, kd_sF, kd_sA, gA_sF, gF_sA, gF_sF, gA_sA, bk_0, bk_1, List.length_set, reduceIte, and_true, and_false, true_and, false_and, ne_eq, not_true_eq_false, not_false_eq_true, Int.toNat_natCast, Int.reduceToNat, Nat.reduceEqDiff, Int.reduceEq, Int.reduceLT, Int.reduceLE, Int.reduceAdd, Int.reduceSub, Int.reduceMul, Int.reduceNeg, hs.o78, h0]
        exact reV ⟨hs, FrX.rf _ _, h00, p4⟩
    refine biV cells fun s2 _ ⟨c1, c2, c3, c4⟩ => ?_
    have l83 : (gA s2 83).length = 13 := c1.2.1 83 (by decide) (by decide)
    simp (disch := ((try simp only [kd_sF, kd_sA, gA_sF, gA_sA, gF_sF, gF_sA, List.length_set, reduceIte, and_true, and_false, true_and, false_and, Nat.reduceEqDiff, Int.reduceEq, c1.o78]); first | done | omega)) only [rF_ok, wF_ok, oK_ok, lA_ok, rA_ok, wA_ok, cI_ok, cV_ok, cL_ok, cR_ok, kd_sF, kd_sA, gA_sF, gF_sA, gF_sF, gA_sA, bk_0, bk_1, List.length_set, reduceIte, and_true, and_false, true_and, false_and, ne_eq, not_true_eq_false, not_false_eq_true, Int.toNat_natCast, Int.reduceToNat, Nat.reduceEqDiff, Int.reduceEq, Int.reduceLT, Int.reduceLE, Int.reduceAdd, Int.reduceSub, Int.reduceMul, Int.reduceNeg, c1.o78]
    generalize hS : sA s2 83 ((gA s2 83).set n 0) = S
    have hsS : ShC S := by rw [← hS]; exact c1.sA (by rw [List.length_set]) (by rw [c1.1 83 (by decide) (by decide)]; decide)
    have FS : FrX [83] s2 S := by rw [← hS]; exact FrX.sA _ (by decide)
    have RS : RtC cls mood th ((n - 1) % 2) 144 S := by rw [← hS]; exact c3
    have e83 : gA S 83 = (gA s2 83).set n 0 := by rw [← hS, gA_eq]
    have I0 : EI cls mood th S n [] S := ⟨hsS, FrX.rf _ _, fun _ _ => rfl, by rw [e83, set_eq (by omega)]; rfl, fun _ _ => ⟨rfl, rfl, rfl⟩, fun i hi => by simp at hi⟩
    have hx := c_extend (d := d + 24 - 2 * n) hn hth RS I0
    rw [show d + 24 - 2 * n + 2 * n + 2 = d + 26 by omega] at hx
    refine biV hx fun s3 _ hq => ?_
    obtain ⟨⟨j1, j2, j3, j4, j5, j6⟩, j7⟩ := hq
    refine reV ?_
    have F : FrX [32, 33, 79, 80, 81, 82, 83, 84, 85, 86] s s3 := ((c2.mono (by decide)).tr (FS.mono (by decide))).tr (j2.mono (by decide))
    have k78 : kd s 78 = 8 := hs.o78.1
    have f1 := F.2.1 78 1 (by rw [k78]; decide) (by decide)
    have f2 := F.2.1 78 2 (by rw [k78]; decide) (by decide)
    have f3 := F.2.1 78 3 (by rw [k78]; decide) (by decide)
    have W : WdC cls mood th n s3 := ⟨j7, j4, j6⟩
    have a79 : gA s3 79 = gA s2 79 := (j2.2.2 79 (by decide)).trans (FS.2.2 79 (by decide))
    have a80 : gA s3 80 = gA s2 80 := (j2.2.2 80 (by decide)).trans (FS.2.2 80 (by decide))
    have a81 : gA s3 81 = gA s2 81 := (j2.2.2 81 (by decide)).trans (FS.2.2 81 (by decide))
    have a82 : gA s3 82 = gA s2 82 := (j2.2.2 82 (by decide)).trans (FS.2.2 82 (by decide))
    have b83 : ∀ m, m ≠ n → (gA s3 83).getD m 0 = (gA s 83).getD m 0 := fun m em => by
      rw [j3 m em, e83, set_ne (by omega), c2.2.2 83 (by decide)]
    have kp : ∀ m, 3 ≤ m → m ≤ 12 → WdC cls mood th m s → WdC cls mood th m s3 := by
      intro m m1 m2 ⟨g1, g2, g3⟩
      by_cases em : m = n
      · rw [em]; exact W
      · refine ⟨g1, by rw [b83 m em]; exact g2, fun i hi => ?_⟩
        have out : SLn m + i < SLn n ∨ SLn n + 2 ^ (n - 2) ≤ SLn m + i := by
          rcases Nat.lt_or_gt_of_ne em with q | q
          · left
            have := SLn_ap m (by omega) n (by omega) m1 q
            omega
          · right
            have := SLn_ap n (by omega) m (by omega) hn.1 q
            omega
        obtain ⟨r1, r2, r3⟩ := j5 (SLn m + i) out
        rw [r1, r2, r3, FS.2.2 84 (by decide), FS.2.2 85 (by decide), FS.2.2 86 (by decide), c2.2.2 84 (by decide), c2.2.2 85 (by decide), c2.2.2 86 (by decide)]
        exact g3 i hi
    refine ⟨j1, F, ⟨by rw [f2]; exact p1, by rw [f3]; exact p2, by rw [f1]; exact p3.fx F (by decide), fun st hs2 => ?_, fun m m1 m2 => ?_⟩, W, kp⟩
    · rw [a82]
      rcases c4 st hs2 with g | ⟨g, g2⟩
      · exact Or.inl g
      · refine Or.inr ⟨g, fun x hx hv hne => ?_⟩
        rw [a79, a80, a81]
        exact g2 x hx hv hne
    · by_cases em : m = n
      · rw [em]; exact Or.inr W
      · rcases p5 m m1 m2 with g | g
        · exact Or.inl (by rw [b83 m em]; exact g)
        · exact Or.inr (kp m m1 m2 g)
  · rw [if_neg h1]
    exact reV ⟨hs, FrX.rf _ _, P', (p5 n hn.1 hn.2).resolve_left h1, fun _ _ _ h => h⟩
end PB
