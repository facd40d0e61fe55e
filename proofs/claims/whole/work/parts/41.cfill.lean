/-! ===== the class's paper: what the law tells of each move, asked once ===== -/
/-- only the judge's fields and the arrays of A are written -/
def FrX (A : List Int) (s s' : St) : Prop := (∀ p, kd s' p = kd s p) ∧ (∀ p k, kd s p ≠ 6 → k < 100 → gF s' p k = gF s p k) ∧ Fa A s s'
theorem FrX.rf (A : List Int) (s : St) : FrX A s s := ⟨fun _ => rfl, fun _ _ _ _ => rfl, Fa.rf _ _⟩
theorem FrX.tr {A : List Int} {a b c : St} (h : FrX A a b) (g : FrX A b c) : FrX A a c := ⟨fun p => (g.1 p).trans (h.1 p), fun p k hp hk => (g.2.1 p k (by rw [h.1]; exact hp) hk).trans (h.2.1 p k hp hk), h.2.2.tr g.2.2⟩
theorem FrX.mono {A B : List Int} {a b : St} (h : FrX A a b) (hq : A.all (fun x => B.any fun y => y == x) = true) : FrX B a b := ⟨h.1, h.2.1, h.2.2.mono hq⟩
theorem FrX.sA {A : List Int} {s : St} {p : Int} (l : List Int) (h : p ∈ A) : FrX A s (sA s p l) := ⟨fun _ => rfl, fun _ _ _ _ => rfl, Fa.sA l h⟩
theorem FrX.ev {d j i : Nat} {L : Lc} {st : List V} {s s' : St} {r : List V} {A : List Int} (h : EV d j i L st s = some (r, s')) (hj : okB j = true) (hw : (wsT.getD j []).all (fun x => x / 100 == 6) = true) (hF : Fa A s s') : FrX A s s' := ⟨ev_kd h hj, ev_only h hj hw, hF⟩
theorem LwP.fx {s s' : St} {p : Int} {cls : List Cl} {A : List Int} (h : LwP s p cls) (g : FrX A s s') (hA : A.all (fun x => decide (x < 98)) = true) : LwP s' p cls := by
  rcases h with h | ⟨h1, h2, h3⟩
  · exact Or.inl h
  · refine Or.inr ⟨h1, h2.fr (fun q _ _ => g.1 q) (fun k hk => g.2.1 p k ?_ hk) (fun q q1 q2 => g.2.2 q (fun hm => ?_)), h3⟩
    · obtain ⟨⟨n, m, hs, -⟩, -⟩ := h2
      rw [hs.1]
      decide
    · have := of_decide_eq_true (List.all_eq_true.mp hA q hm)
      omega
/-- the cells of one start below c -/
def RtC (cls : List Cl) (mood th : Int) (st c : Nat) (s : St) : Prop := ∀ e, e < c → (e / 12 = 0 ↔ e / 3 % 4 = 0) → e / 3 % 4 ≠ e % 3 + 1 → (gA s 79).getD (144 * st + e) 0 = tkE cls mood th (144 * st + e) ∧ (gA s 80).getD (144 * st + e) 0 = gpE cls mood th (144 * st + e) ∧ (gA s 81).getD (144 * st + e) 0 = brE cls mood th (144 * st + e)
section CF
variable {s : St} {cls : List Cl} {mood th : Int} {d : Nat}
theorem c_fillCell {st k : Nat} {b p : Int} (hs : ShC s) (hL : LwP s (gF s 78 1) cls) (hm : gF s 78 2 = mood) (hth : gF s 78 3 = th) (hm2 : 0 ≤ mood ∧ mood ≤ 9) (hth2 : 0 ≤ th ∧ th ≤ 9) (hst : st < 2) (hk : k < 12) (hb : -1 ≤ b ∧ b < 3) (hp : 0 ≤ p ∧ p < 3) {e : Nat} (he : (e : Int) = 144 * st + 12 * k + 3 * (b + 1) + p) :
    Gl (GV fun s' => ShC s' ∧ FrX [32, 33, 79, 80, 81] s s' ∧ gA s' 79 = (gA s 79).set e (tkE cls mood th e) ∧ gA s' 80 = (gA s 80).set e (gpE cls mood th e) ∧ gA s' 81 = (gA s 81).set e (brE cls mood th e)) (X4_fillCell (d + 3) s 78 st k b p) := by
  rw [e_X4_fillCell]
  have e1 : (((st : Int) * 12 + k) * 4 + b + 1) * 3 + p = e := by omega
  have he2 : e < 288 := by omega
  have d1 : e / 144 = st ∧ e / 12 % 12 = k ∧ ((e / 3 % 4 : Nat) : Int) - 1 = b ∧ ((e % 3 : Nat) : Int) = p := by omega
  have d2 : (((st : Int) + k) % 2) = (((e / 144 + e / 12 % 12) % 2 : Nat) : Int) := by omega
  have t1 : tkQ cls mood th (((st : Int) + k) % 2) k b p = tkE cls mood th e := by unfold tkE; rw [d2, d1.2.1, d1.2.2.1, d1.2.2.2]
  have t2 : gpA cls mood th (((st : Int) + k) % 2) k b p = gpE cls mood th e := by unfold gpE; rw [d2, d1.2.1, d1.2.2.1, d1.2.2.2]
  have t3 : brA cls mood th (((st : Int) + k) % 2) k b p = brE cls mood th e := by unfold brE; rw [d2, d1.2.1, d1.2.2.1, d1.2.2.2]
  simp (disch := ((try simp only [kd_sF, kd_sA, gA_sF, gA_sA, gF_sF, gF_sA, List.length_set, reduceIte, and_true, and_false, true_and, false_and, Nat.reduceEqDiff, Int.reduceEq, hs.o78, hs.o31]); first | done | omega)) only [rF_ok, wF_ok, oK_ok, lA_ok, rA_ok, wA_ok, cI_ok, cV_ok, cL_ok, cR_ok, kd_sF, kd_sA, gA_sF, gF_sA, gF_sF, gA_sA, bk_0, bk_1, List.length_set, reduceIte, and_true, and_false, true_and, false_and, ne_eq, not_true_eq_false, not_false_eq_true, Int.toNat_natCast, Int.reduceToNat, Nat.reduceEqDiff, Int.reduceEq, Int.reduceLT, Int.reduceLE, Int.reduceAdd, Int.reduceSub, Int.reduceMul, Int.reduceNeg, hs.o78, hs.o31, e_X4_cell, e1, hm, hth, wi_sm, and1]
  refine biV (c_ask (d := d) (mood := mood) (th := th) (side := ((st : Int) + k) % 2) (k := (k : Int)) (bef := b) (pl := p) hs.j hL hm2 hth2 (by omega) (by omega) (by omega) (by omega)) fun s2 h2 ⟨q1, q2, q3, q4⟩ => ?_
  have hs2 : ShC s2 := hs.ev h2 rfl
  have F2 : FrX [32, 33] s s2 := FrX.ev h2 rfl (by decide) q1
  rw [t1] at q2
  rw [t2] at q3
  rw [t3] at q4
  have hz : brE cls mood th e = 0 ∨ brE cls mood th e = 1 := by
    have := brA_bd (cls := cls) (mood := mood) (th := th) (side := ((st : Int) + k) % 2) (k := (k : Int)) (bef := b) (pl := p)
    rw [t3] at this
    omega
  simp (disch := ((try simp only [kd_sF, kd_sA, gA_sF, gA_sA, gF_sF, gF_sA, List.length_set, reduceIte, and_true, and_false, true_and, false_and, Nat.reduceEqDiff, Int.reduceEq, hs2.o78, hs2.o31]); first | done | omega)) only [rF_ok, wF_ok, oK_ok, lA_ok, rA_ok, wA_ok, cI_ok, cV_ok, cL_ok, cR_ok, kd_sF, kd_sA, gA_sF, gF_sA, gF_sF, gA_sA, bk_0, bk_1, List.length_set, reduceIte, and_true, and_false, true_and, false_and, ne_eq, not_true_eq_false, not_false_eq_true, Int.toNat_natCast, Int.reduceToNat, Nat.reduceEqDiff, Int.reduceEq, Int.reduceLT, Int.reduceLE, Int.reduceAdd, Int.reduceSub, Int.reduceMul, Int.reduceNeg, hs2.o78, hs2.o31, q2, q3, q4, bk_b hz]
  refine reV ⟨?_, ?_, ?_, ?_, ?_⟩
  · refine ((hs2.sA (by rw [List.length_set]) (by rw [hs2.1 79 (by decide) (by decide)]; decide)).sA (by rw [List.length_set]; rfl) ?_).sA (by rw [List.length_set]; rfl) ?_
    · show kd s2 80 ≠ 24; rw [hs2.1 80 (by decide) (by decide)]; decide
    · show kd s2 81 ≠ 24; rw [hs2.1 81 (by decide) (by decide)]; decide
  · exact (F2.mono (by decide)).tr (((FrX.sA _ (by decide)).tr (FrX.sA _ (by decide))).tr (FrX.sA _ (by decide)))
  · rw [gA_ne (by decide), gA_ne (by decide), gA_eq, q1 79 (by decide)]
  · rw [gA_ne (by decide), gA_eq]
    rw [q1 80 (by decide)]
  · rw [gA_eq]
    rw [q1 81 (by decide)]
/-- the invariant of the filling loops -/
def FI (cls : List Cl) (mood th : Int) (s0 : St) (st c : Nat) (s : St) : Prop := ShC s ∧ FrX [32, 33, 79, 80, 81] s0 s ∧ RtC cls mood th st c s ∧ (∀ e, ¬ (144 * st ≤ e ∧ e < 144 * st + 144) → (gA s 79).getD e 0 = (gA s0 79).getD e 0 ∧ (gA s 80).getD e 0 = (gA s0 80).getD e 0 ∧ (gA s 81).getD e 0 = (gA s0 81).getD e 0)
variable {s0 : St}
theorem c_fill60 {T : Res → Prop} {st k c : Nat} {b p : Int} (hL : LwP s0 (gF s0 78 1) cls) (hm : gF s0 78 2 = mood) (hth : gF s0 78 3 = th) (hk8 : kd s0 78 = 8) (hm2 : 0 ≤ mood ∧ mood ≤ 9) (hth2 : 0 ≤ th ∧ th ≤ 9) (I : FI cls mood th s0 st c s) (hst : st < 2) (hk : k < 12) (hb : -1 ≤ b ∧ b < 3) (hp : 0 ≤ p ∧ p < 3) (hc : (c : Int) = 12 * k + 3 * (b + 1) + p) {w0 w1 : Int} (hw : (w0 = w1) ↔ ((k = 0) ↔ b = -1))
    (hT : ∀ s', FI cls mood th s0 st (c + 1) s' → Gl T (X4_fillCells_35 (d + 4) s' 78 st k b (p + 1))) : Gl T (X4_fillCells_60 (d + 4) s 78 st k b p w0 w1) := by
  obtain ⟨i1, i2, i3, i4⟩ := I
  have skip : (¬ ((c / 12 = 0 ↔ c / 3 % 4 = 0) ∧ c / 3 % 4 ≠ c % 3 + 1)) → FI cls mood th s0 st (c + 1) s := fun hn => ⟨i1, i2, fun e he hv hne => i3 e (by
    by_cases q : e = c
    · subst q; exact absurd ⟨hv, hne⟩ hn
    · omega) hv hne, i4⟩
  have wp : wi (p + 1) = p + 1 := wi_sm (by omega) (by omega)
  rw [e_X4_fillCells_60, wp]
  by_cases h1 : w0 = w1
  · rw [if_pos h1]
    by_cases h2 : b = p
    · rw [if_pos h2]
      exact hT s (skip (fun q => q.2 (by omega)))
    · rw [if_neg h2]
      simp (disch := ((try simp only [kd_sF, kd_sA, gA_sF, gA_sA, gF_sF, gF_sA, List.length_set, reduceIte, and_true, and_false, true_and, false_and, Nat.reduceEqDiff, Int.reduceEq, i1.o78]); first | done | omega)) only [rF_ok, wF_ok, oK_ok, lA_ok, rA_ok, wA_ok, cI_ok, cV_ok, cL_ok, cR_ok, kd_sF, kd_sA, gA_sF, gF_sA, gF_sF, gA_sA, bk_0, bk_1, List.length_set, reduceIte, and_true, and_false, true_and, false_and, ne_eq, not_true_eq_false, not_false_eq_true, Int.toNat_natCast, Int.reduceToNat, Nat.reduceEqDiff, Int.reduceEq, Int.reduceLT, Int.reduceLE, Int.reduceAdd, Int.reduceSub, Int.reduceMul, Int.reduceNeg, i1.o78]
      have e1 : gF s 78 1 = gF s0 78 1 := i2.2.1 78 1 (by rw [hk8]; decide) (by decide)
      have e2 : gF s 78 2 = mood := by rw [i2.2.1 78 2 (by rw [hk8]; decide) (by decide)]; exact hm
      have e3 : gF s 78 3 = th := by rw [i2.2.1 78 3 (by rw [hk8]; decide) (by decide)]; exact hth
      refine biV (c_fillCell (d := d) (cls := cls) i1 (by rw [e1]; exact hL.fx i2 (by decide)) e2 e3 hm2 hth2 hst hk hb hp (e := 144 * st + c) (by omega)) fun s' h' ⟨q1, q2, q3, q4, q5⟩ => ?_
      have l1 : (gA s 79).length = 288 := i1.2.1 79 (by decide) (by decide)
      have l2 : (gA s 80).length = 288 := i1.2.1 80 (by decide) (by decide)
      have l3 : (gA s 81).length = 288 := i1.2.1 81 (by decide) (by decide)
      refine hT s' ⟨q1, i2.tr q2, fun e he hv hne => ?_, fun e he => ?_⟩
      · rw [q3, q4, q5, setD_getD (by omega), setD_getD (by omega), setD_getD (by omega)]
        by_cases q : c = e
        · rw [if_pos (by omega), if_pos (by omega), if_pos (by omega), q]
          exact ⟨rfl, rfl, rfl⟩
        · rw [if_neg (by omega), if_neg (by omega), if_neg (by omega)]
          exact i3 e (by omega) hv hne
      · rw [q3, q4, q5, set_ne (by omega), set_ne (by omega), set_ne (by omega)]
        exact i4 e he
  · rw [if_neg h1]
    refine hT s (skip (fun q => h1 (hw.mpr ?_)))
    have := q.1
    omega
theorem c_fill35 {T : Res → Prop} {st k c : Nat} {b : Int} (hL : LwP s0 (gF s0 78 1) cls) (hm : gF s0 78 2 = mood) (hth : gF s0 78 3 = th) (hk8 : kd s0 78 = 8) (hm2 : 0 ≤ mood ∧ mood ≤ 9) (hth2 : 0 ≤ th ∧ th ≤ 9) (I : FI cls mood th s0 st c s) (hst : st < 2) (hk : k < 12) (hb : -1 ≤ b ∧ b < 3) (hc : (c : Int) = 12 * k + 3 * (b + 1))
    (hT : ∀ s', FI cls mood th s0 st (c + 3) s' → Gl T (X4_fillCells_27 (d + 4) s' 78 st k (b + 1))) : Gl T (X4_fillCells_35 (d + 4) s 78 st k b 0) := by
  refine lpG (fun p s => X4_fillCells_35 (d + 4) s 78 st k b p) (fun p s => FI cls mood th s0 st (c + p) s) 3 ?_ ?_ 0 s (by omega) I
  · intro T p s1 hp I1 hT1
    rw [e_X4_fillCells_35, if_pos (by omega)]
    have go : ∀ w0 w1 : Int, ((w0 = w1) ↔ ((k = 0) ↔ b = -1)) → Gl T (X4_fillCells_60 (d + 4) s1 78 st k b p w0 w1) := fun w0 w1 hw => c_fill60 hL hm hth hk8 hm2 hth2 I1 hst hk hb (by omega) (by omega) hw (fun s' I' => hT1 s' I')
    by_cases k0 : k = 0
    · rw [if_pos (by omega)]
      by_cases b0 : b = -1
      · rw [if_pos b0]; exact go 1 1 (by simp [k0, b0])
      · rw [if_neg b0]; exact go 1 0 (by simp [k0, b0])
    · rw [if_neg (by omega)]
      by_cases b0 : b = -1
      · rw [if_pos b0]; exact go 0 1 (by simp [k0, b0])
      · rw [if_neg b0]; exact go 0 0 (by simp [k0, b0])
  · intro s1 I1
    rw [e_X4_fillCells_35, if_neg (by decide), wi_sm (by omega) (by omega)]
    exact hT s1 I1
theorem c_fillCells {st : Nat} (hs : ShC s0) (hL : LwP s0 (gF s0 78 1) cls) (hm : gF s0 78 2 = mood) (hth : gF s0 78 3 = th) (hm2 : 0 ≤ mood ∧ mood ≤ 9) (hth2 : 0 ≤ th ∧ th ≤ 9) (hst : st < 2) (hr : (gA s0 82).getD st 0 = 0) :
    Gl (GV fun s' => ∃ s1, s1 = sA s0 82 ((gA s0 82).set st 1) ∧ FI cls mood th s1 st 144 s') (X4_fillCells (d + 4) s0 78 st) := by
  have hk8 : kd s0 78 = 8 := hs.o78.1
  have l82 : (gA s0 82).length = 2 := hs.2.1 82 (by decide) (by decide)
  rw [e_X4_fillCells]
  simp (disch := ((try simp only [kd_sF, kd_sA, gA_sF, gA_sA, gF_sF, gF_sA, List.length_set, reduceIte, and_true, and_false, true_and, false_and, Nat.reduceEqDiff, Int.reduceEq, hs.o78]); first | done | omega)) only [rF_ok, wF_ok, oK_ok, lA_ok, rA_ok, wA_ok, cI_ok, cV_ok, cL_ok, cR_ok, kd_sF, kd_sA, gA_sF, gF_sA, gF_sF, gA_sA, bk_0, bk_1, List.length_set, reduceIte, and_true, and_false, true_and, false_and, ne_eq, not_true_eq_false, not_false_eq_true, Int.toNat_natCast, Int.reduceToNat, Nat.reduceEqDiff, Int.reduceEq, Int.reduceLT, Int.reduceLE, Int.reduceAdd, Int.reduceSub, Int.reduceMul, Int.reduceNeg, hs.o78, hr]
  generalize hS : sA s0 82 ((gA s0 82).set st 1) = S
  have hsS : ShC S := by rw [← hS]; exact hs.sA (by rw [List.length_set]) (by rw [hs.1 82 (by decide) (by decide)]; decide)
  have FS : FrX [82] s0 S := by rw [← hS]; exact FrX.sA _ (by decide)
  have e1 : gF S 78 1 = gF s0 78 1 := by rw [← hS]; rfl
  have e2 : gF S 78 2 = mood := by rw [← hS]; exact hm
  have e3 : gF S 78 3 = th := by rw [← hS]; exact hth
  have LS : LwP S (gF S 78 1) cls := by rw [e1]; exact hL.fx FS (by decide)
  have k8S : kd S 78 = 8 := hsS.o78.1
  refine lpG (fun k s => X4_fillCells_19 (d + 4) s 78 st k) (fun k s => FI cls mood th S st (12 * k) s) 12 ?_ ?_ 0 S (by omega) ⟨hsS, FrX.rf _ _, fun e he => by omega, fun e _ => ⟨rfl, rfl, rfl⟩⟩
  · intro T k s1 hk I1 hT
    rw [e_X4_fillCells_19, if_pos (by omega)]
    refine lpG (fun b s => X4_fillCells_27 (d + 4) s 78 st k ((b : Int) - 1)) (fun b s => FI cls mood th S st (12 * k + 3 * b) s) 4 ?_ ?_ 0 s1 (by omega) I1
    · intro T b s2 hb I2 hT2
      rw [e_X4_fillCells_27, if_pos (by omega)]
      refine c_fill35 LS e2 e3 k8S hm2 hth2 I2 hst hk (by omega) (by omega) (fun s' I' => ?_)
      have := hT2 s' I'
      rw [show ((b + 1 : Nat) : Int) - 1 = (b : Int) - 1 + 1 by omega] at this
      exact this
    · intro s2 I2
      rw [e_X4_fillCells_27, if_neg (by decide), wi_sc (by omega)]
      exact hT s2 I2
  · intro s1 I1
    rw [e_X4_fillCells_19, if_neg (by decide)]
    exact reV ⟨S, rfl, I1⟩
end CF
