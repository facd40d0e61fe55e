/-! ===== the class reads a clause ===== -/
def clA : List Int := [64, 65, 66, 67, 68, 69, 70, 71]
def ClB (s0 s : St) : Prop := ShC s ∧ FrK [] [62, 63] clA s0 s ∧ gF s 62 4 = gF s0 62 4 ∧ gF s 62 9 = gF s0 62 9
section CCL
variable {c v st : Nat → Int} {nt i l d : Nat} {s0 s s' s'' : St} {C : Cd} {f fw lw : Int}
theorem RdB.rf (h : ShC s) : RdB s s := ⟨h, FrK.rf _ _ _ _, rfl, rfl, rfl⟩
theorem POk.re (h : POk c nt s0 i l C s) : POk c nt s i l C s := ⟨RdB.rf h.1.1, h.2⟩
theorem PFl.re (h : PFl s0 f s) : PFl s f s := ⟨RdB.rf h.1.1, h.2⟩
theorem RdB.cb (h : RdB s0 s) : ClB s0 s := ⟨h.1, h.2.1.mono (by decide) (by decide) (by decide), h.2.2.1, h.2.2.2.1⟩
theorem ClB.rf (h : ShC s) : ClB s s := ⟨h, FrK.rf _ _ _ _, rfl, rfl⟩
theorem ClB.tr (h : ClB s s') (g : ClB s' s'') : ClB s s'' := ⟨g.1, h.2.1.tr g.2.1, g.2.2.1.trans h.2.2.1, g.2.2.2.trans h.2.2.2⟩
theorem ClB.tok (h : ClB s s') (K : TokR c v st nt s) : TokR c v st nt s' := by
  refine ⟨h.2.2.1.trans K.1, fun i hi => ?_⟩
  rw [h.2.1.2.2 72 (by decide), h.2.1.2.2 73 (by decide), h.2.1.2.2 74 (by decide)]
  exact K.2 i hi
theorem ClB.lg (h : ClB s s') (hL : Lg (gF s 62 9) fw lw) : Lg (gF s' 62 9) fw lw := by rw [h.2.2.2]; exact hL
/-- a write to the clauses' rows -/
theorem ClB.w {x : Int} {y : List Int} (hs : ShC s) (hx : 66 ≤ x ∧ x ≤ 71) (hl : y.length = (gA s x).length) : ClB s (sA s x y) := by
  have : x = 66 ∨ x = 67 ∨ x = 68 ∨ x = 69 ∨ x = 70 ∨ x = 71 := by omega
  have k20 : kd s x = 20 := by
    rcases this with rfl | rfl | rfl | rfl | rfl | rfl
    · exact hs.1 66 (by decide) (by decide)
    · exact hs.1 67 (by decide) (by decide)
    · exact hs.1 68 (by decide) (by decide)
    · exact hs.1 69 (by decide) (by decide)
    · exact hs.1 70 (by decide) (by decide)
    · exact hs.1 71 (by decide) (by decide)
  exact ⟨hs.sA hl (by rw [k20]; decide), FrK.sA _ (by rcases this with rfl | rfl | rfl | rfl | rfl | rfl <;> decide), rfl, rfl⟩
theorem POk.w {x : Int} {y : List Int} (h : POk c nt s i l C s) (hx : 66 ≤ x ∧ x ≤ 71) (hl : y.length = (gA s x).length) : POk c nt (sA s x y) i l C (sA s x y) := by
  have b := ClB.w (y := y) h.1.1 hx hl
  obtain ⟨-, h1, h2, h3, h4, h5, h6, h7⟩ := h
  refine ⟨RdB.rf b.1, h1, h2, h3, h4, h5, h6, ?_⟩
  unfold seg
  rw [gA_ne (by omega), gA_ne (by omega)]
  exact h7
theorem PFl.w {x : Int} {y : List Int} (h : PFl s f s) (hx : 66 ≤ x ∧ x ≤ 71) (hl : y.length = (gA s x).length) : PFl (sA s x y) f (sA s x y) := ⟨RdB.rf (ClB.w (y := y) h.1.1 hx hl).1, h.2⟩
/-- the clauses' rows are touched at n alone -/
def OtC (n : Nat) (s s' : St) : Prop := ∀ x : Int, 66 ≤ x → x ≤ 71 → ∀ j, j ≠ n → (gA s' x).getD j 0 = (gA s x).getD j 0
theorem OtC.tr {n : Nat} (h : OtC n s s') (g : OtC n s' s'') : OtC n s s'' := fun x h1 h2 j hj => (g x h1 h2 j hj).trans (h x h1 h2 j hj)
theorem RdB.ot {n : Nat} (h : RdB s s') : OtC n s s' := fun x h1 h2 j _ => by rw [h.ar x (by omega)]
theorem OtC.w {n : Nat} {x : Int} {z : Int} (hl : n < (gA s x).length) : OtC n s (sA s x ((gA s x).set n z)) := by
  intro y _ _ j hj
  by_cases e : y = x
  · rw [e, gA_eq, set_ne (fun e => hj e.symm)]
  · rw [gA_ne e]
/-- a failed clause at its end -/
def ClF (s0 : St) (f : Int) (s : St) : Prop := ClB s0 s ∧ PFl s f s
theorem c_309F {n : Nat} (hn : n < 12) (B : ClB s0 s) (h : PFl s f s) : Gl (GV fun s' => ClF s0 f s') (X5_clause_309 (d + 1) s 62 n) := by
  have hs : ShC s := h.1.1
  have h6 := h.2.1
  have l71 : (gA s 71).length = 12 := hs.2.1 71 (by decide) (by decide)
  rw [e_X5_clause_309]
  simp (disch := ((try simp only [kd_sF, kd_sA, gA_sF, gA_sA, gF_sF, gF_sA, List.length_set, reduceIte, and_true, and_false, true_and, false_and, Nat.reduceEqDiff, Int.reduceEq, hs.o62, hs.o63]); first | done | omega)) only [rF_ok, wF_ok, oK_ok, lA_ok, rA_ok, wA_ok, cI_ok, cV_ok, cL_ok, cR_ok, kd_sF, kd_sA, gA_sF, gF_sA, gF_sF, gA_sA, bk_0, bk_1, List.length_set, reduceIte, and_true, and_false, true_and, false_and, ne_eq, not_true_eq_false, not_false_eq_true, Int.toNat_natCast, Int.reduceToNat, Nat.reduceEqDiff, Int.reduceEq, Int.reduceLT, Int.reduceLE, Int.reduceAdd, Int.reduceSub, Int.reduceMul, Int.reduceNeg, hs.o62, hs.o63, h6]
  have hl : ((gA s 71).set n (gF s 63 2)).length = (gA s 71).length := List.length_set
  exact reV ⟨B.tr (ClB.w hs (by decide) hl), h.w (by decide) hl⟩
theorem c_206F {n : Nat} (hn : n < 12) (B : ClB s0 s) (h : PFl s f s) : Gl (GV fun s' => ClF s0 f s') (X5_clause_206 (d + 1) s 62 n) := by
  have hs : ShC s := h.1.1
  have h6 := h.2.1
  have l70 : (gA s 70).length = 12 := hs.2.1 70 (by decide) (by decide)
  have hl : ((gA s 70).set n (gF s 63 2)).length = (gA s 70).length := List.length_set
  have r := c_309F (d := d) hn (B.tr (ClB.w hs (by decide) hl)) (h.w (by decide) hl)
  rw [e_X5_clause_206]
  simp (disch := ((try simp only [kd_sF, kd_sA, gA_sF, gA_sA, gF_sF, gF_sA, List.length_set, reduceIte, and_true, and_false, true_and, false_and, Nat.reduceEqDiff, Int.reduceEq, hs.o62, hs.o63]); first | done | omega)) only [rF_ok, wF_ok, oK_ok, lA_ok, rA_ok, wA_ok, cI_ok, cV_ok, cL_ok, cR_ok, kd_sF, kd_sA, gA_sF, gF_sA, gF_sF, gA_sA, bk_0, bk_1, List.length_set, reduceIte, and_true, and_false, true_and, false_and, ne_eq, not_true_eq_false, not_false_eq_true, Int.toNat_natCast, Int.reduceToNat, Nat.reduceEqDiff, Int.reduceEq, Int.reduceLT, Int.reduceLE, Int.reduceAdd, Int.reduceSub, Int.reduceMul, Int.reduceNeg, hs.o62, hs.o63, h6]
  split <;> exact r
theorem c_149F {n : Nat} (hn : n < 12) (B : ClB s0 s) (h : PFl s f s) (hf : f ≠ -1) : Gl (GV fun s' => ClF s0 f s') (X5_clause_149 (d + 1) s 62 n) := by
  have hs : ShC s := h.1.1
  have h6 := h.2.1
  have l69 : (gA s 69).length = 12 := hs.2.1 69 (by decide) (by decide)
  have l66 : (gA s 66).length = 12 := hs.2.1 66 (by decide) (by decide)
  have hl : ((gA s 69).set n (gF s 63 2)).length = (gA s 69).length := List.length_set
  have hB := B.tr (ClB.w hs (x := 69) (by decide) hl)
  have h' := h.w (x := 69) (by decide) hl
  have r := c_206F (d := d) hn hB h'
  have cf := c_failF (d := d) h' hf
  rw [e_X5_clause_149]
  simp (disch := ((try simp only [kd_sF, kd_sA, gA_sF, gA_sA, gF_sF, gF_sA, List.length_set, reduceIte, and_true, and_false, true_and, false_and, Nat.reduceEqDiff, Int.reduceEq, hs.o62, hs.o63]); first | done | omega)) only [rF_ok, wF_ok, oK_ok, lA_ok, rA_ok, wA_ok, cI_ok, cV_ok, cL_ok, cR_ok, kd_sF, kd_sA, gA_sF, gF_sA, gF_sF, gA_sA, bk_0, bk_1, List.length_set, reduceIte, and_true, and_false, true_and, false_and, ne_eq, not_true_eq_false, not_false_eq_true, Int.toNat_natCast, Int.reduceToNat, Nat.reduceEqDiff, Int.reduceEq, Int.reduceLT, Int.reduceLE, Int.reduceAdd, Int.reduceSub, Int.reduceMul, Int.reduceNeg, hs.o62, hs.o63, h6, cf]
  split <;> exact r
/-- what a clause leaves at n -/
def Ent (s : St) (n : Nat) (q : Cl) (C : Cd) : Prop := (gA s 66).getD n 0 = kdC q.1 ∧ (gA s 67).getD n 0 = q.2.1 ∧ (gA s 68).getD n 0 = C.length ∧ (gA s 69).getD n 0 = (C.length + q.2.2.1.1.length : Nat) ∧ (gA s 70).getD n 0 = (C.length + q.2.2.1.1.length + q.2.2.2.1.1.length : Nat) ∧ (gA s 71).getD n 0 = (C.length + q.2.2.1.1.length + q.2.2.2.1.1.length + q.2.2.2.2.1.length : Nat)
/-- a clause is read -/
def ClR (c : Nat → Int) (nt : Nat) (st : Nat → Int) (s0 : St) (n : Nat) (C : Cd) (r : Except Nat (Nat × Nat × Cl)) (s : St) : Prop := match r with
  | .ok a => ClB s0 s ∧ POk c nt s a.1 a.2.1 (C ++ ccode a.2.2) s ∧ OtC n s0 s ∧ Ent s n a.2.2 C ∧ gF s 63 3 = (n : Int) + 1
  | .error e => ClF s0 (st e) s ∧ 0 ≤ st e
theorem c_309 {n : Nat} {h0 t : Int} {x y : Cd × Dn} (W : TokW c v nt) (K : TokR c v st nt s) (hL : Lg (gF s 62 9) fw lw) (hn : n < 12) (hl : l ≤ 50) (hC : (C ++ x.1 ++ y.1).length ≤ 2 * l + nN c i) (B : ClB s0 s) (O : OtC n s0 s) (h3 : gF s 63 3 = (n : Int) + 1) (hE : (gA s 66).getD n 0 = kdC h0 ∧ (gA s 67).getD n 0 = t ∧ (gA s 68).getD n 0 = C.length ∧ (gA s 69).getD n 0 = (C.length + x.1.length : Nat) ∧ (gA s 70).getD n 0 = (C.length + x.1.length + y.1.length : Nat)) (h : POk c nt s i l (C ++ x.1 ++ y.1) s) : Gl (GV fun s' => ClR c nt st s0 n C (pIf c (pTest c v fw lw 8) i l h0 t x y) s') (X5_clause_309 (d + 23) s 62 n) := by
  have hs : ShC s := h.1.1
  have h6 := h.2.2.2.1
  have k303 : kI c nt i = 303 ↔ c i = 4 := kI_iff W (by rfl)
  -- the end
  have fin : ∀ (s2 : St) (j l2 : Nat) (z : Cd × Dn), RdB s s2 → POk c nt s2 j l2 (C ++ x.1 ++ y.1 ++ z.1) s2 → gF s2 63 3 = (n : Int) + 1 → Gl (GV fun s' => ClR c nt st s0 n C (.ok (j, l2, h0, t, x, y, z)) s') (rF s2 62 9 0 fun x6 => rF s2 x6 11 9 fun x7 => rF s2 62 9 0 fun x8 => rF s2 x8 11 2 fun x9 => wA s2 x7 20 n x9 fun s4 => some ([], s4)) := by
    intro s2 j l2 z R2 h2 h33
    have hs2 : ShC s2 := h2.1.1
    have l71 : (gA s2 71).length = 12 := hs2.2.1 71 (by decide) (by decide)
    have e2 := h2.2.2.2.2.2.2.1
    have hl' : ((gA s2 71).set n (gF s2 63 2)).length = (gA s2 71).length := List.length_set
    simp (disch := ((try simp only [kd_sF, kd_sA, gA_sF, gA_sA, gF_sF, gF_sA, List.length_set, reduceIte, and_true, and_false, true_and, false_and, Nat.reduceEqDiff, Int.reduceEq, hs2.o62, hs2.o63]); first | done | omega)) only [rF_ok, wF_ok, oK_ok, lA_ok, rA_ok, wA_ok, cI_ok, cV_ok, cL_ok, cR_ok, kd_sF, kd_sA, gA_sF, gF_sA, gF_sF, gA_sA, bk_0, bk_1, List.length_set, reduceIte, and_true, and_false, true_and, false_and, ne_eq, not_true_eq_false, not_false_eq_true, Int.toNat_natCast, Int.reduceToNat, Nat.reduceEqDiff, Int.reduceEq, Int.reduceLT, Int.reduceLE, Int.reduceAdd, Int.reduceSub, Int.reduceMul, Int.reduceNeg, hs2.o62, hs2.o63]
    refine reV ⟨(B.tr R2.cb).tr (ClB.w hs2 (by decide) hl'), ?_, (O.tr R2.ot).tr (OtC.w (by omega)), ⟨?_, ?_, ?_, ?_, ?_, ?_⟩, h33⟩
    · have := h2.w (x := 71) (by decide) hl'
      unfold ccode
      dsimp only
      simpa only [List.append_assoc] using this
    · rw [gA_ne (by decide), R2.ar 66 (by decide)]; exact hE.1
    · rw [gA_ne (by decide), R2.ar 67 (by decide)]; exact hE.2.1
    · rw [gA_ne (by decide), R2.ar 68 (by decide)]; exact hE.2.2.1
    · rw [gA_ne (by decide), R2.ar 69 (by decide)]; exact hE.2.2.2.1
    · rw [gA_ne (by decide), R2.ar 70 (by decide)]; exact hE.2.2.2.2
    · rw [gA_eq, set_eq (by omega), e2]
      simp only [List.length_append]
  rw [e_X5_clause_309]
  unfold pIf
  simp (disch := ((try simp only [kd_sF, kd_sA, gA_sF, gA_sA, gF_sF, gF_sA, List.length_set, reduceIte, and_true, and_false, true_and, false_and, Nat.reduceEqDiff, Int.reduceEq, hs.o62]); first | done | omega)) only [rF_ok, wF_ok, oK_ok, lA_ok, rA_ok, wA_ok, cI_ok, cV_ok, cL_ok, cR_ok, kd_sF, kd_sA, gA_sF, gF_sA, gF_sF, gA_sA, bk_0, bk_1, List.length_set, reduceIte, and_true, and_false, true_and, false_and, ne_eq, not_true_eq_false, not_false_eq_true, Int.toNat_natCast, Int.reduceToNat, Nat.reduceEqDiff, Int.reduceEq, Int.reduceLT, Int.reduceLE, Int.reduceAdd, Int.reduceSub, Int.reduceMul, Int.reduceNeg, hs.o62, h6]
  by_cases e : c i = 4
  · rw [if_pos (k303.mpr e), if_pos e]
    refine gl_adv W K h (by omega) fun s1 h1 => ?_
    have hs1 : ShC s1 := h1.1.1
    have m1 := nN_mono (c := c) (i := i) (j := i + 1) (by omega)
    simp (disch := ((try simp only [kd_sF, kd_sA, gA_sF, gA_sA, gF_sF, gF_sA, List.length_set, reduceIte, and_true, and_false, true_and, false_and, Nat.reduceEqDiff, Int.reduceEq, hs1.o62]); first | done | omega)) only [rF_ok, wF_ok, oK_ok, lA_ok, rA_ok, wA_ok, cI_ok, cV_ok, cL_ok, cR_ok, kd_sF, kd_sA, gA_sF, gF_sA, gF_sF, gA_sA, bk_0, bk_1, List.length_set, reduceIte, and_true, and_false, true_and, false_and, ne_eq, not_true_eq_false, not_false_eq_true, Int.toNat_natCast, Int.reduceToNat, Nat.reduceEqDiff, Int.reduceEq, Int.reduceLT, Int.reduceLE, Int.reduceAdd, Int.reduceSub, Int.reduceMul, Int.reduceNeg, hs1.o62]
    have tt := ts_ok W K hL 8 (by decide) (d := d) (i := i + 1) (l := l) (C := C ++ x.1 ++ y.1) (s := s1) hl (by omega) h1
    refine biV tt fun s2 _ h2 => ?_
    cases hr : pTest c v fw lw 8 (i + 1) l with
    | error e' =>
      rw [hr] at h2
      obtain ⟨h2, hz⟩ := h2
      have hs2 : ShC s2 := h2.1.1
      have l71 : (gA s2 71).length = 12 := hs2.2.1 71 (by decide) (by decide)
      have hl' : ((gA s2 71).set n (gF s2 63 2)).length = (gA s2 71).length := List.length_set
      simp (disch := ((try simp only [kd_sF, kd_sA, gA_sF, gA_sA, gF_sF, gF_sA, List.length_set, reduceIte, and_true, and_false, true_and, false_and, Nat.reduceEqDiff, Int.reduceEq, hs2.o62, hs2.o63]); first | done | omega)) only [rF_ok, wF_ok, oK_ok, lA_ok, rA_ok, wA_ok, cI_ok, cV_ok, cL_ok, cR_ok, kd_sF, kd_sA, gA_sF, gF_sA, gF_sF, gA_sA, bk_0, bk_1, List.length_set, reduceIte, and_true, and_false, true_and, false_and, ne_eq, not_true_eq_false, not_false_eq_true, Int.toNat_natCast, Int.reduceToNat, Nat.reduceEqDiff, Int.reduceEq, Int.reduceLT, Int.reduceLE, Int.reduceAdd, Int.reduceSub, Int.reduceMul, Int.reduceNeg, hs2.o62, hs2.o63]
      exact reV ⟨⟨(B.tr h2.1.cb).tr (ClB.w hs2 (by decide) hl'), h2.re.w (by decide) hl'⟩, hz⟩
    | ok b =>
      rw [hr] at h2
      exact fin s2 b.1 b.2.1 b.2.2 h2.1 h2.re (h2.1.2.2.2.2.trans h3)
  · rw [if_neg (fun x => e (k303.mp x)), if_neg e]
    have f0 := fin s i l eDn (RdB.rf hs) (by simpa [eDn] using h) h3
    simp (disch := ((try simp only [kd_sF, kd_sA, gA_sF, gA_sA, gF_sF, gF_sA, List.length_set, reduceIte, and_true, and_false, true_and, false_and, Nat.reduceEqDiff, Int.reduceEq, hs.o62]); first | done | omega)) only [rF_ok, wF_ok, oK_ok, lA_ok, rA_ok, wA_ok, cI_ok, cV_ok, cL_ok, cR_ok, kd_sF, kd_sA, gA_sF, gF_sA, gF_sF, gA_sA, bk_0, bk_1, List.length_set, reduceIte, and_true, and_false, true_and, false_and, ne_eq, not_true_eq_false, not_false_eq_true, Int.toNat_natCast, Int.reduceToNat, Nat.reduceEqDiff, Int.reduceEq, Int.reduceLT, Int.reduceLE, Int.reduceAdd, Int.reduceSub, Int.reduceMul, Int.reduceNeg, hs.o62] at f0
    exact f0
end CCL
