/-! ===== the class: feed and row ===== -/
def by4 (x : Int) : List Int := [x / 2 ^ 24 % 256, x / 2 ^ 16 % 256, x / 2 ^ 8 % 256, x / 2 ^ 0 % 256]
def aFeed (a : Ab) (v w x y z : Int) : Int × Ab := if a.2.2.2.1.length + 20 ≤ 400 then ((a.2.2.2.1.length : Int) + 20, setTp a (a.2.2.2.1 ++ by4 v ++ by4 w ++ by4 x ++ by4 y ++ by4 z)) else (-1, a)
abbrev RwA : Type := List Kn × Int × Int
def rowS (t : List Int) (a : RwA) (j : Nat) : RwA := if ((0 ≤ t.getD (3 * j) 0 ∧ t.getD (3 * j) 0 ≤ 1) ∧ (1 ≤ t.getD (3 * j + 1) 0 ∧ t.getD (3 * j + 1) 0 ≤ 9) ∧ (1 ≤ t.getD (3 * j + 2) 0 ∧ t.getD (3 * j + 2) 0 ≤ 200)) ∧ a.1.length < 8 then (a.1 ++ [(t.getD (3 * j) 0, t.getD (3 * j + 1) 0, t.getD (3 * j + 2) 0, 0, [])], a.2.1 + 1, a.2.2) else (a.1, a.2.1, a.2.2 + 1)
def rowN (t : List Int) (K : List Kn) : Nat → RwA
  | 0 => (K, 0, 0)
  | j + 1 => rowS t (rowN t K j) j
def aRow (a : Ab) : Int × Ab := if a.2.2.2.1.length = 0 then refu a (-6) else ((rowN a.2.2.2.1 a.1.1 (a.2.2.2.1.length / 3)).2.1, ((rowN a.2.2.2.1 a.1.1 (a.2.2.2.1.length / 3)).1, a.1.2), a.2.1, [], [], (0, (rowN a.2.2.2.1 a.1.1 (a.2.2.2.1.length / 3)).2.2 + (if a.2.2.2.1.length % 3 = 0 then 0 else 1), a.2.2.2.2.1.2.2), a.2.2.2.2.2)
theorem rowN_wf {t : List Int} {K : List Kn} (h : wfKns K) : ∀ j, wfKns (rowN t K j).1 ∧ (0 ≤ (rowN t K j).2.1 ∧ (rowN t K j).2.1 ≤ j) ∧ (0 ≤ (rowN t K j).2.2 ∧ (rowN t K j).2.2 ≤ j)
  | 0 => ⟨h, by simp [rowN], by simp [rowN]⟩
  | j + 1 => by
    obtain ⟨h1, h2, h3⟩ := rowN_wf (t := t) h j
    rw [rowN]
    unfold rowS
    split
    · rename_i hc
      exact ⟨wfKns_app h1 hc.2 (wfKn_new hc.1), by dsimp only; omega, by dsimp only; omega⟩
    · exact ⟨h1, by dsimp only; omega, by dsimp only; omega⟩
section CF
variable {s s' s1 : St} {a : Ab} {d : Nat} {dr : Dr}
theorem RepC.settle2 {D : Dr} {P A : List Int} {t : List Int} {f : Int × Int × Int × Int} (R : RepC a s) (W : wfA a) (hs1 : ShC s1) (F : FrK [] P A s s1) (hP : ∀ x ∈ P, x < 98 ∧ x ≠ 30 ∧ x ≠ 89 ∧ x ≠ 90 ∧ x ≠ 78) (hA : ∀ x ∈ A, x < 98 ∧ x ≠ 30 ∧ x ≠ 89 ∧ x ≠ 90 ∧ (x < 79 ∨ 86 < x) ∧ x ≠ 76) (h2 : (97 : Int) ∉ A) (hD : DrC s1 3 D) (ht : TpC s1 t) (hf : FlC s1 f) : RepC (D, a.2.1, [], t, f, a.2.2.2.2.2.1, a.2.2.2.2.2.2) (sF s1 10 0 0) ∧ ShC (sF s1 10 0 0) := by
  have hs := R.1
  have k10 : kd s1 10 = 13 := hs1.o10.1
  have hs3 : ShC (sF s1 10 0 0) := hs1.sF (by rw [k10]; decide)
  have F1 : FrK [] (10 :: P) A s s1 := ⟨F.1, fun p k hp h2 h3 => F.2.1 p k (fun hm => hp (List.mem_cons_of_mem _ hm)) h2 h3, F.2.2⟩
  have F' : FrK [] (10 :: P) A s (sF s1 10 0 0) := F1.tr (FrK.sF List.mem_cons_self)
  have hP' : ∀ x ∈ 10 :: P, x < 98 ∧ x ≠ 30 ∧ x ≠ 89 ∧ x ≠ 90 ∧ x ≠ 78 := fun x hx => by
    rcases List.mem_cons.mp hx with e | e
    · rw [e]; decide
    · exact hP x e
  refine ⟨?_, hs3⟩
  obtain ⟨-, -, -, -, -, -, r7, -, r9⟩ := id R
  refine R.up W F' hs3 (by decide) (fun x hx => ?_) (r9.k2 hs.o78.1 F' (by decide) (fun x hx => ⟨(hP' x hx).1, (hP' x hx).2.2.2.2⟩) (fun x hx => ⟨(hA x hx).1, (hA x hx).2.2.2.2⟩)) (hD.log hs3) (LgC.nil (gF_eq _ _ _ _)) ⟨(gF_np (by decide)).trans ht.1, ht.2⟩ ⟨(gF_np (by decide)).trans hf.1, (gF_np (by decide)).trans hf.2.1, (gF_np (by decide)).trans hf.2.2.1, (gF_np (by decide)).trans hf.2.2.2⟩ ?_
  · rcases List.mem_append.mp hx with e | e
    · exact ⟨(hP' x e).1, (hP' x e).2.1, (hP' x e).2.2.1, (hP' x e).2.2.2.1⟩
    · exact ⟨(hA x e).1, (hA x e).2.1, (hA x e).2.2.1, (hA x e).2.2.2.1⟩
  · unfold RfC; rw [F'.2.2 97 h2]; exact r7
/-- the tape grew by t -/
def TpG (s : St) (t : List Int) (s' : St) : Prop := ShC s' ∧ FrK [] [1] [2] s s' ∧ (∀ k, k ≠ 1 → gF s' 1 k = gF s 1 k) ∧ TpC s' t
theorem c_pb {t : List Int} {x : Int} {k : Nat} (hk : k = 0 ∨ k = 8 ∨ k = 16 ∨ k = 24) (hs : ShC s) (ht : TpC s t) (hl : t.length < 400) : ∃ s', X11_putBytes_3 d s 1 x k = X11_putBytes_3 d s' 1 x ((k : Int) - 8) ∧ TpG s (t ++ [x / 2 ^ k % 256]) s' := by
  have k1 : kd s 1 = 15 := hs.o1.1
  have k2 : kd s 2 = 20 := hs.1 2 (by decide) (by decide)
  have l2 : (gA s 2).length = 400 := hs.2.1 2 (by decide) (by decide)
  have t1 := ht.1
  have hs2 : ShC (sA s 2 ((gA s 2).set t.length (x / 2 ^ k % 256))) := hs.sA (by rw [List.length_set]) (by rw [k2]; decide)
  refine ⟨sF (sA s 2 ((gA s 2).set t.length (x / 2 ^ k % 256))) 1 1 ((t.length : Int) + 1), ?_, hs2.sF (by rw [kd_sA, k1]; decide), (FrK.sA _ (by decide)).tr (FrK.sF (by decide)), fun j hj => by rw [gF_nk hj, gF_sA], ?_, fun i hi => ?_⟩
  · rw [e_X11_putBytes_3, if_neg (by omega)]
    simp (disch := ((try simp only [kd_sF, kd_sA, gA_sF, gA_sA, gF_sF, gF_sA, List.length_set, reduceIte, and_true, and_false, true_and, false_and, Nat.reduceEqDiff, Int.reduceEq, hs.o1]); first | done | omega)) only [rF_ok, wF_ok, oK_ok, lA_ok, rA_ok, wA_ok, cI_ok, cV_ok, cL_ok, cR_ok, kd_sF, kd_sA, gA_sF, gF_sA, gF_sF, gA_sA, bk_0, bk_1, List.length_set, reduceIte, and_true, and_false, true_and, false_and, ne_eq, not_true_eq_false, not_false_eq_true, Int.toNat_natCast, Int.reduceToNat, Nat.reduceEqDiff, Int.reduceEq, Int.reduceLT, Int.reduceLE, Int.reduceAdd, Int.reduceSub, Int.reduceMul, Int.reduceNeg, hs.o1, t1, if_pos (show (t.length : Int) < 400 by omega), ushr_b hk, wi_sm]
    rfl
  · rw [gF_eq, List.length_append]; rfl
  · unfold af
    rw [gA_sF, gA_eq, setD_getD (by omega)]
    rw [List.length_append] at hi
    simp only [List.length_cons, List.length_nil] at hi
    by_cases e : t.length = i
    · rw [if_pos e, ← e, gdApp2]
    · rw [if_neg e, gdApp (by omega)]; exact ht.2 i (by omega)
theorem TpG.tr {t u : List Int} {s'' : St} (h : TpG s t s') (g : TpG s' u s'') : TpG s u s'' := ⟨g.1, h.2.1.tr g.2.1, fun k hk => (g.2.2.1 k hk).trans (h.2.2.1 k hk), g.2.2.2⟩
theorem c_putBytes {t : List Int} {x : Int} (hs : ShC s) (ht : TpC s t) (hl : t.length + 4 ≤ 400) : ∃ s', X11_putBytes d s 1 x = some ([], s') ∧ TpG s (t ++ by4 x) s' := by
  rw [e_X11_putBytes]
  obtain ⟨s1, e1, g1⟩ := c_pb (d := d) (x := x) (k := 24) (by decide) hs ht (by omega)
  obtain ⟨s2, e2, g2⟩ := c_pb (d := d) (x := x) (k := 16) (by decide) g1.1 g1.2.2.2 (by simp; omega)
  obtain ⟨s3, e3, g3⟩ := c_pb (d := d) (x := x) (k := 8) (by decide) g2.1 g2.2.2.2 (by simp; omega)
  obtain ⟨s4, e4, g4⟩ := c_pb (d := d) (x := x) (k := 0) (by decide) g3.1 g3.2.2.2 (by simp; omega)
  refine ⟨s4, ?_, ?_⟩
  · refine e1.trans ((show X11_putBytes_3 d s1 1 x (((24 : Nat) : Int) - 8) = _ from e2).trans ((show X11_putBytes_3 d s2 1 x (((16 : Nat) : Int) - 8) = _ from e3).trans ((show X11_putBytes_3 d s3 1 x (((8 : Nat) : Int) - 8) = _ from e4).trans ?_)))
    rw [e_X11_putBytes_3, if_pos (by decide)]
  · have := ((g1.tr g2).tr g3).tr g4
    unfold by4
    simpa only [List.append_assoc, List.cons_append, List.nil_append] using this
theorem cc_feed {v w x y z : Int} (R : RepC a s) (W : wfA a) : Gl (GI fun r s' => r = (aFeed a v w x y z).1 ∧ RepC (aFeed a v w x y z).2 s') (X11_feed (d + 1) s 1 v w x y z) := by
  have hs := R.1
  have ht := R.2.2.2.2.1
  have t1 := ht.1
  have hl := W.2.2.2.1.1
  rw [e_X11_feed]
  unfold aFeed
  simp (disch := ((try simp only [kd_sF, kd_sA, gA_sF, gA_sA, gF_sF, gF_sA, List.length_set, reduceIte, and_true, and_false, true_and, false_and, Nat.reduceEqDiff, Int.reduceEq, hs.o1]); first | done | omega)) only [rF_ok, wF_ok, oK_ok, lA_ok, rA_ok, wA_ok, cI_ok, cV_ok, cL_ok, cR_ok, kd_sF, kd_sA, gA_sF, gF_sA, gF_sF, gA_sA, bk_0, bk_1, List.length_set, reduceIte, and_true, and_false, true_and, false_and, ne_eq, not_true_eq_false, not_false_eq_true, Int.toNat_natCast, Int.reduceToNat, Nat.reduceEqDiff, Int.reduceEq, Int.reduceLT, Int.reduceLE, Int.reduceAdd, Int.reduceSub, Int.reduceMul, Int.reduceNeg, hs.o1, t1, wi_sm]
  by_cases h : a.2.2.2.1.length + 20 ≤ 400
  · rw [if_neg (show ¬ (400 < (a.2.2.2.1.length : Int) + 20) by omega), if_pos h]
    obtain ⟨s1, e1, g1⟩ := c_putBytes (d := d) (x := v) hs ht (by omega)
    obtain ⟨s2, e2, g2⟩ := c_putBytes (d := d) (x := w) g1.1 g1.2.2.2 (by simp [by4]; omega)
    obtain ⟨s3, e3, g3⟩ := c_putBytes (d := d) (x := x) g2.1 g2.2.2.2 (by simp [by4]; omega)
    obtain ⟨s4, e4, g4⟩ := c_putBytes (d := d) (x := y) g3.1 g3.2.2.2 (by simp [by4]; omega)
    obtain ⟨s5, e5, g5⟩ := c_putBytes (d := d) (x := z) g4.1 g4.2.2.2 (by simp [by4]; omega)
    have h1 := g1.1
    have h2 := g2.1
    have h3 := g3.1
    have h4 := g4.1
    have h5 := g5.1
    have G := (((g1.tr g2).tr g3).tr g4).tr g5
    have t5 := G.2.2.2.1
    rw [e1, cV_ok]
    simp (disch := ((try simp only [kd_sF, kd_sA, gA_sF, gA_sA, gF_sF, gF_sA, List.length_set, reduceIte, and_true, and_false, true_and, false_and, Nat.reduceEqDiff, Int.reduceEq, h1.o1]); first | done | omega)) only [rF_ok, wF_ok, oK_ok, lA_ok, rA_ok, wA_ok, cI_ok, cV_ok, cL_ok, cR_ok, kd_sF, kd_sA, gA_sF, gF_sA, gF_sF, gA_sA, bk_0, bk_1, List.length_set, reduceIte, and_true, and_false, true_and, false_and, ne_eq, not_true_eq_false, not_false_eq_true, Int.toNat_natCast, Int.reduceToNat, Nat.reduceEqDiff, Int.reduceEq, Int.reduceLT, Int.reduceLE, Int.reduceAdd, Int.reduceSub, Int.reduceMul, Int.reduceNeg, h1.o1, e2]
    simp (disch := ((try simp only [kd_sF, kd_sA, gA_sF, gA_sA, gF_sF, gF_sA, List.length_set, reduceIte, and_true, and_false, true_and, false_and, Nat.reduceEqDiff, Int.reduceEq, h2.o1]); first | done | omega)) only [rF_ok, wF_ok, oK_ok, lA_ok, rA_ok, wA_ok, cI_ok, cV_ok, cL_ok, cR_ok, kd_sF, kd_sA, gA_sF, gF_sA, gF_sF, gA_sA, bk_0, bk_1, List.length_set, reduceIte, and_true, and_false, true_and, false_and, ne_eq, not_true_eq_false, not_false_eq_true, Int.toNat_natCast, Int.reduceToNat, Nat.reduceEqDiff, Int.reduceEq, Int.reduceLT, Int.reduceLE, Int.reduceAdd, Int.reduceSub, Int.reduceMul, Int.reduceNeg, h2.o1, e3]
    simp (disch := ((try simp only [kd_sF, kd_sA, gA_sF, gA_sA, gF_sF, gF_sA, List.length_set, reduceIte, and_true, and_false, true_and, false_and, Nat.reduceEqDiff, Int.reduceEq, h3.o1]); first | done | omega)) only [rF_ok, wF_ok, oK_ok, lA_ok, rA_ok, wA_ok, cI_ok, cV_ok, cL_ok, cR_ok, kd_sF, kd_sA, gA_sF, gF_sA, gF_sF, gA_sA, bk_0, bk_1, List.length_set, reduceIte, and_true, and_false, true_and, false_and, ne_eq, not_true_eq_false, not_false_eq_true, Int.toNat_natCast, Int.reduceToNat, Nat.reduceEqDiff, Int.reduceEq, Int.reduceLT, Int.reduceLE, Int.reduceAdd, Int.reduceSub, Int.reduceMul, Int.reduceNeg, h3.o1, e4]
    simp (disch := ((try simp only [kd_sF, kd_sA, gA_sF, gA_sA, gF_sF, gF_sA, List.length_set, reduceIte, and_true, and_false, true_and, false_and, Nat.reduceEqDiff, Int.reduceEq, h4.o1]); first | done | omega)) only [rF_ok, wF_ok, oK_ok, lA_ok, rA_ok, wA_ok, cI_ok, cV_ok, cL_ok, cR_ok, kd_sF, kd_sA, gA_sF, gF_sA, gF_sF, gA_sA, bk_0, bk_1, List.length_set, reduceIte, and_true, and_false, true_and, false_and, ne_eq, not_true_eq_false, not_false_eq_true, Int.toNat_natCast, Int.reduceToNat, Nat.reduceEqDiff, Int.reduceEq, Int.reduceLT, Int.reduceLE, Int.reduceAdd, Int.reduceSub, Int.reduceMul, Int.reduceNeg, h4.o1, e5]
    simp (disch := ((try simp only [kd_sF, kd_sA, gA_sF, gA_sA, gF_sF, gF_sA, List.length_set, reduceIte, and_true, and_false, true_and, false_and, Nat.reduceEqDiff, Int.reduceEq, h5.o1]); first | done | omega)) only [rF_ok, wF_ok, oK_ok, lA_ok, rA_ok, wA_ok, cI_ok, cV_ok, cL_ok, cR_ok, kd_sF, kd_sA, gA_sF, gF_sA, gF_sF, gA_sA, bk_0, bk_1, List.length_set, reduceIte, and_true, and_false, true_and, false_and, ne_eq, not_true_eq_false, not_false_eq_true, Int.toNat_natCast, Int.reduceToNat, Nat.reduceEqDiff, Int.reduceEq, Int.reduceLT, Int.reduceLE, Int.reduceAdd, Int.reduceSub, Int.reduceMul, Int.reduceNeg, h5.o1, t5]
    obtain ⟨-, -, -, -, -, ⟨f1, f2, f3, f4⟩, r7, -, -⟩ := id R
    refine reI ⟨by simp [by4], R.m W (G.2.1.mono (by decide) (by decide) (by decide)) h5 G.2.2.2 ⟨(G.2.2.1 12 (by decide)).trans f1, (G.2.2.1 14 (by decide)).trans f2, (G.2.2.1 13 (by decide)).trans f3, (G.2.1.2.1 75 3 (by decide) List.not_mem_nil (by decide)).trans f4⟩ ?_⟩
    unfold RfC
    rw [G.2.1.2.2 97 (by decide)]
    exact r7
  · rw [if_pos (show 400 < (a.2.2.2.1.length : Int) + 20 by omega), if_neg h]
    exact reI ⟨rfl, R⟩
end CF
