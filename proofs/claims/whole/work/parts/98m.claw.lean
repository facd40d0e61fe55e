/-! ===== the class: law ===== -/
def setFt (a : Ab) (f : Int) : Ab := (a.1, a.2.1, a.2.2.1, a.2.2.2.1, (a.2.2.2.2.1.1, a.2.2.2.2.1.2.1, f, a.2.2.2.2.1.2.2.2), a.2.2.2.2.2)
def addLw (a : Ab) (T : Lwt) : Ab := setDr a (a.1.1, a.1.2.1, a.1.2.2.1, a.1.2.2.2.1, a.1.2.2.2.2.1 ++ [T], a.1.2.2.2.2.2)
def aLaw (a : Ab) : Int × Ab := if a.1.2.2.2.2.1.length < 6 then (match rdT a.2.2.2.1 8 with
  | .ok _ => goodA (addLw (setFt (setTp a []) (-1)) (toks a.2.2.2.1)) (a.1.2.2.2.2.1.length : Int)
  | .error e => refu (setFt (setTp a []) (sTx a.2.2.2.1 e)) (-6)) else refu (setTp a []) (-5)
section CLW
variable {s s' : St} {a : Ab} {d : Nat} {dr : Dr} {n : Int}
theorem IsC.gen {o : Option Dr × Option Dr} (h : IsC s o) (W : wfIm o.1 ∧ wfIm o.2) (Z : Fz s) (hx : 98 ≤ nx s) (sm : ∀ p, p < nx s → Sm s s' p) (os : ∀ l cls, 98 ≤ l → ScR s l cls → ScR s' l cls) : IsC s' o := by
  have im : ∀ (p' : Int) (o : Option Dr), wfIm o → ImC s p' o → ImC s' p' o := by
    intro p' o wo h
    rcases h with h | ⟨g1, D, g2, g3⟩
    · exact Or.inl h
    · have := g3.1.lt Z
      exact Or.inr ⟨g1, D, g2, g3.gen (wo D g2) (fun q q1 q2 => sm q (by omega)) os⟩
  have e : ∀ i, af s' 30 i = af s 30 i := fun i => by unfold af; rw [(sm 30 (by omega)).2.2]
  unfold IsC
  rw [e, e]
  exact ⟨im _ _ W.1 h.1, im _ _ W.2 h.2.1, h.2.2⟩
theorem DrC.law {T : Lwt} (R : DrC s 3 dr) (h6 : dr.2.2.2.2.1.length < 6) (hl : (gA s 9).length = 6) (hS : ScR s n (clsT T)) (hn : 98 ≤ n) (hs' : ShC (sF (sA s 9 ((gA s 9).set dr.2.2.2.2.1.length n)) 3 9 ((dr.2.2.2.2.1.length : Int) + 1))) : DrC (sF (sA s 9 ((gA s 9).set dr.2.2.2.2.1.length n)) 3 9 ((dr.2.2.2.2.1.length : Int) + 1)) 3 (dr.1, dr.2.1, dr.2.2.1, dr.2.2.2.1, dr.2.2.2.2.1 ++ [T], dr.2.2.2.2.2) := by
  obtain ⟨-, ⟨k1, k2⟩, ⟨b1, b2⟩, ⟨s1, s2⟩, t1, ⟨l1, l2⟩, f1⟩ := R
  have hF : ∀ p k, p ≠ 3 → gF (sF (sA s 9 ((gA s 9).set dr.2.2.2.2.1.length n)) 3 9 ((dr.2.2.2.2.1.length : Int) + 1)) p k = gF s p k := fun p k hp => by rw [gF_np hp, gF_sA]
  have hF3 : ∀ k, k ≠ 9 → gF (sF (sA s 9 ((gA s 9).set dr.2.2.2.2.1.length n)) 3 9 ((dr.2.2.2.2.1.length : Int) + 1)) 3 k = gF s 3 k := fun k hk => by rw [gF_nk hk, gF_sA]
  have hA : ∀ x, x ≠ 9 → gA (sF (sA s 9 ((gA s 9).set dr.2.2.2.2.1.length n)) 3 9 ((dr.2.2.2.2.1.length : Int) + 1)) x = gA s x := fun x hx => by rw [gA_sF, gA_ne hx]
  have sc : ∀ l cls, 98 ≤ l → ScR s l cls → ScR (sF (sA s 9 ((gA s 9).set dr.2.2.2.2.1.length n)) 3 9 ((dr.2.2.2.2.1.length : Int) + 1)) l cls := fun l cls h98 h => h.fr (fun _ _ _ => rfl) (fun k _ => hF l k (by omega)) (fun p q1 q2 => hA p (by omega))
  refine ⟨hs'.d3, ⟨(hF3 1 (by decide)).trans k1, fun i hi => (k2 i hi).fr ⟨rfl, rfl⟩ (fun j _ => hF _ j (by omega)) (hA _ (by omega))⟩, ⟨(hF3 3 (by decide)).trans b1, fun i hi => ?_⟩, ⟨(hF3 6 (by decide)).trans s1, fun i hi => ?_⟩, (hA (3 + 5) (by decide)).trans t1, ⟨by rw [gF_eq, List.length_append]; rfl, fun t ht => ?_⟩, (hF3 10 (by decide)).trans f1⟩
  · unfold af; rw [hA (3 + 2) (by decide)]; exact b2 i hi
  · unfold af; rw [hA (3 + 3) (by decide), hA (3 + 4) (by decide)]; exact s2 i hi
  · rw [List.length_append] at ht
    simp only [List.length_cons, List.length_nil] at ht
    have ea : af (sF (sA s 9 ((gA s 9).set dr.2.2.2.2.1.length n)) 3 9 ((dr.2.2.2.2.1.length : Int) + 1)) (3 + 6) t = if dr.2.2.2.2.1.length = t then n else af s (3 + 6) t := by
      show (gA (sF (sA s 9 ((gA s 9).set dr.2.2.2.2.1.length n)) 3 9 ((dr.2.2.2.2.1.length : Int) + 1)) 9).getD t 0 = _
      rw [gA_sF, gA_eq, setD_getD (by omega)]
      rfl
    rw [ea]
    by_cases e : dr.2.2.2.2.1.length = t
    · rw [if_pos e, ← e, gdApp2]
      exact ⟨hn, sc _ _ hn hS⟩
    · rw [if_neg e, gdApp (by omega)]
      have := l2 t (by omega)
      exact ⟨this.1, sc _ _ this.1 this.2⟩
theorem wfA_law {T : Lwt} (W : wfA a) (h6 : a.1.2.2.2.2.1.length < 6) (hT : wfLw T) : wfA (addLw a T) := by
  refine wfA_d W ⟨W.1.1, W.1.2.1, W.1.2.2.1, W.1.2.2.2.1, ⟨?_, fun x hx => ?_⟩, ?_⟩ rfl
  · show (a.1.2.2.2.2.1 ++ [T]).length ≤ 6
    rw [List.length_append]; simp; omega
  · rcases List.mem_append.mp hx with e | e
    · exact W.1.2.2.2.2.1.2 x e
    · rw [List.mem_singleton.mp e]; exact hT
  · have := W.1.2.2.2.2.2
    show -1 ≤ a.1.2.2.2.2.2 ∧ a.1.2.2.2.2.2 < ((a.1.2.2.2.2.1 ++ [T]).length : Int)
    rw [List.length_append]
    simp only [List.length_cons, List.length_nil]
    omega
theorem RepC.emp (R : RepC a s) (W : wfA a) : RepC (setTp a []) (sF s 1 1 0) ∧ TpR (sF s 1 1 0) a.2.2.2.1 := by
  have hs := R.1
  have k1 := hs.o1.1
  obtain ⟨-, -, -, -, ⟨t1, t2⟩, ⟨f1, f2, f3, f4⟩, r7, -, -⟩ := id R
  exact ⟨R.m W (FrK.sF (by decide)) (hs.sF (by rw [k1]; decide)) ⟨gF_eq _ _ _ _, fun i hi => absurd hi (by simp)⟩ ⟨(gF_nk (by decide)).trans f1, (gF_nk (by decide)).trans f2, (gF_nk (by decide)).trans f3, (gF_np (by decide)).trans f4⟩ r7, hs.1 2 (by decide) (by decide), hs.2.1 2 (by decide) (by decide), W.2.2.2.1.1, t2⟩
theorem RepC.ft {x : Int} (R : RepC a s) (W : wfA a) : RepC (setFt a x) (sF s 1 13 x) := by
  have hs := R.1
  have k1 := hs.o1.1
  obtain ⟨-, -, -, -, ⟨t1, t2⟩, ⟨f1, f2, f3, f4⟩, r7, -, -⟩ := id R
  exact R.m W (FrK.sF (by decide)) (hs.sF (by rw [k1]; decide)) ⟨(gF_nk (by decide)).trans t1, t2⟩ ⟨(gF_nk (by decide)).trans f1, (gF_nk (by decide)).trans f2, gF_eq _ _ _ _, (gF_np (by decide)).trans f4⟩ r7
theorem RepC.rd (R : RepC a s) (W : wfA a) (hs' : ShC s') (F : FrK [] [62, 63] rdA s s') : RepC a s' := R.k W F hs' (R.pg.k2 R.1.o78.1 F (by decide) (by decide) (by decide)) (by decide) (by decide)
theorem wfA_e (W : wfA a) : wfA (setTp a []) := wfA_tp W ⟨by simp, fun b hb => absurd hb (by simp)⟩
theorem cc_law (R : RepC a s) (W : wfA a) (Z : Fz s) : Gl (GI fun x s' => x = (aLaw a).1 ∧ RepC (aLaw a).2 s' ∧ Fz s' ∧ (nx s ≤ nx s' ∧ nx s' ≤ nx s + 9) ∧ (sl s ≤ sl s' ∧ sl s' ≤ sl s + 594)) (X11_law (d + 25) s 1) := by
  have hs := R.1
  obtain ⟨R1, T1⟩ := R.emp W
  have W1 := wfA_e W
  have hs1 := R1.1
  have l1 : gF s 3 9 = a.1.2.2.2.2.1.length := R.2.1.2.2.2.2.2.1.1
  have t1 := R.2.2.2.2.1.1
  -- a refusal
  have no : ∀ (b : Ab) (s2 : St) (v : Int), (v = -1 ∨ v = -2 ∨ v = -3 ∨ v = -5 ∨ v = -6) → RepC b s2 → wfA b → (∀ p, kd s2 p = kd s p) → nx s2 = nx s → sl s2 = sl s → Gl (GI fun x s' => x = (refu b v).1 ∧ RepC (refu b v).2 s' ∧ Fz s' ∧ (nx s ≤ nx s' ∧ nx s' ≤ nx s + 9) ∧ (sl s ≤ sl s' ∧ sl s' ≤ sl s + 594)) (cI (X11_refused (d + 24) s2 1 v) fun x s3 => some ([(0, x)], s3)) := by
    intro b s2 v hv R2 W2 hk hx hl
    obtain ⟨s', e1, e2⟩ := c_refused (d := d + 24) hv R2 W2
    have pv := ev_pv e1 rfl
    rw [e1, cI_ok]
    refine reI ⟨rfl, e2, fun p hp => ?_, ?_, ?_⟩
    · rw [pv.1, hk]; rw [pv.2.1, hx] at hp; exact Z p hp
    · rw [pv.2.1, hx]; omega
    · rw [pv.2.2.1, hl]; omega
  rw [e_X11_law]
  simp only [e_X11_emptiedTape]
  unfold aLaw
  simp (disch := ((try simp only [kd_sF, kd_sA, gA_sF, gA_sA, gF_sF, gF_sA, List.length_set, reduceIte, and_true, and_false, true_and, false_and, Nat.reduceEqDiff, Int.reduceEq, hs.o1, hs.o3]); first | done | omega)) only [rF_ok, wF_ok, oK_ok, lA_ok, rA_ok, wA_ok, cI_ok, cV_ok, cL_ok, cR_ok, kd_sF, kd_sA, gA_sF, gF_sA, gF_sF, gA_sA, bk_0, bk_1, List.length_set, reduceIte, and_true, and_false, true_and, false_and, ne_eq, not_true_eq_false, not_false_eq_true, Int.toNat_natCast, Int.reduceToNat, Nat.reduceEqDiff, Int.reduceEq, Int.reduceLT, Int.reduceLE, Int.reduceAdd, Int.reduceSub, Int.reduceMul, Int.reduceNeg, hs.o1, hs.o3, t1, l1]
  by_cases h6 : a.1.2.2.2.2.1.length < 6
  · rw [if_pos (show (a.1.2.2.2.2.1.length : Int) < 6 by omega), if_pos h6]
    refine biI (c_read (d := d) (fl := 1) (fw := 8) (lw := 13) hs1 T1 W.2.2.2.1.2 (Or.inl ⟨rfl, rfl, rfl⟩)) fun x s2 hev ⟨q1, q2, q3⟩ => ?_
    have pv := ev_pv hev rfl
    have R2 := R1.rd W1 q1 q2
    have R3 := R2.ft (x := x) W1
    have W3 : wfA (setFt (setTp a []) x) := W1
    have hs3 := R3.1
    have k1 : kd s2 1 = 15 := q1.o1.1
    rw [wF_ok k1, rF_ok (show kd (sF s2 1 13 x) 1 = 15 from k1), gF_eq]
    have kds : ∀ p, kd (sF s2 1 13 x) p = kd s p := fun p => (pv.1 p).trans rfl
    have nxs : nx (sF s2 1 13 x) = nx s := pv.2.1.trans rfl
    have sls : sl (sF s2 1 13 x) = sl s := pv.2.2.1.trans rfl
    cases hr : rdT a.2.2.2.1 8 with
    | error e =>
      rw [hr] at q3
      obtain ⟨q3, q4⟩ := q3
      rw [if_neg (show ¬ (x = -1) by omega), oK_ok hs3.o1.1]
      subst q3
      exact no _ _ (-6) (by decide) R3 W3 kds nxs sls
    | ok cls =>
      rw [hr] at q3
      obtain ⟨q3, q4⟩ := q3
      obtain ⟨wT, eT⟩ := wf_toks W.2.2.2.1.1 hr
      rw [if_pos q3]
      have sc3 : ScR (sF s2 1 13 x) 63 cls := q4.fr (fun _ _ _ => rfl) (fun k _ => gF_np (by decide)) (fun _ _ _ => rfl)
      rw [← q3]
      generalize sF s2 1 13 x = S3 at *
      have Z3 : Fz S3 := fun p hp => by rw [kds]; rw [nxs] at hp; exact Z p hp
      obtain ⟨s4, e4, r4, x4, y4, o4⟩ := c_kept (d := d + 23) hs3 sc3 rfl
      simp (disch := ((try simp only [kd_sF, kd_sA, gA_sF, gA_sA, gF_sF, gF_sA, List.length_set, reduceIte, and_true, and_false, true_and, false_and, Nat.reduceEqDiff, Int.reduceEq, hs3.o1, hs3.o62, hs3.o63]); first | done | omega)) only [rF_ok, wF_ok, oK_ok, lA_ok, rA_ok, wA_ok, cI_ok, cV_ok, cL_ok, cR_ok, kd_sF, kd_sA, gA_sF, gF_sA, gF_sF, gA_sA, bk_0, bk_1, List.length_set, reduceIte, and_true, and_false, true_and, false_and, ne_eq, not_true_eq_false, not_false_eq_true, Int.toNat_natCast, Int.reduceToNat, Nat.reduceEqDiff, Int.reduceEq, Int.reduceLT, Int.reduceLE, Int.reduceAdd, Int.reduceSub, Int.reduceMul, Int.reduceNeg, hs3.o1, hs3.o62, hs3.o63, e4]
      have x98 := hs3.2.2.2.2
      have sm : ∀ p, p < nx S3 → Sm S3 s4 p := fun p hp => o4 p (by omega)
      have os : ∀ l cls, 98 ≤ l → ScR S3 l cls → ScR s4 l cls := fun l cls hl h => by
        have := h.lt Z3
        exact h.fr (fun p _ _ => (sm p (by omega)).1) (fun k _ => (sm l (by omega)).2.1 k) (fun p _ _ => (sm p (by omega)).2.2)
      have hs4 : ShC s4 := hs3.gen (fun p h1 h2 => ⟨(sm p (by omega)).1, (sm p (by omega)).2.1, by rw [(sm p (by omega)).2.2]⟩) ⟨(sm 4 (by omega)).2.2, (sm 36 (by omega)).2.2⟩ (by omega)
      have R4 : RepC (setFt (setTp a []) x) s4 := R3.gen W3 hs4 (fun p _ hp _ => sm p (by omega)) os (R3.2.2.1.gen W3.2.1 Z3 x98 sm os)
      have k9 : kd s4 9 = 26 := hs4.1 9 (by decide) (by decide)
      have l9 : (gA s4 9).length = 6 := hs4.2.1 9 (by decide) (by decide)
      have k3 : kd s4 3 = 4 := hs4.o3.1
      have l14 : gF s4 3 9 = a.1.2.2.2.2.1.length := R4.2.1.2.2.2.2.2.1.1
      have kn11 : kd s4 (nx S3) = 11 := by obtain ⟨⟨n', m', hsc, -⟩, -⟩ := r4; exact hsc.1
      simp only [e_X0_addLaw]
      simp (disch := ((try simp only [kd_sF, kd_sA, gA_sF, gA_sA, gF_sF, gF_sA, List.length_set, reduceIte, and_true, and_false, true_and, false_and, Nat.reduceEqDiff, Int.reduceEq, hs4.o3]); first | done | omega)) only [rF_ok, wF_ok, oK_ok, lA_ok, rA_ok, wA_ok, cI_ok, cV_ok, cL_ok, cR_ok, kd_sF, kd_sA, gA_sF, gF_sA, gF_sF, gA_sA, bk_0, bk_1, List.length_set, reduceIte, and_true, and_false, true_and, false_and, ne_eq, not_true_eq_false, not_false_eq_true, Int.toNat_natCast, Int.reduceToNat, Nat.reduceEqDiff, Int.reduceEq, Int.reduceLT, Int.reduceLE, Int.reduceAdd, Int.reduceSub, Int.reduceMul, Int.reduceNeg, hs4.o3, l14, if_pos (show (a.1.2.2.2.2.1.length : Int) < 6 by omega), rk_ok, kn11, wi_sm]
      have hs5 : ShC (sF (sA s4 9 ((gA s4 9).set a.1.2.2.2.2.1.length (nx S3))) 3 9 ((a.1.2.2.2.2.1.length : Int) + 1)) := (hs4.sA (by rw [List.length_set]) (by rw [k9]; decide)).sF (by rw [kd_sA, k3]; decide)
      have D5 : DrC (sF (sA s4 9 ((gA s4 9).set a.1.2.2.2.2.1.length (nx S3))) 3 9 ((a.1.2.2.2.2.1.length : Int) + 1)) 3 (a.1.1, a.1.2.1, a.1.2.2.1, a.1.2.2.2.1, a.1.2.2.2.2.1 ++ [toks a.2.2.2.1], a.1.2.2.2.2.2) := DrC.law (T := toks a.2.2.2.1) R4.2.1 h6 l9 (by rw [eT]; exact r4) x98 hs5
      have F5 : FrK [] [3] [9] s4 (sF (sA s4 9 ((gA s4 9).set a.1.2.2.2.2.1.length (nx S3))) 3 9 ((a.1.2.2.2.2.1.length : Int) + 1)) := (FrK.sA _ (by decide)).tr (FrK.sF (by decide))
      have g59 : gF (sF (sA s4 9 ((gA s4 9).set a.1.2.2.2.2.1.length (nx S3))) 3 9 ((a.1.2.2.2.2.1.length : Int) + 1)) 3 9 = (a.1.2.2.2.2.1.length : Int) + 1 := gF_eq _ _ _ _
      have kd5 : ∀ p, kd (sF (sA s4 9 ((gA s4 9).set a.1.2.2.2.2.1.length (nx S3))) 3 9 ((a.1.2.2.2.2.1.length : Int) + 1)) p = kd s4 p := fun _ => rfl
      have nx5 : nx (sF (sA s4 9 ((gA s4 9).set a.1.2.2.2.2.1.length (nx S3))) 3 9 ((a.1.2.2.2.2.1.length : Int) + 1)) = nx s4 := rfl
      have sl5 : sl (sF (sA s4 9 ((gA s4 9).set a.1.2.2.2.2.1.length (nx S3))) 3 9 ((a.1.2.2.2.2.1.length : Int) + 1)) = sl s4 := rfl
      generalize sF (sA s4 9 ((gA s4 9).set a.1.2.2.2.2.1.length (nx S3))) 3 9 ((a.1.2.2.2.2.1.length : Int) + 1) = S5 at *
      have R5 : RepC (addLw (setFt (setTp a []) x) (toks a.2.2.2.1)) S5 := by
        obtain ⟨-, -, -, b4, b5, b6, b7, -, b9⟩ := id R4
        refine R4.up W3 F5 hs5 (by decide) (by decide) (b9.k2 hs4.o78.1 F5 (by decide) (by decide) (by decide)) D5 (b4.k hs4.o10.1 F5 (by decide) (by decide) (by decide)) (b5.k hs4.o1.1 F5 (by decide) (by decide) (by decide)) (b6.k hs4.o1.1 hs4.o75.1 F5 (by decide) (by decide)) ?_
        unfold RfC
        rw [F5.2.2 97 (by decide)]
        exact b7
      have W5 := wfA_law W3 h6 wT
      simp (disch := ((try simp only [kd_sF, kd_sA, gA_sF, gA_sA, gF_sF, gF_sA, List.length_set, reduceIte, and_true, and_false, true_and, false_and, Nat.reduceEqDiff, Int.reduceEq, hs5.o1, hs5.o3]); first | done | omega)) only [rF_ok, wF_ok, oK_ok, lA_ok, rA_ok, wA_ok, cI_ok, cV_ok, cL_ok, cR_ok, kd_sF, kd_sA, gA_sF, gF_sA, gF_sF, gA_sA, bk_0, bk_1, List.length_set, reduceIte, and_true, and_false, true_and, false_and, ne_eq, not_true_eq_false, not_false_eq_true, Int.toNat_natCast, Int.reduceToNat, Nat.reduceEqDiff, Int.reduceEq, Int.reduceLT, Int.reduceLE, Int.reduceAdd, Int.reduceSub, Int.reduceMul, Int.reduceNeg, hs5.o1, hs5.o3, g59, wi_sm]
      rw [show (a.1.2.2.2.2.1.length : Int) + 1 - 1 = (a.1.2.2.2.2.1.length : Int) by omega]
      obtain ⟨s6, e6, r6⟩ := c_granted (d := d + 24) R5 W5 (a.1.2.2.2.2.1.length : Int)
      have pv6 := ev_pv e6 rfl
      rw [e6, cI_ok]
      have scl : (call cls).length ≤ 256 ∧ cls.length ≤ 12 := by
        obtain ⟨⟨n0, m0, ⟨-, -, -, ⟨z1, -⟩, -⟩, z4, z5, z6⟩, -, -, z7, -⟩ := r4
        have := z7.1
        rw [z1] at this
        omega
      refine reI ⟨rfl, r6, fun p hp => ?_, ?_, ?_⟩
      · rw [pv6.1, kd5, (o4 p (by rw [pv6.2.1, nx5, x4] at hp; omega)).1]
        exact Z3 p (by rw [pv6.2.1, nx5, x4] at hp; omega)
      · rw [pv6.2.1, nx5, x4]; omega
      · rw [pv6.2.2.1, sl5, y4]; omega
  · rw [if_neg (show ¬ ((a.1.2.2.2.2.1.length : Int) < 6) by omega), if_neg h6]
    exact no _ _ (-5) (by decide) R1 W1 (fun _ => rfl) rfl rfl
end CLW
