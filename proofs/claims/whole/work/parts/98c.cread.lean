/-! ===== the class reads a text's clauses ===== -/
section CCN
variable {c v st : Nat → Int} {nt i l d : Nat} {s0 s s' : St} {C : Cd} {f fw lw : Int}
/-- behind the first sum -/
theorem c_149 {n : Nat} {h0 : Int} {x : Cd × Dn} (W : TokW c v nt) (K : TokR c v st nt s) (hL : Lg (gF s 62 9) fw lw) (hn : n < 12) (hl : l ≤ 50) (hC : (C ++ x.1).length ≤ 2 * l + nN c i) (B : ClB s0 s) (O : OtC n s0 s) (h3 : gF s 63 3 = (n : Int) + 1) (hh : kdC h0 = 313 ↔ h0 = 20) (hE : (gA s 66).getD n 0 = kdC h0 ∧ (gA s 67).getD n 0 = 1 ∧ (gA s 68).getD n 0 = C.length) (h : POk c nt s i l (C ++ x.1) s) : Gl (GV fun s' => ClR c nt st s0 n C (if h0 = 20 then (if c i = 21 then bnd (pSum c v fw lw 8 (i + 1) l) fun b => (if fw = 14 then pTm c v (pTest c v fw lw 8) b.1 b.2.1 h0 x b.2.2 else pIf c (pTest c v fw lw 8) b.1 b.2.1 h0 1 x b.2.2) else .error i) else (if fw = 14 then pTm c v (pTest c v fw lw 8) i l h0 x eDn else pIf c (pTest c v fw lw 8) i l h0 1 x eDn)) s') (X5_clause_149 (d + 23) s 62 n) := by
  have hs : ShC s := h.1.1
  have h6 := h.2.2.2.1
  have e2 := h.2.2.2.2.2.2.1
  have nb := nN_bd W h.2.1
  have hw := W.1
  have hC256 : (C ++ x.1).length ≤ 256 := by omega
  have l69 : (gA s 69).length = 12 := hs.2.1 69 (by decide) (by decide)
  have l66 : (gA s 66).length = 12 := hs.2.1 66 (by decide) (by decide)
  have hl' : ((gA s 69).set n (gF s 63 2)).length = (gA s 69).length := List.length_set
  have B1 : ClB s (sA s 69 ((gA s 69).set n (gF s 63 2))) := ClB.w hs (by decide) hl'
  have h1 := h.w (x := 69) (by decide) hl'
  have O1 : OtC n s (sA s 69 ((gA s 69).set n (gF s 63 2))) := OtC.w (by omega)
  have E1 : (gA (sA s 69 ((gA s 69).set n (gF s 63 2))) 66).getD n 0 = kdC h0 ∧ (gA (sA s 69 ((gA s 69).set n (gF s 63 2))) 67).getD n 0 = 1 ∧ (gA (sA s 69 ((gA s 69).set n (gF s 63 2))) 68).getD n 0 = C.length ∧ (gA (sA s 69 ((gA s 69).set n (gF s 63 2))) 69).getD n 0 = (C.length + x.1.length : Nat) := by
    refine ⟨by rw [gA_ne (by decide)]; exact hE.1, by rw [gA_ne (by decide)]; exact hE.2.1, by rw [gA_ne (by decide)]; exact hE.2.2, ?_⟩
    rw [gA_eq, set_eq (by omega), e2]
    simp only [List.length_append]
  have h31 : gF (sA s 69 ((gA s 69).set n (gF s 63 2))) 63 3 = (n : Int) + 1 := h3
  have k314 : kI c nt i = 314 ↔ c i = 21 := kI_iff W (by rfl)
  rw [e_X5_clause_149]
  simp (disch := ((try simp only [kd_sF, kd_sA, gA_sF, gA_sA, gF_sF, gF_sA, List.length_set, reduceIte, and_true, and_false, true_and, false_and, Nat.reduceEqDiff, Int.reduceEq, hs.o62, hs.o63]); first | done | omega)) only [rF_ok, wF_ok, oK_ok, lA_ok, rA_ok, wA_ok, cI_ok, cV_ok, cL_ok, cR_ok, kd_sF, kd_sA, gA_sF, gF_sA, gF_sF, gA_sA, bk_0, bk_1, List.length_set, reduceIte, and_true, and_false, true_and, false_and, ne_eq, not_true_eq_false, not_false_eq_true, Int.toNat_natCast, Int.reduceToNat, Nat.reduceEqDiff, Int.reduceEq, Int.reduceLT, Int.reduceLE, Int.reduceAdd, Int.reduceSub, Int.reduceMul, Int.reduceNeg, hs.o62, hs.o63, hE.1]
  generalize hX : sA s 69 ((gA s 69).set n (gF s 63 2)) = X at *
  have K1 := B1.tok K
  have L1 := B1.lg hL
  have hsX : ShC X := h1.1.1
  rw [h6]
  by_cases e : h0 = 20
  · rw [if_pos (hh.mpr e), if_pos e]
    by_cases e1 : c i = 21
    · rw [if_pos (k314.mpr e1), if_pos e1]
      refine gl_adv W K1 h1 (by omega) fun s1 g1 => ?_
      have hs1 : ShC s1 := g1.1.1
      have m1 := nN_mono (c := c) (i := i) (j := i + 1) (by omega)
      simp (disch := ((try simp only [kd_sF, kd_sA, gA_sF, gA_sA, gF_sF, gF_sA, List.length_set, reduceIte, and_true, and_false, true_and, false_and, Nat.reduceEqDiff, Int.reduceEq, hs1.o62]); first | done | omega)) only [rF_ok, wF_ok, oK_ok, lA_ok, rA_ok, wA_ok, cI_ok, cV_ok, cL_ok, cR_ok, kd_sF, kd_sA, gA_sF, gF_sA, gF_sF, gA_sA, bk_0, bk_1, List.length_set, reduceIte, and_true, and_false, true_and, false_and, ne_eq, not_true_eq_false, not_false_eq_true, Int.toNat_natCast, Int.reduceToNat, Nat.reduceEqDiff, Int.reduceEq, Int.reduceLT, Int.reduceLE, Int.reduceAdd, Int.reduceSub, Int.reduceMul, Int.reduceNeg, hs1.o62]
      refine biV (sm_ok W K1 L1 8 (by decide) (d + 2) (i + 1) l (C ++ x.1) s1 hl (by omega) g1) fun s2 _ g2 => ?_
      cases hr : pSum c v fw lw 8 (i + 1) l with
      | error e' =>
        rw [hr] at g2
        obtain ⟨g2, hz⟩ := g2
        exact wkV (c_206F hn ((B.tr B1).tr g2.1.cb) g2.re) fun s4 _ q4 => ⟨q4, hz⟩
      | ok b =>
        rw [hr] at g2
        have R2 := g2.1
        have hb := bn_sum (c := c) (v := v) (fw := fw) (lw := lw) 8 (i + 1) l b hl hr
        have m2 := nN_mono (c := c) (i := i) (j := b.1) (by omega)
        refine c_206 W (R2.cb.tok K1) (R2.cb.lg L1) hn hb.2.2.1 ?_ ((B.tr B1).tr R2.cb) ((O.tr O1).tr R2.ot) (R2.2.2.2.2.trans h31) ⟨by rw [R2.ar 66 (by decide)]; exact E1.1, by rw [R2.ar 67 (by decide)]; exact E1.2.1, by rw [R2.ar 68 (by decide)]; exact E1.2.2.1, by rw [R2.ar 69 (by decide)]; exact E1.2.2.2⟩ g2.re
        rw [List.length_append] at hC ⊢
        rw [List.length_append]
        omega
    · rw [if_neg (fun x => e1 (k314.mp x)), if_neg e1]
      refine gl_fail K1 hw h1 hC256 fun s3 q3 hz => ?_
      exact wkV (c_206F hn ((B.tr B1).tr q3.1.cb) q3.re) fun s4 _ q4 => ⟨q4, hz⟩
  · rw [if_neg (fun x => e (hh.mp x)), if_neg e]
    exact c_206 (y := eDn) W K1 L1 hn hl (by simpa [eDn] using hC) (B.tr B1) (O.tr O1) h31 E1 (by simpa [eDn] using h1)
/-- clauses of the language -/
def pCl (c v : Nat → Int) (fw : Int) (i l : Nat) : Except Nat (Nat × Nat × Cl) := if fw = 14 then pClO c v i l else pClL c v i l
theorem c_clause {n : Nat} (W : TokW c v nt) (K : TokR c v st nt s) (hL : Lg (gF s 62 9) fw lw) (hn : n < 12) (hl : l ≤ 50) (hC : C.length ≤ 2 * l + nN c i) (h : POk c nt s i l C s) : Gl (GV fun s' => ClR c nt st s n C (pCl c v fw i l) s') (X5_clause (d + 23) s 62 n) := by
  have hs : ShC s := h.1.1
  have h6 := h.2.2.2.1
  have e2 := h.2.2.2.2.2.2.1
  have nb := nN_bd W h.2.1
  have hw := W.1
  have k63 : kd s 63 = 11 := hs.o63.1
  have l66 : (gA s 66).length = 12 := hs.2.1 66 (by decide) (by decide)
  have l67 : (gA s 67).length = 12 := hs.2.1 67 (by decide) (by decide)
  have l68 : (gA s 68).length = 12 := hs.2.1 68 (by decide) (by decide)
  rw [e_X5_clause, wi_sm (by omega) (by omega)]
  simp (disch := ((try simp only [kd_sF, kd_sA, gA_sF, gA_sA, gF_sF, gF_sA, List.length_set, reduceIte, and_true, and_false, true_and, false_and, Nat.reduceEqDiff, Int.reduceEq, hs.o62, hs.o63]); first | done | omega)) only [rF_ok, wF_ok, oK_ok, lA_ok, rA_ok, wA_ok, cI_ok, cV_ok, cL_ok, cR_ok, kd_sF, kd_sA, gA_sF, gF_sA, gF_sF, gA_sA, bk_0, bk_1, List.length_set, reduceIte, and_true, and_false, true_and, false_and, ne_eq, not_true_eq_false, not_false_eq_true, Int.toNat_natCast, Int.reduceToNat, Nat.reduceEqDiff, Int.reduceEq, Int.reduceLT, Int.reduceLE, Int.reduceAdd, Int.reduceSub, Int.reduceMul, Int.reduceNeg, hs.o62, hs.o63]
  -- the first writes
  have hsA : ShC (sF s 63 3 ((n : Int) + 1)) := hs.sF (by rw [k63]; decide)
  have BA : ClB s (sF s 63 3 ((n : Int) + 1)) := ⟨hsA, FrK.sF (by decide), gF_np (by decide), gF_np (by decide)⟩
  have hA : POk c nt (sF s 63 3 ((n : Int) + 1)) i l C (sF s 63 3 ((n : Int) + 1)) := by
    obtain ⟨-, h1, h2, h3, h4, h5, h6, h7⟩ := h
    exact ⟨RdB.rf hsA, h1, (gF_np (by decide)).trans h2, (gF_np (by decide)).trans h3, (gF_np (by decide)).trans h4, (gF_np (by decide)).trans h5, (gF_nk (by decide)).trans h6, h7⟩
  have h3A : gF (sF s 63 3 ((n : Int) + 1)) 63 3 = (n : Int) + 1 := gF_eq _ _ _ _
  have OA : OtC n s (sF s 63 3 ((n : Int) + 1)) := fun _ _ _ _ _ => rfl
  have aA : ∀ x, gA (sF s 63 3 ((n : Int) + 1)) x = gA s x := fun _ => rfl
  generalize hSA : sF s 63 3 ((n : Int) + 1) = A at *
  have hl1 : ((gA s 66).set n (gF s 62 6)).length = (gA A 66).length := by rw [aA, List.length_set]
  have BB : ClB A (sA A 66 ((gA s 66).set n (gF s 62 6))) := ClB.w hsA (by decide) hl1
  have hB := hA.w (x := 66) (by decide) hl1
  have OB : OtC n A (sA A 66 ((gA s 66).set n (gF s 62 6))) := by rw [← aA]; exact OtC.w (by rw [aA]; omega)
  generalize hSB : sA A 66 ((gA s 66).set n (gF s 62 6)) = B' at *
  have aB : ∀ x, x ≠ 66 → gA B' x = gA s x := fun x hx => by rw [← hSB, gA_ne hx, aA]
  have a66 : (gA B' 66).getD n 0 = kI c nt i := by rw [← hSB, gA_eq, set_eq (by omega)]; exact h6
  have h3B : gF B' 63 3 = (n : Int) + 1 := by rw [← hSB]; exact h3A
  have hl2 : ((gA s 67).set n 1).length = (gA B' 67).length := by rw [aB 67 (by decide), List.length_set]
  have BC : ClB B' (sA B' 67 ((gA s 67).set n 1)) := ClB.w hB.1.1 (by decide) hl2
  have hCc := hB.w (x := 67) (by decide) hl2
  have OC : OtC n B' (sA B' 67 ((gA s 67).set n 1)) := by rw [← aB 67 (by decide)]; exact OtC.w (by rw [aB 67 (by decide)]; omega)
  generalize hSC : sA B' 67 ((gA s 67).set n 1) = C' at *
  have aC : ∀ x, x ≠ 66 → x ≠ 67 → gA C' x = gA s x := fun x hx h7 => by rw [← hSC, gA_ne h7, aB x hx]
  have a66C : (gA C' 66).getD n 0 = kI c nt i := by rw [← hSC, gA_ne (by decide)]; exact a66
  have a67C : (gA C' 67).getD n 0 = 1 := by rw [← hSC, gA_eq, set_eq (by omega)]
  have h3C : gF C' 63 3 = (n : Int) + 1 := by rw [← hSC]; exact h3B
  have hl3 : ((gA s 68).set n (gF s 63 2)).length = (gA C' 68).length := by rw [aC 68 (by decide) (by decide), List.length_set]
  have BD : ClB C' (sA C' 68 ((gA s 68).set n (gF s 63 2))) := ClB.w hCc.1.1 (by decide) hl3
  have hD := hCc.w (x := 68) (by decide) hl3
  have OD : OtC n C' (sA C' 68 ((gA s 68).set n (gF s 63 2))) := by rw [← aC 68 (by decide) (by decide)]; exact OtC.w (by rw [aC 68 (by decide) (by decide)]; omega)
  generalize hSD : sA C' 68 ((gA s 68).set n (gF s 63 2)) = D at *
  have a66D : (gA D 66).getD n 0 = kI c nt i := by rw [← hSD, gA_ne (by decide)]; exact a66C
  have a67D : (gA D 67).getD n 0 = 1 := by rw [← hSD, gA_ne (by decide)]; exact a67C
  have a68D : (gA D 68).getD n 0 = C.length := by rw [← hSD, gA_eq, set_eq (by omega), e2]
  have h3D : gF D 63 3 = (n : Int) + 1 := by rw [← hSD]; exact h3C
  have BF := ((BA.tr BB).tr BC).tr BD
  have OF := ((OA.tr OB).tr OC).tr OD
  have hsD : ShC D := hD.1.1
  have KD := BF.tok K
  have LD := BF.lg hL
  have h6D : gF D 62 6 = kI c nt i := hD.2.2.2.1
  have h9s : gF s 62 9 = gF D 62 9 := BF.2.2.2.symm
  clear hSA hSB hSC hSD BA BB BC BD OA OB OC OD hA hB hCc aA aB aC a66 a66C a67C h3A h3B h3C hl1 hl2 hl3
  have hC256 : C.length ≤ 256 := by omega
  have no : Gl (GV fun s' => ClR c nt st s n C (.error i) s') (cV (X5_fail (d + 22) D 62) fun s1 => X5_clause_149 (d + 22 + 1) s1 62 n) := by
    refine gl_fail KD hw hD hC256 fun s3 q3 hz => ?_
    exact wkV (c_149F hn (BF.tr q3.1.cb) q3.re (by omega)) fun s4 _ q4 => ⟨q4, hz⟩
  -- with a first sum
  have p : c i ≠ 0 → (kdC (c i) = 313 ↔ c i = 20) → kI c nt i = kdC (c i) → Gl (GV fun s' => ClR c nt st s n C (bnd (pSum c v fw lw 8 (i + 1) l) fun a => (if c i = 20 then (if c a.1 = 21 then bnd (pSum c v fw lw 8 (a.1 + 1) a.2.1) fun b => (if fw = 14 then pTm c v (pTest c v fw lw 8) b.1 b.2.1 (c i) a.2.2 b.2.2 else pIf c (pTest c v fw lw 8) b.1 b.2.1 (c i) 1 a.2.2 b.2.2) else .error a.1) else (if fw = 14 then pTm c v (pTest c v fw lw 8) a.1 a.2.1 (c i) a.2.2 eDn else pIf c (pTest c v fw lw 8) a.1 a.2.1 (c i) 1 a.2.2 eDn))) s') (cV (X5_advance (d + 22) D 62) fun s4 => oK s4 62 9 (cV (X5_sum (d + 22) s4 62 0) fun s5 => X5_clause_149 (d + 22 + 1) s5 62 n)) := by
    intro hc0 hh hk
    refine gl_adv W KD hD hc0 fun s1 g1 => ?_
    have hs1 : ShC s1 := g1.1.1
    rw [oK_ok hs1.o62.1]
    refine biV (sm_ok W KD LD 8 (by decide) (d + 2) (i + 1) l C s1 hl (by omega) g1) fun s2 _ g2 => ?_
    cases hr : pSum c v fw lw 8 (i + 1) l with
    | error e' =>
      rw [hr] at g2
      obtain ⟨g2, hz⟩ := g2
      exact wkV (c_149F hn (BF.tr g2.1.cb) g2.re (by omega)) fun s4 _ q4 => ⟨q4, hz⟩
    | ok b =>
      rw [hr] at g2
      have R2 := g2.1
      have hb := bn_sum (c := c) (v := v) (fw := fw) (lw := lw) 8 (i + 1) l b hl hr
      have m2 := nN_mono (c := c) (i := i) (j := b.1) (by omega)
      refine c_149 (x := b.2.2) W (R2.cb.tok KD) (R2.cb.lg LD) hn hb.2.2.1 ?_ (BF.tr R2.cb) (OF.tr R2.ot) (R2.2.2.2.2.trans h3D) hh ⟨by rw [R2.ar 66 (by decide), a66D]; exact hk, by rw [R2.ar 67 (by decide)]; exact a67D, by rw [R2.ar 68 (by decide)]; exact a68D⟩ g2.re
      rw [List.length_append]
      omega
  rw [h9s, h6]
  have kb : ∀ x K : Int, pairB x K = true → (kI c nt i = K ↔ c i = x) := fun x K h => kI_iff W h
  unfold pCl
  unfold Lg at LD hL
  rcases LD with ⟨g0, g1, g2⟩ | ⟨g0, g1, g2⟩
  · -- laws
    subst g1
    subst g2
    rw [if_neg (show ¬ ((8 : Int) = 14) by decide), if_neg (show ¬ (gF D 62 9 = 0) by rw [g0]; decide)]
    have k302 := kb 3 302 rfl
    have k300 := kb 1 300 rfl
    have k301 := kb 2 301 rfl
    unfold pClL
    by_cases e3 : c i = 3
    · rw [if_pos (k302.mpr e3), if_neg (show ¬ (c i = 1 ∨ c i = 2) by omega), if_pos e3]
      refine gl_adv W KD hD (by omega) fun s1 q1 => ?_
      have R1 := q1.1
      have m2 := nN_mono (c := c) (i := i) (j := i + 1) (by omega)
      have := c_149 (d := d) (h0 := 3) (x := eDn) (fw := 8) (lw := 13) W (R1.cb.tok KD) (R1.cb.lg (by unfold Lg; exact Or.inl ⟨g0, rfl, rfl⟩)) hn hl (by simpa [eDn] using (show C.length ≤ 2 * l + nN c (i + 1) by omega)) (BF.tr R1.cb) (OF.tr R1.ot) (R1.2.2.2.2.trans h3D) (by decide) ⟨by rw [R1.ar 66 (by decide), a66D]; exact k302.mpr e3, by rw [R1.ar 67 (by decide)]; exact a67D, by rw [R1.ar 68 (by decide)]; exact a68D⟩ (by simpa [eDn] using q1.re)
      rw [if_neg (by decide), if_neg (by decide)] at this
      exact this
    · rw [if_neg (fun x => e3 (k302.mp x)), e_X5_clause_73]
      simp (disch := ((try simp only [kd_sF, kd_sA, gA_sF, gA_sA, gF_sF, gF_sA, List.length_set, reduceIte, and_true, and_false, true_and, false_and, Nat.reduceEqDiff, Int.reduceEq, hsD.o62]); first | done | omega)) only [rF_ok, wF_ok, oK_ok, lA_ok, rA_ok, wA_ok, cI_ok, cV_ok, cL_ok, cR_ok, kd_sF, kd_sA, gA_sF, gF_sA, gF_sF, gA_sA, bk_0, bk_1, List.length_set, reduceIte, and_true, and_false, true_and, false_and, ne_eq, not_true_eq_false, not_false_eq_true, Int.toNat_natCast, Int.reduceToNat, Nat.reduceEqDiff, Int.reduceEq, Int.reduceLT, Int.reduceLE, Int.reduceAdd, Int.reduceSub, Int.reduceMul, Int.reduceNeg, hsD.o62, g0, h6D]
      by_cases e1 : c i = 1
      · rw [if_pos (k300.mpr e1), if_pos (Or.inl e1)]
        have := p (by omega) (by rw [e1]; decide) (by rw [e1]; exact k300.mpr e1)
        simp only [if_neg (show ¬ (c i = 20) by omega), if_neg (show ¬ ((8 : Int) = 14) by decide)] at this
        exact this
      · rw [if_neg (fun x => e1 (k300.mp x))]
        by_cases e2' : c i = 2
        · rw [if_pos (k301.mpr e2'), if_pos (Or.inr e2')]
          have := p (by omega) (by rw [e2']; decide) (by rw [e2']; exact k301.mpr e2')
          simp only [if_neg (show ¬ (c i = 20) by omega), if_neg (show ¬ ((8 : Int) = 14) by decide)] at this
          exact this
        · rw [if_neg (fun x => e2' (k301.mp x)), if_neg (show ¬ (c i = 1 ∨ c i = 2) by omega), if_neg e3]
          exact no
  · -- orders
    subst g1
    subst g2
    rw [if_pos rfl, if_pos (show gF D 62 9 = 0 from g0), e_X5_clause_73]
    simp (disch := ((try simp only [kd_sF, kd_sA, gA_sF, gA_sA, gF_sF, gF_sA, List.length_set, reduceIte, and_true, and_false, true_and, false_and, Nat.reduceEqDiff, Int.reduceEq, hsD.o62]); first | done | omega)) only [rF_ok, wF_ok, oK_ok, lA_ok, rA_ok, wA_ok, cI_ok, cV_ok, cL_ok, cR_ok, kd_sF, kd_sA, gA_sF, gF_sA, gF_sF, gA_sA, bk_0, bk_1, List.length_set, reduceIte, and_true, and_false, true_and, false_and, ne_eq, not_true_eq_false, not_false_eq_true, Int.toNat_natCast, Int.reduceToNat, Nat.reduceEqDiff, Int.reduceEq, Int.reduceLT, Int.reduceLE, Int.reduceAdd, Int.reduceSub, Int.reduceMul, Int.reduceNeg, hsD.o62, g0, h6D]
    have k313 := kb 20 313 rfl
    have k314 := kb 21 314 rfl
    have k315 := kb 22 315 rfl
    have k316 := kb 23 316 rfl
    have k317 := kb 24 317 rfl
    unfold pClO
    by_cases eo : c i = 20 ∨ c i = 22 ∨ c i = 23 ∨ c i = 24
    · have hk : kI c nt i = kdC (c i) := by
        rcases eo with e | e | e | e
        · rw [e]; exact k313.mpr e
        · rw [e]; exact k315.mpr e
        · rw [e]; exact k316.mpr e
        · rw [e]; exact k317.mpr e
      have kv : kdC (c i) = 293 + c i := by unfold kdC; rw [if_neg (by omega)]
      have := p (by omega) (by rw [kv]; omega) hk
      rw [hk, kv, if_neg (show ¬ (293 + c i < 313) by omega), if_neg (show ¬ (317 < 293 + c i) by omega), if_neg (show ¬ (293 + c i = 314) by omega)]
      by_cases e20 : c i = 20
      · rw [if_pos e20]
        simp only [if_pos e20, if_true] at this
        rw [e20] at this
        exact this
      · rw [if_neg e20, if_pos (show c i = 22 ∨ c i = 23 ∨ c i = 24 by omega)]
        simp only [if_neg e20, if_true] at this
        exact this
    · rw [if_neg (show ¬ (c i = 20) by omega), if_neg (show ¬ (c i = 22 ∨ c i = 23 ∨ c i = 24) by omega)]
      by_cases a1 : kI c nt i < 313
      · rw [if_pos a1]; exact no
      rw [if_neg a1]
      by_cases a2 : 317 < kI c nt i
      · rw [if_pos a2]; exact no
      rw [if_neg a2]
      by_cases a3 : kI c nt i = 314
      · rw [if_pos a3]; exact no
      · exfalso
        have : kI c nt i = 313 ∨ kI c nt i = 315 ∨ kI c nt i = 316 ∨ kI c nt i = 317 := by omega
        rcases this with q | q | q | q
        · exact eo (Or.inl (k313.mp q))
        · exact eo (Or.inr (Or.inl (k315.mp q)))
        · exact eo (Or.inr (Or.inr (Or.inl (k316.mp q))))
        · exact eo (Or.inr (Or.inr (Or.inr (k317.mp q))))
end CCN
