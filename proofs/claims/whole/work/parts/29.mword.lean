/-! ===== the reference: all asked once; words by their numbers ===== -/
def tkE (cls : List Cl) (mood th : Int) (e : Nat) : Int := tkQ cls mood th (((e / 144 + e / 12 % 12) % 2 : Nat) : Int) ((e / 12 % 12 : Nat) : Int) (((e / 3 % 4 : Nat) : Int) - 1) ((e % 3 : Nat) : Int)
def gpE (cls : List Cl) (mood th : Int) (e : Nat) : Int := gpA cls mood th (((e / 144 + e / 12 % 12) % 2 : Nat) : Int) ((e / 12 % 12 : Nat) : Int) (((e / 3 % 4 : Nat) : Int) - 1) ((e % 3 : Nat) : Int)
def brE (cls : List Cl) (mood th : Int) (e : Nat) : Int := brA cls mood th (((e / 144 + e / 12 % 12) % 2 : Nat) : Int) ((e / 12 % 12 : Nat) : Int) (((e / 3 % 4 : Nat) : Int) - 1) ((e % 3 : Nat) : Int)
/-- what was asked stands in the rows below c -/
def Rt (cls : List Cl) (mood th : Int) (c : Nat) (s : St) : Prop := ∀ e, e < c → (e / 12 % 12 = 0 ↔ e / 3 % 4 = 0) → (gA s 115).getD e 0 = tkE cls mood th e ∧ (gA s 116).getD e 0 = gpE cls mood th e ∧ (gA s 117).getD e 0 = brE cls mood th e
theorem Rt.fa {cls : List Cl} {mood th : Int} {c : Nat} {s s' : St} {P : List Int} (h : Rt cls mood th c s) (hF : Fa P s s') (hP : (115 : Int) ∉ P ∧ (116 : Int) ∉ P ∧ (117 : Int) ∉ P) : Rt cls mood th c s' := by
  intro e he hv
  rw [hF 115 hP.1, hF 116 hP.2.1, hF 117 hP.2.2]
  exact h e he hv
section MWORD
variable {s0 : St} {th : Int}
/-- the invariant of the asking loops -/
def AI (s0 : St) (st th : Int) (c : Nat) (s : St) : Prop := LkM s st th ∧ Fa [110, 112, 115, 116, 117] s0 s ∧ Rt (clsK (gA s0 100)) ((gA s0 100).getD 167 0) th c s
theorem m_aa77 {T : Res → Prop} {d c st k : Nat} {b p : Int} {s : St} (I : AI s0 st th c s) (hst : st < 2) (hk : k < 12) (hb : if k = 0 then b = -1 else (b = pf s (k - 1) ∧ 0 ≤ b ∧ b < 3)) (hp : 0 ≤ p ∧ p < 3) (hc : (c : Int) = 144 * st + 12 * k + 3 * (b + 1) + p)
    (hT : ∀ s', AI s0 st th (c + 1) s' → Gl T (X12_asksAll_58 (d + 47) s' 98 st k b (p + 1))) : Gl T (X12_asksAll_77 (d + 47) s 98 st k b p) := by
  obtain ⟨L, hF, hR⟩ := I
  have hs := L.1
  rw [e_X12_asksAll_77]
  have e1 : (wi ((wi ((wi ((wi ((wi ((wi ((wi ((st : Int) * 12)) + k)) * 4)) + b)) + 1)) * 3)) + p)) = c := by
    have hb2 : -1 ≤ b ∧ b < 3 := by split at hb <;> omega
    simp (disch := omega) only [wi_sm]
    omega
  have hc2 : c < 288 := by split at hb <;> omega
  simp (disch := ((try simp only [kd_sF, kd_sA, gA_sF, gA_sA, gF_sF, gF_sA, List.length_set, reduceIte, and_true, and_false, true_and, false_and, Nat.reduceEqDiff, Int.reduceEq, hs.kd, hs.ln, hs.fs, kMs, lMs]); first | done | omega)) only [rF_ok, wF_ok, oK_ok, lA_ok, rA_ok, wA_ok, cI_ok, cV_ok, cL_ok, cR_ok, kd_sF, kd_sA, gA_sF, gF_sA, gF_sF, gA_sA, bk_0, bk_1, List.length_set, reduceIte, and_true, and_false, true_and, false_and, ne_eq, not_true_eq_false, not_false_eq_true, Int.toNat_natCast, Int.reduceToNat, Nat.reduceEqDiff, Int.reduceEq, Int.reduceLT, Int.reduceLE, Int.reduceAdd, Int.reduceSub, Int.reduceMul, Int.reduceNeg, hs.kd, hs.ln, hs.fs, kMs, lMs, e_X12_askOf, e1]
  -- the word that is looked at
  have l112 : (gA s 112).length = 13 := hs.ln 112
  have L1 : LkM (sA s 112 ((gA s 112).set k p)) st th := by
    obtain ⟨h1, h2, h3, h4, h5, h6, h7⟩ := L
    exact ⟨h1.sA (by rw [List.length_set]), h2, h3, h4, h5, h6, h7⟩
  have f1 : pf (sA s 112 ((gA s 112).set k p)) k = p := by unfold pf; rw [gA_eq, set_eq (by omega)]
  have f2 : k ≠ 0 → pf (sA s 112 ((gA s 112).set k p)) (k - 1) = b := fun h0 => by
    unfold pf
    rw [gA_eq, set_ne (by omega)]
    rw [if_neg h0] at hb
    exact hb.1.symm
  have f3 : pl3 (pf (sA s 112 ((gA s 112).set k p)) k) ∧ pl3 (pf (sA s 112 ((gA s 112).set k p)) (k - 1)) := by
    refine ⟨by rw [f1]; unfold pl3; omega, ?_⟩
    by_cases h0 : k = 0
    · subst h0; rw [f1]; unfold pl3; omega
    · rw [f2 h0]; rw [if_neg h0] at hb; unfold pl3; omega
  generalize hs1 : sA s 112 ((gA s 112).set k p) = s1 at *
  have g100 : gA s1 100 = gA s0 100 := by rw [← hs1, gA_ne (by decide), hF 100 (by decide)]
  have F1 : Fa [110, 112, 115, 116, 117] s0 s1 := by rw [← hs1]; exact hF.tr (Fa.sA _ (by decide))
  have R1 : Rt (clsK (gA s0 100)) ((gA s0 100).getD 167 0) th c s1 := by rw [← hs1]; exact hR.fa (Fa.sA (P := [112]) _ (by decide)) (by decide)
  have eb : (if k = 0 then (-1 : Int) else pf s1 (k - 1)) = b := by
    by_cases h0 : k = 0
    · rw [if_pos h0]; rw [if_pos h0] at hb; omega
    · rw [if_neg h0, f2 h0]
  have d1 : c / 144 = st ∧ c / 12 % 12 = k ∧ ((c / 3 % 4 : Nat) : Int) - 1 = b ∧ ((c % 3 : Nat) : Int) = p ∧ (c / 3 % 4 = 0 ↔ b = -1) := by
    have hb2 : -1 ≤ b ∧ b < 3 := by split at hb <;> omega
    omega
  have d2 : (((st : Int) + k) % 2) = (((c / 144 + c / 12 % 12) % 2 : Nat) : Int) := by omega
  have t1 : tkW (clsK (gA s1 100)) ((gA s1 100).getD 167 0) th st (pf s1) k = tkE (clsK (gA s0 100)) ((gA s0 100).getD 167 0) th c := by
    unfold tkW tkE; rw [eb, f1, d2, d1.2.1, d1.2.2.1, d1.2.2.2.1, g100]
  have t2 : gpW (clsK (gA s1 100)) ((gA s1 100).getD 167 0) th st (pf s1) k = gpE (clsK (gA s0 100)) ((gA s0 100).getD 167 0) th c := by
    unfold gpW gpE; rw [eb, f1, d2, d1.2.1, d1.2.2.1, d1.2.2.2.1, g100]
  have t3 : brW (clsK (gA s1 100)) ((gA s1 100).getD 167 0) th st (pf s1) k = brE (clsK (gA s0 100)) ((gA s0 100).getD 167 0) th c := by
    unfold brW brE; rw [eb, f1, d2, d1.2.1, d1.2.2.1, d1.2.2.2.1, g100]
  clear hs1
  have hs1 := L1.1
  refine biI (m_takesBy L1 (by omega) f3) fun x s2 h2 ⟨q1, q2⟩ => ?_
  obtain ⟨L2, -⟩ := L1.kept h2 rfl rfl q2 (by decide)
  have hs2 := L2.1
  have p2 := pf_fa q2 (by decide)
  simp (disch := ((try simp only [kd_sF, kd_sA, gA_sF, gA_sA, gF_sF, gF_sA, List.length_set, reduceIte, and_true, and_false, true_and, false_and, Nat.reduceEqDiff, Int.reduceEq, hs2.kd, hs2.ln, hs2.fs, kMs, lMs]); first | done | omega)) only [rF_ok, wF_ok, oK_ok, lA_ok, rA_ok, wA_ok, cI_ok, cV_ok, cL_ok, cR_ok, kd_sF, kd_sA, gA_sF, gF_sA, gF_sF, gA_sA, bk_0, bk_1, List.length_set, reduceIte, and_true, and_false, true_and, false_and, ne_eq, not_true_eq_false, not_false_eq_true, Int.toNat_natCast, Int.reduceToNat, Nat.reduceEqDiff, Int.reduceEq, Int.reduceLT, Int.reduceLE, Int.reduceAdd, Int.reduceSub, Int.reduceMul, Int.reduceNeg, hs2.kd, hs2.ln, hs2.fs, kMs, lMs]
  have L2' : LkM (sA s2 115 ((gA s2 115).set c x)) st th := by
    obtain ⟨h1, h2, h3, h4, h5, h6, h7⟩ := L2
    exact ⟨h1.sA (by rw [List.length_set]), h2, h3, h4, h5, h6, h7⟩
  have p2' : pf (sA s2 115 ((gA s2 115).set c x)) = pf s1 := p2
  refine biI (m_gripsBy L2' (by omega) (by rw [p2']; exact f3)) fun y s3 h3 ⟨q3, q4⟩ => ?_
  obtain ⟨L3, -⟩ := L2'.kept h3 rfl rfl q4 (by decide)
  have hs3 := L3.1
  have p3 := pf_fa q4 (by decide)
  rw [p2'] at p3
  simp (disch := ((try simp only [kd_sF, kd_sA, gA_sF, gA_sA, gF_sF, gF_sA, List.length_set, reduceIte, and_true, and_false, true_and, false_and, Nat.reduceEqDiff, Int.reduceEq, hs3.kd, hs3.ln, hs3.fs, kMs, lMs]); first | done | omega)) only [rF_ok, wF_ok, oK_ok, lA_ok, rA_ok, wA_ok, cI_ok, cV_ok, cL_ok, cR_ok, kd_sF, kd_sA, gA_sF, gF_sA, gF_sF, gA_sA, bk_0, bk_1, List.length_set, reduceIte, and_true, and_false, true_and, false_and, ne_eq, not_true_eq_false, not_false_eq_true, Int.toNat_natCast, Int.reduceToNat, Nat.reduceEqDiff, Int.reduceEq, Int.reduceLT, Int.reduceLE, Int.reduceAdd, Int.reduceSub, Int.reduceMul, Int.reduceNeg, hs3.kd, hs3.ln, hs3.fs, kMs, lMs]
  have L3' : LkM (sA s3 116 ((gA s3 116).set c y)) st th := by
    obtain ⟨h1, h2, h3, h4, h5, h6, h7⟩ := L3
    exact ⟨h1.sA (by rw [List.length_set]), h2, h3, h4, h5, h6, h7⟩
  have p3' : pf (sA s3 116 ((gA s3 116).set c y)) = pf s1 := p3
  refine biI (m_isBarred L3' (by omega) (by rw [p3']; exact f3)) fun z s4 h4 ⟨q5, q6⟩ => ?_
  obtain ⟨L4, -⟩ := L3'.kept h4 rfl rfl q6 (by decide)
  have hs4 := L4.1
  have g2 : gA s2 100 = gA s1 100 := q2 100 (by decide)
  have g3 : gA s3 100 = gA s1 100 := (q4 100 (by decide)).trans g2
  have e2 : x = tkE (clsK (gA s0 100)) ((gA s0 100).getD 167 0) th c := q1.trans t1
  have e3 : y = gpE (clsK (gA s0 100)) ((gA s0 100).getD 167 0) th c := by
    rw [q3, p2']
    show gpW (clsK (gA s2 100)) ((gA s2 100).getD 167 0) th st (pf s1) k = _
    rw [g2, t2]
  have e4 : z = brE (clsK (gA s0 100)) ((gA s0 100).getD 167 0) th c := by
    rw [q5, p3']
    show brW (clsK (gA s3 100)) ((gA s3 100).getD 167 0) th st (pf s1) k = _
    rw [g3, t3]
  have hz : z = 0 ∨ z = 1 := by
    have := brA_bd (cls := clsK (gA s0 100)) (mood := (gA s0 100).getD 167 0) (th := th) (side := (((c / 144 + c / 12 % 12) % 2 : Nat) : Int)) (k := ((c / 12 % 12 : Nat) : Int)) (bef := (((c / 3 % 4 : Nat) : Int) - 1)) (pl := ((c % 3 : Nat) : Int))
    have e5 : z = brA (clsK (gA s0 100)) ((gA s0 100).getD 167 0) th (((c / 144 + c / 12 % 12) % 2 : Nat) : Int) ((c / 12 % 12 : Nat) : Int) (((c / 3 % 4 : Nat) : Int) - 1) ((c % 3 : Nat) : Int) := e4
    omega
  simp (disch := ((try simp only [kd_sF, kd_sA, gA_sF, gA_sA, gF_sF, gF_sA, List.length_set, reduceIte, and_true, and_false, true_and, false_and, Nat.reduceEqDiff, Int.reduceEq, hs4.kd, hs4.ln, hs4.fs, kMs, lMs]); first | done | omega)) only [rF_ok, wF_ok, oK_ok, lA_ok, rA_ok, wA_ok, cI_ok, cV_ok, cL_ok, cR_ok, kd_sF, kd_sA, gA_sF, gF_sA, gF_sF, gA_sA, bk_0, bk_1, List.length_set, reduceIte, and_true, and_false, true_and, false_and, ne_eq, not_true_eq_false, not_false_eq_true, Int.toNat_natCast, Int.reduceToNat, Nat.reduceEqDiff, Int.reduceEq, Int.reduceLT, Int.reduceLE, Int.reduceAdd, Int.reduceSub, Int.reduceMul, Int.reduceNeg, hs4.kd, hs4.ln, hs4.fs, kMs, lMs, bk_b hz, wi_sm]
  refine hT _ ⟨?_, ?_, ?_⟩
  · obtain ⟨h1, h2, h3, h4, h5, h6, h7⟩ := L4
    exact ⟨h1.sA (by rw [List.length_set]), h2, h3, h4, h5, h6, h7⟩
  · refine (((F1.tr (q2.mono (by decide))).tr (Fa.sA _ (by decide))).tr ((q4.mono (by decide)).tr (Fa.sA _ (by decide)))).tr ((q6.mono (by decide)).tr (Fa.sA _ (by decide)))
  · intro e he hv
    have l115 : (gA s2 115).length = 288 := hs2.ln 115
    have l116 : (gA s3 116).length = 288 := hs3.ln 116
    have l117 : (gA s4 117).length = 288 := hs4.ln 117
    have a1 : gA (sA s4 117 ((gA s4 117).set c z)) 115 = (gA s1 115).set c x := by
      rw [gA_ne (by decide), q6 115 (by decide), gA_ne (by decide), q4 115 (by decide), gA_eq, q2 115 (by decide)]
    have a2 : gA (sA s4 117 ((gA s4 117).set c z)) 116 = (gA s1 116).set c y := by
      rw [gA_ne (by decide), q6 116 (by decide), gA_eq, q4 116 (by decide), gA_ne (by decide), q2 116 (by decide)]
    have a3 : gA (sA s4 117 ((gA s4 117).set c z)) 117 = (gA s1 117).set c z := by
      rw [gA_eq, q6 117 (by decide), gA_ne (by decide), q4 117 (by decide), gA_ne (by decide), q2 117 (by decide)]
    have m1 : (gA s1 115).length = 288 := hs1.ln 115
    have m2 : (gA s1 116).length = 288 := hs1.ln 116
    have m3 : (gA s1 117).length = 288 := hs1.ln 117
    rw [a1, a2, a3, setD_getD (by omega), setD_getD (by omega), setD_getD (by omega)]
    by_cases ec : c = e
    · rw [if_pos ec, if_pos ec, if_pos ec, ← ec]
      exact ⟨e2, e3, e4⟩
    · rw [if_neg ec, if_neg ec, if_neg ec]
      exact R1 e (by omega) hv
theorem m_aa58 {T : Res → Prop} {d st k : Nat} {b : Int} {s : St} {c : Nat} (I : AI s0 st th c s) (hst : st < 2) (hk : k < 12) (hb : if k = 0 then b = -1 else (0 ≤ b ∧ b < 3)) (hc : (c : Int) = 144 * st + 12 * k + 3 * (b + 1))
    (hT : ∀ s', AI s0 st th (c + 3) s' → Gl T (X12_asksAll_42 (d + 47) s' 98 st k (b + 1))) : Gl T (X12_asksAll_58 (d + 47) s 98 st k b 0) := by
  refine lpG (fun p s => X12_asksAll_58 (d + 47) s 98 st k b p) (fun p s => AI s0 st th (c + p) s) 3 ?_ ?_ 0 s (by omega) I
  · intro T p s1 hp I1 hT1
    have hs1 := I1.1.1
    rw [e_X12_asksAll_58]
    rw [if_pos (show (p : Int) < 3 by omega)]
    by_cases h0 : k = 0
    · rw [if_neg (show ¬ (0 < (k : Int)) by omega)]
      refine m_aa77 I1 hst hk (by rw [if_pos h0]; rw [if_pos h0] at hb; exact hb) (by omega) (by omega) (fun s' I' => hT1 s' ?_)
      exact I'
    · rw [if_neg h0] at hb
      rw [if_pos (show (0 < (k : Int)) by omega)]
      have e1 : ((k : Int) - 1).toNat = k - 1 := by omega
      simp (disch := ((try simp only [kd_sF, kd_sA, gA_sF, gA_sA, gF_sF, gF_sA, List.length_set, reduceIte, and_true, and_false, true_and, false_and, Nat.reduceEqDiff, Int.reduceEq, hs1.kd, hs1.ln, hs1.fs, kMs, lMs]); first | done | omega)) only [rF_ok, wF_ok, oK_ok, lA_ok, rA_ok, wA_ok, cI_ok, cV_ok, cL_ok, cR_ok, kd_sF, kd_sA, gA_sF, gF_sA, gF_sF, gA_sA, bk_0, bk_1, List.length_set, reduceIte, and_true, and_false, true_and, false_and, ne_eq, not_true_eq_false, not_false_eq_true, Int.toNat_natCast, Int.reduceToNat, Nat.reduceEqDiff, Int.reduceEq, Int.reduceLT, Int.reduceLE, Int.reduceAdd, Int.reduceSub, Int.reduceMul, Int.reduceNeg, hs1.kd, hs1.ln, hs1.fs, kMs, lMs, wi_sm, e1]
      have l112 : (gA s1 112).length = 13 := hs1.ln 112
      have I2 : AI s0 st th (c + p) (sA s1 112 ((gA s1 112).set (k - 1) b)) := by
        obtain ⟨⟨h1, h2, h3, h4, h5, h6, h7⟩, hF, hR⟩ := I1
        exact ⟨⟨h1.sA (by rw [List.length_set]), h2, h3, h4, h5, h6, h7⟩, hF.tr (Fa.sA _ (by decide)), hR.fa (Fa.sA (P := [112]) _ (by decide)) (by decide)⟩
      refine m_aa77 I2 hst hk (by rw [if_neg h0]; exact ⟨by unfold pf; rw [gA_eq, set_eq (by omega)], hb⟩) (by omega) (by omega) (fun s' I' => hT1 s' ?_)
      exact I'
  · intro s1 I1
    rw [e_X12_asksAll_58, if_neg (by decide), wi_sm (by split at hb <;> omega) (by split at hb <;> omega)]
    exact hT s1 I1
theorem m_aa42 {T : Res → Prop} {d st k : Nat} {s : St} {c : Nat} (I : AI s0 st th c s) (hst : st < 2) (hk : k < 12) (hc : c = 144 * st + 12 * k)
    (hT : ∀ s', AI s0 st th (c + 12) s' → Gl T (X12_asksAll_26 (d + 47) s' 98 st (k + 1 : Nat))) : Gl T (if (k : Int) = 0 then X12_asksAll_42 (d + 47) s 98 st k (-1) else X12_asksAll_42 (d + 47) s 98 st k 0) := by
  by_cases h0 : k = 0
  · rw [if_pos (by omega)]
    rw [e_X12_asksAll_42, if_pos (by omega), if_pos (by decide)]
    refine m_aa58 I hst hk (by rw [if_pos h0]) (by omega) (fun s' I' => ?_)
    rw [e_X12_asksAll_42, if_pos (by omega), if_neg (by decide), wi_sc (by omega)]
    refine hT s' ⟨I'.1, I'.2.1, fun e he hv => I'.2.2 e ?_ hv⟩
    subst h0
    by_cases q : e < c + 3
    · exact q
    · exfalso; omega
  · rw [if_neg (by omega)]
    have I3 : AI s0 st th (c + 3 * (0 + 1)) s := ⟨I.1, I.2.1, fun e he hv => I.2.2 e (by
      by_cases q : e < c
      · exact q
      · exfalso; omega) hv⟩
    refine lpG (fun b s => X12_asksAll_42 (d + 47) s 98 st k b) (fun b s => AI s0 st th (c + 3 * (b + 1)) s) 3 ?_ ?_ 0 s (by omega) I3
    · intro T b s1 hb I1 hT1
      rw [e_X12_asksAll_42, if_neg (by omega), if_pos (by omega)]
      refine m_aa58 I1 hst hk (by rw [if_neg h0]; omega) (by omega) (fun s' I' => hT1 s' ?_)
      exact I'
    · intro s1 I1
      rw [e_X12_asksAll_42, if_neg (by omega), if_neg (by decide), wi_sc (by omega)]
      exact hT s1 I1
theorem m_asksAll {d : Nat} (hs : ShM s0) (hK : LawK (gA s0 100)) (hm : 0 ≤ (gA s0 100).getD 167 0 ∧ (gA s0 100).getD 167 0 ≤ 9) (hth : (gA s0 100).getD 169 0 = th) (hth2 : 0 ≤ th ∧ th ≤ 9) : Gl (GV fun s' => Fa [110, 112, 115, 116, 117] s0 s' ∧ Rt (clsK (gA s0 100)) ((gA s0 100).getD 167 0) th 288 s') (X12_asksAll (d + 47) s0 98) := by
  rw [e_X12_asksAll]
  simp (disch := ((try simp only [kd_sF, kd_sA, gA_sF, gA_sA, gF_sF, gF_sA, List.length_set, reduceIte, and_true, and_false, true_and, false_and, Nat.reduceEqDiff, Int.reduceEq, hs.kd, hs.ln, hs.fs, kMs, lMs]); first | done | omega)) only [rF_ok, wF_ok, oK_ok, lA_ok, rA_ok, wA_ok, cI_ok, cV_ok, cL_ok, cR_ok, kd_sF, kd_sA, gA_sF, gF_sA, gF_sF, gA_sA, bk_0, bk_1, List.length_set, reduceIte, and_true, and_false, true_and, false_and, ne_eq, not_true_eq_false, not_false_eq_true, Int.toNat_natCast, Int.reduceToNat, Nat.reduceEqDiff, Int.reduceEq, Int.reduceLT, Int.reduceLE, Int.reduceAdd, Int.reduceSub, Int.reduceMul, Int.reduceNeg, hs.kd, hs.ln, hs.fs, kMs, lMs, hth]
  refine lpG (fun st s => X12_asksAll_14 (d + 47) s 98 st) (fun st s => ShM s ∧ gF s 98 28 = th ∧ Fa [110, 112, 115, 116, 117] s0 s ∧ Rt (clsK (gA s0 100)) ((gA s0 100).getD 167 0) th (144 * st) s) 2 ?_ ?_ 0 _ (by omega) ⟨hs.sF (by decide), gF_eq .., fun _ _ => rfl, fun e he => by omega⟩
  · intro T st s1 hst ⟨i1, i2, i3, i4⟩ hT
    have e100 : gA s1 100 = gA s0 100 := i3 100 (by decide)
    rw [e_X12_asksAll_14, if_pos (by omega)]
    simp (disch := ((try simp only [kd_sF, kd_sA, gA_sF, gA_sA, gF_sF, gF_sA, List.length_set, reduceIte, and_true, and_false, true_and, false_and, Nat.reduceEqDiff, Int.reduceEq, i1.kd, i1.ln, i1.fs, kMs, lMs]); first | done | omega)) only [rF_ok, wF_ok, oK_ok, lA_ok, rA_ok, wA_ok, cI_ok, cV_ok, cL_ok, cR_ok, kd_sF, kd_sA, gA_sF, gF_sA, gF_sF, gA_sA, bk_0, bk_1, List.length_set, reduceIte, and_true, and_false, true_and, false_and, ne_eq, not_true_eq_false, not_false_eq_true, Int.toNat_natCast, Int.reduceToNat, Nat.reduceEqDiff, Int.reduceEq, Int.reduceLT, Int.reduceLE, Int.reduceAdd, Int.reduceSub, Int.reduceMul, Int.reduceNeg, i1.kd, i1.ln, i1.fs, kMs, lMs]
    refine lpG (fun k s => X12_asksAll_26 (d + 47) s 98 st k) (fun k s => AI s0 st th (144 * st + 12 * k) s) 12 ?_ ?_ 0 _ (by omega) ⟨⟨i1.sF (by decide), by rw [gA_sF, e100]; exact hK, by omega, hth2, gF_eq .., i2, by rw [gA_sF, e100]; exact hm⟩, i3, i4⟩
    · intro T k s2 hk I hT2
      rw [e_X12_asksAll_26, if_pos (by omega)]
      refine m_aa42 I hst hk rfl (fun s' I' => hT2 s' ?_)
      exact I'
    · intro s2 I
      rw [e_X12_asksAll_26, if_neg (by decide), wi_sc (by omega)]
      exact hT s2 ⟨I.1.1, I.1.2.2.2.2.2.1, I.2.1, I.2.2⟩
  · intro s1 ⟨i1, i2, i3, i4⟩
    rw [e_X12_asksAll_14, if_neg (by decide)]
    exact reV ⟨i3, i4⟩
end MWORD
