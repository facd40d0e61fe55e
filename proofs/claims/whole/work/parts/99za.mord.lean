/-! ===== the reference: what the words of orders tell ===== -/
/-- the words of orders, as they were looked up -/
def LkV (a : Ab) (dn lt : Int) (s : St) : Prop := (gA s 110).getD 0 0 = (a.1.1.length : Int) ∧ (gA s 110).getD 1 0 = dn ∧ (gA s 110).getD 2 0 = lt ∧ ∀ k, k < 24 → (gA s 111).getD k 0 = envO a dn lt (3 + k)
section MOA
variable {s s' : St} {a : Ab} {d : Nat} {dn lt : Int} {k : Kn}
theorem env_0 {i : Nat} (h : i < 8) : envO a dn lt (3 + i) = if i < a.1.1.length then (kLen (a.1.1.getD i k0) : Int) else -1 := by
  unfold envO
  rw [if_neg (by omega), if_neg (by omega), if_neg (by omega), if_pos (by omega), show (3 + i - 3) % 8 = i by omega, if_pos (show (3 + i - 3) / 8 = 0 by omega)]
theorem env_8 {i : Nat} (h : i < 8) : envO a dn lt (3 + (8 + i)) = if i < a.1.1.length then lastP (a.1.1.getD i k0) else -1 := by
  unfold envO
  rw [if_neg (by omega), if_neg (by omega), if_neg (by omega), if_pos (by omega), show (3 + (8 + i) - 3) % 8 = i by omega, if_neg (show ¬ ((3 + (8 + i) - 3) / 8 = 0) by omega), if_pos (show (3 + (8 + i) - 3) / 8 = 1 by omega)]
theorem env_16 {i : Nat} (h : i < 8) : envO a dn lt (3 + (16 + i)) = if i < a.1.1.length then (a.1.1.getD i k0).2.2.1 - tkK a.1 (a.1.1.getD i k0) else -1 := by
  unfold envO
  rw [if_neg (by omega), if_neg (by omega), if_neg (by omega), if_pos (by omega), show (3 + (16 + i) - 3) % 8 = i by omega, if_neg (show ¬ ((3 + (16 + i) - 3) / 8 = 0) by omega), if_neg (show ¬ ((3 + (16 + i) - 3) / 8 = 1) by omega)]
theorem RepM.w111 {p : Int} {l : List Int} (R : RepM a s) (hp : p = 111 ∨ p = 110) (hl : l.length = (gA s p).length) : RepM a (sA s p l) := R.fr (R.1.sA hl) (fun x hx => gA_ne (by
  rcases hp with rfl | rfl
  · revert x; decide
  · revert x; decide)) (fun _ _ => rfl)
theorem LkA.w111 {l : List Int} (L : LkA a k s) (hl : l.length = (gA s 111).length) : LkA a k (sA s 111 l) := by
  obtain ⟨l1, ⟨m1, m2, m3, m4, m5, m6, m7⟩, l3, l4⟩ := L
  have e : ∀ x : Int, x ≠ 111 → gA (sA s 111 l) x = gA s x := fun x h1 => gA_ne h1
  have hs' : ShM (sA s 111 l) := m1.sA hl
  refine ⟨l1.w111 (Or.inl rfl) hl, ⟨hs', by rw [e 100 (by decide)]; exact m2, m3, m4, m5, m6, by rw [e 100 (by decide)]; exact m7⟩, l3, fun j hj => ?_⟩
  unfold pf
  rw [e 112 (by decide)]
  exact l4 j hj
/-- the first q knots were looked at -/
def LkQ (a : Ab) (dn lt : Int) (s0 : St) (q : Nat) (s : St) : Prop := RepM a s ∧ Fa [110, 111, 112] s0 s ∧ gF s 98 50 = dn ∧ gF s 98 51 = lt ∧ ∀ i, i < q → (gA s 111).getD i 0 = envO a dn lt (3 + i) ∧ (gA s 111).getD (8 + i) 0 = envO a dn lt (3 + (8 + i)) ∧ (gA s 111).getD (16 + i) 0 = envO a dn lt (3 + (16 + i))
theorem LkQ.nx {s0 s1 : St} {q : Nat} {x y z : Int} (I : LkQ a dn lt s0 q s) (hq : q < 8) (R : RepM a s1) (F : Fa [110, 111, 112] s0 s1) (h50 : gF s1 98 50 = dn) (h51 : gF s1 98 51 = lt) (hl : gA s1 111 = (((gA s 111).set q x).set (8 + q) y).set (16 + q) z) (hx : x = envO a dn lt (3 + q)) (hy : y = envO a dn lt (3 + (8 + q))) (hz : z = envO a dn lt (3 + (16 + q))) : LkQ a dn lt s0 (q + 1) s1 := by
  have l111 : (gA s 111).length = 24 := I.1.1.ln 111
  refine ⟨R, F, h50, h51, fun i hi => ?_⟩
  rw [hl, setD_getD (by simp only [List.length_set]; omega), setD_getD (by simp only [List.length_set]; omega), setD_getD (by omega), setD_getD (by simp only [List.length_set]; omega), setD_getD (by simp only [List.length_set]; omega), setD_getD (by omega), setD_getD (by simp only [List.length_set]; omega), setD_getD (by simp only [List.length_set]; omega), setD_getD (by omega)]
  by_cases e : q = i
  · subst e
    rw [if_neg (by omega), if_neg (by omega), if_pos rfl, if_neg (by omega), if_pos rfl, if_pos rfl]
    exact ⟨hx, hy, hz⟩
  · rw [if_neg (by omega), if_neg (by omega), if_neg e, if_neg (by omega), if_neg (by omega), if_neg (by omega), if_neg (by omega), if_neg (by omega), if_neg (by omega)]
    exact I.2.2.2.2 i (by omega)
theorem mm_looks (R : RepM a s) (W : wfA a) (h50 : gF s 98 50 = dn) (h51 : gF s 98 51 = lt) : Gl (GV fun s' => RepM a s' ∧ Fa [110, 111, 112] s s' ∧ LkV a dn lt s') (X12_looks (d + 48) s 98) := by
  have h8 := W.1.1.1
  rw [e_X12_looks]
  refine lpG (fun q s => X12_looks_2 (d + 48) s 98 q) (fun q s1 => LkQ a dn lt s q s1) 8 ?_ ?_ 0 s (by omega) ⟨R, Fa.rf _ _, h50, h51, fun i hi => by omega⟩
  · intro T q s1 hq I hT
    obtain ⟨R1, F1, g50, g51, i5⟩ := id I
    have hs1 := R1.1
    have l111 : (gA s1 111).length = 24 := hs1.ln 111
    have u8 : ((8 : Int) + (q : Int)).toNat = 8 + q := by omega
    have u16 : ((16 : Int) + (q : Int)).toNat = 16 + q := by omega
    rw [e_X12_looks_2, if_pos (by omega), oK_ok hs1.k98, R1.isKn W, cI_ok]
    by_cases hk : isKn a.1 (q : Int)
    · have hk' := hk
      unfold isKn at hk'
      have wk := wfKn_q W.1 hk
      have w12 := wk.2.2.2.2.1
      have hlen : q < a.1.1.length := by omega
      rw [if_pos hk', if_neg (show ¬ ((1 : Int) = 0) by decide), oK_ok hs1.k98]
      refine biV (mm_takesKnot (d := d + 46) R1 W hk) fun s2 hev2 ⟨L2, F2⟩ => ?_
      have hs2 := L2.1.1
      have k50 : gF s2 98 50 = dn := (hs1.gf hev2 rfl rfl).trans g50
      have k51 : gF s2 98 51 = lt := (hs1.gf hev2 rfl rfl).trans g51
      have l112 : (gA s2 111).length = 24 := hs2.ln 111
      rw [rF_ok hs2.k98, if_neg (show ¬ ((1 : Int) = 0) by decide), rF_ok hs2.k98, L2.2.2.1, e_X12_looks_40, show gF s2 98 26 = 111 from hs2.fs.2.2.2.2.2.2.2.2.2.2.2.2.1, wA_ok (show kd s2 111 = 20 from hs2.kd 111) (by omega) (by omega), Int.toNat_natCast]
      have L3 := L2.w111 (l := (gA s2 111).set q (kLen (knQ a.1 (q : Int)) : Int)) (by rw [List.length_set])
      have g3 : gA (sA s2 111 ((gA s2 111).set q (kLen (knQ a.1 (q : Int)) : Int))) 111 = (gA s2 111).set q (kLen (knQ a.1 (q : Int)) : Int) := gA_eq _ _ _
      have F3 : Fa [111] s2 (sA s2 111 ((gA s2 111).set q (kLen (knQ a.1 (q : Int)) : Int))) := Fa.sA _ (by decide)
      have f3 : ∀ j, gF (sA s2 111 ((gA s2 111).set q (kLen (knQ a.1 (q : Int)) : Int))) 98 j = gF s2 98 j := fun _ => rfl
      generalize sA s2 111 ((gA s2 111).set q (kLen (knQ a.1 (q : Int)) : Int)) = s3 at L3 g3 F3 f3 ⊢
      have hs3 := L3.1.1
      have l113 : (gA s3 111).length = 24 := hs3.ln 111
      -- from the second value on
      have rest : ∀ y : Int, y = lastP (knQ a.1 (q : Int)) → Gl T (X12_looks_75 (d + 48) s3 98 q 1 111 (wi (8 + (q : Int))) y) := by
        intro y hy
        have L4 := L3.w111 (l := (gA s3 111).set (8 + q) y) (by rw [List.length_set])
        rw [e_X12_looks_75, wi_sm (x := 8 + (q : Int)) (by omega) (by omega), wA_ok (show kd s3 111 = 20 from hs3.kd 111) (by omega) (by omega), u8]
        have g4 : gA (sA s3 111 ((gA s3 111).set (8 + q) y)) 111 = (gA s3 111).set (8 + q) y := gA_eq _ _ _
        have F4 : Fa [111] s3 (sA s3 111 ((gA s3 111).set (8 + q) y)) := Fa.sA _ (by decide)
        have f4 : ∀ j, gF (sA s3 111 ((gA s3 111).set (8 + q) y)) 98 j = gF s3 98 j := fun _ => rfl
        generalize sA s3 111 ((gA s3 111).set (8 + q) y) = s4 at L4 g4 F4 f4 ⊢
        have hs4 := L4.1.1
        rw [rF_ok hs4.k98, show gF s4 98 26 = 111 from hs4.fs.2.2.2.2.2.2.2.2.2.2.2.2.1, if_neg (show ¬ ((1 : Int) = 0) by decide), oK_ok hs4.k98, m_fact hs4 (by omega) (by decide), cI_ok, L4.1.f2 hk', oK_ok hs4.k98]
        refine biI (mm_takesAll (d := d) L4 W wk) fun z s5 hev5 ⟨hz, L5, F5⟩ => ?_
        have hs5 := L5.1.1
        have l115 : (gA s5 111).length = 24 := hs5.ln 111
        have hb := tkK_bd (D := a.1) wk
        have hc := wk.2.2.1
        rw [wi_sm (x := 16 + (q : Int)) (by omega) (by omega), wA_ok (show kd s5 111 = 20 from hs5.kd 111) (by omega) (by omega), u16, wi_sc (by omega), hz, wi_sm (by omega) (by omega)]
        have e5 : gA s5 111 = gA s4 111 := F5 111 (by decide)
        refine hT _ (I.nx (x := (kLen (knQ a.1 (q : Int)) : Int)) (y := y) (z := (knQ a.1 (q : Int)).2.2.1 - tkK a.1 (knQ a.1 (q : Int))) hq (L5.1.w111 (Or.inl rfl) (by rw [List.length_set])) (F1.tr ((F2.mono (by decide)).tr ((F3.mono (by decide)).tr ((F4.mono (by decide)).tr ((F5.mono (by decide)).tr (Fa.sA _ (by decide))))))) ?_ ?_ ?_ ?_ ?_ ?_)
        · show gF s5 98 50 = dn
          rw [hs4.gf hev5 rfl rfl, f4, f3, k50]
        · show gF s5 98 51 = lt
          rw [hs4.gf hev5 rfl rfl, f4, f3, k51]
        · rw [gA_eq, e5, g4, g3, F2 111 (by decide)]
        · rw [env_0 hq, if_pos hlen]
          rfl
        · rw [hy, env_8 hq, if_pos hlen]
          rfl
        · rw [env_16 hq, if_pos hlen]
          rfl
      rw [rF_ok hs3.k98, show gF s3 98 26 = 111 from hs3.fs.2.2.2.2.2.2.2.2.2.2.2.2.1, if_neg (show ¬ ((1 : Int) = 0) by decide), rF_ok hs3.k98, L3.2.2.1]
      by_cases e0 : 0 < kLen (knQ a.1 (q : Int))
      · have l12 : (gA s3 112).length = 13 := hs3.ln 112
        rw [if_pos (by omega), rF_ok hs3.k98, rF_ok hs3.k98, L3.2.2.1, show gF s3 98 30 = 112 from hs3.fs.2.2.2.2.2.2.2.2.2.2.2.2.2.1, wi_sm (by omega) (by omega), rA_ok (show kd s3 112 = 20 from hs3.kd 112) (by omega) (by omega), show ((kLen (knQ a.1 (q : Int)) : Int) - 1).toNat = kLen (knQ a.1 (q : Int)) - 1 by omega]
        refine rest _ ?_
        unfold lastP
        rw [if_neg (by omega)]
        exact L3.2.2.2 _ (by omega)
      · rw [if_neg (by omega)]
        refine rest _ ?_
        unfold lastP
        rw [if_pos (by omega)]
    · have hk' : ¬ (0 ≤ (q : Int) ∧ (q : Int) < (a.1.1.length : Int)) := hk
      rw [if_neg hk', if_pos rfl, rF_ok hs1.k98, if_pos rfl, show gF s1 98 26 = 111 from hs1.fs.2.2.2.2.2.2.2.2.2.2.2.2.1, e_X12_looks_40]
      simp (disch := ((try simp only [kd_sF, kd_sA, gA_sF, gA_sA, gF_sF, gF_sA, List.length_set, reduceIte, and_true, and_false, true_and, false_and, Nat.reduceEqDiff, Int.reduceEq, hs1.kd, hs1.ln, hs1.fs, kMs, lMs]); first | done | omega)) only [rF_ok, wF_ok, oK_ok, lA_ok, rA_ok, wA_ok, cI_ok, cV_ok, cL_ok, cR_ok, kd_sF, kd_sA, gA_sF, gF_sA, gF_sF, gA_sA, bk_0, bk_1, List.length_set, reduceIte, and_true, and_false, true_and, false_and, ne_eq, not_true_eq_false, not_false_eq_true, Int.toNat_natCast, Int.reduceToNat, Nat.reduceEqDiff, Int.reduceEq, Int.reduceLT, Int.reduceLE, Int.reduceAdd, Int.reduceSub, Int.reduceMul, Int.reduceNeg, hs1.kd, hs1.ln, hs1.fs, kMs, lMs, e_X12_looks_75, wi_sm, wi_sc, u8, u16, sA_ov]
      refine hT _ (I.nx (x := -1) (y := -1) (z := -1) hq (R1.w111 (Or.inl rfl) (by simp only [List.length_set])) (F1.tr (Fa.sA _ (by decide))) g50 g51 (gA_eq _ _ _) ?_ ?_ ?_)
      · rw [env_0 hq, if_neg (by omega)]
      · rw [env_8 hq, if_neg (by omega)]
      · rw [env_16 hq, if_neg (by omega)]
  · intro s1 ⟨R1, F1, g50, g51, i5⟩
    have hs1 := R1.1
    have l110 : (gA s1 110).length = 6 := hs1.ln 110
    rw [e_X12_looks_2, if_neg (by decide)]
    simp (disch := ((try simp only [kd_sF, kd_sA, gA_sF, gA_sA, gF_sF, gF_sA, List.length_set, reduceIte, and_true, and_false, true_and, false_and, Nat.reduceEqDiff, Int.reduceEq, hs1.kd, hs1.ln, hs1.fs, kMs, lMs]); first | done | omega)) only [rF_ok, wF_ok, oK_ok, lA_ok, rA_ok, wA_ok, cI_ok, cV_ok, cL_ok, cR_ok, kd_sF, kd_sA, gA_sF, gF_sA, gF_sF, gA_sA, bk_0, bk_1, List.length_set, reduceIte, and_true, and_false, true_and, false_and, ne_eq, not_true_eq_false, not_false_eq_true, Int.toNat_natCast, Int.reduceToNat, Nat.reduceEqDiff, Int.reduceEq, Int.reduceLT, Int.reduceLE, Int.reduceAdd, Int.reduceSub, Int.reduceMul, Int.reduceNeg, hs1.kd, hs1.ln, hs1.fs, kMs, lMs, R1.cnt, g50, g51, sA_ov]
    refine reV ⟨R1.w111 (Or.inr rfl) (by simp only [List.length_set]), F1.tr (Fa.sA _ (by decide)), ?_, ?_, ?_, fun k hk => ?_⟩
    · rw [gA_eq, set_ne (by decide), set_ne (by decide), set_eq (by omega)]
    · rw [gA_eq, set_ne (by decide), set_eq (by simp only [List.length_set]; omega)]
    · rw [gA_eq, set_eq (by simp only [List.length_set]; omega)]
    · rw [gA_ne (by decide)]
      by_cases c1 : k < 8
      · exact (i5 k c1).1
      · by_cases c2 : k < 16
        · have := (i5 (k - 8) (by omega)).2.1
          rw [show 8 + (k - 8) = k by omega] at this
          exact this
        · have := (i5 (k - 16) (by omega)).2.2
          rw [show 16 + (k - 16) = k by omega] at this
          exact this
end MOA
