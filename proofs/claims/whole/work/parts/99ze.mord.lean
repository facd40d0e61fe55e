/-! ===== the reference: the call orders ===== -/
/-- what was ahead lies in rows of its own -/
def AhS (s0 : St) : Prop := (∀ j, j < 137 → (gA s0 103).getD j 0 = kA s0 j) ∧ ∀ j, j < 2208 → (gA s0 114).getD j 0 = (gA s0 113).getD j 0
def ORs (a0 : Ab) (r : Except Nat OS) (x : Int) (s' : St) : Prop := match r with
  | .ok τ => x = τ.2.1 ∧ RepM (goodA τ.1 τ.2.1).2 s'
  | .error n => x = -3 ∧ RepM (refu (setSp a0 n) (-3)).2 s'
section MOE
variable {s s' s0 : St} {a a0 : Ab} {d : Nat} {c v : Nat → Int} {nt : Nat} {i l : Nat} {σ τ : OS}
theorem mm_restore {n : Nat} {ua : Int} (R0 : RepM a0 s0) (W0 : wfA a0) (A : AhS s0) (hua : gF s0 98 33 = ua) (E : RnE s0 a0 s) : Gl (GI fun x s' => ORs a0 (.error n) x s') (X12_orders_140 (d + 51) s 98 ua n 0) := by
  obtain ⟨b, ⟨hb1, hb2⟩, R, F, F2⟩ := E
  have hs := R.1
  have a103 : gA s 103 = gA s0 103 := F 103 (by decide)
  have a114 : gA s 114 = gA s0 114 := F 114 (by decide)
  refine lpG (fun k s => X12_orders_140 (d + 51) s 98 ua n k) (fun k s1 => ShM s1 ∧ Fa [100] s s1 ∧ (∀ j, gF s1 98 j = gF s 98 j) ∧ ∀ j, kA s1 j = if j < k then kA s0 j else kA s j) 137 ?_ ?_ 0 s (by omega) ⟨hs, Fa.rf _ _, fun _ => rfl, fun j => by rw [if_neg (by omega)]⟩
  · intro T k s1 hk ⟨i1, i2, i3, i4⟩ hT
    have e103 : (gA s1 103).getD k 0 = kA s0 k := by rw [i2 103 (by decide), a103]; exact A.1 k hk
    rw [e_X12_orders_140, if_pos (by omega)]
    simp (disch := ((try simp only [kd_sF, kd_sA, gA_sF, gA_sA, gF_sF, gF_sA, List.length_set, reduceIte, and_true, and_false, true_and, false_and, Nat.reduceEqDiff, Int.reduceEq, i1.kd, i1.ln, i1.fs, kMs, lMs]); first | done | omega)) only [rF_ok, wF_ok, oK_ok, lA_ok, rA_ok, wA_ok, cI_ok, cV_ok, cL_ok, cR_ok, kd_sF, kd_sA, gA_sF, gF_sA, gF_sF, gA_sA, bk_0, bk_1, List.length_set, reduceIte, and_true, and_false, true_and, false_and, ne_eq, not_true_eq_false, not_false_eq_true, Int.toNat_natCast, Int.reduceToNat, Nat.reduceEqDiff, Int.reduceEq, Int.reduceLT, Int.reduceLE, Int.reduceAdd, Int.reduceSub, Int.reduceMul, Int.reduceNeg, i1.kd, i1.ln, i1.fs, kMs, lMs, wi_sc, e103]
    obtain ⟨p1, p2, p3⟩ := set_pf (i := k) (v := kA s0 k) i1 (by omega)
    refine hT _ ⟨p2, i2.tr p1, i3, fun j => ?_⟩
    rw [p3, i4]
    by_cases ej : k = j
    · rw [if_pos ej, if_pos (by omega), ej]
    · rw [if_neg ej]
      by_cases e2 : j < k
      · rw [if_pos e2, if_pos (by omega)]
      · rw [if_neg e2, if_neg (by omega)]
  · intro s1 ⟨i1, i2, i3, i4⟩
    rw [e_X12_orders_140, if_neg (by decide)]
    have b114 : gA s1 114 = gA s0 114 := (i2 114 (by decide)).trans a114
    refine lpG (fun k s => X12_orders_171 (d + 51) s 98 ua n k) (fun k s2 => ShM s2 ∧ Fa [113] s1 s2 ∧ (∀ j, gF s2 98 j = gF s1 98 j) ∧ ∀ j, j < k → (gA s2 113).getD j 0 = (gA s0 113).getD j 0) 2208 ?_ ?_ 0 s1 (by omega) ⟨i1, Fa.rf _ _, fun _ => rfl, fun j hj => by omega⟩
    · intro T k s2 hk ⟨j1, j2, j3, j4⟩ hT
      have e114 : (gA s2 114).getD k 0 = (gA s0 113).getD k 0 := by rw [j2 114 (by decide), b114]; exact A.2 k hk
      have l113 : (gA s2 113).length = 2208 := j1.ln 113
      rw [e_X12_orders_171, if_pos (by omega)]
      simp (disch := ((try simp only [kd_sF, kd_sA, gA_sF, gA_sA, gF_sF, gF_sA, List.length_set, reduceIte, and_true, and_false, true_and, false_and, Nat.reduceEqDiff, Int.reduceEq, j1.kd, j1.ln, j1.fs, kMs, lMs]); first | done | omega)) only [rF_ok, wF_ok, oK_ok, lA_ok, rA_ok, wA_ok, cI_ok, cV_ok, cL_ok, cR_ok, kd_sF, kd_sA, gA_sF, gF_sA, gF_sF, gA_sA, bk_0, bk_1, List.length_set, reduceIte, and_true, and_false, true_and, false_and, ne_eq, not_true_eq_false, not_false_eq_true, Int.toNat_natCast, Int.reduceToNat, Nat.reduceEqDiff, Int.reduceEq, Int.reduceLT, Int.reduceLE, Int.reduceAdd, Int.reduceSub, Int.reduceMul, Int.reduceNeg, j1.kd, j1.ln, j1.fs, kMs, lMs, wi_sc, e114]
      refine hT _ ⟨j1.sA (by rw [List.length_set]), j2.tr (Fa.sA _ (by decide)), j3, fun j hj => ?_⟩
      rw [gA_eq, setD_getD (by omega)]
      by_cases ej : k = j
      · rw [if_pos ej, ej]
      · rw [if_neg ej]
        exact j4 j (by omega)
    · intro s2 ⟨j1, j2, j3, j4⟩
      have h1 : ShM (sF s2 98 33 ua) := j1.sF (by decide)
      have h2 : ShM (sF (sF s2 98 33 ua) 98 49 n) := h1.sF (by decide)
      rw [e_X12_orders_171, if_neg (by decide), wF_ok j1.k98, wF_ok h1.k98]
      have ea : ∀ p : Int, p ≠ 100 → p ≠ 113 → gA (sF (sF s2 98 33 ua) 98 49 n) p = gA s p := fun p q1 q2 => (j2 p (by simpa using q2)).trans (i2 p (by simpa using q1))
      have ef : ∀ j : Nat, j ≠ 33 → j ≠ 49 → gF (sF (sF s2 98 33 ua) 98 49 n) 98 j = gF s 98 j := fun j q1 q2 => (gF_nk q2).trans ((gF_nk q1).trans ((j3 j).trans (i3 j)))
      have e100 : kA (sF (sF s2 98 33 ua) 98 49 n) = kA s0 := by
        funext j
        show (gA s2 100).getD j 0 = _
        rw [j2 100 (by decide), show (gA s1 100).getD j 0 = kA s1 j from rfl, i4]
        by_cases e : j < 137
        · rw [if_pos e]
        · rw [if_neg e]
          exact F2 j (by omega)
      have e113 : ∀ i j, i < 16 → j < 138 → lfA (sF (sF s2 98 33 ua) 98 49 n) i j = lfA s0 i j := fun i j q1 q2 => j4 _ (by omega)
      obtain ⟨r1, r2, r3, r4, r5, r6, r7, r8, r9⟩ := id R
      have w16 := W0.2.2.1.1
      have R2 := R.up (D := a0.1) (H := a0.2.2.1) (t := b.2.2.2.1) (f := (b.2.2.2.2.1.1, b.2.2.2.2.1.2.1, b.2.2.2.2.1.2.2.1, (n : Int))) (r := b.2.2.2.2.2.1) h2 (fun p hp => ea p (by revert p; decide) (by revert p; decide)) (fun k hk => ef k (by revert k; decide) (by revert k; decide)) (by rw [e100]; exact R0.2.1) (by
        refine ⟨?_, fun i hi => ?_⟩
        · rw [gF_nk (by decide), gF_eq, ← hua]
          exact R0.2.2.2.1.1
        · obtain ⟨q1, q2⟩ := R0.2.2.2.1.2 i hi
          exact ⟨q1.cg (wK_ok (W0.2.2.1.2 _ (gdMem hi)).1) fun j hj => e113 i j (by omega) (by omega), (e113 i 137 (by omega) (by omega)).trans q2⟩) (r5.fr (ef 13 (by decide) (by decide)) (ea 105 (by decide) (by decide))) ⟨(ef 0 (by decide) (by decide)).trans r6.1, (ef 6 (by decide) (by decide)).trans r6.2.1, (ef 14 (by decide) (by decide)).trans r6.2.2.1, gF_eq _ _ _ _⟩ (r7.fr (ea 99 (by decide) (by decide)))
      rw [hb1, hb2] at R2
      exact mm_ref (d := d + 50) (v := -3) (by decide) (show RepM (setSp a0 n) _ from R2) (fun _ _ => rfl)
theorem rep_dn {q : Cl} : ∀ {m : Nat} {σ : OS}, JO a0 σ → repO q m σ = some τ → τ.2.1 ≤ σ.2.1 + m
  | 0, σ, _, h => by
    cases h
    omega
  | m + 1, σ, J, h => by
    rw [repO] at h
    cases ho : onceO q σ with
    | none => rw [ho] at h; cases h
    | some ρ =>
      rw [ho] at h
      have j := J.once ho
      have := rep_dn j.1 h
      omega
/-- an order, and what follows it -/
theorem m_clO {r : Nat × Nat × Cl} {n : Nat} {ua : Int} {rest : List Cl} (R0 : RepM a0 s0) (W0 : wfA a0) (A : AhS s0) (hua : gF s0 98 33 = ua) (TX : TxO c v nt s0) (hc0 : ∀ i, nt ≤ i → c i = 0) (hv0 : ∀ i, 0 ≤ v i) (hp : pClO c v i l = .ok r) (hn : n < 12) (hr : ∀ τ s', r.1 ≤ nt → RnI s0 a0 (r.1 + 1) τ s' → τ.2.1 ≤ 20 * ((n : Int) + 1) → Gl (GI fun x s' => ORs a0 (runO rest (n + 1) τ) x s') (X12_orders_118 (d + 51) s' 98 ua (2400 + (nt : Int)) ((n + 1 : Nat) : Int))) (I : RnI s0 a0 i σ s) (hb : σ.2.1 ≤ 20 * (n : Int)) : Gl (GI fun x s' => ORs a0 (runO (r.2.2 :: rest) n σ) x s') (X12_orders_118 (d + 51) s 98 ua (2400 + (nt : Int)) n) := by
  obtain ⟨-, -, -, hh, htm⟩ := or_cl hv0 hp
  have hi : i < nt := Classical.byContradiction fun h => by
    have c0 := hc0 i (by omega)
    unfold pClO at hp
    rw [c0] at hp
    simp at hp
  have hs := I.1.1
  rw [e_X12_orders_118, rF_ok hs.k98, I.2.2.2.2.1, if_pos (by omega), oK_ok hs.k98]
  refine biI (mm_runs (d := d) TX hc0 hv0 hi hp hh htm I (by omega)) fun x s1 _ ⟨hr1, q⟩ => ?_
  rw [runO]
  cases ho : repO r.2.2 r.2.2.2.1.toNat σ with
  | none =>
    rw [ho] at q
    obtain ⟨hx, E⟩ := q
    rw [hx, if_pos rfl]
    exact mm_restore R0 W0 A hua E
  | some τ =>
    rw [ho] at q
    obtain ⟨hx, I1⟩ := q
    rw [hx, if_neg (show ¬ ((1 : Int) = 0) by decide), wi_sc (by omega)]
    refine hr τ s1 hr1.2 I1 ?_
    have := rep_dn I.2.1 ho
    omega
theorem m_txO {ua : Int} (R0 : RepM a0 s0) (W0 : wfA a0) (A : AhS s0) (hua : gF s0 98 33 = ua) (TX : TxO c v nt s0) (hc0 : ∀ i, nt ≤ i → c i = 0) (hv0 : ∀ i, 0 ≤ v i) : ∀ (r i l : Nat) (acc cls : List Cl), pTx (pClO c v) c nt r i l acc = .ok cls → ∃ rest, cls = acc ++ rest ∧ ∀ (n : Nat) (σ : OS) (s : St), i ≤ nt → n + r ≤ 12 → RnI s0 a0 (i + 1) σ s → σ.2.1 ≤ 20 * (n : Int) → Gl (GI fun x s' => ORs a0 (runO rest n σ) x s') (X12_orders_118 (d + 51) s 98 ua (2400 + (nt : Int)) n)
  | r, i, l, acc, cls, hp => by
    have fin : (if i < nt then Except.error i else Except.ok acc : Except Nat (List Cl)) = .ok cls → ∃ rest, cls = acc ++ rest ∧ ∀ (n : Nat) (σ : OS) (s : St), i ≤ nt → n + r ≤ 12 → RnI s0 a0 (i + 1) σ s → σ.2.1 ≤ 20 * (n : Int) → Gl (GI fun x s' => ORs a0 (runO rest n σ) x s') (X12_orders_118 (d + 51) s 98 ua (2400 + (nt : Int)) n) := by
      intro h
      by_cases e : i < nt
      · rw [if_pos e] at h
        cases h
      · rw [if_neg e] at h
        cases h
        refine ⟨[], by simp, fun n σ s hi _ I _ => ?_⟩
        have hs := I.1.1
        rw [e_X12_orders_118, rF_ok hs.k98, I.2.2.2.2.1, if_neg (by omega), rF_ok hs.k98, I.2.2.1]
        exact mm_grant (d := d + 50) I.1 (fun _ _ => rfl)
    match r, hp, fin with
    | 0, hp, fin =>
      rw [pTx] at hp
      by_cases e : c i = 159
      · rw [if_pos e] at hp
        cases hp
      · rw [if_neg e] at hp
        exact fin hp
    | r + 1, hp, fin =>
      rw [pTx] at hp
      by_cases e : c i = 159
      · rw [if_pos e] at hp
        obtain ⟨q, hq, hp⟩ := bnd_ok.mp hp
        obtain ⟨rest, h1, h2⟩ := m_txO R0 W0 A hua TX hc0 hv0 r q.1 q.2.1 (acc ++ [q.2.2]) cls hp
        refine ⟨q.2.2 :: rest, by rw [h1, List.append_assoc]; rfl, fun n σ s hi hnr I hb => ?_⟩
        exact m_clO R0 W0 A hua TX hc0 hv0 hq (by omega) (fun τ s' hq1 I' hb' => h2 (n + 1) τ s' hq1 (by omega) I' (by omega)) I hb
      · rw [if_neg e] at hp
        exact fin hp
theorem RepM.lay6 {t : List Int} (R : RepM a s) (W : wfA a) (hs : ShM s') (F : Fa [100] s s') (f : ∀ j, gF s' 98 j = gF s 98 j) (e : ∀ j, j < 180 ∨ (181 ≤ j ∧ j < 2581) ∨ (2981 ≤ j ∧ j < 5381) → kA s' j = kA s j) : RepM a s' := by
  obtain ⟨d1, d2, d3, d4, d5, d6⟩ := R.2.1
  exact R.k100 (D := a.1) hs F (fun k _ => f k) ⟨d1.cg (wK_ok W.1.1) fun j hj => e j (by omega), d2.cg W.1.2.1.1 fun j hj => e j (by omega), d3.cg W.1.2.2.1.1 fun j hj => e j (by omega), d4.cg fun j hj => e j (by omega), d5.cg (wL_ok W.1) fun j hj => e j (by omega), (e 173 (by omega)).trans d6⟩
theorem mm_orders (R : RepM a s) (W : wfA a) : Gl (GI fun x s' => x = (aOrd a).1 ∧ RepM (aOrd a).2 s') (X12_orders (d + 51) s 98) := by
  have hs := R.1
  have h1 : ShM (sF s 98 49 (-1)) := hs.sF (by decide)
  have R1 : RepM (setSp a (-1)) (sF s 98 49 (-1)) := by
    have ef : ∀ k : Nat, k ≠ 49 → gF (sF s 98 49 (-1)) 98 k = gF s 98 k := fun k hk => gF_nk hk
    obtain ⟨r1, r2, r3, r4, r5, r6, r7, r8, r9⟩ := id R
    exact R.up h1 (fun p hp => rfl) (fun k hk => ef k (by revert k; decide)) r2 (r4.fr (ef 33 (by decide)) rfl) (r5.fr (ef 13 (by decide)) rfl) ⟨(ef 0 (by decide)).trans r6.1, (ef 6 (by decide)).trans r6.2.1, (ef 14 (by decide)).trans r6.2.2.1, gF_eq _ _ _ _⟩ (r7.fr rfl)
  have W1 : wfA (setSp a (-1)) := W
  have wt : a.2.2.2.1.length ≤ 400 := W.2.2.2.1.1
  rw [e_X12_orders, wF_ok hs.k98, oK_ok h1.k98]
  refine biI (mm_readsAs (d := d + 2) R1 W1 (Or.inr ⟨rfl, rfl, rfl⟩)) fun x s2 _ ⟨F2, f2, q⟩ => ?_
  unfold aOrd
  have et : (setSp a (-1)).2.2.2.1 = a.2.2.2.1 := rfl
  rw [et] at q
  cases hr : rdT a.2.2.2.1 14 with
  | error e =>
    rw [hr] at q
    obtain ⟨hx, R2⟩ := q
    rw [hx, if_pos rfl]
    exact mm_ref (d := d + 50) (v := -6) (by decide) R2 (fun _ _ => rfl)
  | ok cls =>
    rw [hr] at q
    obtain ⟨hx, R2, K2⟩ := q
    have hs2 := R2.1
    have W2 : wfA (setFt (setTp (setSp a (-1)) []) (-1)) := wfA_sp W
    have hn := tkF_len (t := a.2.2.2.1) a.2.2.2.1.length 0 (by omega) (by omega)
    rw [hx, if_neg (show ¬ ((1 : Int) = 0) by decide)]
    -- what is ahead is kept
    refine lpG (fun k s => X12_orders_22 (d + 51) s 98 k) (fun k s3 => ShM s3 ∧ Fa [103] s2 s3 ∧ (∀ j, gF s3 98 j = gF s2 98 j) ∧ ∀ j, j < k → (gA s3 103).getD j 0 = kA s2 j) 137 ?_ ?_ 0 s2 (by omega) ⟨hs2, Fa.rf _ _, fun _ => rfl, fun j hj => by omega⟩
    · intro T k s3 hk ⟨i1, i2, i3, i4⟩ hT
      have e100 : (gA s3 100).getD k 0 = kA s2 k := by rw [i2 100 (by decide)]; rfl
      have l103 : (gA s3 103).length = 137 := i1.ln 103
      rw [e_X12_orders_22, if_pos (by omega)]
      simp (disch := ((try simp only [kd_sF, kd_sA, gA_sF, gA_sA, gF_sF, gF_sA, List.length_set, reduceIte, and_true, and_false, true_and, false_and, Nat.reduceEqDiff, Int.reduceEq, i1.kd, i1.ln, i1.fs, kMs, lMs]); first | done | omega)) only [rF_ok, wF_ok, oK_ok, lA_ok, rA_ok, wA_ok, cI_ok, cV_ok, cL_ok, cR_ok, kd_sF, kd_sA, gA_sF, gF_sA, gF_sF, gA_sA, bk_0, bk_1, List.length_set, reduceIte, and_true, and_false, true_and, false_and, ne_eq, not_true_eq_false, not_false_eq_true, Int.toNat_natCast, Int.reduceToNat, Nat.reduceEqDiff, Int.reduceEq, Int.reduceLT, Int.reduceLE, Int.reduceAdd, Int.reduceSub, Int.reduceMul, Int.reduceNeg, i1.kd, i1.ln, i1.fs, kMs, lMs, wi_sc, e100]
      refine hT _ ⟨i1.sA (by rw [List.length_set]), i2.tr (Fa.sA _ (by decide)), i3, fun j hj => ?_⟩
      rw [gA_eq, setD_getD (by omega)]
      by_cases e : k = j
      · rw [if_pos e, e]
      · rw [if_neg e]
        exact i4 j (by omega)
    · intro s3 ⟨i1, i2, i3, i4⟩
      rw [e_X12_orders_22, if_neg (by decide)]
      refine lpG (fun k s => X12_orders_49 (d + 51) s 98 k) (fun k s4 => ShM s4 ∧ Fa [114] s3 s4 ∧ (∀ j, gF s4 98 j = gF s3 98 j) ∧ ∀ j, j < k → (gA s4 114).getD j 0 = (gA s3 113).getD j 0) 2208 ?_ ?_ 0 s3 (by omega) ⟨i1, Fa.rf _ _, fun _ => rfl, fun j hj => by omega⟩
      · intro T k s4 hk ⟨j1, j2, j3, j4⟩ hT
        have e113 : (gA s4 113).getD k 0 = (gA s3 113).getD k 0 := by rw [j2 113 (by decide)]
        have l114 : (gA s4 114).length = 2208 := j1.ln 114
        rw [e_X12_orders_49, if_pos (by omega)]
        simp (disch := ((try simp only [kd_sF, kd_sA, gA_sF, gA_sA, gF_sF, gF_sA, List.length_set, reduceIte, and_true, and_false, true_and, false_and, Nat.reduceEqDiff, Int.reduceEq, j1.kd, j1.ln, j1.fs, kMs, lMs]); first | done | omega)) only [rF_ok, wF_ok, oK_ok, lA_ok, rA_ok, wA_ok, cI_ok, cV_ok, cL_ok, cR_ok, kd_sF, kd_sA, gA_sF, gF_sA, gF_sF, gA_sA, bk_0, bk_1, List.length_set, reduceIte, and_true, and_false, true_and, false_and, ne_eq, not_true_eq_false, not_false_eq_true, Int.toNat_natCast, Int.reduceToNat, Nat.reduceEqDiff, Int.reduceEq, Int.reduceLT, Int.reduceLE, Int.reduceAdd, Int.reduceSub, Int.reduceMul, Int.reduceNeg, j1.kd, j1.ln, j1.fs, kMs, lMs, wi_sc, e113]
        refine hT _ ⟨j1.sA (by rw [List.length_set]), j2.tr (Fa.sA _ (by decide)), j3, fun j hj => ?_⟩
        rw [gA_eq, setD_getD (by omega)]
        by_cases e : k = j
        · rw [if_pos e, e]
        · rw [if_neg e]
          exact j4 j (by omega)
      · intro s4 ⟨j1, j2, j3, j4⟩
        have F4 : Fa [103, 114] s2 s4 := (i2.mono (by decide)).tr (j2.mono (by decide))
        have f4 : ∀ j, gF s4 98 j = gF s2 98 j := fun j => (j3 j).trans (i3 j)
        have R4 : RepM (setFt (setTp (setSp a (-1)) []) (-1)) s4 := R2.fr j1 (fun p hp => F4 p (by revert p; decide)) (fun k _ => f4 k)
        have K4 : TkR a.2.2.2.1 s4 := ⟨(f4 18).trans K2.1, fun i hi => by rw [F4 107 (by decide), F4 108 (by decide), F4 109 (by decide)]; exact K2.2 i hi⟩
        rw [e_X12_orders_49, if_neg (by decide), rF_ok j1.k98, oK_ok j1.k98]
        refine biV (m_lays (d := d + 50) (t := a.2.2.2.1) (tt := 6) j1 K4 (by omega) (by decide)) fun s5 _ ⟨g1, g2, g3, g4⟩ => ?_
        have N : ∀ j, j < 180 ∨ (181 ≤ j ∧ j < 2581) ∨ (2981 ≤ j ∧ j < 5381) → kA s5 j = kA s4 j := fun j hj => by rw [g4, if_neg (by omega), if_neg (by omega), if_neg (by omega)]
        have R5 : RepM (setFt (setTp (setSp a (-1)) []) (-1)) s5 := R4.lay6 (t := a.2.2.2.1) W2 g1 g2 g3 N
        have h6 : ShM (sF s5 98 50 0) := g1.sF (by decide)
        have h7 : ShM (sF (sF s5 98 50 0) 98 51 (-1)) := h6.sF (by decide)
        have h8 : ShM (sF (sF (sF s5 98 50 0) 98 51 (-1)) 98 52 2400) := h7.sF (by decide)
        have k180 : kA s5 180 = ((tkF a.2.2.2.1 0).length : Int) := by rw [g4, if_pos rfl]
        have l100 : (gA s5 100).length = 5781 := g1.ln 100
        rw [wF_ok g1.k98, wF_ok h6.k98, wF_ok h7.k98, rF_ok h8.k98, rF_ok h8.k98, gF_eq, show gF (sF (sF (sF s5 98 50 0) 98 51 (-1)) 98 52 2400) 98 2 = 100 from h8.fs.2.1, rA_ok (show kd (sF (sF (sF s5 98 50 0) 98 51 (-1)) 98 52 2400) 100 = 20 from h8.kd 100) (by decide) (by show (180 : Int) < ((gA s5 100).length : Int); omega), show (gA (sF (sF (sF s5 98 50 0) 98 51 (-1)) 98 52 2400) 100).getD (180 : Int).toNat 0 = kA s5 180 from rfl, k180, wi_sm (by omega) (by omega)]
        have R8 : RepM (setFt (setTp (setSp a (-1)) []) (-1)) (sF (sF (sF s5 98 50 0) 98 51 (-1)) 98 52 2400) := R5.fr h8 (fun _ _ => rfl) (fun k hk => by rw [gF_nk (by revert k; decide), gF_nk (by revert k; decide), gF_nk (by revert k; decide)])
        have A8 : AhS (sF (sF (sF s5 98 50 0) 98 51 (-1)) 98 52 2400) := by
          refine ⟨fun j hj => ?_, fun j hj => ?_⟩
          · show (gA s5 103).getD j 0 = kA s5 j
            rw [g2 103 (by decide), j2 103 (by decide), i4 j hj, N j (by omega)]
            show _ = (gA s4 100).getD j 0
            rw [F4 100 (by decide)]
            rfl
          · show (gA s5 114).getD j 0 = (gA s5 113).getD j 0
            rw [g2 114 (by decide), g2 113 (by decide), j4 j hj, j2 113 (by decide)]
        have T8 : TxO (cTx a.2.2.2.1) (vTk (toks a.2.2.2.1)) (tkF a.2.2.2.1 0).length (sF (sF (sF s5 98 50 0) 98 51 (-1)) 98 52 2400) := by
          refine ⟨by omega, k180, fun i hi => ⟨?_, ?_⟩⟩
          · show kA s5 (2581 + i) = _
            rw [g4, if_neg (by omega), if_pos (by omega), show 2581 + i - (181 + 400 * 6) = i by omega]
          · show kA s5 (5381 + i) = _
            rw [g4, if_neg (by omega), if_neg (by omega), if_pos (by omega), show 5381 + i - (2981 + 400 * 6) = i by omega]
        have hc0 : ∀ i, (tkF a.2.2.2.1 0).length ≤ i → cTx a.2.2.2.1 i = 0 := fun i hi => by
          unfold cTx
          rw [gd_end (by rw [List.length_map]; exact hi)]
        have hv0 : ∀ i, 0 ≤ vTk (toks a.2.2.2.1) i := fun i => vTk_nn i
        have g33 : gF (sF (sF (sF s5 98 50 0) 98 51 (-1)) 98 52 2400) 98 33 = gF s4 98 33 := by rw [gF_nk (by decide), gF_nk (by decide), gF_nk (by decide), g3]
        have q50 : gF (sF (sF (sF s5 98 50 0) 98 51 (-1)) 98 52 2400) 98 50 = 0 := by rw [gF_nk (by decide), gF_nk (by decide), gF_eq]
        have q51 : gF (sF (sF (sF s5 98 50 0) 98 51 (-1)) 98 52 2400) 98 51 = -1 := by rw [gF_nk (by decide), gF_eq]
        have q52 : gF (sF (sF (sF s5 98 50 0) 98 51 (-1)) 98 52 2400) 98 52 = 2400 := gF_eq _ _ _ _
        generalize sF (sF (sF s5 98 50 0) 98 51 (-1)) 98 52 2400 = s8 at *
        have I8 : RnI s8 (setFt (setTp (setSp a (-1)) []) (-1)) 0 (setFt (setTp (setSp a (-1)) []) (-1), 0, -1) s8 := ⟨R8, ⟨W2, ⟨rfl, rfl⟩, Int.le_refl _, show (-1 : Int) ≤ -1 by decide, show (-1 : Int) ≤ 100 by decide⟩, q50, q51, q52, RnF.rf _⟩
        rw [rdT_ord, toks_len, cTk_toks] at hr
        unfold pText at hr
        obtain ⟨q, hq, hr⟩ := bnd_ok.mp hr
        obtain ⟨rest, e1, e2⟩ := m_txO (d := d) R8 W2 A8 g33 T8 hc0 hv0 11 q.1 q.2.1 [q.2.2] cls hr
        have fin := m_clO (d := d) (n := 0) (rest := rest) R8 W2 A8 g33 T8 hc0 hv0 hq (by decide) (fun τ s' hq1 I' hb' => e2 1 τ s' hq1 (by decide) I' (by omega)) I8 (show (0 : Int) ≤ 20 * ((0 : Nat) : Int) by decide)
        have ec : cls = q.2.2 :: rest := e1
        dsimp only
        rw [ec]
        refine wkI fin fun y s9 _ h => ?_
        cases ho : runO (q.2.2 :: rest) 0 (setFt (setTp (setSp a (-1)) []) (-1), 0, -1) with
        | ok τ =>
          rw [ho] at h
          exact h
        | error n =>
          rw [ho] at h
          exact h
end MOE
