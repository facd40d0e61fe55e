/-! ===== the reference: what was is kept; acts; undo ===== -/
/-- what an act may change -/
def ActF (s s' : St) : Prop := Fa [100, 110, 112, 113] s s' ∧ ∀ j, 137 ≤ j → kA s' j = kA s j
theorem ActF.rf (s : St) : ActF s s := ⟨Fa.rf _ _, fun _ _ => rfl⟩
theorem ActF.tr {a b c : St} (h : ActF a b) (g : ActF b c) : ActF a c := ⟨h.1.tr g.1, fun j hj => (g.2 j hj).trans (h.2 j hj)⟩
theorem ActF.of {P : List Int} {s s' : St} (h : Fa P s s') (hp : P.all (fun x => [(110 : Int), 112, 113].any fun y => y == x) = true) : ActF s s' := by
  have h2 : Fa [110, 112, 113] s s' := h.mono hp
  exact ⟨h2.mono (by decide), fun j _ => by rw [kA_fr (h2 100 (by decide))]⟩
theorem KnR.cg {g g' : Nat → Int} {q : Nat} {k : Kn} (h : KnR g q k) (hl : kLen k ≤ 12) (e : ∀ j, 17 * q ≤ j → j < 17 * q + 17 → g' j = g j) : KnR g' q k := by
  obtain ⟨k1, k2, k3, k4, k5, k6⟩ := h
  exact ⟨(e _ (by omega) (by omega)).trans k1, (e _ (by omega) (by omega)).trans k2, (e _ (by omega) (by omega)).trans k3, (e _ (by omega) (by omega)).trans k4, (e _ (by omega) (by omega)).trans k5, fun j hj => (e _ (by omega) (by omega)).trans (k6 j hj)⟩
theorem DrR.setk {g g' : Nat → Int} {D : Dr} {q : Nat} {k' : Kn} (h : DrR g D) (W : wfDr D) (hq : q < D.1.length) (e : ∀ j, (j < 17 * q ∨ 17 * q + 17 ≤ j) → g' j = g j) (hk : KnR g' q k') : DrR g' (D.1.set q k', D.2) := by
  have w := wK_ok W.1
  have w8 := w.1
  refine h.knots W ⟨?_, fun i hi => ?_⟩ fun j hj => e j (by omega)
  · rw [e 136 (by omega), List.length_set]
    exact h.1.1
  · rw [List.length_set] at hi
    rw [gdSet hq]
    by_cases eq : q = i
    · rw [if_pos eq, ← eq]
      exact hk
    · rw [if_neg eq]
      exact (h.1.2 i hi).cg (w.2 i hi) fun j h1 h2 => e j (by omega)
section MAC
variable {s s' : St} {a : Ab} {d : Nat} {k : Kn} {pl : Int}
theorem m_keep15 {T : Res → Prop} {kind : Int} (hs : ShM s) (h33 : gF s 98 33 = 16) (hT : ∀ s', ShM s' → Fa [113] s s' → (∀ j, j ≠ 33 → gF s' 98 j = gF s 98 j) → gF s' 98 33 = 15 → (∀ k, k < 2070 → (gA s' 113).getD k 0 = (gA s 113).getD (k + 138) 0) → Gl T (X12_keeps_55 d s' 98 kind 138 0)) : Gl T (X12_keeps_15 d s 98 kind 138 0) := by
  refine lpG (fun k s => X12_keeps_15 d s 98 kind 138 k) (fun k s1 => ShM s1 ∧ Fa [113] s s1 ∧ (∀ j, gF s1 98 j = gF s 98 j) ∧ (∀ i, i < k → (gA s1 113).getD i 0 = (gA s 113).getD (i + 138) 0) ∧ ∀ i, k ≤ i → (gA s1 113).getD i 0 = (gA s 113).getD i 0) 2070 ?_ ?_ 0 s (by omega) ⟨hs, Fa.rf _ _, fun _ => rfl, fun i hi => by omega, fun _ _ => rfl⟩
  · intro T k s1 hk ⟨i1, i2, i3, i4, i5⟩ hT
    have l113 : (gA s1 113).length = 2208 := i1.ln 113
    have et : ((k : Int) + 138).toNat = k + 138 := by omega
    rw [e_X12_keeps_15, if_pos (by rw [wi_sm (by decide) (by decide)]; omega)]
    simp (disch := ((try simp only [kd_sF, kd_sA, gA_sF, gA_sA, gF_sF, gF_sA, List.length_set, reduceIte, and_true, and_false, true_and, false_and, Nat.reduceEqDiff, Int.reduceEq, i1.kd, i1.ln, i1.fs, kMs, lMs]); first | done | omega)) only [rF_ok, wF_ok, oK_ok, lA_ok, rA_ok, wA_ok, cI_ok, cV_ok, cL_ok, cR_ok, kd_sF, kd_sA, gA_sF, gF_sA, gF_sF, gA_sA, bk_0, bk_1, List.length_set, reduceIte, and_true, and_false, true_and, false_and, ne_eq, not_true_eq_false, not_false_eq_true, Int.toNat_natCast, Int.reduceToNat, Nat.reduceEqDiff, Int.reduceEq, Int.reduceLT, Int.reduceLE, Int.reduceAdd, Int.reduceSub, Int.reduceMul, Int.reduceNeg, i1.kd, i1.ln, i1.fs, kMs, lMs, wi_sm, wi_sc, et]
    refine hT _ ⟨i1.sA (by rw [List.length_set]), i2.tr (Fa.sA _ (by decide)), i3, fun i hi => ?_, fun i hi => ?_⟩
    · rw [gA_eq, setD_getD (by omega)]
      by_cases e : k = i
      · rw [if_pos e, ← e]
        exact i5 _ (by omega)
      · rw [if_neg e]
        exact i4 i (by omega)
    · rw [gA_eq, set_ne (by omega)]
      exact i5 i (by omega)
  · intro s1 ⟨i1, i2, i3, i4, i5⟩
    have e33 : gF s1 98 33 = 16 := by rw [i3, h33]
    rw [e_X12_keeps_15, if_neg (by decide)]
    simp (disch := ((try simp only [kd_sF, kd_sA, gA_sF, gA_sA, gF_sF, gF_sA, List.length_set, reduceIte, and_true, and_false, true_and, false_and, Nat.reduceEqDiff, Int.reduceEq, i1.kd, i1.ln, i1.fs, kMs, lMs]); first | done | omega)) only [rF_ok, wF_ok, oK_ok, lA_ok, rA_ok, wA_ok, cI_ok, cV_ok, cL_ok, cR_ok, kd_sF, kd_sA, gA_sF, gF_sA, gF_sF, gA_sA, bk_0, bk_1, List.length_set, reduceIte, and_true, and_false, true_and, false_and, ne_eq, not_true_eq_false, not_false_eq_true, Int.toNat_natCast, Int.reduceToNat, Nat.reduceEqDiff, Int.reduceEq, Int.reduceLT, Int.reduceLE, Int.reduceAdd, Int.reduceSub, Int.reduceMul, Int.reduceNeg, i1.kd, i1.ln, i1.fs, kMs, lMs, e33, wi_sm]
    exact hT _ (i1.sF (by decide)) i2 (fun j hj => (gF_nk hj).trans (i3 j)) (gF_eq _ _ _ _) i4
theorem m_keep55 {kind : Int} {n : Nat} (hs : ShM s) (h33 : gF s 98 33 = n) (hn : n < 16) : Gl (GV fun s' => ShM s' ∧ Fa [113] s s' ∧ (∀ j, j ≠ 33 → gF s' 98 j = gF s 98 j) ∧ gF s' 98 33 = (n : Int) + 1 ∧ ∀ k, (gA s' 113).getD k 0 = if 138 * n ≤ k ∧ k < 138 * n + 137 then kA s (k - 138 * n) else if 138 * n + 137 = k then kind else (gA s 113).getD k 0) (X12_keeps_55 d s 98 kind 138 0) := by
  refine lpG (fun k s => X12_keeps_55 d s 98 kind 138 k) (fun k s1 => ShM s1 ∧ Fa [113] s s1 ∧ (∀ j, gF s1 98 j = gF s 98 j) ∧ ∀ i, (gA s1 113).getD i 0 = if 138 * n ≤ i ∧ i < 138 * n + k then kA s (i - 138 * n) else (gA s 113).getD i 0) 137 ?_ ?_ 0 s (by omega) ⟨hs, Fa.rf _ _, fun _ => rfl, fun i => by rw [if_neg (by omega)]⟩
  · intro T k s1 hk ⟨i1, i2, i3, i4⟩ hT
    have l113 : (gA s1 113).length = 2208 := i1.ln 113
    have e33 : gF s1 98 33 = n := by rw [i3, h33]
    have et : (138 * (n : Int) + (k : Int)).toNat = 138 * n + k := by omega
    have e100 : (gA s1 100).getD k 0 = kA s k := by rw [i2 100 (by decide)]; rfl
    rw [e_X12_keeps_55, if_pos (by omega)]
    simp (disch := ((try simp only [kd_sF, kd_sA, gA_sF, gA_sA, gF_sF, gF_sA, List.length_set, reduceIte, and_true, and_false, true_and, false_and, Nat.reduceEqDiff, Int.reduceEq, i1.kd, i1.ln, i1.fs, kMs, lMs]); first | done | omega)) only [rF_ok, wF_ok, oK_ok, lA_ok, rA_ok, wA_ok, cI_ok, cV_ok, cL_ok, cR_ok, kd_sF, kd_sA, gA_sF, gF_sA, gF_sF, gA_sA, bk_0, bk_1, List.length_set, reduceIte, and_true, and_false, true_and, false_and, ne_eq, not_true_eq_false, not_false_eq_true, Int.toNat_natCast, Int.reduceToNat, Nat.reduceEqDiff, Int.reduceEq, Int.reduceLT, Int.reduceLE, Int.reduceAdd, Int.reduceSub, Int.reduceMul, Int.reduceNeg, i1.kd, i1.ln, i1.fs, kMs, lMs, e33, wi_sm, wi_sc, et, e100]
    refine hT _ ⟨i1.sA (by rw [List.length_set]), i2.tr (Fa.sA _ (by decide)), i3, fun i => ?_⟩
    rw [gA_eq, setD_getD (by omega), i4]
    by_cases e : 138 * n + k = i
    · rw [if_pos e, if_pos (by omega), show i - 138 * n = k by omega]
    · rw [if_neg e]
      by_cases e2 : 138 * n ≤ i ∧ i < 138 * n + k
      · rw [if_pos e2, if_pos (by omega)]
      · rw [if_neg e2, if_neg (by omega)]
  · intro s1 ⟨i1, i2, i3, i4⟩
    have l113 : (gA s1 113).length = 2208 := i1.ln 113
    have e33 : gF s1 98 33 = n := by rw [i3, h33]
    have et : (138 * (n : Int) + 137).toNat = 138 * n + 137 := by omega
    rw [e_X12_keeps_55, if_neg (by decide)]
    simp (disch := ((try simp only [kd_sF, kd_sA, gA_sF, gA_sA, gF_sF, gF_sA, List.length_set, reduceIte, and_true, and_false, true_and, false_and, Nat.reduceEqDiff, Int.reduceEq, i1.kd, i1.ln, i1.fs, kMs, lMs]); first | done | omega)) only [rF_ok, wF_ok, oK_ok, lA_ok, rA_ok, wA_ok, cI_ok, cV_ok, cL_ok, cR_ok, kd_sF, kd_sA, gA_sF, gF_sA, gF_sF, gA_sA, bk_0, bk_1, List.length_set, reduceIte, and_true, and_false, true_and, false_and, ne_eq, not_true_eq_false, not_false_eq_true, Int.toNat_natCast, Int.reduceToNat, Nat.reduceEqDiff, Int.reduceEq, Int.reduceLT, Int.reduceLE, Int.reduceAdd, Int.reduceSub, Int.reduceMul, Int.reduceNeg, i1.kd, i1.ln, i1.fs, kMs, lMs, e33, wi_sm, et]
    refine reV ⟨(i1.sA (by rw [List.length_set])).sF (by decide), i2.tr (Fa.sA _ (by decide)), fun j hj => (gF_nk hj).trans (i3 j), gF_eq _ _ _ _, fun k => ?_⟩
    rw [gA_sF, gA_eq, setD_getD (by omega), i4]
    by_cases e : 138 * n + 137 = k
    · rw [if_pos e, if_neg (by omega), if_pos e]
    · rw [if_neg e, if_neg e]
/-- the latest is kept at the end -/
theorem HiR.push {kind : Int} {H : Hi} {n : Nat} (h : HiR s H) (hn : H.length = n) (w : ∀ x ∈ H, wfKns x.2) (hK : KnsR (kA s) a.1.1) (wK : wfKns a.1.1) (h33 : gF s' 98 33 = (n : Int) + 1) (e : ∀ k, (gA s' 113).getD k 0 = if 138 * n ≤ k ∧ k < 138 * n + 137 then kA s (k - 138 * n) else if 138 * n + 137 = k then kind else (gA s 113).getD k 0) : HiR s' (H ++ [(kind, a.1.1)]) := by
  refine ⟨by rw [h33, List.length_append, hn]; rfl, fun i hi => ?_⟩
  rw [List.length_append] at hi
  have hi' : i < H.length + 1 := hi
  rw [gd_app (by omega)]
  by_cases ei : i = H.length
  · rw [if_pos ei]
    refine ⟨hK.cg (wK_ok wK) fun j hj => ?_, ?_⟩
    · unfold lfA
      rw [e, if_pos (by omega), show 138 * i + j - 138 * n = j by omega]
    · unfold lfA
      rw [e, if_neg (by omega), if_pos (by omega)]
  · rw [if_neg ei]
    obtain ⟨h1, h2⟩ := h.2 i (by omega)
    have el : ∀ j, j < 138 → lfA s' i j = lfA s i j := fun j hj => by
      unfold lfA
      rw [e, if_neg (by omega), if_neg (by omega)]
    exact ⟨h1.cg (wK_ok (w _ (gdMem (by omega)))) fun j hj => el j (by omega), (el 137 (by omega)).trans h2⟩
theorem RepM.hist {H : Hi} (R : RepM a s) (hs : ShM s') (F : Fa [113] s s') (f : ∀ j, j ≠ 33 → gF s' 98 j = gF s 98 j) (hH : HiR s' H) : RepM (setHi a H) s' := by
  obtain ⟨r1, r2, r3, r4, r5, r6, r7, r8, r9⟩ := id R
  exact R.up hs (fun p hp => F p (by revert p; decide)) (fun k hk => f k (by revert k; decide)) (by rw [kA_fr (F 100 (by decide))]; exact r2) hH (r5.fr (f 13 (by decide)) (F 105 (by decide))) (r6.fr fun k hk => f k (by revert k; decide)) (r7.fr (F 99 (by decide)))
theorem mm_keeps {kind : Int} (R : RepM a s) (W : wfA a) : Gl (GV fun s' => RepM (setHi a (pushH a.2.2.1 kind a.1.1)) s' ∧ Fa [113] s s' ∧ ∀ j, j ≠ 33 → gF s' 98 j = gF s 98 j) (X12_keeps d s 98 kind) := by
  have hs := R.1
  have h33 : gF s 98 33 = a.2.2.1.length := R.2.2.2.1.1
  have w16 := W.2.2.1.1
  have wH : ∀ x ∈ a.2.2.1, wfKns x.2 := fun x hx => (W.2.2.1.2 x hx).1
  have hH := R.2.2.2.1
  rw [e_X12_keeps, rF_ok (hs.k98), h33]
  unfold pushH
  by_cases e : a.2.2.1.length = 16
  · rw [if_pos e, if_pos (by omega)]
    refine m_keep15 hs (by rw [h33, e]; rfl) fun s1 j1 j2 j3 j4 j5 => ?_
    have hT : HiR s1 a.2.2.1.tail := by
      refine ⟨by rw [j4, List.length_tail, e]; rfl, fun i hi => ?_⟩
      rw [List.length_tail] at hi
      rw [tail_gd]
      obtain ⟨h1, h2⟩ := hH.2 (i + 1) (by omega)
      have el : ∀ j, j < 138 → lfA s1 i j = lfA s (i + 1) j := fun j hj => by
        unfold lfA
        rw [j5 _ (by omega), show 138 * i + j + 138 = 138 * (i + 1) + j by omega]
      exact ⟨h1.cg (wK_ok (wH _ (gdMem (by omega)))) fun j hj => el j (by omega), (el 137 (by omega)).trans h2⟩
    refine wkV (m_keep55 (d := d) (n := 15) (kind := kind) j1 j4 (by decide)) fun s2 _ ⟨g1, g2, g3, g4, g5⟩ => ?_
    have f : ∀ j, j ≠ 33 → gF s2 98 j = gF s 98 j := fun j hj => (g3 j hj).trans (j3 j hj)
    refine ⟨R.hist g1 (j2.tr g2) f (HiR.push (n := 15) hT (by rw [List.length_tail, e]) (fun x hx => wH x (List.mem_of_mem_tail hx)) (by rw [kA_fr (j2 100 (by decide))]; exact R.2.1.1) W.1.1 g4 g5), j2.tr g2, f⟩
  · rw [if_neg e, if_neg (by omega)]
    refine wkV (m_keep55 (d := d) (n := a.2.2.1.length) (kind := kind) hs h33 (by omega)) fun s2 _ ⟨g1, g2, g3, g4, g5⟩ => ?_
    exact ⟨R.hist g1 g2 g3 (HiR.push hH rfl wH R.2.1.1 W.1.1 g4 g5), g2, g3⟩
theorem RepM.setk {q : Int} {k' : Kn} (R : RepM a s) (W : wfDr a.1) (hq : 0 ≤ q ∧ q < (a.1.1.length : Int)) (hs : ShM s') (F : Fa [100] s s') (f : ∀ j, gF s' 98 j = gF s 98 j) (e : ∀ j, (j < 17 * q.toNat ∨ 17 * q.toNat + 17 ≤ j) → kA s' j = kA s j) (hk : KnR (kA s') q.toNat k') : RepM (setDr a (a.1.1.set q.toNat k', a.1.2)) s' :=
  R.k100 hs F (fun k _ => f k) (R.2.1.setk W (by omega) e hk)
theorem set_pf {i : Nat} {v : Int} (hs : ShM s) (hi : i < 5781) : Fa [100] s (sA s 100 ((gA s 100).set i v)) ∧ ShM (sA s 100 ((gA s 100).set i v)) ∧ ∀ j, kA (sA s 100 ((gA s 100).set i v)) j = if i = j then v else kA s j :=
  ⟨Fa.sA _ (by decide), hs.sA (by rw [List.length_set]), fun j => kA_set hs hi⟩
theorem tk_push : tkK a.1 (knPush k pl) = tkK a.1 k + tkQ (clsD a.1) (moodD a.1) k.2.1 ((k.1 + kLen k) % 2) (kLen k) (lastP k) pl := by
  have el : kLen (knPush k pl) = kLen k + 1 := by
    unfold kLen knPush
    rw [List.length_append]
    rfl
  unfold tkK
  rw [el, sumN]
  congr 1
  · exact sumN_congr fun j hj => tkW_congr fun i hi => push_lt (by omega)
  · unfold tkW
    rw [push_last, push_at]
    rfl
theorem wi_56 {n : Nat} (h : n < 100) : wi (wi (5 + ((n : Int) + 1)) - 1) = (n : Int) + 5 := by
  rw [wi_sm (x := 5 + ((n : Int) + 1)) (by omega) (by omega), wi_sm (by omega) (by omega)]
  omega
theorem act3 {kind : Int} {q : Int} {k' : Kn} (R : RepM (setHi a (pushH a.2.2.1 kind a.1.1)) s) (W : wfA a) (hq : 0 ≤ q ∧ q < (a.1.1.length : Int)) (hs : ShM s') (F : Fa [100] s s') (f : ∀ j, gF s' 98 j = gF s 98 j) (e : ∀ j, (j < 17 * q.toNat ∨ 17 * q.toNat + 17 ≤ j) → kA s' j = kA s j) (hk : KnR (kA s') q.toNat k') : RepM (setK a q k' kind) s' := R.setk W.1 hq hs F f e hk
theorem mm_laysKept {q : Int} (R : RepM a s) (W : wfA a) : Gl (GI fun x s' => x = (dLay a q pl).1 ∧ RepM (dLay a q pl).2 s' ∧ ActF s s') (X12_laysKept (d + 48) s 98 q pl) := by
  unfold dLay
  rw [e_X12_laysKept, lies_if, cI_ok]
  by_cases hp : 0 ≤ pl ∧ pl ≤ 2
  · rw [if_pos hp, if_neg (show ¬ ((1 : Int) = 0) by decide), if_neg (show ¬ ¬ (0 ≤ pl ∧ pl ≤ 2) from fun h => h hp), oK_ok (R.1.k98), R.isKn W, cI_ok]
    by_cases hq : isKn a.1 q
    · have hq' := hq
      unfold isKn at hq'
      have h8 := W.1.1.1
      have wk := wfKn_q W.1 hq
      have w12 := wk.2.2.2.2.1
      rw [if_pos hq', if_neg (show ¬ ((1 : Int) = 0) by decide), if_neg (show ¬ ¬ (0 ≤ q ∧ q < (a.1.1.length : Int)) from fun h => h hq'), oK_ok (R.1.k98)]
      refine biV (mm_takesKnot (d := d + 46) R W hq) fun s1 _ ⟨L, F1⟩ => ?_
      have A1 : ActF s s1 := ActF.of F1 (by decide)
      have hs1 := L.1.1
      rw [oK_ok (hs1.k98), m_fact hs1 (by omega) (by decide), cI_ok, L.1.f4 hq']
      generalize hk : knQ a.1 q = k at *
      by_cases h1 : k.2.2.2.1 = 1
      · rw [if_pos h1, if_pos (Or.inl h1)]
        exact reI ⟨rfl, L.1, A1⟩
      rw [if_neg h1]
      have h62 : lastP k ≠ pl → Gl (GI fun x s' => x = (if ¬ kLen k < 12 then (-5, a) else if brA (clsD a.1) (moodD a.1) k.2.1 ((k.1 + kLen k) % 2) (kLen k) (lastP k) pl = 1 ∨ k.2.2.1 < tkK a.1 k + tkQ (clsD a.1) (moodD a.1) k.2.1 ((k.1 + kLen k) % 2) (kLen k) (lastP k) pl then (-3, a) else ((kLen k : Int) + 1, setK a q (knPush k pl) 0)).1 ∧ RepM (if ¬ kLen k < 12 then (-5, a) else if brA (clsD a.1) (moodD a.1) k.2.1 ((k.1 + kLen k) % 2) (kLen k) (lastP k) pl = 1 ∨ k.2.2.1 < tkK a.1 k + tkQ (clsD a.1) (moodD a.1) k.2.1 ((k.1 + kLen k) % 2) (kLen k) (lastP k) pl then (-3, a) else ((kLen k : Int) + 1, setK a q (knPush k pl) 0)).2 s' ∧ ActF s s') (X12_laysKept_62 (d + 48) s1 98 q pl) := by
        intro hne
        rw [e_X12_laysKept_62, rF_ok (hs1.k98), L.2.2.1]
        by_cases hl : kLen k < 12
        · rw [if_neg (show ¬ ((kLen k : Int) = 12) by omega), if_neg (show ¬ ¬ (kLen k < 12) from fun h => h hl)]
          simp (disch := ((try simp only [kd_sF, kd_sA, gA_sF, gA_sA, gF_sF, gF_sA, List.length_set, reduceIte, and_true, and_false, true_and, false_and, Nat.reduceEqDiff, Int.reduceEq, hs1.kd, hs1.ln, hs1.fs, kMs, lMs]); first | done | omega)) only [rF_ok, wF_ok, oK_ok, lA_ok, rA_ok, wA_ok, cI_ok, cV_ok, cL_ok, cR_ok, kd_sF, kd_sA, gA_sF, gF_sA, gF_sF, gA_sA, bk_0, bk_1, List.length_set, reduceIte, and_true, and_false, true_and, false_and, ne_eq, not_true_eq_false, not_false_eq_true, Int.toNat_natCast, Int.reduceToNat, Nat.reduceEqDiff, Int.reduceEq, Int.reduceLT, Int.reduceLE, Int.reduceAdd, Int.reduceSub, Int.reduceMul, Int.reduceNeg, hs1.kd, hs1.ln, hs1.fs, kMs, lMs, L.2.2.1]
          have K := L.next (pl := pl) hl
          have F2 : Fa [112] s1 (sA s1 112 ((gA s1 112).set (kLen k) pl)) := Fa.sA _ (by decide)
          generalize sA s1 112 ((gA s1 112).set (kLen k) pl) = s2 at K F2 ⊢
          have A2 : ActF s s2 := A1.tr (ActF.of F2 (by decide))
          refine biI (mm_isBarred (d := d + 1) K W wk hl hp) fun x s3 _ ⟨hx, K3, F3⟩ => ?_
          have A3 : ActF s s3 := A2.tr (ActF.of F3 (by decide))
          have hb := brA_bd (cls := clsD a.1) (mood := moodD a.1) (th := k.2.1) (side := (k.1 + kLen k) % 2) (k := kLen k) (bef := lastP k) (pl := pl)
          have hs3 := K3.1.1
          rw [← hx] at hb ⊢
          simp (disch := ((try simp only [kd_sF, kd_sA, gA_sF, gA_sA, gF_sF, gF_sA, List.length_set, reduceIte, and_true, and_false, true_and, false_and, Nat.reduceEqDiff, Int.reduceEq, hs3.kd, hs3.ln, hs3.fs, kMs, lMs]); first | done | omega)) only [rF_ok, wF_ok, oK_ok, lA_ok, rA_ok, wA_ok, cI_ok, cV_ok, cL_ok, cR_ok, kd_sF, kd_sA, gA_sF, gF_sA, gF_sF, gA_sA, bk_0, bk_1, List.length_set, reduceIte, and_true, and_false, true_and, false_and, ne_eq, not_true_eq_false, not_false_eq_true, Int.toNat_natCast, Int.reduceToNat, Nat.reduceEqDiff, Int.reduceEq, Int.reduceLT, Int.reduceLE, Int.reduceAdd, Int.reduceSub, Int.reduceMul, Int.reduceNeg, hs3.kd, hs3.ln, hs3.fs, kMs, lMs, K3.2.2.1, wi_sm]
          have el : kLen (knPush k pl) = kLen k + 1 := by
            unfold kLen knPush
            rw [List.length_append]
            rfl
          have R4 : RepM a (sF s3 98 29 ((kLen k : Int) + 1)) := K3.1.fr (hs3.sF (by decide)) (fun _ _ => rfl) (fun j hj => gF_nk (by revert j; decide))
          have L4 : LkA a (knPush k pl) (sF s3 98 29 ((kLen k : Int) + 1)) := by
            obtain ⟨l1, ⟨m1, m2, m3, m4, m5, m6, m7⟩, l3, l4⟩ := K3
            exact ⟨R4, ⟨R4.1, m2, m3, m4, (gF_nk (by decide)).trans m5, (gF_nk (by decide)).trans m6, m7⟩, by rw [gF_eq, el]; rfl, fun j hj => l4 j (by omega)⟩
          have A4 : ActF s (sF s3 98 29 ((kLen k : Int) + 1)) := A3
          generalize sF s3 98 29 ((kLen k : Int) + 1) = s4 at R4 L4 A4 ⊢
          have h0 : k.2.2.2.1 = 0 := by
            rcases wk.2.2.2.1 with h | h
            · exact h
            · exact absurd h h1
          have wp := wfKn_push wk h0 hl hp hne
          by_cases e0 : x = 0
          · rw [if_pos e0]
            refine biI (mm_takesAll (d := d) L4 W wp) fun y s5 _ ⟨hy, L5, F5⟩ => ?_
            have A5 : ActF s s5 := A4.tr (ActF.of F5 (by decide))
            have hs5 := L5.1.1
            rw [oK_ok (hs5.k98), m_fact hs5 (by omega) (by decide), cI_ok, L5.1.f2 hq', hk, hy, tk_push]
            by_cases e1 : k.2.2.1 < tkK a.1 k + tkQ (clsD a.1) (moodD a.1) k.2.1 ((k.1 + kLen k) % 2) (kLen k) (lastP k) pl
            · rw [if_pos e1, if_pos (Or.inr e1)]
              exact reI ⟨rfl, L5.1, A5⟩
            · rw [if_neg e1, if_neg (by omega), oK_ok (hs5.k98)]
              refine biV (mm_keeps (d := d + 47) (kind := 0) L5.1 W) fun s6 _ ⟨R6, F6, f6⟩ => ?_
              have hs6 := R6.1
              have e29 : gF s6 98 29 = (kLen k : Int) + 1 := by rw [f6 29 (by decide), L5.2.2.1, el]; rfl
              have A6 : ActF s s6 := A5.tr (ActF.of F6 (by decide))
              have p7 := set_pf (i := 17 * q.toNat + 5 + kLen k) (v := pl) hs6 (by omega)
              rw [rF_ok (hs6.k98), oK_ok (hs6.k98), e29, wi_56 (show kLen k < 100 by omega), m_puts hs6 (by omega) (by omega), cV_ok, show (17 * q + ((kLen k : Int) + 5)).toNat = 17 * q.toNat + 5 + kLen k by omega]
              obtain ⟨p71, p72, p73⟩ := p7
              have f7 : ∀ j, gF (sA s6 100 ((gA s6 100).set (17 * q.toNat + 5 + kLen k) pl)) 98 j = gF s6 98 j := fun _ => rfl
              generalize sA s6 100 ((gA s6 100).set (17 * q.toNat + 5 + kLen k) pl) = s7 at p71 p72 p73 f7 ⊢
              have p8 := set_pf (i := 17 * q.toNat + 3) (v := (kLen k : Int) + 1) p72 (by omega)
              rw [rF_ok (p72.k98), oK_ok (p72.k98), f7, e29, m_puts p72 (by omega) (by decide), cV_ok, show (17 * q + 3).toNat = 17 * q.toNat + 3 by omega]
              obtain ⟨p81, p82, p83⟩ := p8
              have f8 : ∀ j, gF (sA s7 100 ((gA s7 100).set (17 * q.toNat + 3) ((kLen k : Int) + 1))) 98 j = gF s7 98 j := fun _ => rfl
              generalize sA s7 100 ((gA s7 100).set (17 * q.toNat + 3) ((kLen k : Int) + 1)) = s8 at p81 p82 p83 f8 ⊢
              rw [rF_ok (p82.k98), f8, f7, e29]
              have E : ∀ j, kA s8 j = if 17 * q.toNat + 3 = j then (kLen k : Int) + 1 else if 17 * q.toNat + 5 + kLen k = j then pl else kA s6 j := fun j => by rw [p83, p73]
              have hK6 : KnR (kA s6) q.toNat k := by
                have := R6.2.1.1.2 q.toNat (by show q.toNat < a.1.1.length; omega)
                rw [show (setHi a (pushH a.2.2.1 0 a.1.1)).1.1.getD q.toNat k0 = k from hk] at this
                exact this
              refine reI ⟨rfl, act3 R6 W hq' p82 (p71.tr p81) (fun j => (f8 j).trans (f7 j)) (fun j hj => by rw [E, if_neg (by omega), if_neg (by omega)]) ?_, A6.tr ⟨(p71.tr p81).mono (by decide), fun j hj => by rw [E, if_neg (by omega), if_neg (by omega)]⟩⟩
              obtain ⟨k1, k2, k3, k4, k5, k6⟩ := hK6
              refine ⟨?_, ?_, ?_, ?_, ?_, fun j hj => ?_⟩
              · rw [E, if_neg (by omega), if_neg (by omega)]; exact k1
              · rw [E, if_neg (by omega), if_neg (by omega)]; exact k2
              · rw [E, if_neg (by omega), if_neg (by omega)]; exact k3
              · rw [E, if_pos rfl, el]; rfl
              · rw [E, if_neg (by omega), if_neg (by omega)]; exact k5
              · rw [el] at hj
                rw [E, if_neg (by omega), pF_push (by omega)]
                by_cases ej : j = kLen k
                · rw [if_pos (by omega), if_pos ej]
                · rw [if_neg (by omega), if_neg ej]
                  exact k6 j (by omega)
          · rw [if_neg e0, if_pos (Or.inl (by omega))]
            exact reI ⟨rfl, L4.1, A4⟩
        · rw [if_pos (show (kLen k : Int) = 12 by omega), if_pos hl]
          exact reI ⟨rfl, L.1, A1⟩
      simp (disch := ((try simp only [kd_sF, kd_sA, gA_sF, gA_sA, gF_sF, gF_sA, List.length_set, reduceIte, and_true, and_false, true_and, false_and, Nat.reduceEqDiff, Int.reduceEq, hs1.kd, hs1.ln, hs1.fs, kMs, lMs]); first | done | omega)) only [rF_ok, wF_ok, oK_ok, lA_ok, rA_ok, wA_ok, cI_ok, cV_ok, cL_ok, cR_ok, kd_sF, kd_sA, gA_sF, gF_sA, gF_sF, gA_sA, bk_0, bk_1, List.length_set, reduceIte, and_true, and_false, true_and, false_and, ne_eq, not_true_eq_false, not_false_eq_true, Int.toNat_natCast, Int.reduceToNat, Nat.reduceEqDiff, Int.reduceEq, Int.reduceLT, Int.reduceLE, Int.reduceAdd, Int.reduceSub, Int.reduceMul, Int.reduceNeg, hs1.kd, hs1.ln, hs1.fs, kMs, lMs, L.2.2.1]
      by_cases h2 : 0 < kLen k
      · have e2 : ((kLen k : Int) - 1).toNat = kLen k - 1 := by omega
        have e3 : (gA s1 112).getD (kLen k - 1) 0 = lastP k := by
          unfold lastP
          rw [if_neg (by omega)]
          exact L.2.2.2 (kLen k - 1) (by omega)
        rw [if_pos (show (0 : Int) < (kLen k : Int) by omega)]
        simp (disch := ((try simp only [kd_sF, kd_sA, gA_sF, gA_sA, gF_sF, gF_sA, List.length_set, reduceIte, and_true, and_false, true_and, false_and, Nat.reduceEqDiff, Int.reduceEq, hs1.kd, hs1.ln, hs1.fs, kMs, lMs]); first | done | omega)) only [rF_ok, wF_ok, oK_ok, lA_ok, rA_ok, wA_ok, cI_ok, cV_ok, cL_ok, cR_ok, kd_sF, kd_sA, gA_sF, gF_sA, gF_sF, gA_sA, bk_0, bk_1, List.length_set, reduceIte, and_true, and_false, true_and, false_and, ne_eq, not_true_eq_false, not_false_eq_true, Int.toNat_natCast, Int.reduceToNat, Nat.reduceEqDiff, Int.reduceEq, Int.reduceLT, Int.reduceLE, Int.reduceAdd, Int.reduceSub, Int.reduceMul, Int.reduceNeg, hs1.kd, hs1.ln, hs1.fs, kMs, lMs, L.2.2.1, wi_sm, e2, e3]
        by_cases h3 : lastP k = pl
        · rw [if_pos h3, if_pos (Or.inr h3)]
          exact reI ⟨rfl, L.1, A1⟩
        · rw [if_neg h3, if_neg (show ¬ (k.2.2.2.1 = 1 ∨ lastP k = pl) from fun h => h.elim h1 h3)]
          exact h62 h3
      · have h3 : lastP k ≠ pl := by
          unfold lastP
          rw [if_pos (by omega)]
          omega
        rw [if_neg (show ¬ ((0 : Int) < (kLen k : Int)) by omega), if_neg (show ¬ (k.2.2.2.1 = 1 ∨ lastP k = pl) from fun h => h.elim h1 h3)]
        exact h62 h3
    · have hq' : ¬ (0 ≤ q ∧ q < (a.1.1.length : Int)) := hq
      rw [if_neg hq', if_pos rfl, if_pos hq']
      exact reI ⟨rfl, R, ActF.rf s⟩
  · rw [if_neg hp, if_pos rfl, if_pos hp]
    exact reI ⟨rfl, R, ActF.rf s⟩
end MAC
