/-! ===== the reference: through, draw, mirror, undo, image, back ===== -/
section MAT
variable {s s' : St} {a : Ab} {d : Nat}
theorem RepM.knH {q : Int} {H : Hi} (R : RepM (setHi a H) s) (hq : 0 ≤ q ∧ q < (a.1.1.length : Int)) : KnR (kA s) q.toNat (knQ a.1 q) := R.2.1.1.2 q.toNat (by show q.toNat < a.1.1.length; omega)
theorem mm_throughsKept {q : Int} (R : RepM a s) (W : wfA a) : Gl (GI fun x s' => x = (dThr a q).1 ∧ RepM (dThr a q).2 s' ∧ ActF s s') (X12_throughsKept (d + 3) s 98 q) := by
  unfold dThr
  rw [e_X12_throughsKept, oK_ok (R.1.k98), R.isKn W, cI_ok]
  by_cases hq : isKn a.1 q
  · have hq' := hq
    unfold isKn at hq'
    have h8 := W.1.1.1
    have wk := wfKn_q W.1 hq
    rw [if_pos hq', if_neg (show ¬ ((1 : Int) = 0) by decide), if_neg (show ¬ ¬ (0 ≤ q ∧ q < (a.1.1.length : Int)) from fun h => h hq'), oK_ok (R.1.k98)]
    refine biV (mm_takesKnot (d := d + 1) R W hq) fun s1 _ ⟨L, F1⟩ => ?_
    have A1 : ActF s s1 := ActF.of F1 (by decide)
    have hs1 := L.1.1
    rw [oK_ok (hs1.k98), m_fact hs1 (by omega) (by decide), cI_ok, L.1.f4 hq']
    generalize hk : knQ a.1 q = k at *
    by_cases h1 : k.2.2.2.1 = 1
    · rw [if_pos h1, if_pos (Or.inl h1)]
      exact reI ⟨rfl, L.1, A1⟩
    rw [if_neg h1, oK_ok (hs1.k98), mm_can L wk, cI_ok]
    by_cases h2 : canT k.1 (pF k) (kLen k) = false
    · rw [if_pos (show k.2.2.2.1 = 1 ∨ canT k.1 (pF k) (kLen k) = false from Or.inr h2), h2, if_neg (show ¬ (false = true) by decide), if_pos rfl]
      exact reI ⟨rfl, L.1, A1⟩
    · rw [if_neg (show ¬ (k.2.2.2.1 = 1 ∨ canT k.1 (pF k) (kLen k) = false) from fun h => h.elim h1 h2), if_pos (show canT k.1 (pF k) (kLen k) = true by simpa using h2), if_neg (show ¬ ((1 : Int) = 0) by decide), oK_ok (hs1.k98)]
      refine biV (mm_keeps (d := d + 2) (kind := 1) L.1 W) fun s2 _ ⟨R2, F2, f2⟩ => ?_
      have hs2 := R2.1
      have e29 : gF s2 98 29 = (kLen k : Int) := by rw [f2 29 (by decide), L.2.2.1]
      have p3 := set_pf (i := 17 * q.toNat + 4) (v := 1) hs2 (by omega)
      rw [oK_ok (hs2.k98), m_puts hs2 (by omega) (by decide), cV_ok, show (17 * q + 4).toNat = 17 * q.toNat + 4 by omega]
      obtain ⟨p1, p2, p3⟩ := p3
      have f3 : ∀ j, gF (sA s2 100 ((gA s2 100).set (17 * q.toNat + 4) 1)) 98 j = gF s2 98 j := fun _ => rfl
      generalize sA s2 100 ((gA s2 100).set (17 * q.toNat + 4) 1) = s3 at p1 p2 p3 f3 ⊢
      rw [rF_ok (p2.k98), f3, e29]
      obtain ⟨k1, k2, k3, k4, k5, k6⟩ := R2.knH hq'
      rw [hk] at k1 k2 k3 k4 k5 k6
      have w12 := wk.2.2.2.2.1
      refine reI ⟨rfl, act3 R2 W hq' p2 p1 f3 (fun j hj => by rw [p3, if_neg (by omega)]) ⟨?_, ?_, ?_, ?_, ?_, fun j hj => ?_⟩, (A1.tr (ActF.of F2 (by decide))).tr ⟨p1.mono (by decide), fun j hj => by rw [p3, if_neg (by omega)]⟩⟩
      · rw [p3, if_neg (by omega)]; exact k1
      · rw [p3, if_neg (by omega)]; exact k2
      · rw [p3, if_neg (by omega)]; exact k3
      · rw [p3, if_neg (by omega)]; exact k4
      · rw [p3, if_pos rfl]; rfl
      · rw [p3, if_neg (by omega)]; exact k6 j hj
  · have hq' : ¬ (0 ≤ q ∧ q < (a.1.1.length : Int)) := hq
    rw [if_neg hq', if_pos rfl, if_pos hq']
    exact reI ⟨rfl, R, ActF.rf s⟩
theorem mm_drawsKept {q : Int} (R : RepM a s) (W : wfA a) : Gl (GI fun x s' => x = (dDrw a q).1 ∧ RepM (dDrw a q).2 s' ∧ ActF s s') (X12_drawsKept (d + 2) s 98 q) := by
  unfold dDrw
  rw [e_X12_drawsKept, oK_ok (R.1.k98), R.isKn W, cI_ok]
  by_cases hq : isKn a.1 q
  · have hq' := hq
    unfold isKn at hq'
    have h8 := W.1.1.1
    have wk := wfKn_q W.1 hq
    have hs := R.1
    have w12 := wk.2.2.2.2.1
    rw [if_pos hq', if_neg (show ¬ ((1 : Int) = 0) by decide), if_neg (show ¬ ¬ (0 ≤ q ∧ q < (a.1.1.length : Int)) from fun h => h hq'), oK_ok (hs.k98), m_fact hs (by omega) (by decide), cI_ok, R.f4 hq']
    have em := R.mv hq'
    generalize hk : knQ a.1 q = k at *
    by_cases h1 : k.2.2.2.1 = 1
    · have h3 := wk.2.2.2.2.2.2.2 h1
      rw [if_neg (show ¬ (kLen k = 0) by omega), if_pos h1, if_pos h1, if_neg (by decide), e_X12_drawsKept_43, oK_ok (hs.k98)]
      refine biV (mm_keeps (d := d + 1) (kind := 2) R W) fun s2 _ ⟨R2, F2, f2⟩ => ?_
      have hs2 := R2.1
      have p3 := set_pf (i := 17 * q.toNat + 4) (v := 0) hs2 (by omega)
      rw [if_neg (show ¬ ((1 : Int) = 0) by decide), oK_ok (hs2.k98), m_puts hs2 (by omega) (by decide), cV_ok, show (17 * q + 4).toNat = 17 * q.toNat + 4 by omega]
      obtain ⟨p1, p2, p3⟩ := p3
      have f3 : ∀ j, gF (sA s2 100 ((gA s2 100).set (17 * q.toNat + 4) 0)) 98 j = gF s2 98 j := fun _ => rfl
      generalize sA s2 100 ((gA s2 100).set (17 * q.toNat + 4) 0) = s3 at p1 p2 p3 f3 ⊢
      obtain ⟨k1, k2, k3, k4, k5, k6⟩ := R2.knH hq'
      rw [hk] at k1 k2 k3 k4 k5 k6
      have e3 : (gA s3 100).getD (17 * q + 3).toNat 0 = (kLen k : Int) := by
        have := p3 (17 * q.toNat + 3)
        rw [if_neg (by omega), k4] at this
        rw [show (17 * q + 3).toNat = 17 * q.toNat + 3 by omega]
        exact this
      rw [oK_ok (p2.k98), m_fact p2 (by omega) (by decide), cI_ok, e3]
      refine reI ⟨rfl, act3 R2 W hq' p2 p1 f3 (fun j hj => by rw [p3, if_neg (by omega)]) ⟨?_, ?_, ?_, ?_, ?_, fun j hj => ?_⟩, (ActF.of F2 (by decide)).tr ⟨p1.mono (by decide), fun j hj => by rw [p3, if_neg (by omega)]⟩⟩
      · rw [p3, if_neg (by omega)]; exact k1
      · rw [p3, if_neg (by omega)]; exact k2
      · rw [p3, if_neg (by omega)]; exact k3
      · rw [p3, if_neg (by omega)]; exact k4
      · rw [p3, if_pos rfl]; rfl
      · rw [p3, if_neg (by omega)]; exact k6 j hj
    · by_cases h0 : kLen k = 0
      · rw [if_pos h0, if_neg h1, if_pos rfl, oK_ok (hs.k98), m_fact hs (by omega) (by decide), cI_ok, em, if_pos (by omega)]
        exact reI ⟨rfl, R, ActF.rf s⟩
      rw [if_neg h0, if_neg h1, if_neg h1, if_pos rfl, oK_ok (hs.k98), m_fact hs (by omega) (by decide), cI_ok, em, if_neg (by omega), e_X12_drawsKept_43, oK_ok (hs.k98)]
      refine biV (mm_keeps (d := d + 1) (kind := 2) R W) fun s2 _ ⟨R2, F2, f2⟩ => ?_
      have hs2 := R2.1
      obtain ⟨k1, k2, k3, k4, k5, k6⟩ := R2.knH hq'
      rw [hk] at k1 k2 k3 k4 k5 k6
      have k4' : (gA s2 100).getD (17 * q + 3).toNat 0 = (kLen k : Int) := by
        rw [show (17 * q + 3).toNat = 17 * q.toNat + 3 by omega]
        exact k4
      have p3 := set_pf (i := 17 * q.toNat + 3) (v := (kLen k : Int) - 1) hs2 (by omega)
      rw [if_pos rfl, oK_ok (hs2.k98), m_fact hs2 (by omega) (by decide), cI_ok, k4', wi_sm (by omega) (by omega), oK_ok (hs2.k98), m_puts hs2 (by omega) (by decide), cV_ok, show (17 * q + 3).toNat = 17 * q.toNat + 3 by omega]
      obtain ⟨p1, p2, p3⟩ := p3
      have f3 : ∀ j, gF (sA s2 100 ((gA s2 100).set (17 * q.toNat + 3) ((kLen k : Int) - 1))) 98 j = gF s2 98 j := fun _ => rfl
      generalize sA s2 100 ((gA s2 100).set (17 * q.toNat + 3) ((kLen k : Int) - 1)) = s3 at p1 p2 p3 f3 ⊢
      have e3 : (gA s3 100).getD (17 * q + 3).toNat 0 = (kLen k : Int) - 1 := by
        have := p3 (17 * q.toNat + 3)
        rw [if_pos rfl] at this
        rw [show (17 * q + 3).toNat = 17 * q.toNat + 3 by omega]
        exact this
      have el : kLen (knPop k) = kLen k - 1 := by
        unfold kLen knPop
        rw [List.length_dropLast]
      rw [oK_ok (p2.k98), m_fact p2 (by omega) (by decide), cI_ok, e3]
      refine reI ⟨rfl, act3 R2 W hq' p2 p1 f3 (fun j hj => by rw [p3, if_neg (by omega)]) ⟨?_, ?_, ?_, ?_, ?_, fun j hj => ?_⟩, (ActF.of F2 (by decide)).tr ⟨p1.mono (by decide), fun j hj => by rw [p3, if_neg (by omega)]⟩⟩
      · rw [p3, if_neg (by omega)]; exact k1
      · rw [p3, if_neg (by omega)]; exact k2
      · rw [p3, if_neg (by omega)]; exact k3
      · rw [p3, if_pos rfl, el]; omega
      · rw [p3, if_neg (by omega)]; exact k5
      · rw [el] at hj
        rw [p3, if_neg (by omega), pF_pop hj]; exact k6 j (by omega)
  · have hq' : ¬ (0 ≤ q ∧ q < (a.1.1.length : Int)) := hq
    rw [if_neg hq', if_pos rfl, if_pos hq']
    exact reI ⟨rfl, R, ActF.rf s⟩
theorem m_mirr0 {x : Int} (h : pl3 x) : X12_mirrored d s x = some ([(0, mir x)], s) := by
  rw [e_X12_mirrored]
  unfold mir
  rcases h with rfl | rfl | rfl <;> rfl
theorem mm_mirrorsKept {q : Int} (R : RepM a s) (W : wfA a) : Gl (GI fun x s' => x = (dMir a q).1 ∧ RepM (dMir a q).2 s' ∧ ActF s s') (X12_mirrorsKept (d + 2) s 98 q) := by
  unfold dMir
  rw [e_X12_mirrorsKept, oK_ok (R.1.k98), R.isKn W, cI_ok]
  by_cases hq : isKn a.1 q
  · have hq' := hq
    unfold isKn at hq'
    have h8 := W.1.1.1
    have wk := wfKn_q W.1 hq
    have hs := R.1
    have w12 := wk.2.2.2.2.1
    rw [if_pos hq', if_neg (show ¬ ((1 : Int) = 0) by decide), if_neg (show ¬ ¬ (0 ≤ q ∧ q < (a.1.1.length : Int)) from fun h => h hq'), oK_ok (hs.k98)]
    refine biV (mm_keeps (d := d + 1) (kind := 3) R W) fun s2 _ ⟨R2, F2, f2⟩ => ?_
    have hs2 := R2.1
    obtain ⟨k1, k2, k3, k4, k5, k6⟩ := R2.knH hq'
    generalize hk : knQ a.1 q = k at *
    refine lpG (fun j s => X12_mirrorsKept_18 (d + 2) s 98 q j) (fun j s3 => ShM s3 ∧ Fa [100] s2 s3 ∧ (∀ j, gF s3 98 j = gF s2 98 j) ∧ ∀ i, kA s3 i = if 17 * q.toNat + 5 ≤ i ∧ i < 17 * q.toNat + 5 + j then mir (kA s2 i) else kA s2 i) (kLen k) ?_ ?_ 0 s2 (by omega) ⟨hs2, Fa.rf _ _, fun _ => rfl, fun i => by rw [if_neg (by omega)]⟩
    · intro T j s3 hj ⟨i1, i2, i3, i4⟩ hT
      have e3 : (gA s3 100).getD (17 * q + 3).toNat 0 = (kLen k : Int) := by
        have := i4 (17 * q.toNat + 3)
        rw [if_neg (by omega), k4] at this
        rw [show (17 * q + 3).toNat = 17 * q.toNat + 3 by omega]
        exact this
      have e5 : (gA s3 100).getD (17 * q.toNat + 5 + j) 0 = pF k j := by
        have := i4 (17 * q.toNat + 5 + j)
        rw [if_neg (by omega), k6 j hj] at this
        exact this
      rw [e_X12_mirrorsKept_18, oK_ok (i1.k98), m_fact i1 (by omega) (by decide), cI_ok, e3, if_pos (by omega), oK_ok (i1.k98), wi_sm (x := 5 + (j : Int)) (by omega) (by omega), m_fact i1 (by omega) (by omega), cI_ok, show (17 * q + (5 + (j : Int))).toNat = 17 * q.toNat + 5 + j by omega, e5, m_mirr0 (wk.2.2.2.2.2.1 j hj), cI_ok, oK_ok (i1.k98), m_puts i1 (by omega) (by omega), cV_ok, show (17 * q + (5 + (j : Int))).toNat = 17 * q.toNat + 5 + j by omega, wi_sc (by omega)]
      obtain ⟨p1, p2, p3⟩ := set_pf (i := 17 * q.toNat + 5 + j) (v := mir (pF k j)) i1 (by omega)
      refine hT _ ⟨p2, i2.tr p1, i3, fun i => ?_⟩
      rw [p3, i4]
      by_cases e : 17 * q.toNat + 5 + j = i
      · rw [if_pos e, if_pos (by omega), ← e, k6 j hj]
      · rw [if_neg e]
        by_cases e2 : 17 * q.toNat + 5 ≤ i ∧ i < 17 * q.toNat + 5 + j
        · rw [if_pos e2, if_pos (by omega)]
        · rw [if_neg e2, if_neg (by omega)]
    · intro s3 ⟨i1, i2, i3, i4⟩
      have e3 : (gA s3 100).getD (17 * q + 3).toNat 0 = (kLen k : Int) := by
        have := i4 (17 * q.toNat + 3)
        rw [if_neg (by omega), k4] at this
        rw [show (17 * q + 3).toNat = 17 * q.toNat + 3 by omega]
        exact this
      rw [e_X12_mirrorsKept_18, oK_ok (i1.k98), m_fact i1 (by omega) (by decide), cI_ok, e3, if_neg (by omega), oK_ok (i1.k98), m_fact i1 (by omega) (by decide), cI_ok, e3]
      have el : kLen (knMir k) = kLen k := by
        unfold kLen knMir
        rw [List.length_map]
      refine reI ⟨rfl, act3 R2 W hq' i1 i2 i3 (fun j hj => by rw [i4, if_neg (by omega)]) ⟨?_, ?_, ?_, ?_, ?_, fun j hj => ?_⟩, (ActF.of F2 (by decide)).tr ⟨i2.mono (by decide), fun j hj => by rw [i4, if_neg (by omega)]⟩⟩
      · rw [i4, if_neg (by omega)]; exact k1
      · rw [i4, if_neg (by omega)]; exact k2
      · rw [i4, if_neg (by omega)]; exact k3
      · rw [i4, if_neg (by omega), el]; exact k4
      · rw [i4, if_neg (by omega)]; exact k5
      · rw [el] at hj
        rw [i4, if_pos (by omega), pF_mir hj, k6 j hj]
  · have hq' : ¬ (0 ≤ q ∧ q < (a.1.1.length : Int)) := hq
    rw [if_neg hq', if_pos rfl, if_pos hq']
    exact reI ⟨rfl, R, ActF.rf s⟩
theorem mm_goodOr {v : Int} {K : Int → St → Res} (hv : v < 0 → v = -1 ∨ v = -2 ∨ v = -3 ∨ v = -5 ∨ v = -6) (R : RepM a s) (hK : ∀ x s', K x s' = some ([(0, x)], s')) : Gl (GI fun x s' => x = (outA a v).1 ∧ RepM (outA a v).2 s') (cI (X12_goodOr (d + 1) s 98 v) K) := by
  rw [e_X12_goodOr]
  unfold outA
  by_cases e : v < 0
  · rw [if_pos e, if_pos e]
    refine biI (mm_ref (d := d) (hv e) R (fun _ _ => rfl)) fun x s' _ h => ?_
    rw [hK]
    exact reI h
  · rw [if_neg e, if_neg e]
    refine biI (mm_grant (d := d) R (fun _ _ => rfl)) fun x s' _ h => ?_
    rw [hK]
    exact reI h
theorem dLay_v {q pl : Int} (h : (dLay a q pl).1 < 0) : (dLay a q pl).1 = -1 ∨ (dLay a q pl).1 = -2 ∨ (dLay a q pl).1 = -3 ∨ (dLay a q pl).1 = -5 ∨ (dLay a q pl).1 = -6 := by
  unfold dLay at h ⊢
  repeat' split at h
  all_goals simp_all
  omega
theorem dThr_v {q : Int} (h : (dThr a q).1 < 0) : (dThr a q).1 = -1 ∨ (dThr a q).1 = -2 ∨ (dThr a q).1 = -3 ∨ (dThr a q).1 = -5 ∨ (dThr a q).1 = -6 := by
  unfold dThr at h ⊢
  by_cases e1 : ¬ (0 ≤ q ∧ q < (a.1.1.length : Int))
  · rw [if_pos e1]; exact Or.inr (Or.inl rfl)
  · rw [if_neg e1] at h ⊢
    by_cases e2 : (knQ a.1 q).2.2.2.1 = 1 ∨ canT (knQ a.1 q).1 (pF (knQ a.1 q)) (kLen (knQ a.1 q)) = false
    · rw [if_pos e2]; exact Or.inr (Or.inr (Or.inl rfl))
    · rw [if_neg e2] at h
      dsimp only at h
      omega
theorem dDrw_v {q : Int} (h : (dDrw a q).1 < 0) : (dDrw a q).1 = -1 ∨ (dDrw a q).1 = -2 ∨ (dDrw a q).1 = -3 ∨ (dDrw a q).1 = -5 ∨ (dDrw a q).1 = -6 := by
  unfold dDrw at h ⊢
  by_cases e1 : ¬ (0 ≤ q ∧ q < (a.1.1.length : Int))
  · rw [if_pos e1]; exact Or.inr (Or.inl rfl)
  · rw [if_neg e1] at h ⊢
    by_cases e2 : kLen (knQ a.1 q) = 0
    · rw [if_pos e2]; exact Or.inr (Or.inr (Or.inl rfl))
    · rw [if_neg e2] at h
      by_cases e3 : (knQ a.1 q).2.2.2.1 = 1
      · rw [if_pos e3] at h
        dsimp only at h
        omega
      · rw [if_neg e3] at h
        dsimp only at h
        omega
theorem dMir_v {q : Int} (h : (dMir a q).1 < 0) : (dMir a q).1 = -1 ∨ (dMir a q).1 = -2 ∨ (dMir a q).1 = -3 ∨ (dMir a q).1 = -5 ∨ (dMir a q).1 = -6 := by
  unfold dMir at h ⊢
  by_cases e1 : ¬ (0 ≤ q ∧ q < (a.1.1.length : Int))
  · rw [if_pos e1]; exact Or.inr (Or.inl rfl)
  · rw [if_neg e1] at h ⊢
    dsimp only at h
    omega
theorem mm_lay {q pl : Int} (R : RepM a s) (W : wfA a) : Gl (GI fun x s' => x = (aOut (dLay a q pl)).1 ∧ RepM (aOut (dLay a q pl)).2 s') (X12_lay (d + 49) s 98 q pl) := by
  rw [e_X12_lay, oK_ok (R.1.k98)]
  refine biI (mm_laysKept (d := d) R W) fun x s1 _ ⟨h1, R1, _⟩ => ?_
  rw [h1, oK_ok (R1.1.k98)]
  exact mm_goodOr (d := d + 47) dLay_v R1 (fun _ _ => rfl)
theorem mm_through {q : Int} (R : RepM a s) (W : wfA a) : Gl (GI fun x s' => x = (aOut (dThr a q)).1 ∧ RepM (aOut (dThr a q)).2 s') (X12_through (d + 4) s 98 q) := by
  rw [e_X12_through, oK_ok (R.1.k98)]
  refine biI (mm_throughsKept (d := d) R W) fun x s1 _ ⟨h1, R1, _⟩ => ?_
  rw [h1, oK_ok (R1.1.k98)]
  exact mm_goodOr (d := d + 2) dThr_v R1 (fun _ _ => rfl)
theorem mm_draw {q : Int} (R : RepM a s) (W : wfA a) : Gl (GI fun x s' => x = (aOut (dDrw a q)).1 ∧ RepM (aOut (dDrw a q)).2 s') (X12_draw (d + 4) s 98 q) := by
  rw [e_X12_draw, oK_ok (R.1.k98)]
  refine biI (mm_drawsKept (d := d + 1) R W) fun x s1 _ ⟨h1, R1, _⟩ => ?_
  rw [h1, oK_ok (R1.1.k98)]
  exact mm_goodOr (d := d + 2) dDrw_v R1 (fun _ _ => rfl)
theorem mm_mirror {q : Int} (R : RepM a s) (W : wfA a) : Gl (GI fun x s' => x = (aOut (dMir a q)).1 ∧ RepM (aOut (dMir a q)).2 s') (X12_mirror (d + 4) s 98 q) := by
  rw [e_X12_mirror, oK_ok (R.1.k98)]
  refine biI (mm_mirrorsKept (d := d + 1) R W) fun x s1 _ ⟨h1, R1, _⟩ => ?_
  rw [h1, oK_ok (R1.1.k98)]
  exact mm_goodOr (d := d + 2) dMir_v R1 (fun _ _ => rfl)
end MAT
