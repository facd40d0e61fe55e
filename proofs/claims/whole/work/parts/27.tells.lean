/-! ===== the reference: what a law tells of a move ===== -/
section MTL
variable {s : St} {B nt : Nat} {c v : Nat → Int} {ρ : Nat → Int}
theorem m_208 {D : Nat} {j : Nat} {b hd lo hi told : Int} (hs : ShM s) (hj : B + j < 100000) : X12_tells_208 D (ge s ((B : Int) + j) b) 98 hd lo hi told = X12_tells_68 D (ge s ((B : Int) + (j + 1 : Nat)) b) 98 hd lo hi told := by
  rw [e_X12_tells_208]
  simp (disch := ((try simp only [kd_sF, kd_sA, gA_sF, gA_sA, gF_sF, gF_sA, List.length_set, reduceIte, and_true, and_false, true_and, false_and, Nat.reduceEqDiff, Int.reduceEq, hs.kd, hs.ln, hs.fs, kMs, lMs, ge_K]); first | done | omega)) only [rF_ok, wF_ok, oK_ok, lA_ok, rA_ok, wA_ok, cI_ok, cV_ok, cL_ok, cR_ok, kd_sF, kd_sA, gA_sF, gF_sA, gF_sF, gA_sA, bk_0, bk_1, List.length_set, reduceIte, and_true, and_false, true_and, false_and, ne_eq, not_true_eq_false, not_false_eq_true, Int.toNat_natCast, Int.reduceToNat, Nat.reduceEqDiff, Int.reduceEq, Int.reduceLT, Int.reduceLE, Int.reduceAdd, Int.reduceSub, Int.reduceMul, Int.reduceNeg, hs.kd, hs.ln, hs.fs, kMs, lMs, ge_K, ge_22, ge_g, wi_sm]
  rw [show (B : Int) + j + 1 = B + (j + 1 : Nat) by omega]
theorem m_153 {D : Nat} {j : Nat} {b hd lo hi told is w sb holds : Int} (hs : ShM s) (hj : B + j < 100000) (hb : b = 0 ∨ b = 1) (hsb : sb = 0 ∨ sb = 1) : X12_tells_153 D (ge s ((B : Int) + j) b) 98 hd lo hi told is w sb holds = X12_tells_68 D (ge s ((B : Int) + (j + 1 : Nat)) b) 98 hd lo hi (if is = hd ∧ holds ≠ 0 ∧ b = 0 ∧ sb = 0 then clp lo hi w else told) := by
  rw [e_X12_tells_153]
  by_cases h1 : is = hd
  · rw [if_pos h1]
    by_cases h2 : holds = 0
    · rw [if_pos h2, m_208 hs hj, if_neg (fun q => q.2.1 h2)]
    · rw [if_neg h2]
      simp (disch := ((try simp only [kd_sF, kd_sA, gA_sF, gA_sA, gF_sF, gF_sA, List.length_set, reduceIte, and_true, and_false, true_and, false_and, Nat.reduceEqDiff, Int.reduceEq, hs.kd, hs.ln, hs.fs, kMs, lMs, ge_K, ge_24]); first | done | omega)) only [rF_ok, wF_ok, oK_ok, lA_ok, rA_ok, wA_ok, cI_ok, cV_ok, cL_ok, cR_ok, kd_sF, kd_sA, gA_sF, gF_sA, gF_sF, gA_sA, bk_0, bk_1, List.length_set, reduceIte, and_true, and_false, true_and, false_and, ne_eq, not_true_eq_false, not_false_eq_true, Int.toNat_natCast, Int.reduceToNat, Nat.reduceEqDiff, Int.reduceEq, Int.reduceLT, Int.reduceLE, Int.reduceAdd, Int.reduceSub, Int.reduceMul, Int.reduceNeg, hs.kd, hs.ln, hs.fs, kMs, lMs, ge_K, ge_24, m_208 hs hj, lcm_lt, lcm_gt]
      rcases hb with rfl | rfl
      · rcases hsb with rfl | rfl
        · rw [if_pos rfl, if_pos rfl, show (if is = hd ∧ ¬ holds = 0 ∧ (0 : Int) = 0 ∧ (0 : Int) = 0 then clp lo hi w else told) = clp lo hi w from if_pos ⟨h1, h2, rfl, rfl⟩]
          unfold clp
          split
          · rfl
          · split <;> rfl
        · rw [if_pos rfl, if_neg (by decide), if_neg (fun q => by have := q.2.2.2; omega)]
      · rw [if_neg (by decide), if_neg (fun q => by have := q.2.2.1; omega)]
  · rw [if_neg h1, m_208 hs hj, if_neg (fun q => h1 q.1)]
theorem m_119 (X : EvX s B nt c v 8 13 ρ) {D i l : Nat} {r : Nat × Nat × Cl} {h t : Int} {x y : Cd × Dn} {b hd lo hi told is w : Int} (hi0 : i ≤ nt) (hb : b = 0 ∨ b = 1) (hp : pIf c (pTest c v 8 13 8) i l h t x y = .ok r) : (i ≤ r.1 ∧ r.1 ≤ nt ∧ r.2.2 = (h, t, x, y, r.2.2.2.2.2.2) ∧ okB1 r.2.2.2.2.2.2.2 ρ) ∧ ∃ b', X12_tells_119 (D + 45) (ge s ((B : Int) + i) b) 98 hd lo hi told is w = X12_tells_68 (D + 45) (ge s ((B : Int) + (r.1 + 1 : Nat)) b') 98 hd lo hi (if is = hd ∧ b = 0 ∧ r.2.2.2.2.2.2.2 ρ = some 1 then clp lo hi w else told) := by
  have hs := X.1
  have hnt := X.2.2.2.1
  have hB := X.2.2.2.2.1
  unfold pIf at hp
  by_cases e : c i = 4
  · rw [if_pos e] at hp
    have hi1 := ev_in X (j := i) (by omega)
    obtain ⟨a, ha, hp⟩ := bnd_ok.mp hp
    cases hp
    obtain ⟨⟨k1, k2⟩, k3, k4⟩ := m_test X 8 D (i + 1) l a (by omega) ha
    obtain ⟨z, hz, k5⟩ := k4 1 0 (Or.inr rfl) (Or.inl rfl)
    dsimp only at k5 ⊢
    refine ⟨⟨by omega, k2, rfl, k3⟩, (evV a.2.2.2 ρ 1 0).2, ?_⟩
    rw [e_X12_tells_119]
    simp (disch := ((try simp only [kd_sF, kd_sA, gA_sF, gA_sA, gF_sF, gF_sA, List.length_set, reduceIte, and_true, and_false, true_and, false_and, Nat.reduceEqDiff, Int.reduceEq, hs.kd, hs.ln, hs.fs, kMs, lMs, ge_K, ge_24]); first | done | omega)) only [rF_ok, wF_ok, oK_ok, lA_ok, rA_ok, wA_ok, cI_ok, cV_ok, cL_ok, cR_ok, kd_sF, kd_sA, gA_sF, gF_sA, gF_sF, gA_sA, bk_0, bk_1, List.length_set, reduceIte, and_true, and_false, true_and, false_and, ne_eq, not_true_eq_false, not_false_eq_true, Int.toNat_natCast, Int.reduceToNat, Nat.reduceEqDiff, Int.reduceEq, Int.reduceLT, Int.reduceLE, Int.reduceAdd, Int.reduceSub, Int.reduceMul, Int.reduceNeg, hs.kd, hs.ln, hs.fs, kMs, lMs, ge_K, ge_24, ge_b, m_passes X (show i ≤ 400 by omega), e]
    have k6 : X12_testOf (D + 44) (ge s ((B : Int) + (i + 1 : Nat)) 0) 98 1 = some ([(0, z)], ge s ((B : Int) + a.1) (evV a.2.2.2 ρ 1 0).2) := k5
    rw [k6, cI_ok]
    have w4 := evV_b (dn := a.2.2.2) (ρ := ρ) (live := 1) (Or.inl rfl)
    rw [m_153 hs (by omega) w4 hb, m_153 hs (by omega) w4 hb]
    have hz1 := hz.1
    have hz2 := hz.2 rfl rfl
    have key : (is = hd ∧ z ≠ 0 ∧ (evV a.2.2.2 ρ 1 0).2 = 0 ∧ b = 0) ↔ (is = hd ∧ b = 0 ∧ a.2.2.2 ρ = some 1) := by
      cases e1 : a.2.2.2 ρ with
      | none =>
        have : (evV a.2.2.2 ρ 1 0).2 = 1 := by simp [evV, oV, e1]
        rw [this]
        constructor
        · intro q; have := q.2.2.1; omega
        · intro q; cases q.2.2
      | some u =>
        have : (evV a.2.2.2 ρ 1 0).2 = 0 := by simp [evV, oV, e1]
        have hu := hz2 u e1
        subst hu
        constructor
        · intro q
          refine ⟨q.1, q.2.2.2, ?_⟩
          rcases hz1 with g | g
          · exact absurd g q.2.1
          · rw [g]
        · intro q
          refine ⟨q.1, ?_, this, q.2.1⟩
          have := Option.some.inj q.2.2
          omega
    rcases hz1 with rfl | rfl
    · rw [if_pos rfl]
      have e0 : ¬ (is = hd ∧ b = 0 ∧ a.2.2.2 ρ = some 1) := fun q => (key.mpr q).2.1 rfl
      rw [if_neg e0, if_neg (fun q => q.2.1 rfl)]
    · rw [if_neg (by decide)]
      by_cases q : is = hd ∧ b = 0 ∧ a.2.2.2 ρ = some 1
      · rw [if_pos q, if_pos (key.mpr q)]
      · rw [if_neg q, if_neg (fun h => q (key.mp h))]
  · rw [if_neg e] at hp
    cases hp
    refine ⟨⟨Nat.le_refl _, hi0, rfl, fun x hx => by cases hx; simp⟩, 0, ?_⟩
    rw [e_X12_tells_119]
    simp (disch := ((try simp only [kd_sF, kd_sA, gA_sF, gA_sA, gF_sF, gF_sA, List.length_set, reduceIte, and_true, and_false, true_and, false_and, Nat.reduceEqDiff, Int.reduceEq, hs.kd, hs.ln, hs.fs, kMs, lMs, ge_K, ge_24]); first | done | omega)) only [rF_ok, wF_ok, oK_ok, lA_ok, rA_ok, wA_ok, cI_ok, cV_ok, cL_ok, cR_ok, kd_sF, kd_sA, gA_sF, gF_sA, gF_sF, gA_sA, bk_0, bk_1, List.length_set, reduceIte, and_true, and_false, true_and, false_and, ne_eq, not_true_eq_false, not_false_eq_true, Int.toNat_natCast, Int.reduceToNat, Nat.reduceEqDiff, Int.reduceEq, Int.reduceLT, Int.reduceLE, Int.reduceAdd, Int.reduceSub, Int.reduceMul, Int.reduceNeg, hs.kd, hs.ln, hs.fs, kMs, lMs, ge_K, ge_24, ge_b, m_passes X (show i ≤ 400 by omega), e]
    rw [m_153 hs (by omega) (Or.inl rfl) hb]
    by_cases q : is = hd ∧ b = 0
    · rw [if_pos ⟨q.1, by decide, rfl, q.2⟩, if_pos ⟨q.1, q.2, rfl⟩]
    · rw [if_neg (fun h => q ⟨h.1, h.2.2.2⟩), if_neg (fun h => q ⟨h.1, h.2.1⟩)]
theorem m_clL (X : EvX s B nt c v 8 13 ρ) {D i l : Nat} {r : Nat × Nat × Cl} {b hd lo hi told : Int} (hi0 : i ≤ nt) (h : pClL c v i l = .ok r) : (i < r.1 ∧ r.1 ≤ nt) ∧ ∃ b', X12_tells_68 (D + 45) (ge s ((B : Int) + i) b) 98 hd lo hi told = X12_tells_68 (D + 45) (ge s ((B : Int) + (r.1 + 1 : Nat)) b') 98 hd lo hi (selS hd lo hi ρ told r.2.2) := by
  have hs := X.1
  have hnt := X.2.2.2.1
  have hB := X.2.2.2.2.1
  have h23 := X.2.1
  have e8 : (B : Int) + i + 1 = B + (i + 1 : Nat) := by omega
  unfold pClL at h
  by_cases e1 : c i = 1 ∨ c i = 2
  · rw [if_pos e1] at h
    have hi1 := ev_in X (j := i) (by omega)
    obtain ⟨a, ha, h⟩ := bnd_ok.mp h
    obtain ⟨⟨k1, k2⟩, k3, k4⟩ := m_sum X 8 (D + 15) (i + 1) l a ha
    have k5 := k4 1 0 (Or.inr rfl) (Or.inl rfl)
    have k6 : X12_sumOf (D + 44) (ge s ((B : Int) + (i + 1 : Nat)) 0) 98 1 = some ([(2, (evV a.2.2.2 ρ 1 0).1)], ge s ((B : Int) + a.1) (evV a.2.2.2 ρ 1 0).2) := k5
    have w4 := evV_b (dn := a.2.2.2) (ρ := ρ) (live := 1) (Or.inl rfl)
    obtain ⟨⟨g1, g2, g3, g4⟩, b', g5⟩ := m_119 X (D := D) (hd := hd) (lo := lo) (hi := hi) (told := told) (is := c i) (w := (evV a.2.2.2 ρ 1 0).1) k2 w4 h
    refine ⟨⟨by omega, g2⟩, b', ?_⟩
    rw [e_X12_tells_68]
    have n3 : ¬ (c i = 3) := by omega
    simp (disch := ((try simp only [kd_sF, kd_sA, gA_sF, gA_sA, gF_sF, gF_sA, List.length_set, reduceIte, and_true, and_false, true_and, false_and, Nat.reduceEqDiff, Int.reduceEq, hs.kd, hs.ln, hs.fs, kMs, lMs, ge_K, ge_23]); first | done | omega)) only [rF_ok, wF_ok, oK_ok, lA_ok, rA_ok, wA_ok, cI_ok, cV_ok, cL_ok, cR_ok, kd_sF, kd_sA, gA_sF, gF_sA, gF_sF, gA_sA, bk_0, bk_1, List.length_set, reduceIte, and_true, and_false, true_and, false_and, ne_eq, not_true_eq_false, not_false_eq_true, Int.toNat_natCast, Int.reduceToNat, Nat.reduceEqDiff, Int.reduceEq, Int.reduceLT, Int.reduceLE, Int.reduceAdd, Int.reduceSub, Int.reduceMul, Int.reduceNeg, hs.kd, hs.ln, hs.fs, kMs, lMs, ge_K, ge_23, h23, ge_22, ge_g, ge_b, wi_sm, m_codeAt X (show i ≤ 400 by omega), if_pos (show (B : Int) + i < B + nt by omega), n3]
    rw [e8, k6, cL_ok, g5]
    congr 1
    unfold selS
    rw [g3]
    dsimp only
    by_cases q : c i = hd
    · rw [if_pos q]
      cases et : r.2.2.2.2.2.2.2 ρ with
      | none => rw [if_neg (fun z => by cases z.2.2)]; try rfl
      | some u =>
        rcases g4 u et with rfl | rfl
        · rw [if_neg (fun z => by cases z.2.2)]; try rfl
        · cases ex : a.2.2.2 ρ with
          | none =>
            have : (evV a.2.2.2 ρ 1 0).2 = 1 := by simp [evV, oV, ex]
            rw [if_neg (fun z => by have := z.2.1; omega)]; try rfl
          | some x =>
            have : evV a.2.2.2 ρ 1 0 = (x, 0) := by simp [evV, oV, ex]
            rw [this, if_pos ⟨q, rfl, rfl⟩]; rfl
    · rw [if_neg q, if_neg (fun z => q z.1)]
  · rw [if_neg e1] at h
    by_cases e3 : c i = 3
    · rw [if_pos e3] at h
      have hi1 := ev_in X (j := i) (by omega)
      obtain ⟨⟨g1, g2, g3, g4⟩, b', g5⟩ := m_119 X (D := D) (b := 0) (hd := hd) (lo := lo) (hi := hi) (told := told) (is := 3) (w := 1) (by omega) (Or.inl rfl) h
      refine ⟨⟨by omega, g2⟩, b', ?_⟩
      rw [e_X12_tells_68]
      simp (disch := ((try simp only [kd_sF, kd_sA, gA_sF, gA_sA, gF_sF, gF_sA, List.length_set, reduceIte, and_true, and_false, true_and, false_and, Nat.reduceEqDiff, Int.reduceEq, hs.kd, hs.ln, hs.fs, kMs, lMs, ge_K, ge_23]); first | done | omega)) only [rF_ok, wF_ok, oK_ok, lA_ok, rA_ok, wA_ok, cI_ok, cV_ok, cL_ok, cR_ok, kd_sF, kd_sA, gA_sF, gF_sA, gF_sF, gA_sA, bk_0, bk_1, List.length_set, reduceIte, and_true, and_false, true_and, false_and, ne_eq, not_true_eq_false, not_false_eq_true, Int.toNat_natCast, Int.reduceToNat, Nat.reduceEqDiff, Int.reduceEq, Int.reduceLT, Int.reduceLE, Int.reduceAdd, Int.reduceSub, Int.reduceMul, Int.reduceNeg, hs.kd, hs.ln, hs.fs, kMs, lMs, ge_K, ge_23, h23, ge_22, ge_g, ge_b, wi_sm, m_codeAt X (show i ≤ 400 by omega), if_pos (show (B : Int) + i < B + nt by omega), e3]
      rw [e8, g5]
      congr 1
      unfold selS
      rw [g3]
      dsimp only
      by_cases q : (3 : Int) = hd
      · rw [if_pos q]
        cases et : r.2.2.2.2.2.2.2 ρ with
        | none => rw [if_neg (fun z => by cases z.2.2)]; try rfl
        | some u =>
          rcases g4 u et with rfl | rfl
          · rw [if_neg (fun z => by cases z.2.2)]; try rfl
          · rw [if_pos ⟨q, rfl, rfl⟩]; rfl
      · rw [if_neg q, if_neg (fun z => q z.1)]
    · rw [if_neg e3] at h; cases h
theorem m_txL (X : EvX s B nt c v 8 13 ρ) {D : Nat} {hd lo hi : Int} : ∀ (r i l : Nat) (acc cls : List Cl) (b told : Int), i ≤ nt → pTx (pClL c v) c nt r i l acc = .ok cls → ∃ g b', ∀ wo, told = selL hd lo hi wo ρ acc → X12_tells_68 (D + 45) (ge s ((B : Int) + (i + 1 : Nat)) b) 98 hd lo hi told = some ([(0, wi (selL hd lo hi wo ρ cls))], ge s g b')
  | 0, i, l, acc, cls, b, told, hi0, h => by
    have hs := X.1
    have h23 := X.2.1
    unfold pTx at h
    split at h
    · cases h
    · split at h
      · cases h
      · cases h
        refine ⟨(B : Int) + (i + 1 : Nat), b, fun wo hw => ?_⟩
        rw [e_X12_tells_68]
        simp (disch := ((try simp only [kd_sF, kd_sA, gA_sF, gA_sA, gF_sF, gF_sA, List.length_set, reduceIte, and_true, and_false, true_and, false_and, Nat.reduceEqDiff, Int.reduceEq, hs.kd, hs.ln, hs.fs, kMs, lMs, ge_K, ge_23]); first | done | omega)) only [rF_ok, wF_ok, oK_ok, lA_ok, rA_ok, wA_ok, cI_ok, cV_ok, cL_ok, cR_ok, kd_sF, kd_sA, gA_sF, gF_sA, gF_sF, gA_sA, bk_0, bk_1, List.length_set, reduceIte, and_true, and_false, true_and, false_and, ne_eq, not_true_eq_false, not_false_eq_true, Int.toNat_natCast, Int.reduceToNat, Nat.reduceEqDiff, Int.reduceEq, Int.reduceLT, Int.reduceLE, Int.reduceAdd, Int.reduceSub, Int.reduceMul, Int.reduceNeg, hs.kd, hs.ln, hs.fs, kMs, lMs, ge_K, ge_23, h23, ge_22, if_neg (show ¬ ((B : Int) + (i + 1 : Nat) < B + nt) by omega), hw]
  | r + 1, i, l, acc, cls, b, told, hi0, h => by
    have hs := X.1
    have h23 := X.2.1
    unfold pTx at h
    by_cases e : c i = 159
    · rw [if_pos e] at h
      have hi1 := ev_in X (j := i) (by omega)
      obtain ⟨a, ha, h⟩ := bnd_ok.mp h
      obtain ⟨⟨k1, k2⟩, b1, k3⟩ := m_clL X (D := D) (b := b) (hd := hd) (lo := lo) (hi := hi) (told := told) (by omega) ha
      obtain ⟨g, b', k4⟩ := m_txL X (D := D) (hd := hd) (lo := lo) (hi := hi) r a.1 a.2.1 _ cls b1 (selS hd lo hi ρ told a.2.2) k2 h
      refine ⟨g, b', fun wo hw => ?_⟩
      rw [k3]
      refine k4 wo ?_
      rw [hw]
      unfold selL
      rw [List.foldl_append]
      rfl
    · rw [if_neg e] at h
      split at h
      · cases h
      · cases h
        refine ⟨(B : Int) + (i + 1 : Nat), b, fun wo hw => ?_⟩
        rw [e_X12_tells_68]
        simp (disch := ((try simp only [kd_sF, kd_sA, gA_sF, gA_sA, gF_sF, gF_sA, List.length_set, reduceIte, and_true, and_false, true_and, false_and, Nat.reduceEqDiff, Int.reduceEq, hs.kd, hs.ln, hs.fs, kMs, lMs, ge_K, ge_23]); first | done | omega)) only [rF_ok, wF_ok, oK_ok, lA_ok, rA_ok, wA_ok, cI_ok, cV_ok, cL_ok, cR_ok, kd_sF, kd_sA, gA_sF, gF_sA, gF_sF, gA_sA, bk_0, bk_1, List.length_set, reduceIte, and_true, and_false, true_and, false_and, ne_eq, not_true_eq_false, not_false_eq_true, Int.toNat_natCast, Int.reduceToNat, Nat.reduceEqDiff, Int.reduceEq, Int.reduceLT, Int.reduceLE, Int.reduceAdd, Int.reduceSub, Int.reduceMul, Int.reduceNeg, hs.kd, hs.ln, hs.fs, kMs, lMs, ge_K, ge_23, h23, ge_22, if_neg (show ¬ ((B : Int) + (i + 1 : Nat) < B + nt) by omega), hw]
theorem m_text (X : EvX s B nt c v 8 13 ρ) {D : Nat} {hd lo hi wo b : Int} {cls : List Cl} (h : pText (pClL c v) c nt = .ok cls) : ∃ g b', X12_tells_68 (D + 45) (ge s (B : Int) b) 98 hd lo hi wo = some ([(0, wi (selL hd lo hi wo ρ cls))], ge s g b') := by
  unfold pText at h
  obtain ⟨a, ha, h⟩ := bnd_ok.mp h
  obtain ⟨⟨k1, k2⟩, b1, k3⟩ := m_clL X (D := D) (b := b) (hd := hd) (lo := lo) (hi := hi) (told := wo) (Nat.zero_le _) ha
  obtain ⟨g, b', k4⟩ := m_txL X (D := D) (hd := hd) (lo := lo) (hi := hi) 11 a.1 a.2.1 _ cls b1 (selS hd lo hi ρ wo a.2.2) k2 h
  refine ⟨g, b', ?_⟩
  have e : ge s (B : Int) b = ge s ((B : Int) + (0 : Nat)) b := by rw [show (B : Int) + (0 : Nat) = B by omega]
  rw [e, k3]
  exact k4 wo rfl
end MTL
/-- the law's tokens in the reference's row -/
def cK (K : List Int) (t nt : Nat) (i : Nat) : Int := if i < nt then K.getD (181 + 400 * t + i) 0 else 0
def vK (K : List Int) (t nt : Nat) (i : Nat) : Int := if i < nt then K.getD (2981 + 400 * t + i) 0 else 0
/-- the clauses of the law that is in force -/
def clsK (K : List Int) : List Cl := if K.getD 173 0 = -1 then [] else match pText (pClL (cK K (K.getD 173 0).toNat (K.getD (174 + (K.getD 173 0).toNat) 0).toNat) (vK K (K.getD 173 0).toNat (K.getD (174 + (K.getD 173 0).toNat) 0).toNat)) (cK K (K.getD 173 0).toNat (K.getD (174 + (K.getD 173 0).toNat) 0).toNat) (K.getD (174 + (K.getD 173 0).toNat) 0).toNat with
  | .ok l => l
  | .error _ => []
def LawK (K : List Int) : Prop := K.getD 173 0 = -1 ∨ ∃ (t nt : Nat) (cls : List Cl), t < 6 ∧ nt ≤ 400 ∧ K.getD 173 0 = t ∧ K.getD (174 + t) 0 = nt ∧ (∀ i, i < nt → 0 ≤ K.getD (2981 + 400 * t + i) 0) ∧ pText (pClL (cK K t nt) (vK K t nt)) (cK K t nt) nt = .ok cls
theorem clsK_of {K : List Int} {t nt : Nat} {cls : List Cl} (h1 : K.getD 173 0 = t) (h2 : K.getD (174 + t) 0 = nt) (h : pText (pClL (cK K t nt) (vK K t nt)) (cK K t nt) nt = .ok cls) : clsK K = cls := by
  unfold clsK
  rw [if_neg (by omega), h1, show (t : Int).toNat = t by omega, h2, show (nt : Int).toNat = nt by omega, h]
theorem clp_bd {lo hi x : Int} (h : lo ≤ hi) : lo ≤ clp lo hi x ∧ clp lo hi x ≤ hi := by
  unfold clp
  split
  · omega
  · split <;> omega
theorem selL_bd {hd lo hi wo : Int} {ρ : Nat → Int} (h : lo ≤ hi) {a b : Int} (ha : a ≤ lo) (hb : hi ≤ b) : ∀ (cls : List Cl) (wo : Int), a ≤ wo → wo ≤ b → a ≤ selL hd lo hi wo ρ cls ∧ selL hd lo hi wo ρ cls ≤ b
  | [], wo, h1, h2 => ⟨h1, h2⟩
  | q :: cls, wo, h1, h2 => by
    have e : a ≤ selS hd lo hi ρ wo q ∧ selS hd lo hi ρ wo q ≤ b := by
      unfold selS
      split
      · split
        · split
          · rename_i x _
            have := clp_bd (x := x) h
            omega
          · omega
        · omega
      · omega
    exact selL_bd (wo := wo) h ha hb cls _ e.1 e.2
theorem m_tells {s : St} {D : Nat} {hd lo hi wo : Int} {ρ : Nat → Int} (hs : ShM s) (hK : LawK (gA s 100)) (hρ : ∀ k, k < 6 → ρ k = (gA s 110).getD k 0) (hρ2 : ∀ k, -1000000000 ≤ ρ k ∧ ρ k ≤ 1000000000) (hlo : -1000 ≤ lo ∧ lo ≤ hi ∧ hi ≤ 1000 ∧ -1000 ≤ wo ∧ wo ≤ 1000) :
    Gl (GI fun x s' => x = selL hd lo hi wo ρ (clsK (gA s 100)) ∧ Fa [] s s') (X12_tells (D + 45) s 98 hd lo hi wo) := by
  rw [e_X12_tells]
  rcases hK with h | ⟨t, nt, cls, ht, hnt, h1, h2, h3, h4⟩
  · simp (disch := ((try simp only [kd_sF, kd_sA, gA_sF, gA_sA, gF_sF, gF_sA, List.length_set, reduceIte, and_true, and_false, true_and, false_and, Nat.reduceEqDiff, Int.reduceEq, hs.kd, hs.ln, hs.fs, kMs, lMs]); first | done | omega)) only [rF_ok, wF_ok, oK_ok, lA_ok, rA_ok, wA_ok, cI_ok, cV_ok, cL_ok, cR_ok, kd_sF, kd_sA, gA_sF, gF_sA, gF_sF, gA_sA, bk_0, bk_1, List.length_set, reduceIte, and_true, and_false, true_and, false_and, ne_eq, not_true_eq_false, not_false_eq_true, Int.toNat_natCast, Int.reduceToNat, Nat.reduceEqDiff, Int.reduceEq, Int.reduceLT, Int.reduceLE, Int.reduceAdd, Int.reduceSub, Int.reduceMul, Int.reduceNeg, hs.kd, hs.ln, hs.fs, kMs, lMs, h]
    refine reI ⟨?_, Fa.rf _ _⟩
    unfold clsK
    rw [if_pos h]
    rfl
  · have e1 : ((174 : Int) + t).toNat = 174 + t := by omega
    simp (disch := ((try simp only [kd_sF, kd_sA, gA_sF, gA_sA, gF_sF, gF_sA, List.length_set, reduceIte, and_true, and_false, true_and, false_and, Nat.reduceEqDiff, Int.reduceEq, hs.kd, hs.ln, hs.fs, kMs, lMs]); first | done | omega)) only [rF_ok, wF_ok, oK_ok, lA_ok, rA_ok, wA_ok, cI_ok, cV_ok, cL_ok, cR_ok, kd_sF, kd_sA, gA_sF, gF_sA, gF_sF, gA_sA, bk_0, bk_1, List.length_set, reduceIte, and_true, and_false, true_and, false_and, ne_eq, not_true_eq_false, not_false_eq_true, Int.toNat_natCast, Int.reduceToNat, Nat.reduceEqDiff, Int.reduceEq, Int.reduceLT, Int.reduceLE, Int.reduceAdd, Int.reduceSub, Int.reduceMul, Int.reduceNeg, hs.kd, hs.ln, hs.fs, kMs, lMs, h1, h2, e1, wi_sm, if_neg (show ¬ ((t : Int) = -1) by omega)]
    let S := sF (sF s 98 8 8) 98 23 (400 * t + nt)
    have hS : sF (sF (sF s 98 8 8) 98 22 (400 * t)) 98 23 (400 * t + nt) = ge S (((400 * t : Nat) : Int)) (gF S 98 24) := by
      show _ = sF (sF S 98 22 _) 98 24 (gF S 98 24)
      have e2 : gF S 98 24 = gF (sF S 98 22 (((400 * t : Nat) : Int))) 98 24 := rfl
      rw [e2, sF_id, sF_cm (by decide)]
      rw [show ((400 * t : Nat) : Int) = 400 * t by omega]
    rw [hS]
    have X : EvX S (400 * t) nt (cK (gA s 100) t nt) (vK (gA s 100) t nt) 8 13 ρ := by
      refine ⟨(hs.sF (by decide)).sF (by decide), ?_, rfl, hnt, by omega, ?_, ?_, Or.inl ⟨rfl, rfl⟩, fun k hk _ => hρ k hk, fun q => by omega, hρ2, ?_⟩
      · show (400 * t + nt : Int) = _
        omega
      · intro i; rfl
      · intro i hi; unfold vK; rw [if_pos hi]; rfl
      · intro i hi; unfold vK; rw [if_pos hi]; exact h3 i hi
    obtain ⟨g, b', k⟩ := m_text X (D := D) (hd := hd) (lo := lo) (hi := hi) (wo := wo) (b := gF S 98 24) h4
    rw [k]
    have hb := selL_bd (hd := hd) (ρ := ρ) (wo := wo) hlo.2.1 hlo.1 hlo.2.2.1 cls wo hlo.2.2.2.1 hlo.2.2.2.2
    rw [clsK_of h1 h2 h4]
    exact reI ⟨wi_sm (by omega) (by omega), fun p _ => rfl⟩
