/-! ===== the reference: and, or, tests, laws ===== -/
section MEU
variable {s : St} {B nt : Nat} {c v : Nat → Int} {fw lw : Int} {ρ : Nat → Int}
theorem and_rel {x y : Dn} {live b u w : Int} (hl : live = 0 ∨ live = 1) (hb : b = 0 ∨ b = 1) (h1 : okB1 x ρ) (hu : relT x ρ live b u) (hw : relT y ρ (if live = 0 then 0 else if u = 0 then 0 else 1) (evV x ρ live b).2 w) :
    relT (andD x y) ρ live b (if u = 0 then 0 else if w = 0 then 0 else 1) ∧ (evV y ρ (if live = 0 then 0 else if u = 0 then 0 else 1) (evV x ρ live b).2).2 = (evV (andD x y) ρ live b).2 := by
  obtain ⟨u1, u2⟩ := hu
  obtain ⟨w1, w2⟩ := hw
  refine ⟨⟨?_, ?_⟩, ?_⟩
  · rcases u1 with rfl | rfl <;> rcases w1 with rfl | rfl <;> simp
  · intro q1 q2 z hz
    subst q1
    subst q2
    unfold andD at hz
    cases e1 : x ρ with
    | none => rw [e1] at hz; cases hz
    | some a =>
      have ea : (evV x ρ 1 0).2 = 0 := by simp [evV, oV, e1]
      have eu := u2 rfl rfl a e1
      subst eu
      rw [e1] at hz
      rw [ea] at w2
      rcases u1 with rfl | rfl
      · simp at hz ⊢; exact hz
      · simp at hz w2 ⊢
        have := w2 z hz
        subst this
        rcases w1 with rfl | rfl <;> simp
  · rcases hl with rfl | rfl
    · simp [evV]
    · rcases hb with rfl | rfl
      · cases e1 : x ρ with
        | none =>
          have ea : evV x ρ 1 0 = (0, 1) := by simp [evV, oV, e1]
          have eb : evV (andD x y) ρ 1 0 = (0, 1) := by simp [evV, oV, andD, e1]
          rw [ea, eb]
          simp [evV]
        | some a =>
          have ea : evV x ρ 1 0 = (a, 0) := by simp [evV, oV, e1]
          have eu := u2 rfl rfl a e1
          subst eu
          rw [ea]
          rcases u1 with rfl | rfl
          · simp [evV, oV, andD, e1]
          · simp [evV, andD, e1]
      · simp [evV]
theorem or_rel {x y : Dn} {live b u w : Int} (hl : live = 0 ∨ live = 1) (hb : b = 0 ∨ b = 1) (h1 : okB1 x ρ) (hu : relT x ρ live b u) (hw : relT y ρ (if live = 0 then 0 else if u = 0 then 1 else 0) (evV x ρ live b).2 w) :
    relT (orD x y) ρ live b (if u = 0 then (if w = 0 then 0 else 1) else 1) ∧ (evV y ρ (if live = 0 then 0 else if u = 0 then 1 else 0) (evV x ρ live b).2).2 = (evV (orD x y) ρ live b).2 := by
  obtain ⟨u1, u2⟩ := hu
  obtain ⟨w1, w2⟩ := hw
  refine ⟨⟨?_, ?_⟩, ?_⟩
  · rcases u1 with rfl | rfl <;> rcases w1 with rfl | rfl <;> simp
  · intro q1 q2 z hz
    subst q1
    subst q2
    unfold orD at hz
    cases e1 : x ρ with
    | none => rw [e1] at hz; cases hz
    | some a =>
      have ea : (evV x ρ 1 0).2 = 0 := by simp [evV, oV, e1]
      have eu := u2 rfl rfl a e1
      subst eu
      rw [e1] at hz
      rw [ea] at w2
      rcases u1 with rfl | rfl
      · simp at hz w2 ⊢
        have := w2 z hz
        subst this
        rcases w1 with rfl | rfl <;> simp
      · simp at hz ⊢; exact hz
  · rcases hl with rfl | rfl
    · simp [evV]
    · rcases hb with rfl | rfl
      · cases e1 : x ρ with
        | none =>
          have ea : evV x ρ 1 0 = (0, 1) := by simp [evV, oV, e1]
          have eb : evV (orD x y) ρ 1 0 = (0, 1) := by simp [evV, oV, orD, e1]
          rw [ea, eb]
          simp [evV]
        | some a =>
          have ea : evV x ρ 1 0 = (a, 0) := by simp [evV, oV, e1]
          have eu := u2 rfl rfl a e1
          subst eu
          rw [ea]
          rcases u1 with rfl | rfl
          · simp [evV, orD, e1]
          · simp [evV, oV, orD, e1]
      · simp [evV]
theorem and_ok {x y : Dn} (hx : okB1 x ρ) (hy : okB1 y ρ) : okB1 (andD x y) ρ := by
  intro z hz
  unfold andD at hz
  cases e : x ρ with
  | none => rw [e] at hz; cases hz
  | some a =>
    rw [e] at hz
    dsimp only at hz
    split at hz
    · exact hy z hz
    · cases hz; exact hx _ e
theorem or_ok {x y : Dn} (hx : okB1 x ρ) (hy : okB1 y ρ) : okB1 (orD x y) ρ := by
  intro z hz
  unfold orD at hz
  cases e : x ρ with
  | none => rw [e] at hz; cases hz
  | some a =>
    rw [e] at hz
    dsimp only at hz
    split at hz
    · cases hz; exact hx _ e
    · exact hy z hz
theorem m_skA (X : EvX s B nt c v fw lw ρ) {one : PP} {D : Nat} (hone : ∀ i l a, i ≤ nt → one i l = .ok a → MTp s B nt ρ (fun t live => X12_plainOf (D + 1) t 98 live) i a) :
    ∀ (f : Nat) (a r : PV), nt ≤ a.1 + f → a.1 ≤ nt → okB1 a.2.2.2 ρ → pSk one c 6 4 andD f a = .ok r → (a.1 ≤ r.1 ∧ r.1 ≤ nt) ∧ okB1 r.2.2.2 ρ ∧ ∀ live b u : Int, (live = 0 ∨ live = 1) → (b = 0 ∨ b = 1) → relT a.2.2.2 ρ live b u → ∃ x, relT r.2.2.2 ρ live b x ∧ X12_bothOf_6 (D + 2) (ge s ((B : Int) + a.1) (evV a.2.2.2 ρ live b).2) 98 live u = some ([(0, x)], ge s ((B : Int) + r.1) (evV r.2.2.2 ρ live b).2)
  | 0, a, r, h1, h2, h3, h => by
    have hs := X.1
    have hnt := X.2.2.2.1
    cases h
    refine ⟨⟨by omega, by omega⟩, h3, fun live b u hl hb hu => ⟨u, hu, ?_⟩⟩
    have h0 : c a.1 ≠ 6 := fun e => by have := ev_in X (j := a.1) (by omega); omega
    rw [e_X12_bothOf_6]
    simp (disch := ((try simp only [kd_sF, kd_sA, gA_sF, gA_sA, gF_sF, gF_sA, List.length_set, reduceIte, and_true, and_false, true_and, false_and, Nat.reduceEqDiff, Int.reduceEq, hs.kd, hs.ln, hs.fs, kMs, lMs, ge_K]); first | done | omega)) only [rF_ok, wF_ok, oK_ok, lA_ok, rA_ok, wA_ok, cI_ok, cV_ok, cL_ok, cR_ok, kd_sF, kd_sA, gA_sF, gF_sA, gF_sF, gA_sA, bk_0, bk_1, List.length_set, reduceIte, and_true, and_false, true_and, false_and, ne_eq, not_true_eq_false, not_false_eq_true, Int.toNat_natCast, Int.reduceToNat, Nat.reduceEqDiff, Int.reduceEq, Int.reduceLT, Int.reduceLE, Int.reduceAdd, Int.reduceSub, Int.reduceMul, Int.reduceNeg, hs.kd, hs.ln, hs.fs, kMs, lMs, ge_K, m_passes X (show a.1 ≤ 400 by omega), h0, bk_b hu.1]
  | f + 1, a, r, h1, h2, h3, h => by
    have hs := X.1
    have hnt := X.2.2.2.1
    unfold pSk at h
    by_cases ho : c a.1 = 6
    · rw [if_pos ho] at h
      have hi := ev_in X (j := a.1) (by omega)
      obtain ⟨q, hq, h⟩ := bnd_ok.mp h
      obtain ⟨⟨k1, k2⟩, k3, k4⟩ := hone _ _ _ (by omega) hq
      obtain ⟨⟨g1, g2⟩, g3, g4⟩ := m_skA X hone f _ r (by dsimp only; omega) (by dsimp only; omega) (and_ok h3 k3) h
      dsimp only at g1 g2 g4
      refine ⟨⟨by omega, g2⟩, g3, fun live b u hl hb hu => ?_⟩
      have w2 := evV_b (dn := a.2.2.2) (ρ := ρ) (live := live) hb
      obtain ⟨w, hw, k5⟩ := k4 (if live = 0 then 0 else if u = 0 then 0 else 1) _ (by rcases hl with rfl | rfl <;> rcases hu.1 with rfl | rfl <;> simp) w2
      obtain ⟨r1, r2⟩ := and_rel hl hb h3 hu hw
      obtain ⟨x, hx, g5⟩ := g4 live b _ hl hb r1
      refine ⟨x, hx, ?_⟩
      rw [← g5, ← r2, e_X12_bothOf_6]
      dsimp only at k5
      simp (disch := ((try simp only [kd_sF, kd_sA, gA_sF, gA_sA, gF_sF, gF_sA, List.length_set, reduceIte, and_true, and_false, true_and, false_and, Nat.reduceEqDiff, Int.reduceEq, hs.kd, hs.ln, hs.fs, kMs, lMs, ge_K]); first | done | omega)) only [rF_ok, wF_ok, oK_ok, lA_ok, rA_ok, wA_ok, cI_ok, cV_ok, cL_ok, cR_ok, kd_sF, kd_sA, gA_sF, gF_sA, gF_sF, gA_sA, bk_0, bk_1, List.length_set, reduceIte, and_true, and_false, true_and, false_and, ne_eq, not_true_eq_false, not_false_eq_true, Int.toNat_natCast, Int.reduceToNat, Nat.reduceEqDiff, Int.reduceEq, Int.reduceLT, Int.reduceLE, Int.reduceAdd, Int.reduceSub, Int.reduceMul, Int.reduceNeg, hs.kd, hs.ln, hs.fs, kMs, lMs, ge_K, m_passes X (show a.1 ≤ 400 by omega), ho]
      have e29 : ∀ L : Int, (L = if live = 0 then 0 else if u = 0 then 0 else 1) → X12_bothOf_29 (D + 2) (ge s ((B : Int) + (a.1 + 1 : Nat)) (evV a.2.2.2 ρ live b).2) 98 live u 98 L = X12_bothOf_6 (D + 2) (ge s ((B : Int) + q.1) (evV q.2.2.2 ρ L (evV a.2.2.2 ρ live b).2).2) 98 live (if u = 0 then 0 else if w = 0 then 0 else 1) := by
        intro L hL
        rw [← hL] at k5
        rw [e_X12_bothOf_29]
        simp (disch := ((try simp only [kd_sF, kd_sA, gA_sF, gA_sA, gF_sF, gF_sA, List.length_set, reduceIte, and_true, and_false, true_and, false_and, Nat.reduceEqDiff, Int.reduceEq, hs.kd, hs.ln, hs.fs, kMs, lMs, ge_K]); first | done | omega)) only [rF_ok, wF_ok, oK_ok, lA_ok, rA_ok, wA_ok, cI_ok, cV_ok, cL_ok, cR_ok, kd_sF, kd_sA, gA_sF, gF_sA, gF_sF, gA_sA, bk_0, bk_1, List.length_set, reduceIte, and_true, and_false, true_and, false_and, ne_eq, not_true_eq_false, not_false_eq_true, Int.toNat_natCast, Int.reduceToNat, Nat.reduceEqDiff, Int.reduceEq, Int.reduceLT, Int.reduceLE, Int.reduceAdd, Int.reduceSub, Int.reduceMul, Int.reduceNeg, hs.kd, hs.ln, hs.fs, kMs, lMs, ge_K, k5]
        rcases hu.1 with rfl | rfl <;> rcases hw.1 with rfl | rfl <;> rfl
      rcases hl with rfl | rfl
      · exact e29 0 rfl
      · rcases hu.1 with rfl | rfl
        · exact e29 0 rfl
        · exact e29 1 rfl
    · rw [if_neg ho] at h
      cases h
      refine ⟨⟨by omega, by omega⟩, h3, fun live b u hl hb hu => ⟨u, hu, ?_⟩⟩
      rw [e_X12_bothOf_6]
      simp (disch := ((try simp only [kd_sF, kd_sA, gA_sF, gA_sA, gF_sF, gF_sA, List.length_set, reduceIte, and_true, and_false, true_and, false_and, Nat.reduceEqDiff, Int.reduceEq, hs.kd, hs.ln, hs.fs, kMs, lMs, ge_K]); first | done | omega)) only [rF_ok, wF_ok, oK_ok, lA_ok, rA_ok, wA_ok, cI_ok, cV_ok, cL_ok, cR_ok, kd_sF, kd_sA, gA_sF, gF_sA, gF_sF, gA_sA, bk_0, bk_1, List.length_set, reduceIte, and_true, and_false, true_and, false_and, ne_eq, not_true_eq_false, not_false_eq_true, Int.toNat_natCast, Int.reduceToNat, Nat.reduceEqDiff, Int.reduceEq, Int.reduceLT, Int.reduceLE, Int.reduceAdd, Int.reduceSub, Int.reduceMul, Int.reduceNeg, hs.kd, hs.ln, hs.fs, kMs, lMs, ge_K, m_passes X (show a.1 ≤ 400 by omega), ho, bk_b hu.1]
theorem m_skO (X : EvX s B nt c v fw lw ρ) {one : PP} {D : Nat} (hone : ∀ i l a, i ≤ nt → one i l = .ok a → MTp s B nt ρ (fun t live => X12_bothOf (D + 1) t 98 live) i a) :
    ∀ (f : Nat) (a r : PV), nt ≤ a.1 + f → a.1 ≤ nt → okB1 a.2.2.2 ρ → pSk one c 5 3 orD f a = .ok r → (a.1 ≤ r.1 ∧ r.1 ≤ nt) ∧ okB1 r.2.2.2 ρ ∧ ∀ live b u : Int, (live = 0 ∨ live = 1) → (b = 0 ∨ b = 1) → relT a.2.2.2 ρ live b u → ∃ x, relT r.2.2.2 ρ live b x ∧ X12_testOf_6 (D + 2) (ge s ((B : Int) + a.1) (evV a.2.2.2 ρ live b).2) 98 live u = some ([(0, x)], ge s ((B : Int) + r.1) (evV r.2.2.2 ρ live b).2)
  | 0, a, r, h1, h2, h3, h => by
    have hs := X.1
    have hnt := X.2.2.2.1
    cases h
    refine ⟨⟨by omega, by omega⟩, h3, fun live b u hl hb hu => ⟨u, hu, ?_⟩⟩
    have h0 : c a.1 ≠ 5 := fun e => by have := ev_in X (j := a.1) (by omega); omega
    rw [e_X12_testOf_6]
    simp (disch := ((try simp only [kd_sF, kd_sA, gA_sF, gA_sA, gF_sF, gF_sA, List.length_set, reduceIte, and_true, and_false, true_and, false_and, Nat.reduceEqDiff, Int.reduceEq, hs.kd, hs.ln, hs.fs, kMs, lMs, ge_K]); first | done | omega)) only [rF_ok, wF_ok, oK_ok, lA_ok, rA_ok, wA_ok, cI_ok, cV_ok, cL_ok, cR_ok, kd_sF, kd_sA, gA_sF, gF_sA, gF_sF, gA_sA, bk_0, bk_1, List.length_set, reduceIte, and_true, and_false, true_and, false_and, ne_eq, not_true_eq_false, not_false_eq_true, Int.toNat_natCast, Int.reduceToNat, Nat.reduceEqDiff, Int.reduceEq, Int.reduceLT, Int.reduceLE, Int.reduceAdd, Int.reduceSub, Int.reduceMul, Int.reduceNeg, hs.kd, hs.ln, hs.fs, kMs, lMs, ge_K, m_passes X (show a.1 ≤ 400 by omega), h0, bk_b hu.1]
  | f + 1, a, r, h1, h2, h3, h => by
    have hs := X.1
    have hnt := X.2.2.2.1
    unfold pSk at h
    by_cases ho : c a.1 = 5
    · rw [if_pos ho] at h
      have hi := ev_in X (j := a.1) (by omega)
      obtain ⟨q, hq, h⟩ := bnd_ok.mp h
      obtain ⟨⟨k1, k2⟩, k3, k4⟩ := hone _ _ _ (by omega) hq
      obtain ⟨⟨g1, g2⟩, g3, g4⟩ := m_skO X hone f _ r (by dsimp only; omega) (by dsimp only; omega) (or_ok h3 k3) h
      dsimp only at g1 g2 g4
      refine ⟨⟨by omega, g2⟩, g3, fun live b u hl hb hu => ?_⟩
      have w2 := evV_b (dn := a.2.2.2) (ρ := ρ) (live := live) hb
      obtain ⟨w, hw, k5⟩ := k4 (if live = 0 then 0 else if u = 0 then 1 else 0) _ (by rcases hl with rfl | rfl <;> rcases hu.1 with rfl | rfl <;> simp) w2
      obtain ⟨r1, r2⟩ := or_rel hl hb h3 hu hw
      obtain ⟨x, hx, g5⟩ := g4 live b _ hl hb r1
      refine ⟨x, hx, ?_⟩
      rw [← g5, ← r2, e_X12_testOf_6]
      dsimp only at k5
      simp (disch := ((try simp only [kd_sF, kd_sA, gA_sF, gA_sA, gF_sF, gF_sA, List.length_set, reduceIte, and_true, and_false, true_and, false_and, Nat.reduceEqDiff, Int.reduceEq, hs.kd, hs.ln, hs.fs, kMs, lMs, ge_K]); first | done | omega)) only [rF_ok, wF_ok, oK_ok, lA_ok, rA_ok, wA_ok, cI_ok, cV_ok, cL_ok, cR_ok, kd_sF, kd_sA, gA_sF, gF_sA, gF_sF, gA_sA, bk_0, bk_1, List.length_set, reduceIte, and_true, and_false, true_and, false_and, ne_eq, not_true_eq_false, not_false_eq_true, Int.toNat_natCast, Int.reduceToNat, Nat.reduceEqDiff, Int.reduceEq, Int.reduceLT, Int.reduceLE, Int.reduceAdd, Int.reduceSub, Int.reduceMul, Int.reduceNeg, hs.kd, hs.ln, hs.fs, kMs, lMs, ge_K, m_passes X (show a.1 ≤ 400 by omega), ho]
      have e29 : ∀ L : Int, (L = if live = 0 then 0 else if u = 0 then 1 else 0) → X12_testOf_28 (D + 2) (ge s ((B : Int) + (a.1 + 1 : Nat)) (evV a.2.2.2 ρ live b).2) 98 live u 98 L = X12_testOf_6 (D + 2) (ge s ((B : Int) + q.1) (evV q.2.2.2 ρ L (evV a.2.2.2 ρ live b).2).2) 98 live (if u = 0 then (if w = 0 then 0 else 1) else 1) := by
        intro L hL
        rw [← hL] at k5
        rw [e_X12_testOf_28]
        simp (disch := ((try simp only [kd_sF, kd_sA, gA_sF, gA_sA, gF_sF, gF_sA, List.length_set, reduceIte, and_true, and_false, true_and, false_and, Nat.reduceEqDiff, Int.reduceEq, hs.kd, hs.ln, hs.fs, kMs, lMs, ge_K]); first | done | omega)) only [rF_ok, wF_ok, oK_ok, lA_ok, rA_ok, wA_ok, cI_ok, cV_ok, cL_ok, cR_ok, kd_sF, kd_sA, gA_sF, gF_sA, gF_sF, gA_sA, bk_0, bk_1, List.length_set, reduceIte, and_true, and_false, true_and, false_and, ne_eq, not_true_eq_false, not_false_eq_true, Int.toNat_natCast, Int.reduceToNat, Nat.reduceEqDiff, Int.reduceEq, Int.reduceLT, Int.reduceLE, Int.reduceAdd, Int.reduceSub, Int.reduceMul, Int.reduceNeg, hs.kd, hs.ln, hs.fs, kMs, lMs, ge_K, k5]
        rcases hu.1 with rfl | rfl <;> rcases hw.1 with rfl | rfl <;> rfl
      rcases hl with rfl | rfl
      · exact e29 0 rfl
      · rcases hu.1 with rfl | rfl
        · exact e29 1 rfl
        · exact e29 0 rfl
    · rw [if_neg ho] at h
      cases h
      refine ⟨⟨by omega, by omega⟩, h3, fun live b u hl hb hu => ⟨u, hu, ?_⟩⟩
      rw [e_X12_testOf_6]
      simp (disch := ((try simp only [kd_sF, kd_sA, gA_sF, gA_sA, gF_sF, gF_sA, List.length_set, reduceIte, and_true, and_false, true_and, false_and, Nat.reduceEqDiff, Int.reduceEq, hs.kd, hs.ln, hs.fs, kMs, lMs, ge_K]); first | done | omega)) only [rF_ok, wF_ok, oK_ok, lA_ok, rA_ok, wA_ok, cI_ok, cV_ok, cL_ok, cR_ok, kd_sF, kd_sA, gA_sF, gF_sA, gF_sF, gA_sA, bk_0, bk_1, List.length_set, reduceIte, and_true, and_false, true_and, false_and, ne_eq, not_true_eq_false, not_false_eq_true, Int.toNat_natCast, Int.reduceToNat, Nat.reduceEqDiff, Int.reduceEq, Int.reduceLT, Int.reduceLE, Int.reduceAdd, Int.reduceSub, Int.reduceMul, Int.reduceNeg, hs.kd, hs.ln, hs.fs, kMs, lMs, ge_K, m_passes X (show a.1 ≤ 400 by omega), ho, bk_b hu.1]
theorem m_both (X : EvX s B nt c v fw lw ρ) {br sm : PP} {D i l : Nat} {r : PV} (hi : i ≤ nt) (hone : ∀ i l a, i ≤ nt → pPlain c br sm i l = .ok a → MTp s B nt ρ (fun t live => X12_plainOf (D + 1) t 98 live) i a) (h : pBoth c br sm i l = .ok r) : MTp s B nt ρ (fun t live => X12_bothOf (D + 2) t 98 live) i r := by
  have hs := X.1
  have hnt := X.2.2.2.1
  unfold pBoth at h
  obtain ⟨a, ha, h⟩ := bnd_ok.mp h
  obtain ⟨⟨k1, k2⟩, k3, k4⟩ := hone _ _ _ hi ha
  obtain ⟨⟨g1, g2⟩, g3, g4⟩ := m_skA X hone 401 a r (by omega) (by omega) k3 h
  refine ⟨⟨by omega, g2⟩, g3, fun live b hl hb => ?_⟩
  obtain ⟨u, hu, q4⟩ := k4 live b hl hb
  obtain ⟨x, hx, g5⟩ := g4 live b u hl hb hu
  refine ⟨x, hx, ?_⟩
  dsimp only at q4 ⊢
  rw [e_X12_bothOf]
  simp (disch := ((try simp only [kd_sF, kd_sA, gA_sF, gA_sA, gF_sF, gF_sA, List.length_set, reduceIte, and_true, and_false, true_and, false_and, Nat.reduceEqDiff, Int.reduceEq, hs.kd, hs.ln, hs.fs, kMs, lMs, ge_K]); first | done | omega)) only [rF_ok, wF_ok, oK_ok, lA_ok, rA_ok, wA_ok, cI_ok, cV_ok, cL_ok, cR_ok, kd_sF, kd_sA, gA_sF, gF_sA, gF_sF, gA_sA, bk_0, bk_1, List.length_set, reduceIte, and_true, and_false, true_and, false_and, ne_eq, not_true_eq_false, not_false_eq_true, Int.toNat_natCast, Int.reduceToNat, Nat.reduceEqDiff, Int.reduceEq, Int.reduceLT, Int.reduceLE, Int.reduceAdd, Int.reduceSub, Int.reduceMul, Int.reduceNeg, hs.kd, hs.ln, hs.fs, kMs, lMs, ge_K, q4]
  exact g5
theorem m_testG (X : EvX s B nt c v fw lw ρ) {br sm : PP} {D : Nat} (hb : ∀ i l a, i < nt → br i l = .ok a → MTp s B nt ρ (fun t live => X12_testOf (D + 1) t 98 live) (i + 1) a) (hsm : ∀ i l a, sm i l = .ok a → MSp s B nt ρ (fun t live => X12_sumOf (D + 1) t 98 live) i a) {i l : Nat} {r : PV} (hi : i ≤ nt) (h : pTestG c br sm i l = .ok r) : MTp s B nt ρ (fun t live => X12_testOf (D + 5) t 98 live) i r := by
  have hs := X.1
  have hnt := X.2.2.2.1
  unfold pTestG at h
  obtain ⟨a, ha, h⟩ := bnd_ok.mp h
  have hpos : ∀ i l a, pPos c br sm i l = .ok a → MTp s B nt ρ (fun t live => X12_positiveOf (D + 2) t 98 live) i a := fun i l a h => by
    by_cases e : c i = 140
    · exact m_pos X (fun a h => hb i l a (ev_in X (by omega)) h) hsm h
    · have : pPos c (fun i _ => .error i) sm i l = .ok a := by
        unfold pPos at h ⊢
        rw [if_neg e] at h ⊢
        exact h
      exact m_pos X (fun a h => by cases h) hsm this
  have hone : ∀ i l a, i ≤ nt → pBoth c br sm i l = .ok a → MTp s B nt ρ (fun t live => X12_bothOf (D + 4) t 98 live) i a := fun i l a hi h => m_both X hi (fun i l a hi h => m_plain (D := D + 1) X hi hpos h) h
  obtain ⟨⟨k1, k2⟩, k3, k4⟩ := hone _ _ _ hi ha
  obtain ⟨⟨g1, g2⟩, g3, g4⟩ := m_skO (D := D + 3) X hone 401 a r (by omega) (by omega) k3 h
  refine ⟨⟨by omega, g2⟩, g3, fun live b hl hb => ?_⟩
  obtain ⟨u, hu, q4⟩ := k4 live b hl hb
  obtain ⟨x, hx, g5⟩ := g4 live b u hl hb hu
  refine ⟨x, hx, ?_⟩
  dsimp only at q4 ⊢
  rw [e_X12_testOf]
  simp (disch := ((try simp only [kd_sF, kd_sA, gA_sF, gA_sA, gF_sF, gF_sA, List.length_set, reduceIte, and_true, and_false, true_and, false_and, Nat.reduceEqDiff, Int.reduceEq, hs.kd, hs.ln, hs.fs, kMs, lMs, ge_K]); first | done | omega)) only [rF_ok, wF_ok, oK_ok, lA_ok, rA_ok, wA_ok, cI_ok, cV_ok, cL_ok, cR_ok, kd_sF, kd_sA, gA_sF, gF_sA, gF_sF, gA_sA, bk_0, bk_1, List.length_set, reduceIte, and_true, and_false, true_and, false_and, ne_eq, not_true_eq_false, not_false_eq_true, Int.toNat_natCast, Int.reduceToNat, Nat.reduceEqDiff, Int.reduceEq, Int.reduceLT, Int.reduceLE, Int.reduceAdd, Int.reduceSub, Int.reduceMul, Int.reduceNeg, hs.kd, hs.ln, hs.fs, kMs, lMs, ge_K, q4]
  exact g5
theorem m_test (X : EvX s B nt c v fw lw ρ) : ∀ (k D i l : Nat) (r : PV), i ≤ nt → pTest c v fw lw k i l = .ok r → MTp s B nt ρ (fun t live => X12_testOf (D + 4 * k + 12) t 98 live) i r
  | 0, D, i, l, r, hi, h => m_testG (D := D + 7) X (fun i l a _ h => by cases h) (fun i l a h => m_sum X 0 (D + 3) i l a h) hi h
  | k + 1, D, i, l, r, hi, h => m_testG (D := D + 4 * k + 11) X (fun i l a hi h => m_test X k D (i + 1) l a (by omega) h) (fun i l a h => by
      have := m_sum X (k + 1) (D + k + 4) i l a h
      rw [show D + k + 4 + 3 * (k + 1) + 5 = D + 4 * k + 11 + 1 by omega] at this
      exact this) hi h
end MEU
