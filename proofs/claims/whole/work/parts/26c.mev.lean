/-! ===== the reference reckons tests, and what a law tells ===== -/
def okB1 (dn : Dn) (ρ : Nat → Int) : Prop := ∀ x, dn ρ = some x → x = 0 ∨ x = 1
def relT (dn : Dn) (ρ : Nat → Int) (live b x : Int) : Prop := (x = 0 ∨ x = 1) ∧ (live = 1 → b = 0 → ∀ y, dn ρ = some y → x = y)
def MTp (s : St) (B nt : Nat) (ρ : Nat → Int) (f : St → Int → Res) (i : Nat) (r : PV) : Prop :=
  (i < r.1 ∧ r.1 ≤ nt) ∧ okB1 r.2.2.2 ρ ∧ ∀ live b : Int, (live = 0 ∨ live = 1) → (b = 0 ∨ b = 1) → ∃ x, relT r.2.2.2 ρ live b x ∧ f (ge s ((B : Int) + i) b) live = some ([(0, x)], ge s ((B : Int) + r.1) (evV r.2.2.2 ρ live b).2)
theorem cmO_0 {x : Int} : cmO x = 0 ↔ (x ≠ 160 ∧ x ≠ 162 ∧ x ≠ 161) := by
  unfold cmO
  constructor
  · intro h
    repeat' split at h
    all_goals first | omega | cases h
  · intro h
    rw [if_neg h.1, if_neg h.2.1, if_neg h.2.2]
theorem cmO_7 {x : Int} (h : cmO x ≠ 0) : (x = 160 ∨ x = 162 ∨ x = 161) := by
  unfold cmO at *
  repeat' split at h
  all_goals simp_all
theorem jcm {o a b : Int} (h : cmO o ≠ 0) : ∃ x, jnd (cmO o) a b = some x ∧ (x = 0 ∨ x = 1) := by
  rcases cmO_7 h with rfl | rfl | rfl
  · exact ⟨if a < b then 1 else 0, rfl, by split <;> simp⟩
  · exact ⟨if b < a then 1 else 0, rfl, by split <;> simp⟩
  · exact ⟨if a = b then 1 else 0, rfl, by split <;> simp⟩
theorem evc {ρ : Nat → Int} {o live b : Int} {x y : Dn} (ho : cmO o ≠ 0) (hl : live = 0 ∨ live = 1) (hb : b = 0 ∨ b = 1) : (evV y ρ live (evV x ρ live b).2).2 = (evV (jD (cmO o) x y) ρ live b).2 := by
  rcases hl with rfl | rfl
  · simp [evV]
  · rcases hb with rfl | rfl
    · cases e1 : x ρ with
      | none => simp [evV, oV, jD, e1]
      | some a => cases e2 : y ρ with
        | none => simp [evV, oV, jD, e1, e2]
        | some w =>
          obtain ⟨z, hz, -⟩ := jcm (a := a) (b := w) ho
          simp [evV, oV, jD, e1, e2, hz]
    · simp [evV]
theorem evn {ρ : Nat → Int} {live b : Int} {x : Dn} : (evV (negD x) ρ live b).2 = (evV x ρ live b).2 := by
  unfold evV negD
  split
  · rfl
  · cases e1 : x ρ <;> simp [oV]
theorem lcm_lt (x y : Int) : (lcm x y < 0) = (x < y) := by
  unfold lcm
  by_cases h : y < x
  · rw [if_pos h]; exact propext ⟨fun q => by omega, fun q => by omega⟩
  · rw [if_neg h]
    by_cases e : x = y
    · rw [if_pos e]; exact propext ⟨fun q => by omega, fun q => by omega⟩
    · rw [if_neg e]; exact propext ⟨fun q => by omega, fun q => by omega⟩
theorem lcm_gt (x y : Int) : (0 < lcm x y) = (y < x) := by
  unfold lcm
  by_cases h : y < x
  · rw [if_pos h]; exact propext ⟨fun q => by omega, fun q => by omega⟩
  · rw [if_neg h]
    by_cases e : x = y
    · rw [if_pos e]; exact propext ⟨fun q => by omega, fun q => by omega⟩
    · rw [if_neg e]; exact propext ⟨fun q => by omega, fun q => by omega⟩
theorem lcm_0 (x y : Int) : (lcm x y = 0) = (x = y) := by
  unfold lcm
  by_cases h : y < x
  · rw [if_pos h]; exact propext ⟨fun q => by omega, fun q => by omega⟩
  · rw [if_neg h]
    by_cases e : x = y
    · rw [if_pos e]; exact propext ⟨fun q => by omega, fun q => by omega⟩
    · rw [if_neg e]; exact propext ⟨fun q => by omega, fun q => by omega⟩
section MET
variable {s : St} {B nt : Nat} {c v : Nat → Int} {fw lw : Int} {ρ : Nat → Int}
theorem m_pos (X : EvX s B nt c v fw lw ρ) {br sm : PP} {D i l : Nat} {r : PV} (hb : ∀ a, br i l = .ok a → MTp s B nt ρ (fun t live => X12_testOf (D + 1) t 98 live) (i + 1) a) (hsm : ∀ i l a, sm i l = .ok a → MSp s B nt ρ (fun t live => X12_sumOf (D + 1) t 98 live) i a) (h : pPos c br sm i l = .ok r) : MTp s B nt ρ (fun t live => X12_positiveOf (D + 2) t 98 live) i r := by
  have hs := X.1
  have hnt := X.2.2.2.1
  have hB := X.2.2.2.2.1
  unfold pPos at h
  by_cases e1 : c i = 140
  · rw [if_pos e1] at h
    have hi := ev_in X (j := i) (by omega)
    obtain ⟨a, ha, h⟩ := bnd_ok.mp h
    obtain ⟨⟨q1, q2⟩, q3, q4⟩ := hb a ha
    by_cases e2 : c a.1 = 141
    · rw [if_pos e2] at h
      cases h
      have hj := ev_in X (j := a.1) (by omega)
      refine ⟨⟨by dsimp only; omega, by dsimp only; omega⟩, q3, fun live b hl hb => ?_⟩
      obtain ⟨x, q5, q6⟩ := q4 live b hl hb
      refine ⟨x, q5, ?_⟩
      dsimp only at q6 ⊢
      rw [e_X12_positiveOf]
      simp (disch := ((try simp only [kd_sF, kd_sA, gA_sF, gA_sA, gF_sF, gF_sA, List.length_set, reduceIte, and_true, and_false, true_and, false_and, Nat.reduceEqDiff, Int.reduceEq, hs.kd, hs.ln, hs.fs, kMs, lMs, ge_K]); first | done | omega)) only [rF_ok, wF_ok, oK_ok, lA_ok, rA_ok, wA_ok, cI_ok, cV_ok, cL_ok, cR_ok, kd_sF, kd_sA, gA_sF, gF_sA, gF_sF, gA_sA, bk_0, bk_1, List.length_set, reduceIte, and_true, and_false, true_and, false_and, ne_eq, not_true_eq_false, not_false_eq_true, Int.toNat_natCast, Int.reduceToNat, Nat.reduceEqDiff, Int.reduceEq, Int.reduceLT, Int.reduceLE, Int.reduceAdd, Int.reduceSub, Int.reduceMul, Int.reduceNeg, hs.kd, hs.ln, hs.fs, kMs, lMs, ge_K, e_X12_sign, wi_sm, m_passes X (show i ≤ 400 by omega), e1, q6, ge_22, ge_g, bk_b q5.1]
      rw [show (B : Int) + a.1 + 1 = B + (a.1 + 1 : Nat) by omega]
    · rw [if_neg e2] at h; cases h
  · rw [if_neg e1] at h
    obtain ⟨a, ha, h⟩ := bnd_ok.mp h
    obtain ⟨⟨q1, q2⟩, q3, q4⟩ := hsm _ _ _ ha
    by_cases e2 : cmO (c a.1) = 0
    · rw [if_pos e2] at h; cases h
    rw [if_neg e2] at h
    obtain ⟨b1, hb1, h⟩ := bnd_ok.mp h
    obtain ⟨⟨p1, p2⟩, p3, p4⟩ := hsm _ _ _ hb1
    cases h
    have hj : a.1 < nt := by omega
    refine ⟨⟨by dsimp only; omega, by dsimp only; omega⟩, fun x hx => ?_, fun live b hl hb => ?_⟩
    · dsimp only at hx
      unfold jD at hx
      split at hx
      · cases hx
      · split at hx
        · cases hx
        · obtain ⟨z, hz, hz2⟩ := jcm (a := _) (b := _) e2
          rw [hz] at hx
          cases hx
          exact hz2
    · have q5 := q4 live b hl hb
      have w2 := evV_b (dn := a.2.2.2) (ρ := ρ) (live := live) hb
      have p5 := p4 live _ hl w2
      have w4 := evV_b (dn := b1.2.2.2) (ρ := ρ) (live := live) w2
      dsimp only at q5 p5 ⊢
      rw [e_X12_positiveOf, ← evc e2 hl hb]
      have e8 : (B : Int) + a.1 + 1 = B + (a.1 + 1 : Nat) := by omega
      simp (disch := ((try simp only [kd_sF, kd_sA, gA_sF, gA_sA, gF_sF, gF_sA, List.length_set, reduceIte, and_true, and_false, true_and, false_and, Nat.reduceEqDiff, Int.reduceEq, hs.kd, hs.ln, hs.fs, kMs, lMs, ge_K]); first | done | omega)) only [rF_ok, wF_ok, oK_ok, lA_ok, rA_ok, wA_ok, cI_ok, cV_ok, cL_ok, cR_ok, kd_sF, kd_sA, gA_sF, gF_sA, gF_sF, gA_sA, bk_0, bk_1, List.length_set, reduceIte, and_true, and_false, true_and, false_and, ne_eq, not_true_eq_false, not_false_eq_true, Int.toNat_natCast, Int.reduceToNat, Nat.reduceEqDiff, Int.reduceEq, Int.reduceLT, Int.reduceLE, Int.reduceAdd, Int.reduceSub, Int.reduceMul, Int.reduceNeg, hs.kd, hs.ln, hs.fs, kMs, lMs, ge_K, e_X12_sign, wi_sm, m_passes X (show i ≤ 400 by omega), e1, q5, ge_22, ge_g, m_codeAt X (show a.1 ≤ 400 by omega)]
      rw [e8, p5, cL_ok]
      rcases hl with rfl | rfl
      · exact ⟨0, ⟨Or.inl rfl, fun q => by omega⟩, rfl⟩
      · rcases w4 with w5 | w5
        · simp (disch := ((try simp only [kd_sF, kd_sA, gA_sF, gA_sA, gF_sF, gF_sA, List.length_set, reduceIte, and_true, and_false, true_and, false_and, Nat.reduceEqDiff, Int.reduceEq, hs.kd, hs.ln, hs.fs, kMs, lMs, ge_K, ge_24]); first | done | omega)) only [rF_ok, wF_ok, oK_ok, lA_ok, rA_ok, wA_ok, cI_ok, cV_ok, cL_ok, cR_ok, kd_sF, kd_sA, gA_sF, gF_sA, gF_sF, gA_sA, bk_0, bk_1, List.length_set, reduceIte, and_true, and_false, true_and, false_and, ne_eq, not_true_eq_false, not_false_eq_true, Int.toNat_natCast, Int.reduceToNat, Nat.reduceEqDiff, Int.reduceEq, Int.reduceLT, Int.reduceLE, Int.reduceAdd, Int.reduceSub, Int.reduceMul, Int.reduceNeg, hs.kd, hs.ln, hs.fs, kMs, lMs, ge_K, ge_24, w5, e_X12_sign, wi_sm]
          generalize hx : (evV a.2.2.2 ρ 1 b).1 = x
          generalize hy : (evV b1.2.2.2 ρ 1 (evV a.2.2.2 ρ 1 b).2).1 = y
          have key : ∀ z : Int, jnd (cmO (c a.1)) x y = some z → b = 0 → ∀ u, jD (cmO (c a.1)) a.2.2.2 b1.2.2.2 ρ = some u → z = u := by
            intro z hz hb0 u hu
            subst hb0
            unfold jD at hu
            cases e5 : a.2.2.2 ρ with
            | none => rw [e5] at hu; cases hu
            | some x' =>
              rw [e5] at hu
              cases e6 : b1.2.2.2 ρ with
              | none => rw [e6] at hu; cases hu
              | some y' =>
                rw [e6] at hu
                have ex : x = x' := by rw [← hx]; simp [evV, oV, e5]
                have ey : y = y' := by rw [← hy]; simp [evV, oV, e5, e6]
                rw [ex, ey] at hz
                exact Option.some.inj (hz.symm.trans hu)
          simp only [lcm_lt, lcm_gt, lcm_0]
          rcases cmO_7 e2 with o | o | o
          · rw [o, if_pos rfl]
            rw [o] at key
            by_cases hlt : x < y
            · rw [if_pos hlt]
              exact ⟨1, ⟨Or.inr rfl, fun _ => key 1 (by simp [jnd, cmO, hlt])⟩, rfl⟩
            · rw [if_neg hlt]
              exact ⟨0, ⟨Or.inl rfl, fun _ => key 0 (by simp [jnd, cmO, hlt])⟩, rfl⟩
          · rw [o, if_neg (by decide), if_pos rfl]
            rw [o] at key
            by_cases hlt : y < x
            · rw [if_pos hlt]
              exact ⟨1, ⟨Or.inr rfl, fun _ => key 1 (by simp [jnd, cmO, hlt])⟩, rfl⟩
            · rw [if_neg hlt]
              exact ⟨0, ⟨Or.inl rfl, fun _ => key 0 (by simp [jnd, cmO, hlt])⟩, rfl⟩
          · rw [o, if_neg (by decide), if_neg (by decide)]
            rw [o] at key
            by_cases hlt : x = y
            · rw [if_pos hlt]
              exact ⟨1, ⟨Or.inr rfl, fun _ => key 1 (by simp [jnd, cmO, hlt])⟩, rfl⟩
            · rw [if_neg hlt]
              exact ⟨0, ⟨Or.inl rfl, fun _ => key 0 (by simp [jnd, cmO, hlt])⟩, rfl⟩
        · simp (disch := ((try simp only [kd_sF, kd_sA, gA_sF, gA_sA, gF_sF, gF_sA, List.length_set, reduceIte, and_true, and_false, true_and, false_and, Nat.reduceEqDiff, Int.reduceEq, hs.kd, hs.ln, hs.fs, kMs, lMs, ge_K, ge_24]); first | done | omega)) only [rF_ok, wF_ok, oK_ok, lA_ok, rA_ok, wA_ok, cI_ok, cV_ok, cL_ok, cR_ok, kd_sF, kd_sA, gA_sF, gF_sA, gF_sF, gA_sA, bk_0, bk_1, List.length_set, reduceIte, and_true, and_false, true_and, false_and, ne_eq, not_true_eq_false, not_false_eq_true, Int.toNat_natCast, Int.reduceToNat, Nat.reduceEqDiff, Int.reduceEq, Int.reduceLT, Int.reduceLE, Int.reduceAdd, Int.reduceSub, Int.reduceMul, Int.reduceNeg, hs.kd, hs.ln, hs.fs, kMs, lMs, ge_K, ge_24, w5]
          refine ⟨0, ⟨Or.inl rfl, fun _ hb0 u hu => ?_⟩, rfl⟩
          exfalso
          subst hb0
          rw [evc e2 (Or.inr rfl) (Or.inl rfl)] at w5
          simp [evV, oV, hu] at w5
theorem pNots_in (X : EvX s B nt c v fw lw ρ) : ∀ (f i : Nat) (b : Bool), i ≤ nt → i ≤ (pNots c f i b).1 ∧ (pNots c f i b).1 ≤ nt
  | 0, i, b, h => ⟨Nat.le_refl _, h⟩
  | f + 1, i, b, h => by
    unfold pNots
    by_cases e : c i = 7
    · rw [if_pos e]
      have := ev_in X (j := i) (by omega)
      have := pNots_in X f (i + 1) (!b) (by omega)
      omega
    · rw [if_neg e]; exact ⟨Nat.le_refl _, h⟩
theorem m_nots (X : EvX s B nt c v fw lw ρ) {D : Nat} {live b : Int} : ∀ (f i : Nat) (n : Bool), i ≤ nt → nt ≤ i + f → X12_plainOf_2 (D + 2) (ge s ((B : Int) + i) b) 98 live (if n then 1 else 0) = oK (ge s ((B : Int) + (pNots c f i n).1) b) 98 16 (cI (X12_positiveOf (D + 1) (ge s ((B : Int) + (pNots c f i n).1) b) 98 live) fun x2 s2 => if x2 = (if (pNots c f i n).2 then 1 else 0) then some ([(0, 0)], s2) else some ([(0, 1)], s2))
  | 0, i, n, h1, h2 => by
    have hs := X.1
    have hnt := X.2.2.2.1
    have h0 : c i ≠ 7 := fun e => by have := ev_in X (j := i) (by omega); omega
    rw [e_X12_plainOf_2]
    simp (disch := ((try simp only [kd_sF, kd_sA, gA_sF, gA_sA, gF_sF, gF_sA, List.length_set, reduceIte, and_true, and_false, true_and, false_and, Nat.reduceEqDiff, Int.reduceEq, hs.kd, hs.ln, hs.fs, kMs, lMs, ge_K]); first | done | omega)) only [rF_ok, wF_ok, oK_ok, lA_ok, rA_ok, wA_ok, cI_ok, cV_ok, cL_ok, cR_ok, kd_sF, kd_sA, gA_sF, gF_sA, gF_sF, gA_sA, bk_0, bk_1, List.length_set, reduceIte, and_true, and_false, true_and, false_and, ne_eq, not_true_eq_false, not_false_eq_true, Int.toNat_natCast, Int.reduceToNat, Nat.reduceEqDiff, Int.reduceEq, Int.reduceLT, Int.reduceLE, Int.reduceAdd, Int.reduceSub, Int.reduceMul, Int.reduceNeg, hs.kd, hs.ln, hs.fs, kMs, lMs, ge_K, m_passes X (show i ≤ 400 by omega), h0, pNots]
    rfl
  | f + 1, i, n, h1, h2 => by
    have hs := X.1
    have hnt := X.2.2.2.1
    by_cases e : c i = 7
    · have := ev_in X (j := i) (by omega)
      have ih := m_nots X (D := D) (live := live) (b := b) f (i + 1) (!n) (by omega) (by omega)
      have e2 : pNots c (f + 1) i n = pNots c f (i + 1) (!n) := by rw [pNots, if_pos e]
      rw [e2, ← ih, e_X12_plainOf_2]
      simp (disch := ((try simp only [kd_sF, kd_sA, gA_sF, gA_sA, gF_sF, gF_sA, List.length_set, reduceIte, and_true, and_false, true_and, false_and, Nat.reduceEqDiff, Int.reduceEq, hs.kd, hs.ln, hs.fs, kMs, lMs, ge_K]); first | done | omega)) only [rF_ok, wF_ok, oK_ok, lA_ok, rA_ok, wA_ok, cI_ok, cV_ok, cL_ok, cR_ok, kd_sF, kd_sA, gA_sF, gF_sA, gF_sF, gA_sA, bk_0, bk_1, List.length_set, reduceIte, and_true, and_false, true_and, false_and, ne_eq, not_true_eq_false, not_false_eq_true, Int.toNat_natCast, Int.reduceToNat, Nat.reduceEqDiff, Int.reduceEq, Int.reduceLT, Int.reduceLE, Int.reduceAdd, Int.reduceSub, Int.reduceMul, Int.reduceNeg, hs.kd, hs.ln, hs.fs, kMs, lMs, ge_K, m_passes X (show i ≤ 400 by omega), e]
      cases n <;> rfl
    · have e2 : pNots c (f + 1) i n = (i, n) := by rw [pNots, if_neg e]
      rw [e2, e_X12_plainOf_2]
      simp (disch := ((try simp only [kd_sF, kd_sA, gA_sF, gA_sA, gF_sF, gF_sA, List.length_set, reduceIte, and_true, and_false, true_and, false_and, Nat.reduceEqDiff, Int.reduceEq, hs.kd, hs.ln, hs.fs, kMs, lMs, ge_K]); first | done | omega)) only [rF_ok, wF_ok, oK_ok, lA_ok, rA_ok, wA_ok, cI_ok, cV_ok, cL_ok, cR_ok, kd_sF, kd_sA, gA_sF, gF_sA, gF_sF, gA_sA, bk_0, bk_1, List.length_set, reduceIte, and_true, and_false, true_and, false_and, ne_eq, not_true_eq_false, not_false_eq_true, Int.toNat_natCast, Int.reduceToNat, Nat.reduceEqDiff, Int.reduceEq, Int.reduceLT, Int.reduceLE, Int.reduceAdd, Int.reduceSub, Int.reduceMul, Int.reduceNeg, hs.kd, hs.ln, hs.fs, kMs, lMs, ge_K, m_passes X (show i ≤ 400 by omega), e]
theorem m_plain (X : EvX s B nt c v fw lw ρ) {br sm : PP} {D i l : Nat} {r : PV} (hi : i ≤ nt) (hp : ∀ i l a, pPos c br sm i l = .ok a → MTp s B nt ρ (fun t live => X12_positiveOf (D + 1) t 98 live) i a) (h : pPlain c br sm i l = .ok r) : MTp s B nt ρ (fun t live => X12_plainOf (D + 2) t 98 live) i r := by
  have hs := X.1
  have hnt := X.2.2.2.1
  unfold pPlain at h
  have hN := pNots_in X 401 i false hi
  have hM := fun live b => m_nots X (D := D) (live := live) (b := b) 401 i false hi (by omega)
  generalize pNots c 401 i false = q at *
  obtain ⟨a, ha, h⟩ := bnd_ok.mp h
  obtain ⟨⟨q1, q2⟩, q3, q4⟩ := hp _ _ _ ha
  cases h
  refine ⟨⟨by dsimp only; omega, q2⟩, ?_, fun live b hl hb => ?_⟩
  · dsimp only
    cases q.2 with
    | false => exact q3
    | true =>
      intro x hx
      show x = 0 ∨ x = 1
      simp only [reduceIte] at hx
      unfold negD at hx
      split at hx
      · cases hx
      · rename_i y hy
        cases hx
        rcases q3 y hy with rfl | rfl <;> simp
  · obtain ⟨x, q5, q6⟩ := q4 live b hl hb
    have hM2 := hM live b
    dsimp only at q6 ⊢
    rw [e_X12_plainOf]
    have e0 : X12_plainOf_2 (D + 2) (ge s ((B : Int) + i) b) 98 live 0 = _ := hM2
    rw [e0]
    simp (disch := ((try simp only [kd_sF, kd_sA, gA_sF, gA_sA, gF_sF, gF_sA, List.length_set, reduceIte, and_true, and_false, true_and, false_and, Nat.reduceEqDiff, Int.reduceEq, hs.kd, hs.ln, hs.fs, kMs, lMs, ge_K]); first | done | omega)) only [rF_ok, wF_ok, oK_ok, lA_ok, rA_ok, wA_ok, cI_ok, cV_ok, cL_ok, cR_ok, kd_sF, kd_sA, gA_sF, gF_sA, gF_sF, gA_sA, bk_0, bk_1, List.length_set, reduceIte, and_true, and_false, true_and, false_and, ne_eq, not_true_eq_false, not_false_eq_true, Int.toNat_natCast, Int.reduceToNat, Nat.reduceEqDiff, Int.reduceEq, Int.reduceLT, Int.reduceLE, Int.reduceAdd, Int.reduceSub, Int.reduceMul, Int.reduceNeg, hs.kd, hs.ln, hs.fs, kMs, lMs, ge_K, q6]
    obtain ⟨q7, q8⟩ := q5
    cases hq : q.2 with
    | false =>
      simp only [Bool.false_eq_true, reduceIte]
      rcases q7 with rfl | rfl
      · exact ⟨0, ⟨Or.inl rfl, q8⟩, rfl⟩
      · exact ⟨1, ⟨Or.inr rfl, q8⟩, rfl⟩
    | true =>
      simp only [reduceIte]
      rw [evn]
      have key : ∀ z : Int, z = 1 - x → live = 1 → b = 0 → ∀ y, negD a.2.2.2 ρ = some y → z = y := by
        intro z hz h1 h2 y hy
        unfold negD at hy
        split at hy
        · cases hy
        · rename_i w hw
          cases hy
          rw [hz, q8 h1 h2 w hw]
      rcases q7 with rfl | rfl
      · exact ⟨1, ⟨Or.inr rfl, key 1 rfl⟩, rfl⟩
      · exact ⟨0, ⟨Or.inl rfl, key 0 rfl⟩, rfl⟩
end MET
