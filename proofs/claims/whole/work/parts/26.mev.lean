/-! ===== the reference reckons along its tokens ===== -/
def ge (s : St) (g b : Int) : St := sF (sF s 98 22 g) 98 24 b
theorem sF_cm {s : St} {p : Int} {j k : Nat} {u v : Int} (h : j ≠ k) : sF (sF s p j u) p k v = sF (sF s p k v) p j u := by
  unfold sF
  simp only [Prod.mk.injEq, true_and, and_true]
  funext q i
  by_cases h1 : q = p ∧ i = k
  · rw [if_pos h1, if_neg (fun e => h (e.2.symm.trans h1.2)), if_pos h1]
  · rw [if_neg h1, if_neg h1]
theorem sF_ov {s : St} {p : Int} {k : Nat} {u v : Int} : sF (sF s p k u) p k v = sF s p k v := by
  unfold sF
  simp only [Prod.mk.injEq, true_and, and_true]
  funext q i
  by_cases h1 : q = p ∧ i = k
  · rw [if_pos h1, if_pos h1]
  · rw [if_neg h1, if_neg h1, if_neg h1]
theorem sF_id {s : St} {p : Int} {k : Nat} : sF s p k (gF s p k) = s := by
  unfold sF gF
  have : (fun q j => if q = p ∧ j = k then s.2.1 p k else s.2.1 q j) = s.2.1 := by
    funext q j
    by_cases h : q = p ∧ j = k
    · rw [if_pos h, h.1, h.2]
    · rw [if_neg h]
  rw [this]
theorem ge_g (s : St) (g b g' : Int) : sF (ge s g b) 98 22 g' = ge s g' b := by
  unfold ge
  rw [sF_cm (by decide), sF_ov]
theorem ge_b (s : St) (g b b' : Int) : sF (ge s g b) 98 24 b' = ge s g b' := by
  unfold ge
  rw [sF_ov]
theorem ge_id (s : St) : ge s (gF s 98 22) (gF s 98 24) = s := by
  unfold ge
  rw [sF_id, sF_id]
theorem ge_22 (s : St) (g b : Int) : gF (ge s g b) 98 22 = g := Eq.trans rfl rfl
theorem ge_24 (s : St) (g b : Int) : gF (ge s g b) 98 24 = b := Eq.trans rfl rfl
theorem ge_A (s : St) (g b p : Int) : gA (ge s g b) p = gA s p := Eq.trans rfl rfl
theorem ge_K (s : St) (g b p : Int) : kd (ge s g b) p = kd s p := Eq.trans rfl rfl
theorem ge_8 (s : St) (g b : Int) : gF (ge s g b) 98 8 = gF s 98 8 := Eq.trans rfl rfl
theorem ge_23 (s : St) (g b : Int) : gF (ge s g b) 98 23 = gF s 98 23 := Eq.trans rfl rfl
theorem ge_2 (s : St) (g b : Int) : gF (ge s g b) 98 2 = gF s 98 2 := Eq.trans rfl rfl
theorem ge_25 (s : St) (g b : Int) : gF (ge s g b) 98 25 = gF s 98 25 := Eq.trans rfl rfl
theorem ge_26 (s : St) (g b : Int) : gF (ge s g b) 98 26 = gF s 98 26 := Eq.trans rfl rfl
/-- what is there while tokens are gone along -/
def EvX (s : St) (B nt : Nat) (c v : Nat → Int) (fw lw : Int) (ρ : Nat → Int) : Prop :=
  ShM s ∧ gF s 98 23 = B + nt ∧ gF s 98 8 = fw ∧ nt ≤ 400 ∧ B ≤ 2400 ∧ (∀ i, c i = if i < nt then (gA s 100).getD (181 + B + i) 0 else 0) ∧ (∀ i, i < nt → v i = (gA s 100).getD (2981 + B + i) 0) ∧
  ((fw = 8 ∧ lw = 13) ∨ (fw = 14 ∧ lw = 19)) ∧ (∀ k, k < 6 → k < 3 ∨ lw = 13 → ρ k = (gA s 110).getD k 0) ∧ (lw = 19 → ∀ k, k < 24 → ρ (3 + k) = (gA s 111).getD k 0) ∧ (∀ k, -1000000000 ≤ ρ k ∧ ρ k ≤ 1000000000) ∧ (∀ i, i < nt → 0 ≤ v i)
def oV (o : Option Int) : Int × Int := match o with
  | some x => (x, 0)
  | none => (0, 1)
def evV (dn : Dn) (ρ : Nat → Int) (live b : Int) : Int × Int := if live = 0 ∨ b ≠ 0 then (0, b) else oV (dn ρ)
section MEV
variable {s : St} {B nt : Nat} {c v : Nat → Int} {fw lw : Int} {ρ : Nat → Int}
theorem m_codeAt {d : Nat} {i : Nat} {b : Int} {g : Int} (X : EvX s B nt c v fw lw ρ) (hi : i ≤ 400) : X12_codeAt d (ge s g b) 98 ((B : Int) + i) = some ([(0, c i)], ge s g b) := by
  obtain ⟨hs, h23, h8, hnt, hB, hc, hv, -⟩ := X
  rw [e_X12_codeAt, hc i]
  simp (disch := ((try simp only [kd_sF, kd_sA, gA_sF, gA_sA, gF_sF, gF_sA, List.length_set, reduceIte, and_true, and_false, true_and, false_and, Nat.reduceEqDiff, Int.reduceEq, hs.kd, hs.ln, hs.fs, kMs, lMs, ge_K, ge_A, ge_23, ge_2]); first | done | omega)) only [rF_ok, wF_ok, oK_ok, lA_ok, rA_ok, wA_ok, cI_ok, cV_ok, cL_ok, cR_ok, kd_sF, kd_sA, gA_sF, gF_sA, gF_sF, gA_sA, bk_0, bk_1, List.length_set, reduceIte, and_true, and_false, true_and, false_and, ne_eq, not_true_eq_false, not_false_eq_true, Int.toNat_natCast, Int.reduceToNat, Nat.reduceEqDiff, Int.reduceEq, Int.reduceLT, Int.reduceLE, Int.reduceAdd, Int.reduceSub, Int.reduceMul, Int.reduceNeg, hs.kd, hs.ln, hs.fs, kMs, lMs, ge_K, ge_A, ge_23, ge_2, h23]
  by_cases h : i < nt
  · rw [if_pos (by omega), if_pos h]
    simp (disch := ((try simp only [kd_sF, kd_sA, gA_sF, gA_sA, gF_sF, gF_sA, List.length_set, reduceIte, and_true, and_false, true_and, false_and, Nat.reduceEqDiff, Int.reduceEq, hs.kd, hs.ln, hs.fs, kMs, lMs, ge_K, ge_A]); first | done | omega)) only [rF_ok, wF_ok, oK_ok, lA_ok, rA_ok, wA_ok, cI_ok, cV_ok, cL_ok, cR_ok, kd_sF, kd_sA, gA_sF, gF_sA, gF_sF, gA_sA, bk_0, bk_1, List.length_set, reduceIte, and_true, and_false, true_and, false_and, ne_eq, not_true_eq_false, not_false_eq_true, Int.toNat_natCast, Int.reduceToNat, Nat.reduceEqDiff, Int.reduceEq, Int.reduceLT, Int.reduceLE, Int.reduceAdd, Int.reduceSub, Int.reduceMul, Int.reduceNeg, hs.kd, hs.ln, hs.fs, kMs, lMs, ge_K, ge_A, wi_sm]
    rw [show ((181 : Int) + (B + i)).toNat = 181 + B + i by omega]
  · rw [if_neg (by omega), if_neg h]
theorem m_passes {d : Nat} {i : Nat} {b w : Int} (X : EvX s B nt c v fw lw ρ) (hi : i ≤ 400) : X12_passes0 (d + 1) (ge s ((B : Int) + i) b) 98 w = if c i = w then some ([(0, 1)], ge s ((B : Int) + (i + 1 : Nat)) b) else some ([(0, 0)], ge s ((B : Int) + i) b) := by
  have X' := X
  obtain ⟨hs, h23, h8, hnt, hB, -⟩ := X
  rw [e_X12_passes0]
  simp (disch := ((try simp only [kd_sF, kd_sA, gA_sF, gA_sA, gF_sF, gF_sA, List.length_set, reduceIte, and_true, and_false, true_and, false_and, Nat.reduceEqDiff, Int.reduceEq, hs.kd, hs.ln, hs.fs, kMs, lMs, ge_K, ge_22]); first | done | omega)) only [rF_ok, wF_ok, oK_ok, lA_ok, rA_ok, wA_ok, cI_ok, cV_ok, cL_ok, cR_ok, kd_sF, kd_sA, gA_sF, gF_sA, gF_sF, gA_sA, bk_0, bk_1, List.length_set, reduceIte, and_true, and_false, true_and, false_and, ne_eq, not_true_eq_false, not_false_eq_true, Int.toNat_natCast, Int.reduceToNat, Nat.reduceEqDiff, Int.reduceEq, Int.reduceLT, Int.reduceLE, Int.reduceAdd, Int.reduceSub, Int.reduceMul, Int.reduceNeg, hs.kd, hs.ln, hs.fs, kMs, lMs, ge_K, ge_22, m_codeAt X' hi]
  by_cases h : c i = w
  · rw [if_pos h, if_pos h]
    simp (disch := omega) only [ge_22, wi_sm, ge_g]
    rw [show (B : Int) + i + 1 = B + (i + 1 : Nat) by omega]
  · rw [if_neg h, if_neg h]
theorem m_bounded {d : Nat} {g b x live : Int} (hs : ShM s) (hx : -9223372036854775808 ≤ x ∧ x < 9223372036854775808) (hb : b = 0 ∨ b = 1) : X12_bounded d (ge s g b) 98 x live = if live ≠ 0 ∧ lim x = none then some ([(2, 0)], ge s g 1) else if b = 0 then some ([(2, x)], ge s g b) else some ([(2, 0)], ge s g b) := by
  rw [e_X12_bounded]
  unfold lim
  by_cases hl : live = 0
  · simp (disch := ((try simp only [kd_sF, kd_sA, gA_sF, gA_sA, gF_sF, gF_sA, List.length_set, reduceIte, and_true, and_false, true_and, false_and, Nat.reduceEqDiff, Int.reduceEq, hs.kd, hs.ln, hs.fs, kMs, lMs, ge_K, ge_24]); first | done | omega)) only [rF_ok, wF_ok, oK_ok, lA_ok, rA_ok, wA_ok, cI_ok, cV_ok, cL_ok, cR_ok, kd_sF, kd_sA, gA_sF, gF_sA, gF_sF, gA_sA, bk_0, bk_1, List.length_set, reduceIte, and_true, and_false, true_and, false_and, ne_eq, not_true_eq_false, not_false_eq_true, Int.toNat_natCast, Int.reduceToNat, Nat.reduceEqDiff, Int.reduceEq, Int.reduceLT, Int.reduceLE, Int.reduceAdd, Int.reduceSub, Int.reduceMul, Int.reduceNeg, hs.kd, hs.ln, hs.fs, kMs, lMs, ge_K, ge_24, e_X12_bounded_25, hl, ge_24, ge_b]
  · rw [if_neg hl]
    unfold lcm
    by_cases h1 : 1000000000 < x
    · rw [if_pos h1, if_neg (show ¬(-1000000000 ≤ x ∧ x ≤ 1000000000) by omega)]
      simp (disch := ((try simp only [kd_sF, kd_sA, gA_sF, gA_sA, gF_sF, gF_sA, List.length_set, reduceIte, and_true, and_false, true_and, false_and, Nat.reduceEqDiff, Int.reduceEq, hs.kd, hs.ln, hs.fs, kMs, lMs, ge_K, ge_24]); first | done | omega)) only [rF_ok, wF_ok, oK_ok, lA_ok, rA_ok, wA_ok, cI_ok, cV_ok, cL_ok, cR_ok, kd_sF, kd_sA, gA_sF, gF_sA, gF_sF, gA_sA, bk_0, bk_1, List.length_set, reduceIte, and_true, and_false, true_and, false_and, ne_eq, not_true_eq_false, not_false_eq_true, Int.toNat_natCast, Int.reduceToNat, Nat.reduceEqDiff, Int.reduceEq, Int.reduceLT, Int.reduceLE, Int.reduceAdd, Int.reduceSub, Int.reduceMul, Int.reduceNeg, hs.kd, hs.ln, hs.fs, kMs, lMs, ge_K, ge_24, e_X12_bounded_25, hl, ge_24, ge_b]
    · rw [if_neg h1]
      by_cases h2 : x < -1000000000
      · rw [if_neg (show ¬(-1000000000 ≤ x ∧ x ≤ 1000000000) by omega), if_neg (show ¬ (-1000000000 < x) by omega), if_neg (show ¬ (x = -1000000000) by omega)]
        have e0 : ¬ ((0 : Int) < if x = 1000000000 then 0 else -1) := by split <;> omega
        rw [if_neg e0]
        simp (disch := ((try simp only [kd_sF, kd_sA, gA_sF, gA_sA, gF_sF, gF_sA, List.length_set, reduceIte, and_true, and_false, true_and, false_and, Nat.reduceEqDiff, Int.reduceEq, hs.kd, hs.ln, hs.fs, kMs, lMs, ge_K, ge_24]); first | done | omega)) only [rF_ok, wF_ok, oK_ok, lA_ok, rA_ok, wA_ok, cI_ok, cV_ok, cL_ok, cR_ok, kd_sF, kd_sA, gA_sF, gF_sA, gF_sF, gA_sA, bk_0, bk_1, List.length_set, reduceIte, and_true, and_false, true_and, false_and, ne_eq, not_true_eq_false, not_false_eq_true, Int.toNat_natCast, Int.reduceToNat, Nat.reduceEqDiff, Int.reduceEq, Int.reduceLT, Int.reduceLE, Int.reduceAdd, Int.reduceSub, Int.reduceMul, Int.reduceNeg, hs.kd, hs.ln, hs.fs, kMs, lMs, ge_K, ge_24, e_X12_bounded_25, hl, ge_24, ge_b]
      · rw [if_pos (show (-1000000000 ≤ x ∧ x ≤ 1000000000) by omega)]
        have e0 : ¬ ((0 : Int) < if x = 1000000000 then 0 else -1) := by split <;> omega
        have e1 : ¬ ((if -1000000000 < x then 1 else if x = -1000000000 then 0 else -1 : Int) < 0) := by
          split
          · omega
          · split <;> omega
        rw [if_neg e0, if_neg e1]
        simp (disch := ((try simp only [kd_sF, kd_sA, gA_sF, gA_sA, gF_sF, gF_sA, List.length_set, reduceIte, and_true, and_false, true_and, false_and, Nat.reduceEqDiff, Int.reduceEq, hs.kd, hs.ln, hs.fs, kMs, lMs, ge_K, ge_24]); first | done | omega)) only [rF_ok, wF_ok, oK_ok, lA_ok, rA_ok, wA_ok, cI_ok, cV_ok, cL_ok, cR_ok, kd_sF, kd_sA, gA_sF, gF_sA, gF_sF, gA_sA, bk_0, bk_1, List.length_set, reduceIte, and_true, and_false, true_and, false_and, ne_eq, not_true_eq_false, not_false_eq_true, Int.toNat_natCast, Int.reduceToNat, Nat.reduceEqDiff, Int.reduceEq, Int.reduceLT, Int.reduceLE, Int.reduceAdd, Int.reduceSub, Int.reduceMul, Int.reduceNeg, hs.kd, hs.ln, hs.fs, kMs, lMs, ge_K, ge_24, e_X12_bounded_25, hl, ge_24, ge_b]
        rcases hb with rfl | rfl <;> rfl
theorem lim_some {x y : Int} (h : lim x = some y) : y = x ∧ -1000000000 ≤ x ∧ x ≤ 1000000000 := by
  unfold lim at h
  split at h
  · cases h; exact ⟨rfl, by omega⟩
  · cases h
theorem jnd_bd {o a b x : Int} (h : jnd o a b = some x) : -1000000000 ≤ x ∧ x ≤ 1000000000 := by
  unfold jnd at h
  repeat' split at h
  all_goals first
    | (have := lim_some h; omega)
    | (cases h; omega)
    | cases h
def okV (dn : Dn) (ρ : Nat → Int) : Prop := ∀ x, dn ρ = some x → -1000000000 ≤ x ∧ x ≤ 1000000000
theorem jD_ok {o : Int} {x y : Dn} : okV (jD o x y) ρ := by
  intro z h
  unfold jD at h
  split at h
  · cases h
  · split at h
    · cases h
    · exact jnd_bd h
theorem evV_bd {dn : Dn} (h : okV dn ρ) (live b : Int) : -1000000000 ≤ (evV dn ρ live b).1 ∧ (evV dn ρ live b).1 ≤ 1000000000 := by
  unfold evV
  split
  · simp
  · cases e : dn ρ with
    | none => simp [oV]
    | some x => exact h x e
theorem evV_b {dn : Dn} {live b : Int} (hb : b = 0 ∨ b = 1) : (evV dn ρ live b).2 = 0 ∨ (evV dn ρ live b).2 = 1 := by
  unfold evV
  split
  · exact hb
  · cases e : dn ρ <;> simp [oV]
/-- what a reading of a sum, a term or a part promises of the reckoning along it: f the method at its depth -/
def MSp (s : St) (B nt : Nat) (ρ : Nat → Int) (f : St → Int → Res) (i : Nat) (r : PV) : Prop :=
  (i < r.1 ∧ r.1 ≤ nt) ∧ okV r.2.2.2 ρ ∧ ∀ live b : Int, (live = 0 ∨ live = 1) → (b = 0 ∨ b = 1) → f (ge s ((B : Int) + i) b) live = some ([(2, (evV r.2.2.2 ρ live b).1)], ge s ((B : Int) + r.1) (evV r.2.2.2 ρ live b).2)
theorem m_part (X : EvX s B nt c v fw lw ρ) {br : PP} {D i l : Nat} {r : PV} (hb : ∀ a, br i l = .ok a → MSp s B nt ρ (fun t live => X12_sumOf (D + 2) t 98 live) (i + 1) a) (h : pPart c v fw lw br i l = .ok r) : MSp s B nt ρ (fun t live => X12_partOf (D + 3) t 98 live) i r := by
  have X' := X
  obtain ⟨hs, h23, h8, hnt, hB, hc, hv, hw, hr1, hr2, hr3, hr4⟩ := X
  have hin : ∀ j, c j ≠ 0 → j < nt := fun j hj => by
    rw [hc j] at hj
    by_cases e : j < nt
    · exact e
    · rw [if_neg e] at hj; exact absurd rfl hj
  unfold pPart at h
  by_cases e1 : c i = 191
  · rw [if_pos e1] at h
    have hi := hin i (by omega)
    obtain ⟨a, ha, h⟩ := bnd_ok.mp h
    obtain ⟨⟨q1, q2⟩, q3, q4⟩ := hb a ha
    by_cases e2 : c a.1 = 193
    · rw [if_pos e2] at h
      cases h
      have hj := hin a.1 (by omega)
      refine ⟨⟨by dsimp only; omega, by dsimp only; omega⟩, q3, fun live b hl hb => ?_⟩
      have q5 := q4 live b hl hb
      dsimp only at q5 ⊢
      rw [e_X12_partOf]
      simp (disch := ((try simp only [kd_sF, kd_sA, gA_sF, gA_sA, gF_sF, gF_sA, List.length_set, reduceIte, and_true, and_false, true_and, false_and, Nat.reduceEqDiff, Int.reduceEq, hs.kd, hs.ln, hs.fs, kMs, lMs, ge_K]); first | done | omega)) only [rF_ok, wF_ok, oK_ok, lA_ok, rA_ok, wA_ok, cI_ok, cV_ok, cL_ok, cR_ok, kd_sF, kd_sA, gA_sF, gF_sA, gF_sF, gA_sA, bk_0, bk_1, List.length_set, reduceIte, and_true, and_false, true_and, false_and, ne_eq, not_true_eq_false, not_false_eq_true, Int.toNat_natCast, Int.reduceToNat, Nat.reduceEqDiff, Int.reduceEq, Int.reduceLT, Int.reduceLE, Int.reduceAdd, Int.reduceSub, Int.reduceMul, Int.reduceNeg, hs.kd, hs.ln, hs.fs, kMs, lMs, ge_K, e_X12_sign, wi_sm, m_passes X' (show i ≤ 400 by omega), e1, q5, ge_22, ge_g]
      rw [show (B : Int) + a.1 + 1 = B + (a.1 + 1 : Nat) by omega]
    · rw [if_neg e2] at h; cases h
  · rw [if_neg e1] at h
    by_cases e2 : (c i = 50 ∧ v i ≤ 1000) ∨ (fw ≤ c i ∧ c i ≤ lw)
    · rw [if_pos e2] at h
      have hi := hin i (by omega)
      by_cases e3 : l = 50
      · rw [if_pos e3] at h; cases h
      rw [if_neg e3] at h
      by_cases e4 : c i = 50
      · rw [if_pos e4] at h
        cases h
        have hvi := hr4 i hi
        refine ⟨⟨by dsimp only; omega, by dsimp only; omega⟩, fun x hx => by cases hx; omega, fun live b hl hb => ?_⟩
        dsimp only
        rw [e_X12_partOf]
        simp (disch := ((try simp only [kd_sF, kd_sA, gA_sF, gA_sA, gF_sF, gF_sA, List.length_set, reduceIte, and_true, and_false, true_and, false_and, Nat.reduceEqDiff, Int.reduceEq, hs.kd, hs.ln, hs.fs, kMs, lMs, ge_K]); first | done | omega)) only [rF_ok, wF_ok, oK_ok, lA_ok, rA_ok, wA_ok, cI_ok, cV_ok, cL_ok, cR_ok, kd_sF, kd_sA, gA_sF, gF_sA, gF_sF, gA_sA, bk_0, bk_1, List.length_set, reduceIte, and_true, and_false, true_and, false_and, ne_eq, not_true_eq_false, not_false_eq_true, Int.toNat_natCast, Int.reduceToNat, Nat.reduceEqDiff, Int.reduceEq, Int.reduceLT, Int.reduceLE, Int.reduceAdd, Int.reduceSub, Int.reduceMul, Int.reduceNeg, hs.kd, hs.ln, hs.fs, kMs, lMs, ge_K, e_X12_sign, wi_sm, m_passes X' (show i ≤ 400 by omega), e4, ge_22, ge_g, m_codeAt X' (show i ≤ 400 by omega)]
        rw [e_X12_partOf_68, if_pos rfl, e_X12_partOf_99]
        have e5 : ((2981 : Int) + (B + i + 1) - 1).toNat = 2981 + B + i := by omega
        rcases hl with rfl | rfl
        · simp (disch := ((try simp only [kd_sF, kd_sA, gA_sF, gA_sA, gF_sF, gF_sA, List.length_set, reduceIte, and_true, and_false, true_and, false_and, Nat.reduceEqDiff, Int.reduceEq, hs.kd, hs.ln, hs.fs, kMs, lMs, ge_K]); first | done | omega)) only [rF_ok, wF_ok, oK_ok, lA_ok, rA_ok, wA_ok, cI_ok, cV_ok, cL_ok, cR_ok, kd_sF, kd_sA, gA_sF, gF_sA, gF_sF, gA_sA, bk_0, bk_1, List.length_set, reduceIte, and_true, and_false, true_and, false_and, ne_eq, not_true_eq_false, not_false_eq_true, Int.toNat_natCast, Int.reduceToNat, Nat.reduceEqDiff, Int.reduceEq, Int.reduceLT, Int.reduceLE, Int.reduceAdd, Int.reduceSub, Int.reduceMul, Int.reduceNeg, hs.kd, hs.ln, hs.fs, kMs, lMs, ge_K, evV, true_or]
          rfl
        · rcases hb with rfl | rfl
          · simp (disch := ((try simp only [kd_sF, kd_sA, gA_sF, gA_sA, gF_sF, gF_sA, List.length_set, reduceIte, and_true, and_false, true_and, false_and, Nat.reduceEqDiff, Int.reduceEq, hs.kd, hs.ln, hs.fs, kMs, lMs, ge_K, ge_A, ge_2]); first | done | omega)) only [rF_ok, wF_ok, oK_ok, lA_ok, rA_ok, wA_ok, cI_ok, cV_ok, cL_ok, cR_ok, kd_sF, kd_sA, gA_sF, gF_sA, gF_sF, gA_sA, bk_0, bk_1, List.length_set, reduceIte, and_true, and_false, true_and, false_and, ne_eq, not_true_eq_false, not_false_eq_true, Int.toNat_natCast, Int.reduceToNat, Nat.reduceEqDiff, Int.reduceEq, Int.reduceLT, Int.reduceLE, Int.reduceAdd, Int.reduceSub, Int.reduceMul, Int.reduceNeg, hs.kd, hs.ln, hs.fs, kMs, lMs, ge_K, ge_A, ge_2, ge_24, ge_22, evV, wi_sm, e5, hv i hi, or_self]
            rfl
          · simp (disch := ((try simp only [kd_sF, kd_sA, gA_sF, gA_sA, gF_sF, gF_sA, List.length_set, reduceIte, and_true, and_false, true_and, false_and, Nat.reduceEqDiff, Int.reduceEq, hs.kd, hs.ln, hs.fs, kMs, lMs, ge_K, ge_A, ge_2]); first | done | omega)) only [rF_ok, wF_ok, oK_ok, lA_ok, rA_ok, wA_ok, cI_ok, cV_ok, cL_ok, cR_ok, kd_sF, kd_sA, gA_sF, gF_sA, gF_sF, gA_sA, bk_0, bk_1, List.length_set, reduceIte, and_true, and_false, true_and, false_and, ne_eq, not_true_eq_false, not_false_eq_true, Int.toNat_natCast, Int.reduceToNat, Nat.reduceEqDiff, Int.reduceEq, Int.reduceLT, Int.reduceLE, Int.reduceAdd, Int.reduceSub, Int.reduceMul, Int.reduceNeg, hs.kd, hs.ln, hs.fs, kMs, lMs, ge_K, ge_A, ge_2, ge_24, ge_22, evV, or_true]
            rfl
      · rw [if_neg e4] at h
        have e2b : fw ≤ c i ∧ c i ≤ lw := e2.resolve_left fun q => e4 q.1
        by_cases e6 : 17 ≤ c i ∧ c i ≤ 19
        · rw [if_pos e6] at h
          by_cases e7 : c (i + 1) = 50 ∧ v (i + 1) ≤ 7
          · rw [if_pos e7] at h
            cases h
            have hi1 := hin (i + 1) (by omega)
            have hvi := hr4 (i + 1) hi1
            refine ⟨⟨by dsimp only; omega, by dsimp only; omega⟩, fun x hx => by cases hx; exact hr3 _, fun live b hl hb => ?_⟩
            dsimp only
            rw [e_X12_partOf]
            have hv1 := hv (i + 1) hi1
            have e5 : ((2981 : Int) + (B + i + 1)).toNat = 2981 + B + (i + 1) := by omega
            have e8 : (B : Int) + i + 1 + 1 = B + (i + 2 : Nat) := by omega
            simp (disch := ((try simp only [kd_sF, kd_sA, gA_sF, gA_sA, gF_sF, gF_sA, List.length_set, reduceIte, and_true, and_false, true_and, false_and, Nat.reduceEqDiff, Int.reduceEq, hs.kd, hs.ln, hs.fs, kMs, lMs, ge_K, ge_A, ge_2]); first | done | omega)) only [rF_ok, wF_ok, oK_ok, lA_ok, rA_ok, wA_ok, cI_ok, cV_ok, cL_ok, cR_ok, kd_sF, kd_sA, gA_sF, gF_sA, gF_sF, gA_sA, bk_0, bk_1, List.length_set, reduceIte, and_true, and_false, true_and, false_and, ne_eq, not_true_eq_false, not_false_eq_true, Int.toNat_natCast, Int.reduceToNat, Nat.reduceEqDiff, Int.reduceEq, Int.reduceLT, Int.reduceLE, Int.reduceAdd, Int.reduceSub, Int.reduceMul, Int.reduceNeg, hs.kd, hs.ln, hs.fs, kMs, lMs, ge_K, ge_A, ge_2, e_X12_sign, wi_sm, m_passes X' (show i ≤ 400 by omega), e1, ge_22, ge_g, m_codeAt X' (show i ≤ 400 by omega), if_neg (show ¬ (c i < 17) by omega), if_neg (show ¬ (19 < c i) by omega)]
            rw [e_X12_partOf_68, if_neg (by decide)]
            simp (disch := ((try simp only [kd_sF, kd_sA, gA_sF, gA_sA, gF_sF, gF_sA, List.length_set, reduceIte, and_true, and_false, true_and, false_and, Nat.reduceEqDiff, Int.reduceEq, hs.kd, hs.ln, hs.fs, kMs, lMs, ge_K, ge_A, ge_2]); first | done | omega)) only [rF_ok, wF_ok, oK_ok, lA_ok, rA_ok, wA_ok, cI_ok, cV_ok, cL_ok, cR_ok, kd_sF, kd_sA, gA_sF, gF_sA, gF_sF, gA_sA, bk_0, bk_1, List.length_set, reduceIte, and_true, and_false, true_and, false_and, ne_eq, not_true_eq_false, not_false_eq_true, Int.toNat_natCast, Int.reduceToNat, Nat.reduceEqDiff, Int.reduceEq, Int.reduceLT, Int.reduceLE, Int.reduceAdd, Int.reduceSub, Int.reduceMul, Int.reduceNeg, hs.kd, hs.ln, hs.fs, kMs, lMs, ge_K, ge_A, ge_2, wi_sm, ge_22, ge_g, e5]
            rw [← hv1, e8, e_X12_partOf_99]
            rcases hl with rfl | rfl
            · simp (disch := ((try simp only [kd_sF, kd_sA, gA_sF, gA_sA, gF_sF, gF_sA, List.length_set, reduceIte, and_true, and_false, true_and, false_and, Nat.reduceEqDiff, Int.reduceEq, hs.kd, hs.ln, hs.fs, kMs, lMs, ge_K]); first | done | omega)) only [rF_ok, wF_ok, oK_ok, lA_ok, rA_ok, wA_ok, cI_ok, cV_ok, cL_ok, cR_ok, kd_sF, kd_sA, gA_sF, gF_sA, gF_sF, gA_sA, bk_0, bk_1, List.length_set, reduceIte, and_true, and_false, true_and, false_and, ne_eq, not_true_eq_false, not_false_eq_true, Int.toNat_natCast, Int.reduceToNat, Nat.reduceEqDiff, Int.reduceEq, Int.reduceLT, Int.reduceLE, Int.reduceAdd, Int.reduceSub, Int.reduceMul, Int.reduceNeg, hs.kd, hs.ln, hs.fs, kMs, lMs, ge_K, evV, true_or]
            · rcases hb with rfl | rfl
              · have e9 : (3 + 8 * (c i - 17) + v (i + 1)).toNat = 3 + (8 * (c i - 17) + v (i + 1)).toNat := by omega
                have e10 := hr2 (by omega) (8 * (c i - 17) + v (i + 1)).toNat (by omega)
                simp (disch := ((try simp only [kd_sF, kd_sA, gA_sF, gA_sA, gF_sF, gF_sA, List.length_set, reduceIte, and_true, and_false, true_and, false_and, Nat.reduceEqDiff, Int.reduceEq, hs.kd, hs.ln, hs.fs, kMs, lMs, ge_K, ge_A, ge_2, ge_26]); first | done | omega)) only [rF_ok, wF_ok, oK_ok, lA_ok, rA_ok, wA_ok, cI_ok, cV_ok, cL_ok, cR_ok, kd_sF, kd_sA, gA_sF, gF_sA, gF_sF, gA_sA, bk_0, bk_1, List.length_set, reduceIte, and_true, and_false, true_and, false_and, ne_eq, not_true_eq_false, not_false_eq_true, Int.toNat_natCast, Int.reduceToNat, Nat.reduceEqDiff, Int.reduceEq, Int.reduceLT, Int.reduceLE, Int.reduceAdd, Int.reduceSub, Int.reduceMul, Int.reduceNeg, hs.kd, hs.ln, hs.fs, kMs, lMs, ge_K, ge_A, ge_2, ge_26, ge_24, ge_22, evV, wi_sm, if_neg e4, or_self, e9, e10]
                rfl
              · simp (disch := ((try simp only [kd_sF, kd_sA, gA_sF, gA_sA, gF_sF, gF_sA, List.length_set, reduceIte, and_true, and_false, true_and, false_and, Nat.reduceEqDiff, Int.reduceEq, hs.kd, hs.ln, hs.fs, kMs, lMs, ge_K, ge_A, ge_2]); first | done | omega)) only [rF_ok, wF_ok, oK_ok, lA_ok, rA_ok, wA_ok, cI_ok, cV_ok, cL_ok, cR_ok, kd_sF, kd_sA, gA_sF, gF_sA, gF_sF, gA_sA, bk_0, bk_1, List.length_set, reduceIte, and_true, and_false, true_and, false_and, ne_eq, not_true_eq_false, not_false_eq_true, Int.toNat_natCast, Int.reduceToNat, Nat.reduceEqDiff, Int.reduceEq, Int.reduceLT, Int.reduceLE, Int.reduceAdd, Int.reduceSub, Int.reduceMul, Int.reduceNeg, hs.kd, hs.ln, hs.fs, kMs, lMs, ge_K, ge_A, ge_2, ge_24, ge_22, evV, or_true]
          · rw [if_neg e7] at h; cases h
        · rw [if_neg e6] at h
          cases h
          refine ⟨⟨by dsimp only; omega, by dsimp only; omega⟩, fun x hx => by cases hx; exact hr3 _, fun live b hl hb => ?_⟩
          dsimp only
          rw [e_X12_partOf]
          have e8 : (B : Int) + i + 1 = B + (i + 1 : Nat) := by omega
          simp (disch := ((try simp only [kd_sF, kd_sA, gA_sF, gA_sA, gF_sF, gF_sA, List.length_set, reduceIte, and_true, and_false, true_and, false_and, Nat.reduceEqDiff, Int.reduceEq, hs.kd, hs.ln, hs.fs, kMs, lMs, ge_K, ge_A, ge_2]); first | done | omega)) only [rF_ok, wF_ok, oK_ok, lA_ok, rA_ok, wA_ok, cI_ok, cV_ok, cL_ok, cR_ok, kd_sF, kd_sA, gA_sF, gF_sA, gF_sF, gA_sA, bk_0, bk_1, List.length_set, reduceIte, and_true, and_false, true_and, false_and, ne_eq, not_true_eq_false, not_false_eq_true, Int.toNat_natCast, Int.reduceToNat, Nat.reduceEqDiff, Int.reduceEq, Int.reduceLT, Int.reduceLE, Int.reduceAdd, Int.reduceSub, Int.reduceMul, Int.reduceNeg, hs.kd, hs.ln, hs.fs, kMs, lMs, ge_K, ge_A, ge_2, e_X12_sign, wi_sm, m_passes X' (show i ≤ 400 by omega), e1, ge_22, ge_g, m_codeAt X' (show i ≤ 400 by omega)]
          rw [e8]
          have e12 : (if c i < 17 then X12_partOf_68 (D + 3) (ge s (B + (i + 1 : Nat)) b) 98 live (c i) 0 0 else if 19 < c i then X12_partOf_68 (D + 3) (ge s (B + (i + 1 : Nat)) b) 98 live (c i) 0 0 else X12_partOf_68 (D + 3) (ge s (B + (i + 1 : Nat)) b) 98 live (c i) 0 1) = X12_partOf_68 (D + 3) (ge s (B + (i + 1 : Nat)) b) 98 live (c i) 0 0 := by
            by_cases q : c i < 17
            · rw [if_pos q]
            · rw [if_neg q, if_pos (by omega)]
          rw [e12, e_X12_partOf_68, if_pos rfl, e_X12_partOf_99]
          rcases hl with rfl | rfl
          · simp (disch := ((try simp only [kd_sF, kd_sA, gA_sF, gA_sA, gF_sF, gF_sA, List.length_set, reduceIte, and_true, and_false, true_and, false_and, Nat.reduceEqDiff, Int.reduceEq, hs.kd, hs.ln, hs.fs, kMs, lMs, ge_K]); first | done | omega)) only [rF_ok, wF_ok, oK_ok, lA_ok, rA_ok, wA_ok, cI_ok, cV_ok, cL_ok, cR_ok, kd_sF, kd_sA, gA_sF, gF_sA, gF_sF, gA_sA, bk_0, bk_1, List.length_set, reduceIte, and_true, and_false, true_and, false_and, ne_eq, not_true_eq_false, not_false_eq_true, Int.toNat_natCast, Int.reduceToNat, Nat.reduceEqDiff, Int.reduceEq, Int.reduceLT, Int.reduceLE, Int.reduceAdd, Int.reduceSub, Int.reduceMul, Int.reduceNeg, hs.kd, hs.ln, hs.fs, kMs, lMs, ge_K, evV, true_or]
          · rcases hb with rfl | rfl
            · have e10 := hr1 (c i - fw).toNat (by omega) (by omega)
              simp (disch := ((try simp only [kd_sF, kd_sA, gA_sF, gA_sA, gF_sF, gF_sA, List.length_set, reduceIte, and_true, and_false, true_and, false_and, Nat.reduceEqDiff, Int.reduceEq, hs.kd, hs.ln, hs.fs, kMs, lMs, ge_K, ge_A, ge_2, ge_25]); first | done | omega)) only [rF_ok, wF_ok, oK_ok, lA_ok, rA_ok, wA_ok, cI_ok, cV_ok, cL_ok, cR_ok, kd_sF, kd_sA, gA_sF, gF_sA, gF_sF, gA_sA, bk_0, bk_1, List.length_set, reduceIte, and_true, and_false, true_and, false_and, ne_eq, not_true_eq_false, not_false_eq_true, Int.toNat_natCast, Int.reduceToNat, Nat.reduceEqDiff, Int.reduceEq, Int.reduceLT, Int.reduceLE, Int.reduceAdd, Int.reduceSub, Int.reduceMul, Int.reduceNeg, hs.kd, hs.ln, hs.fs, kMs, lMs, ge_K, ge_A, ge_2, ge_25, ge_24, ge_22, ge_8, h8, evV, wi_sm, if_neg e4, or_self, e10]
              rfl
            · simp (disch := ((try simp only [kd_sF, kd_sA, gA_sF, gA_sA, gF_sF, gF_sA, List.length_set, reduceIte, and_true, and_false, true_and, false_and, Nat.reduceEqDiff, Int.reduceEq, hs.kd, hs.ln, hs.fs, kMs, lMs, ge_K, ge_A, ge_2]); first | done | omega)) only [rF_ok, wF_ok, oK_ok, lA_ok, rA_ok, wA_ok, cI_ok, cV_ok, cL_ok, cR_ok, kd_sF, kd_sA, gA_sF, gF_sA, gF_sF, gA_sA, bk_0, bk_1, List.length_set, reduceIte, and_true, and_false, true_and, false_and, ne_eq, not_true_eq_false, not_false_eq_true, Int.toNat_natCast, Int.reduceToNat, Nat.reduceEqDiff, Int.reduceEq, Int.reduceLT, Int.reduceLE, Int.reduceAdd, Int.reduceSub, Int.reduceMul, Int.reduceNeg, hs.kd, hs.ln, hs.fs, kMs, lMs, ge_K, ge_A, ge_2, ge_24, ge_22, evV, or_true]
    · rw [if_neg e2] at h; cases h
end MEV
