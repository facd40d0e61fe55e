/-! ===== the class runs an order once ===== -/
abbrev OS : Type := Ab × Int × Int
def actO (h x y : Int) (a : Ab) : Int × Ab := if h = 20 then dLay a y x else if h = 22 then dThr a x else if h = 23 then dDrw a x else dMir a x
def onceO (q : Cl) (σ : OS) : Option OS := if q.2.2.2.2.2 (envO σ.1 σ.2.1 σ.2.2) = some 1 then (match q.2.2.1.2 (envO σ.1 σ.2.1 σ.2.2) with
    | some x => (match q.2.2.2.1.2 (envO σ.1 σ.2.1 σ.2.2) with
      | some y => if (actO q.1 x y σ.1).1 < 0 then none else some ((actO q.1 x y σ.1).2, σ.2.1 + 1, (actO q.1 x y σ.1).1)
      | none => none)
    | none => none) else some σ
def roA : List Int := [32, 33, 11, 12, 13, 15, 17, 19, 21, 23, 25, 27, 29, 76, 77]
section CRN
variable {s s' : St} {a : Ab} {d : Nat} {dn lt : Int} {c v : Nat → Int} {nt : Nat} {cls : List Cl}
theorem k_clO {ρ : Nat → Int} {S : St} (X : RkX S 63 64 65 76 77 ρ 27) (hv : ∀ i, 0 ≤ v i) {i l : Nat} {r : Nat × Nat × Cl} (hl : l ≤ 50) (h : pClO c v i l = .ok r) : ClOk S 63 64 65 76 77 ρ r.2.2 ∧ r.2.1 ≤ 50 := by
  have hf : ((14 : Int) = 8 ∧ (19 : Int) = 13 ∧ (27 : Nat) = 6) ∨ ((14 : Int) = 14 ∧ (19 : Int) = 19 ∧ (27 : Nat) = 27) := Or.inr ⟨rfl, rfl, rfl⟩
  have tm : ∀ (i l : Nat) (h0 : Int) (x y : Cd × Dn) (r : Nat × Nat × Cl), l ≤ 50 → PcOk S 63 64 65 76 77 ρ x → PcOk S 63 64 65 76 77 ρ y → pTm c v (pTest c v 14 19 8) i l h0 x y = .ok r → ClOk S 63 64 65 76 77 ρ r.2.2 ∧ r.2.1 ≤ 50 := by
    intro i l h0 x y r hl hx hy hp
    unfold pTm at hp
    split at hp
    · split at hp
      · obtain ⟨g1, g2, -⟩ := k_if X hf hv hl hx hy hp
        exact ⟨g1, g2⟩
      · cases hp
    · obtain ⟨g1, g2, -⟩ := k_if X hf hv hl hx hy hp
      exact ⟨g1, g2⟩
  unfold pClO at h
  split at h
  · obtain ⟨b, h1, h2⟩ := bnd_ok.mp h
    obtain ⟨k1, k2⟩ := k_sum X hf hv 8 _ _ _ h1
    have k3 := lv_sum 8 _ _ _ hl h1
    split at h2
    · obtain ⟨e, h3, h4⟩ := bnd_ok.mp h2
      obtain ⟨k4, k5⟩ := k_sum X hf hv 8 _ _ _ h3
      have k6 := lv_sum 8 _ _ _ k3 h3
      exact tm _ _ _ _ _ _ k6 (Or.inr ⟨_, by omega, k2⟩) (Or.inr ⟨_, by omega, k5⟩) h4
    · cases h2
  · split at h
    · obtain ⟨b, h1, h2⟩ := bnd_ok.mp h
      obtain ⟨k1, k2⟩ := k_sum X hf hv 8 _ _ _ h1
      have k3 := lv_sum 8 _ _ _ hl h1
      exact tm _ _ _ _ _ _ k3 (Or.inr ⟨_, by omega, k2⟩) (Or.inl rfl) h2
    · cases h
theorem pc_ok {ρ : Nat → Int} {S : St} {x : Cd × Dn} (h : PcOk S 63 64 65 76 77 ρ x) : okV x.2 ρ := by
  rcases h with h | ⟨m, -, h⟩
  · rw [h]; intro z hz; cases hz; decide
  · exact h.1
theorem orB_1 {x : Option Int} (h : ∀ z, x = some z → -1000000000 ≤ z ∧ z ≤ 1000000000) : (orB x = -2147483648 ↔ x = none) ∧ ∀ z, x = some z → orB x = z := by
  cases x with
  | none => exact ⟨⟨fun _ => rfl, fun _ => rfl⟩, fun z hz => by cases hz⟩
  | some y =>
    have := h y rfl
    refine ⟨⟨fun e => ?_, fun e => by cases e⟩, fun z hz => by cases hz; rfl⟩
    have e' : y = -2147483648 := e
    omega
theorem wf_actO {h x y : Int} (W : wfA a) : wfA (actO h x y a).2 ∧ ((actO h x y a).1 < 0 → (actO h x y a).1 = -1 ∨ (actO h x y a).1 = -2 ∨ (actO h x y a).1 = -3 ∨ (actO h x y a).1 = -5 ∨ (actO h x y a).1 = -6) := by
  unfold actO
  split
  · exact wf_dLay W
  split
  · exact wf_dThr W
  split
  · exact wf_dDrw W
  · exact wf_dMir W
theorem actO_r {h x y : Int} (W : wfA a) : -6 ≤ (actO h x y a).1 ∧ (actO h x y a).1 ≤ 13 := by
  have kl : ∀ q, 0 ≤ q ∧ q < (a.1.1.length : Int) → kLen (knQ a.1 q) ≤ 12 := fun q hq => (wfKn_q W.1 hq).2.2.2.2.1
  unfold actO dLay dThr dDrw dMir
  split
  · split
    · dsimp only; omega
    split
    · dsimp only; omega
    split
    · dsimp only; omega
    split
    · dsimp only; omega
    split
    · dsimp only; omega
    · rename_i h2 _ _ _
      have := kl y (Decidable.not_not.mp h2)
      dsimp only
      omega
  split
  · split
    · dsimp only; omega
    split
    · dsimp only; omega
    · rename_i h2 _
      have := kl x (Decidable.not_not.mp h2)
      dsimp only
      omega
  split
  · split
    · dsimp only; omega
    split
    · dsimp only; omega
    · rename_i h2 _
      have := kl x (Decidable.not_not.mp h2)
      split <;> dsimp only <;> omega
  · split
    · dsimp only; omega
    · rename_i h2
      have := kl x (Decidable.not_not.mp h2)
      dsimp only
      omega
/-- what running once leaves -/
def OnR (s : St) (x : Int) (r : Option OS) (a : Ab) (s' : St) : Prop := FrK [6] kQs roA s s' ∧ (match r with
  | none => x = 0 ∧ RepC a s'
  | some σ => x = 1 ∧ RepC σ.1 s' ∧ (gA s' 76).getD 1 0 = σ.2.1 ∧ (gA s' 76).getD 2 0 = σ.2.2)
theorem c_191 {z : Int} {s0 : St} {b : Ab} (R : RepC b s) (W : wfA b) (F : FrK [6] kQs roA s0 s) (hz : -6 ≤ z ∧ z ≤ 13) (hd : 0 ≤ dn ∧ dn ≤ 900) (h1 : (gA s 76).getD 1 0 = dn) (ha : z < 0 → b = a) : Gl (GI fun x s' => OnR s0 x (if z < 0 then none else some (b, dn + 1, z)) a s') (X6_runOnce_191 d s 75 z) := by
  have hs := R.1
  have l76 : (gA s 76).length = 27 := hs.2.1 76 (by decide) (by decide)
  rw [e_X6_runOnce_191]
  by_cases e : z < 0
  · rw [if_pos e, if_pos e]
    exact reI ⟨F, rfl, by rw [← ha e]; exact R⟩
  · rw [if_neg e, if_neg e]
    have R1 := R.w76 (k := 1) (x := dn + 1) W (by decide) (by omega)
    have R2 := R1.w76 (k := 2) (x := z) W (by decide) (by omega)
    rw [gA_eq] at R2
    simp (disch := ((try simp only [kd_sF, kd_sA, gA_sF, gA_sA, gF_sF, gF_sA, List.length_set, reduceIte, and_true, and_false, true_and, false_and, Nat.reduceEqDiff, Int.reduceEq, hs.o75]); first | done | omega)) only [rF_ok, wF_ok, oK_ok, lA_ok, rA_ok, wA_ok, cI_ok, cV_ok, cL_ok, cR_ok, kd_sF, kd_sA, gA_sF, gF_sA, gF_sF, gA_sA, bk_0, bk_1, List.length_set, reduceIte, and_true, and_false, true_and, false_and, ne_eq, not_true_eq_false, not_false_eq_true, Int.toNat_natCast, Int.reduceToNat, Nat.reduceEqDiff, Int.reduceEq, Int.reduceLT, Int.reduceLE, Int.reduceAdd, Int.reduceSub, Int.reduceMul, Int.reduceNeg, hs.o75, h1, wi_sm]
    refine reI ⟨F.tr ((FrK.sA _ (by decide)).tr (FrK.sA _ (by decide))), rfl, R2, ?_, ?_⟩
    · rw [gA_eq, set_ne (by decide), set_eq (by omega)]
    · rw [gA_eq, set_eq (by rw [List.length_set]; omega)]
end CRN
