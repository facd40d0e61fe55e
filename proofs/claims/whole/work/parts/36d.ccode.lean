/-! ===== what a text is read to is code that means it ===== -/
section CC
variable {s : St} {v0 po pa w st : Int} {ρ : Nat → Int} {wl : Nat} {c v : Nat → Int} {fw lw : Int}
def Ck (s : St) (v0 po pa w st : Int) (ρ : Nat → Int) (l : Nat) (r : PV) : Prop := l < r.2.1 ∧ CdOk s v0 po pa w st ρ (r.2.1 - l) r.2.2.1 r.2.2.2
theorem k_part (X : RkX s v0 po pa w st ρ wl) (hf : (fw = 8 ∧ lw = 13 ∧ wl = 6) ∨ (fw = 14 ∧ lw = 19 ∧ wl = 27)) (hv : ∀ i, 0 ≤ v i) {br : PP} {i l : Nat} {r : PV} (hb : ∀ a, br i l = .ok a → Ck s v0 po pa w st ρ l a) (h : pPart c v fw lw br i l = .ok r) : Ck s v0 po pa w st ρ l r := by
  unfold pPart at h
  by_cases e1 : c i = 191
  · rw [if_pos e1] at h
    obtain ⟨a, ha, h⟩ := bnd_ok.mp h
    by_cases e2 : c a.1 = 193
    · rw [if_pos e2] at h
      cases h
      exact hb a ha
    · rw [if_neg e2] at h; cases h
  · rw [if_neg e1] at h
    by_cases e2 : (c i = 50 ∧ v i ≤ 1000) ∨ (fw ≤ c i ∧ c i ≤ lw)
    · rw [if_pos e2] at h
      by_cases e3 : l = 50
      · rw [if_pos e3] at h; cases h
      rw [if_neg e3] at h
      have hm : l + 1 - l = 1 := by omega
      by_cases e4 : c i = 50
      · rw [if_pos e4] at h
        cases h
        refine ⟨by dsimp only; omega, ?_⟩
        dsimp only
        rw [hm]
        have := hv i
        exact ck_push X (by omega)
      · rw [if_neg e4] at h
        have e2b : fw ≤ c i ∧ c i ≤ lw := e2.resolve_left fun q => e4 q.1
        by_cases e6 : 17 ≤ c i ∧ c i ≤ 19
        · rw [if_pos e6] at h
          by_cases e7 : c (i + 1) = 50 ∧ v (i + 1) ≤ 7
          · rw [if_pos e7] at h
            cases h
            have := hv (i + 1)
            refine ⟨by dsimp only; omega, ?_⟩
            dsimp only
            rw [hm]
            have hk := ck_word X (k := (3 + 8 * (c i - 17) + v (i + 1)).toNat) (by omega)
            rw [i2n (by omega)] at hk
            exact hk
          · rw [if_neg e7] at h; cases h
        · rw [if_neg e6] at h
          cases h
          refine ⟨by dsimp only; omega, ?_⟩
          dsimp only
          rw [hm]
          have hk := ck_word X (k := (c i - fw).toNat) (by omega)
          rw [i2n (by omega)] at hk
          exact hk
    · rw [if_neg e2] at h; cases h
theorem k_chn (X : RkX s v0 po pa w st ρ wl) {one : PP} {opf : Int → Int} (ho : ∀ x, opf x ≠ 0 → 5 ≤ opf x ∧ opf x ≤ 12) (hone : ∀ i l a, one i l = .ok a → Ck s v0 po pa w st ρ l a) {l0 : Nat} :
    ∀ (f : Nat) (a r : PV), Ck s v0 po pa w st ρ l0 a → pChn one c opf f a = .ok r → Ck s v0 po pa w st ρ l0 r
  | 0, a, r, ha, h => by cases h; exact ha
  | f + 1, a, r, ha, h => by
    unfold pChn at h
    by_cases e : opf (c a.1) = 0
    · rw [if_pos e] at h; cases h; exact ha
    · rw [if_neg e] at h
      obtain ⟨b, hb, h⟩ := bnd_ok.mp h
      obtain ⟨b1, b2⟩ := hone _ _ _ hb
      obtain ⟨a1, a2⟩ := ha
      refine k_chn X ho hone f _ r ⟨by dsimp only; omega, ?_⟩ h
      dsimp only
      have := ck_join X (ho _ e) a2 b2
      rw [show a.2.1 - l0 + (b.2.1 - a.2.1) = b.2.1 - l0 by omega] at this
      exact this
theorem opM_r (x : Int) (h : opM x ≠ 0) : 5 ≤ opM x ∧ opM x ≤ 12 := by rcases (opM_7 h).1 with q | q | q <;> rw [q] <;> decide
theorem opA_r (x : Int) (h : opA x ≠ 0) : 5 ≤ opA x ∧ opA x ≤ 12 := by rcases (opA_5 h).1 with q | q <;> rw [q] <;> decide
theorem k_sumG (X : RkX s v0 po pa w st ρ wl) (hf : (fw = 8 ∧ lw = 13 ∧ wl = 6) ∨ (fw = 14 ∧ lw = 19 ∧ wl = 27)) (hv : ∀ i, 0 ≤ v i) {br : PP} (hb : ∀ i l a, br i l = .ok a → Ck s v0 po pa w st ρ l a) {i l : Nat} {r : PV} (h : pSumG c v fw lw br i l = .ok r) : Ck s v0 po pa w st ρ l r := by
  have ht : ∀ i l a, pTerm c v fw lw br i l = .ok a → Ck s v0 po pa w st ρ l a := fun i l a h => by
    unfold pTerm at h
    obtain ⟨a, ha, h⟩ := bnd_ok.mp h
    exact k_chn X opM_r (fun i l a h => k_part X hf hv (hb i l) h) 401 _ _ (k_part X hf hv (hb _ _) ha) h
  unfold pSumG at h
  obtain ⟨a, ha, h⟩ := bnd_ok.mp h
  exact k_chn X opA_r ht 401 _ _ (ht _ _ _ ha) h
theorem k_sum (X : RkX s v0 po pa w st ρ wl) (hf : (fw = 8 ∧ lw = 13 ∧ wl = 6) ∨ (fw = 14 ∧ lw = 19 ∧ wl = 27)) (hv : ∀ i, 0 ≤ v i) : ∀ (k i l : Nat) (r : PV), pSum c v fw lw k i l = .ok r → Ck s v0 po pa w st ρ l r
  | 0, i, l, r, h => k_sumG X hf hv (fun i l a h => by cases h) h
  | k + 1, i, l, r, h => k_sumG X hf hv (fun i l a h => k_sum X hf hv k (i + 1) l a h) h
def CkB (s : St) (v0 po pa w st : Int) (ρ : Nat → Int) (l : Nat) (r : PV) : Prop := Ck s v0 po pa w st ρ l r ∧ okB1 r.2.2.2 ρ
theorem k_pos (X : RkX s v0 po pa w st ρ wl) {br sm : PP} (hb : ∀ i l a, br i l = .ok a → CkB s v0 po pa w st ρ l a) (hsm : ∀ i l a, sm i l = .ok a → Ck s v0 po pa w st ρ l a) {i l : Nat} {r : PV} (h : pPos c br sm i l = .ok r) : CkB s v0 po pa w st ρ l r := by
  unfold pPos at h
  by_cases e1 : c i = 140
  · rw [if_pos e1] at h
    obtain ⟨a, ha, h⟩ := bnd_ok.mp h
    by_cases e2 : c a.1 = 141
    · rw [if_pos e2] at h
      cases h
      exact hb _ _ a ha
    · rw [if_neg e2] at h; cases h
  · rw [if_neg e1] at h
    obtain ⟨a, ha, h⟩ := bnd_ok.mp h
    by_cases e2 : cmO (c a.1) = 0
    · rw [if_pos e2] at h; cases h
    rw [if_neg e2] at h
    obtain ⟨b, hb1, h⟩ := bnd_ok.mp h
    cases h
    obtain ⟨a1, a2⟩ := hsm _ _ _ ha
    obtain ⟨b1, b2⟩ := hsm _ _ _ hb1
    refine ⟨⟨by dsimp only; omega, ?_⟩, fun x hx => ?_⟩
    · dsimp only
      have := ck_join X (o := cmO (c a.1)) (by rcases cmO_7 e2 with q | q | q <;> rw [q] <;> decide) a2 b2
      rw [show a.2.1 - l + (b.2.1 - a.2.1) = b.2.1 - l by omega] at this
      exact this
    · dsimp only at hx
      unfold jD at hx
      split at hx
      · cases hx
      · split at hx
        · cases hx
        · obtain ⟨z, hz, hz2⟩ := jcm (a := _) (b := _) e2
          rw [hz] at hx
          cases hx
          exact hz2
theorem k_plain (X : RkX s v0 po pa w st ρ wl) {br sm : PP} (hp : ∀ i l a, pPos c br sm i l = .ok a → CkB s v0 po pa w st ρ l a) {i l : Nat} {r : PV} (h : pPlain c br sm i l = .ok r) : CkB s v0 po pa w st ρ l r := by
  unfold pPlain at h
  obtain ⟨a, ha, h⟩ := bnd_ok.mp h
  cases h
  obtain ⟨⟨a1, a2⟩, a3⟩ := hp _ _ _ ha
  cases (pNots c 401 i false).2 with
  | false => exact ⟨⟨a1, a2⟩, a3⟩
  | true =>
    refine ⟨⟨a1, ck_not X a2 a3⟩, fun x hx => ?_⟩
    simp only [reduceIte] at hx
    unfold negD at hx
    split at hx
    · cases hx
    · rename_i y hy
      cases hx
      rcases a3 y hy with rfl | rfl <;> simp
theorem k_sk (X : RkX s v0 po pa w st ρ wl) {one : PP} {wd op : Int} {jd : Dn → Dn → Dn} (hop : op = 3 ∧ jd = orD ∨ op = 4 ∧ jd = andD) (hone : ∀ i l a, one i l = .ok a → CkB s v0 po pa w st ρ l a) {l0 : Nat} :
    ∀ (f : Nat) (a r : PV), CkB s v0 po pa w st ρ l0 a → pSk one c wd op jd f a = .ok r → CkB s v0 po pa w st ρ l0 r
  | 0, a, r, ha, h => by cases h; exact ha
  | f + 1, a, r, ha, h => by
    unfold pSk at h
    by_cases e : c a.1 = wd
    · rw [if_pos e] at h
      obtain ⟨b, hb, h⟩ := bnd_ok.mp h
      obtain ⟨⟨b1, b2⟩, b3⟩ := hone _ _ _ hb
      obtain ⟨⟨a1, a2⟩, a3⟩ := ha
      refine k_sk X hop hone f _ r ⟨⟨by dsimp only; omega, ?_⟩, ?_⟩ h
      · dsimp only
        have := ck_skip X (op := op) (by rcases hop with ⟨q, -⟩ | ⟨q, -⟩ <;> simp [q]) a2 a3 b2
        rw [show a.2.1 - l0 + (b.2.1 - a.2.1) = b.2.1 - l0 by omega] at this
        rcases hop with ⟨rfl, rfl⟩ | ⟨rfl, rfl⟩ <;> exact this
      · dsimp only
        rcases hop with ⟨rfl, rfl⟩ | ⟨rfl, rfl⟩
        · exact or_ok a3 b3
        · exact and_ok a3 b3
    · rw [if_neg e] at h; cases h; exact ha
theorem k_testG (X : RkX s v0 po pa w st ρ wl) {br sm : PP} (hb : ∀ i l a, br i l = .ok a → CkB s v0 po pa w st ρ l a) (hsm : ∀ i l a, sm i l = .ok a → Ck s v0 po pa w st ρ l a) {i l : Nat} {r : PV} (h : pTestG c br sm i l = .ok r) : CkB s v0 po pa w st ρ l r := by
  have hpl : ∀ i l a, pPlain c br sm i l = .ok a → CkB s v0 po pa w st ρ l a := fun i l a h => k_plain X (fun i l a h => k_pos X hb hsm h) h
  have hbo : ∀ i l a, pBoth c br sm i l = .ok a → CkB s v0 po pa w st ρ l a := fun i l a h => by
    unfold pBoth at h
    obtain ⟨a, ha, h⟩ := bnd_ok.mp h
    exact k_sk X (Or.inr ⟨rfl, rfl⟩) hpl 401 _ _ (hpl _ _ _ ha) h
  unfold pTestG at h
  obtain ⟨a, ha, h⟩ := bnd_ok.mp h
  exact k_sk X (Or.inl ⟨rfl, rfl⟩) hbo 401 _ _ (hbo _ _ _ ha) h
theorem k_test (X : RkX s v0 po pa w st ρ wl) (hf : (fw = 8 ∧ lw = 13 ∧ wl = 6) ∨ (fw = 14 ∧ lw = 19 ∧ wl = 27)) (hv : ∀ i, 0 ≤ v i) : ∀ (k i l : Nat) (r : PV), pTest c v fw lw k i l = .ok r → CkB s v0 po pa w st ρ l r
  | 0, i, l, r, h => k_testG X (fun i l a h => by cases h) (fun i l a h => k_sum X hf hv 0 i l a h) h
  | k + 1, i, l, r, h => k_testG X (fun i l a h => k_test X hf hv k (i + 1) l a h) (fun i l a h => k_sum X hf hv (k + 1) i l a h) h
end CC
