/-! ===== reading: how long the code is ===== -/
def Bn (one : PP) : Prop := ∀ i l a, l ≤ 50 → one i l = .ok a → i < a.1 ∧ l < a.2.1 ∧ a.2.1 ≤ 50 ∧ a.2.2.1.length + 1 ≤ 2 * (a.2.1 - l)
section PBD
variable {c v : Nat → Int} {fw lw : Int}
theorem bn_part {br : PP} (hb : Bn br) : Bn (pPart c v fw lw br) := by
  intro i l a hl h
  unfold pPart at h
  split at h
  · obtain ⟨b, h1, h2⟩ := bnd_ok.mp h
    have := hb i l b hl h1
    split at h2
    · cases h2
      refine ⟨by dsimp only; omega, ?_⟩
      exact this.2
    · cases h2
  · split at h
    · split at h
      · cases h
      · split at h
        · cases h
          simp
          omega
        · split at h
          · split at h
            · cases h
              simp
              omega
            · cases h
          · cases h
            simp
            omega
    · cases h
theorem bn_chn {one : PP} {opf : Int → Int} (h1 : Bn one) {i0 l0 : Nat} : ∀ (f : Nat) (a r : PV), (i0 < a.1 ∧ l0 < a.2.1 ∧ a.2.1 ≤ 50 ∧ a.2.2.1.length + 1 ≤ 2 * (a.2.1 - l0)) → pChn one c opf f a = .ok r → i0 < r.1 ∧ l0 < r.2.1 ∧ r.2.1 ≤ 50 ∧ r.2.2.1.length + 1 ≤ 2 * (r.2.1 - l0)
  | 0, a, r, ha, h => by cases h; exact ha
  | f + 1, a, r, ha, h => by
    rw [pChn] at h
    split at h
    · cases h; exact ha
    · obtain ⟨b, g1, g2⟩ := bnd_ok.mp h
      have hb := h1 _ _ b ha.2.2.1 g1
      refine bn_chn h1 f _ r ?_ g2
      dsimp only
      rw [List.length_append, List.length_append]
      simp only [List.length_cons, List.length_nil]
      omega
theorem bn_term {br : PP} (hb : Bn br) : Bn (pTerm c v fw lw br) := by
  intro i l a hl h
  unfold pTerm at h
  obtain ⟨b, g1, g2⟩ := bnd_ok.mp h
  exact bn_chn (bn_part hb) 401 b a (bn_part hb i l b hl g1) g2
theorem bn_sumG {br : PP} (hb : Bn br) : Bn (pSumG c v fw lw br) := by
  intro i l a hl h
  unfold pSumG at h
  obtain ⟨b, g1, g2⟩ := bnd_ok.mp h
  exact bn_chn (bn_term hb) 401 b a (bn_term hb i l b hl g1) g2
theorem bn_sum : ∀ k, Bn (pSum c v fw lw k)
  | 0 => bn_sumG (fun i l a _ h => by cases h)
  | k + 1 => bn_sumG (fun i l a hl h => by
    have := bn_sum k (i + 1) l a hl h
    omega)
end PBD
/-- tests: every "not" may be one more -/
def Bt (c : Nat → Int) (one : PP) : Prop := ∀ i l a, l ≤ 50 → one i l = .ok a → i < a.1 ∧ l < a.2.1 ∧ a.2.1 ≤ 50 ∧ a.2.2.1.length + 1 + nN c i ≤ 2 * (a.2.1 - l) + nN c a.1
section PBT
variable {c v : Nat → Int} {fw lw : Int}
theorem bt_pos {br sm : PP} (hb : Bt c br) (hs : Bn sm) : Bt c (pPos c br sm) := by
  intro i l a hl h
  unfold pPos at h
  split at h
  · obtain ⟨b, h1, h2⟩ := bnd_ok.mp h
    have := hb i l b hl h1
    split at h2
    · cases h2
      have m := nN_mono (c := c) (i := b.1) (j := b.1 + 1) (by omega)
      refine ⟨by dsimp only; omega, this.2.1, this.2.2.1, ?_⟩
      dsimp only
      omega
    · cases h2
  · obtain ⟨b, h1, h2⟩ := bnd_ok.mp h
    have hb1 := hs i l b hl h1
    split at h2
    · cases h2
    · obtain ⟨e, h3, h4⟩ := bnd_ok.mp h2
      have hb2 := hs _ _ e hb1.2.2.1 h3
      cases h4
      have m := nN_mono (c := c) (i := i) (j := e.1) (by omega)
      refine ⟨by dsimp only; omega, by dsimp only; omega, hb2.2.2.1, ?_⟩
      dsimp only
      rw [List.length_append, List.length_append]
      simp only [List.length_cons, List.length_nil]
      omega
theorem pNots_n : ∀ (f i : Nat) (b : Bool), i ≤ (pNots c f i b).1 ∧ ((pNots c f i b).2 = true → b = true ∨ nN c i + 1 ≤ nN c (pNots c f i b).1)
  | 0, i, b => ⟨Nat.le_refl _, fun h => Or.inl h⟩
  | f + 1, i, b => by
    rw [pNots]
    split
    · rename_i e
      obtain ⟨h1, h2⟩ := pNots_n f (i + 1) (!b)
      have hn : nN c (i + 1) = nN c i + 1 := by rw [nN, if_pos e]
      have m := nN_mono (c := c) h1
      exact ⟨by omega, fun h => Or.inr (by omega)⟩
    · exact ⟨Nat.le_refl _, fun h => Or.inl h⟩
theorem bt_plain {br sm : PP} (hb : Bt c br) (hs : Bn sm) : Bt c (pPlain c br sm) := by
  intro i l a hl h
  unfold pPlain at h
  obtain ⟨b, h1, h2⟩ := bnd_ok.mp h
  have hp := bt_pos hb hs _ _ b hl h1
  obtain ⟨n1, n2⟩ := pNots_n (c := c) 401 i false
  have m := nN_mono (c := c) n1
  cases h2
  refine ⟨by dsimp only; omega, hp.2.1, hp.2.2.1, ?_⟩
  dsimp only
  split
  · rename_i e
    rw [List.length_append]
    simp only [List.length_cons, List.length_nil]
    rcases n2 e with q | q
    · cases q
    · omega
  · omega
theorem bt_sk {one : PP} {w op : Int} {jd : Dn → Dn → Dn} (h1 : Bt c one) {i0 l0 : Nat} : ∀ (f : Nat) (a r : PV), (i0 < a.1 ∧ l0 < a.2.1 ∧ a.2.1 ≤ 50 ∧ a.2.2.1.length + 1 + nN c i0 ≤ 2 * (a.2.1 - l0) + nN c a.1) → pSk one c w op jd f a = .ok r → i0 < r.1 ∧ l0 < r.2.1 ∧ r.2.1 ≤ 50 ∧ r.2.2.1.length + 1 + nN c i0 ≤ 2 * (r.2.1 - l0) + nN c r.1
  | 0, a, r, ha, h => by cases h; exact ha
  | f + 1, a, r, ha, h => by
    rw [pSk] at h
    split at h
    · obtain ⟨b, g1, g2⟩ := bnd_ok.mp h
      have hb := h1 _ _ b ha.2.2.1 g1
      have m := nN_mono (c := c) (i := a.1) (j := a.1 + 1) (by omega)
      refine bt_sk h1 f _ r ?_ g2
      dsimp only
      rw [List.length_append, List.length_append]
      simp only [List.length_cons, List.length_nil]
      omega
    · cases h; exact ha
theorem bt_both {br sm : PP} (hb : Bt c br) (hs : Bn sm) : Bt c (pBoth c br sm) := by
  intro i l a hl h
  unfold pBoth at h
  obtain ⟨b, g1, g2⟩ := bnd_ok.mp h
  exact bt_sk (bt_plain hb hs) 401 b a (bt_plain hb hs i l b hl g1) g2
theorem bt_testG {br sm : PP} (hb : Bt c br) (hs : Bn sm) : Bt c (pTestG c br sm) := by
  intro i l a hl h
  unfold pTestG at h
  obtain ⟨b, g1, g2⟩ := bnd_ok.mp h
  exact bt_sk (bt_both hb hs) 401 b a (bt_both hb hs i l b hl g1) g2
theorem bt_test : ∀ k, Bt c (pTest c v fw lw k)
  | 0 => bt_testG (fun i l a _ h => by cases h) (bn_sum 0)
  | k + 1 => bt_testG (fun i l a hl h => by
    have := bt_test k (i + 1) l a hl h
    have m := nN_mono (c := c) (i := i) (j := i + 1) (by omega)
    omega) (bn_sum (k + 1))
end PBT
