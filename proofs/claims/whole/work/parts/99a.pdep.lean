/-! ===== orders: meanings depend on their words alone ===== -/
def Dp (x : Cd) (f : Dn) : Prop := (∀ ρ σ : Nat → Int, (∀ k : Int, (1, k) ∈ x → ρ k.toNat = σ k.toNat) → f ρ = f σ) ∧ ∀ k : Int, (1, k) ∈ x → 0 ≤ k ∧ k < 27
def DpP (one : PP) : Prop := ∀ i l a, one i l = .ok a → Dp a.2.2.1 a.2.2.2
section PDP
variable {c v : Nat → Int} {fw lw : Int}
theorem dp_nil {f : Option Int} : Dp [] (fun _ => f) := ⟨fun _ _ _ => rfl, fun k h => absurd h (by simp)⟩
theorem dp_push {x : Int} : Dp [(0, x)] (fun _ => some x) := ⟨fun _ _ _ => rfl, fun k h => by simp at h⟩
theorem dp_word {k : Int} (hk : 0 ≤ k ∧ k < 27) : Dp [(1, k)] (fun ρ => some (ρ k.toNat)) := ⟨fun ρ σ h => by dsimp only; rw [h k (by simp)], fun j h => by simp at h; rw [h]; exact hk⟩
theorem dp_join {x y : Cd} {f g : Dn} {o : Int} (ho : 5 ≤ o) (hx : Dp x f) (hy : Dp y g) : Dp (x ++ y ++ [(o, 0)]) (jD o f g) := by
  refine ⟨fun ρ σ h => ?_, fun k h => ?_⟩
  · unfold jD
    rw [hx.1 ρ σ (fun k hk => h k (by simp [hk])), hy.1 ρ σ (fun k hk => h k (by simp [hk]))]
  · rcases List.mem_append.mp h with h | h
    · rcases List.mem_append.mp h with h | h
      · exact hx.2 k h
      · exact hy.2 k h
    · simp at h; omega
theorem dp_not {x : Cd} {f : Dn} (hx : Dp x f) : Dp (x ++ [(2, 0)]) (negD f) := by
  refine ⟨fun ρ σ h => ?_, fun k h => ?_⟩
  · unfold negD
    rw [hx.1 ρ σ (fun k hk => h k (by simp [hk]))]
  · rcases List.mem_append.mp h with h | h
    · exact hx.2 k h
    · simp at h
theorem dp_and {x y : Cd} {f g : Dn} {n : Int} (hx : Dp x f) (hy : Dp y g) : Dp (x ++ [(4, n)] ++ y) (andD f g) := by
  refine ⟨fun ρ σ h => ?_, fun k h => ?_⟩
  · unfold andD
    rw [hx.1 ρ σ (fun k hk => h k (by simp [hk])), hy.1 ρ σ (fun k hk => h k (by simp [hk]))]
  · rcases List.mem_append.mp h with h | h
    · rcases List.mem_append.mp h with h | h
      · exact hx.2 k h
      · simp at h
    · exact hy.2 k h
theorem dp_or {x y : Cd} {f g : Dn} {n : Int} (hx : Dp x f) (hy : Dp y g) : Dp (x ++ [(3, n)] ++ y) (orD f g) := by
  refine ⟨fun ρ σ h => ?_, fun k h => ?_⟩
  · unfold orD
    rw [hx.1 ρ σ (fun k hk => h k (by simp [hk])), hy.1 ρ σ (fun k hk => h k (by simp [hk]))]
  · rcases List.mem_append.mp h with h | h
    · rcases List.mem_append.mp h with h | h
      · exact hx.2 k h
      · simp at h
    · exact hy.2 k h
theorem dp_part (hf : (fw = 8 ∧ lw = 13) ∨ (fw = 14 ∧ lw = 19)) (hv : ∀ i, 0 ≤ v i) {br : PP} (hb : DpP br) : DpP (pPart c v fw lw br) := by
  intro i l a h
  unfold pPart at h
  split at h
  · obtain ⟨b, h1, h2⟩ := bnd_ok.mp h
    split at h2
    · cases h2; exact hb i l b h1
    · cases h2
  · split at h
    · split at h
      · cases h
      · split at h
        · cases h; exact dp_push
        · split at h
          · split at h
            · cases h
              refine dp_word ?_
              have := hv (i + 1)
              omega
            · cases h
          · cases h
            refine dp_word ?_
            omega
    · cases h
theorem dp_chn {one : PP} {opf : Int → Int} (ho : ∀ x, opf x ≠ 0 → 5 ≤ opf x) (h1 : DpP one) : ∀ (f : Nat) (a r : PV), Dp a.2.2.1 a.2.2.2 → pChn one c opf f a = .ok r → Dp r.2.2.1 r.2.2.2
  | 0, a, r, ha, h => by cases h; exact ha
  | f + 1, a, r, ha, h => by
    rw [pChn] at h
    split at h
    · cases h; exact ha
    · rename_i e
      obtain ⟨b, g1, g2⟩ := bnd_ok.mp h
      exact dp_chn ho h1 f _ r (dp_join (ho _ e) ha (h1 _ _ b g1)) g2
theorem dp_sumG (hf : (fw = 8 ∧ lw = 13) ∨ (fw = 14 ∧ lw = 19)) (hv : ∀ i, 0 ≤ v i) {br : PP} (hb : DpP br) : DpP (pSumG c v fw lw br) := by
  have ht : DpP (pTerm c v fw lw br) := by
    intro i l a h
    unfold pTerm at h
    obtain ⟨b, g1, g2⟩ := bnd_ok.mp h
    exact dp_chn (fun x hx => (opM_r x hx).1) (dp_part hf hv hb) 401 b a (dp_part hf hv hb i l b g1) g2
  intro i l a h
  unfold pSumG at h
  obtain ⟨b, g1, g2⟩ := bnd_ok.mp h
  exact dp_chn (fun x hx => (opA_r x hx).1) ht 401 b a (ht i l b g1) g2
theorem dp_sum (hf : (fw = 8 ∧ lw = 13) ∨ (fw = 14 ∧ lw = 19)) (hv : ∀ i, 0 ≤ v i) : ∀ k, DpP (pSum c v fw lw k)
  | 0 => dp_sumG hf hv (fun i l a h => by cases h)
  | k + 1 => dp_sumG hf hv (fun i l a h => dp_sum hf hv k (i + 1) l a h)
theorem dp_plain {br sm : PP} (hb : DpP br) (hs : DpP sm) : DpP (pPlain c br sm) := by
  have hp : DpP (pPos c br sm) := by
    intro i l a h
    unfold pPos at h
    split at h
    · obtain ⟨b, h1, h2⟩ := bnd_ok.mp h
      split at h2
      · cases h2; exact hb i l b h1
      · cases h2
    · obtain ⟨b, h1, h2⟩ := bnd_ok.mp h
      split at h2
      · cases h2
      · rename_i e
        obtain ⟨q, h3, h4⟩ := bnd_ok.mp h2
        cases h4
        refine dp_join ?_ (hs _ _ b h1) (hs _ _ q h3)
        unfold cmO at e ⊢
        split
        · decide
        · split
          · decide
          · split
            · decide
            · rename_i x1 x2 x3
              rw [if_neg x1, if_neg x2, if_neg x3] at e
              exact absurd rfl e
  intro i l a h
  unfold pPlain at h
  obtain ⟨b, h1, h2⟩ := bnd_ok.mp h
  cases h2
  dsimp only
  split
  · exact dp_not (hp _ _ b h1)
  · exact hp _ _ b h1
theorem dp_skA {one : PP} {w : Int} (h1 : DpP one) : ∀ (f : Nat) (a r : PV), Dp a.2.2.1 a.2.2.2 → pSk one c w 4 andD f a = .ok r → Dp r.2.2.1 r.2.2.2
  | 0, a, r, ha, h => by cases h; exact ha
  | f + 1, a, r, ha, h => by
    rw [pSk] at h
    split at h
    · obtain ⟨b, g1, g2⟩ := bnd_ok.mp h
      exact dp_skA h1 f _ r (dp_and ha (h1 _ _ b g1)) g2
    · cases h; exact ha
theorem dp_skO {one : PP} {w : Int} (h1 : DpP one) : ∀ (f : Nat) (a r : PV), Dp a.2.2.1 a.2.2.2 → pSk one c w 3 orD f a = .ok r → Dp r.2.2.1 r.2.2.2
  | 0, a, r, ha, h => by cases h; exact ha
  | f + 1, a, r, ha, h => by
    rw [pSk] at h
    split at h
    · obtain ⟨b, g1, g2⟩ := bnd_ok.mp h
      exact dp_skO h1 f _ r (dp_or ha (h1 _ _ b g1)) g2
    · cases h; exact ha
theorem dp_testG {br sm : PP} (hb : DpP br) (hs : DpP sm) : DpP (pTestG c br sm) := by
  have hB : DpP (pBoth c br sm) := by
    intro i l a h
    unfold pBoth at h
    obtain ⟨b, g1, g2⟩ := bnd_ok.mp h
    exact dp_skA (dp_plain hb hs) 401 b a (dp_plain hb hs i l b g1) g2
  intro i l a h
  unfold pTestG at h
  obtain ⟨b, g1, g2⟩ := bnd_ok.mp h
  exact dp_skO hB 401 b a (hB i l b g1) g2
theorem dp_test (hf : (fw = 8 ∧ lw = 13) ∨ (fw = 14 ∧ lw = 19)) (hv : ∀ i, 0 ≤ v i) : ∀ k, DpP (pTest c v fw lw k)
  | 0 => dp_testG (fun i l a h => by cases h) (dp_sum hf hv 0)
  | k + 1 => dp_testG (fun i l a h => dp_test hf hv k (i + 1) l a h) (dp_sum hf hv (k + 1))
/-- a clause of orders -/
def OrC (q : Cl) : Prop := Dp q.2.2.1.1 q.2.2.1.2 ∧ Dp q.2.2.2.1.1 q.2.2.2.1.2 ∧ Dp q.2.2.2.2.1 q.2.2.2.2.2 ∧ (q.1 = 20 ∨ q.1 = 22 ∨ q.1 = 23 ∨ q.1 = 24) ∧ (1 ≤ q.2.1 ∧ q.2.1 ≤ 20)
theorem or_if {i l : Nat} {h t : Int} {x y : Cd × Dn} {a : Nat × Nat × Cl} (hv : ∀ i, 0 ≤ v i) (hx : Dp x.1 x.2) (hy : Dp y.1 y.2) (hh : h = 20 ∨ h = 22 ∨ h = 23 ∨ h = 24) (ht : 1 ≤ t ∧ t ≤ 20) (hp : pIf c (pTest c v 14 19 8) i l h t x y = .ok a) : OrC a.2.2 := by
  unfold pIf at hp
  split at hp
  · obtain ⟨b, h1, h2⟩ := bnd_ok.mp hp
    cases h2
    exact ⟨hx, hy, dp_test (Or.inr ⟨rfl, rfl⟩) hv 8 _ _ b h1, hh, ht⟩
  · cases hp
    exact ⟨hx, hy, dp_nil, hh, ht⟩
theorem or_tm {i l : Nat} {h : Int} {x y : Cd × Dn} {a : Nat × Nat × Cl} (hv : ∀ i, 0 ≤ v i) (hx : Dp x.1 x.2) (hy : Dp y.1 y.2) (hh : h = 20 ∨ h = 22 ∨ h = 23 ∨ h = 24) (hp : pTm c v (pTest c v 14 19 8) i l h x y = .ok a) : OrC a.2.2 := by
  unfold pTm at hp
  split at hp
  · split at hp
    · rename_i e; exact or_if hv hx hy hh e.2 hp
    · cases hp
  · exact or_if hv hx hy hh (by decide) hp
theorem or_cl {i l : Nat} {a : Nat × Nat × Cl} (hv : ∀ i, 0 ≤ v i) (hp : pClO c v i l = .ok a) : OrC a.2.2 := by
  unfold pClO at hp
  split at hp
  · obtain ⟨b, h1, h2⟩ := bnd_ok.mp hp
    split at h2
    · obtain ⟨e, h3, h4⟩ := bnd_ok.mp h2
      exact or_tm hv (dp_sum (Or.inr ⟨rfl, rfl⟩) hv 8 _ _ b h1) (dp_sum (Or.inr ⟨rfl, rfl⟩) hv 8 _ _ e h3) (Or.inl rfl) h4
    · cases h2
  · split at hp
    · rename_i e
      obtain ⟨b, h1, h2⟩ := bnd_ok.mp hp
      exact or_tm hv (dp_sum (Or.inr ⟨rfl, rfl⟩) hv 8 _ _ b h1) dp_nil (Or.inr e) h2
    · cases hp
end PDP
