/-! ===== the class: a new drawer ===== -/
theorem kd_nA (s : St) (t k : Nat) (q : Int) : kd (nA s t k) q = if q = nx s then t else kd s q := Eq.trans rfl rfl
theorem kd_nO (s : St) (c k : Nat) (q : Int) : kd (nO s c k) q = if q = nx s then c + 4 else kd s q := Eq.trans rfl rfl
theorem gF_nA (s : St) (t k : Nat) (q : Int) (j : Nat) : gF (nA s t k) q j = gF s q j := Eq.trans rfl rfl
theorem gF_nO (s : St) (c k : Nat) (q : Int) (j : Nat) : gF (nO s c k) q j = if q = nx s then 0 else gF s q j := Eq.trans rfl rfl
theorem gA_nA (s : St) (t k : Nat) (q : Int) : gA (nA s t k) q = if q = nx s then List.replicate k 0 else gA s q := Eq.trans rfl rfl
theorem gA_nO (s : St) (c k : Nat) (q : Int) : gA (nO s c k) q = gA s q := Eq.trans rfl rfl
theorem nx_nA (s : St) (t k : Nat) : nx (nA s t k) = nx s + 1 := Eq.trans rfl rfl
theorem nx_nO (s : St) (c k : Nat) : nx (nO s c k) = nx s + 1 := Eq.trans rfl rfl
theorem sl_nA (s : St) (t k : Nat) : sl (nA s t k) = sl s + k := Eq.trans rfl rfl
theorem sl_nO (s : St) (c k : Nat) : sl (nO s c k) = sl s + k := Eq.trans rfl rfl
/-- a new row goes into a field -/
theorem al_ok {s : St} {t c f : Nat} {k v0 : Int} {K : St → Res} (hk : kd s v0 = c) (h0 : 0 ≤ k) (h1 : k ≤ 1000000) (hne : v0 ≠ nx s) : (mA s t k fun x s1 => rk s1 t x (wF s1 v0 c f x K)) = K (sF (nA s t k.toNat) v0 f (nx s)) := by
  unfold mA
  rw [if_pos ⟨h0, h1⟩]
  dsimp only
  rw [rk_ok (by rw [kd_nA, if_pos rfl]), wF_ok (by rw [kd_nA, if_neg hne]; exact hk)]
section CIN
variable {s s' : St} {n : Int} {d : Nat}
theorem c_kInit {p : Int} (hp : 0 < p) (hk : kd s p = 7) (hx : nx s = p + 1) : ∃ s', X3_init d s p = some ([], s') ∧ nx s' = p + 2 ∧ sl s' = sl s + 12 ∧ (∀ q, kd s' q = if q = p + 1 then 20 else kd s q) ∧ (∀ q j, q ≠ p → gF s' q j = gF s q j) ∧ (∀ q, gA s' q = if q = p + 1 then List.replicate 12 0 else gA s q) ∧ gF s' p 5 = p + 1 ∧ gF s' p 0 = 0 ∧ gF s' p 1 = 1 ∧ gF s' p 2 = 1 ∧ gF s' p 3 = 0 ∧ gF s' p 4 = 0 := by
  refine ⟨sF (nA (sF (sF (sF (sF (sF s p 0 0) p 1 1) p 2 1) p 3 0) p 4 0) 20 12) p 5 (nx s), ?_, ?_, ?_, fun q => ?_, fun q j hq => ?_, fun q => ?_, ?_, ?_, ?_, ?_, ?_, ?_⟩
  · rw [e_X3_init, if_neg (by omega), wF_ok hk, wF_ok (by rw [kd_sF]; exact hk), wF_ok (by rw [kd_sF, kd_sF]; exact hk), wF_ok (by rw [kd_sF, kd_sF, kd_sF]; exact hk), wF_ok (by rw [kd_sF, kd_sF, kd_sF, kd_sF]; exact hk), al_ok (by simp only [kd_sF]; exact hk) (by decide) (by decide) (by simp only [nx_sF]; omega)]
    rfl
  · rw [nx_sF, nx_nA]; simp only [nx_sF]; omega
  · rw [sl_sF, sl_nA]; simp only [sl_sF]; rfl
  · rw [kd_sF, kd_nA]; simp only [kd_sF, nx_sF, hx]
  · rw [gF_np hq, gF_nA, gF_np hq, gF_np hq, gF_np hq, gF_np hq, gF_np hq]
  · rw [gA_sF, gA_nA]; simp only [gA_sF, nx_sF, hx]
  · rw [gF_eq]; exact hx
  · rw [gF_nk (by decide), gF_nA, gF_nk (by decide), gF_nk (by decide), gF_nk (by decide), gF_nk (by decide), gF_eq]
  · rw [gF_nk (by decide), gF_nA, gF_nk (by decide), gF_nk (by decide), gF_nk (by decide), gF_eq]
  · rw [gF_nk (by decide), gF_nA, gF_nk (by decide), gF_nk (by decide), gF_eq]
  · rw [gF_nk (by decide), gF_nA, gF_nk (by decide), gF_eq]
  · rw [gF_nk (by decide), gF_nA, gF_eq]
theorem c_lInit {p : Int} (hp : 0 < p) (hk : kd s p = 13) (hx : nx s = p + 1) : ∃ s', X9_init d s p = some ([], s') ∧ nx s' = p + 4 ∧ sl s' = sl s + 48 ∧ (∀ q, kd s' q = if p + 1 ≤ q ∧ q ≤ p + 3 then 20 else kd s q) ∧ (∀ q j, q ≠ p → gF s' q j = gF s q j) ∧ (∀ q, gA s' q = if p + 1 ≤ q ∧ q ≤ p + 3 then List.replicate 16 0 else gA s q) ∧ gF s' p 0 = 0 ∧ gF s' p 1 = p + 1 ∧ gF s' p 2 = p + 2 ∧ gF s' p 3 = p + 3 := by
  have h1 : nx (sF s p 0 0) = p + 1 := hx
  have h2 : nx (sF (nA (sF s p 0 0) 20 16) p 1 (p + 1)) = p + 2 := by rw [nx_sF, nx_nA, h1]; omega
  have h3 : nx (sF (nA (sF (nA (sF s p 0 0) 20 16) p 1 (p + 1)) 20 16) p 2 (p + 2)) = p + 3 := by rw [nx_sF, nx_nA, h2]; omega
  have k1 : kd (sF s p 0 0) p = 13 := hk
  have k2 : kd (sF (nA (sF s p 0 0) 20 16) p 1 (p + 1)) p = 13 := by rw [kd_sF, kd_nA, if_neg (by rw [h1]; omega)]; exact k1
  have k3 : kd (sF (nA (sF (nA (sF s p 0 0) 20 16) p 1 (p + 1)) 20 16) p 2 (p + 2)) p = 13 := by rw [kd_sF, kd_nA, if_neg (by rw [h2]; omega)]; exact k2
  refine ⟨sF (nA (sF (nA (sF (nA (sF s p 0 0) 20 16) p 1 (p + 1)) 20 16) p 2 (p + 2)) 20 16) p 3 (p + 3), ?_, ?_, ?_, fun q => ?_, fun q j hq => ?_, fun q => ?_, ?_, ?_, ?_, ?_⟩
  · rw [e_X9_init, if_neg (by omega), wF_ok hk, al_ok k1 (by decide) (by decide) (by rw [h1]; omega), h1]
    rw [show (16 : Int).toNat = 16 from rfl, al_ok k2 (by decide) (by decide) (by rw [h2]; omega), h2]
    rw [show (16 : Int).toNat = 16 from rfl, al_ok k3 (by decide) (by decide) (by rw [h3]; omega), h3]
    rfl
  · rw [nx_sF, nx_nA, h3]; omega
  · simp only [sl_sF, sl_nA]; omega
  · rw [kd_sF, kd_nA, h3, kd_sF, kd_nA, h2, kd_sF, kd_nA, h1, kd_sF]
    by_cases e : p + 1 ≤ q ∧ q ≤ p + 3
    · rw [if_pos e]
      split
      · rfl
      split
      · rfl
      split
      · rfl
      omega
    · rw [if_neg e, if_neg (by omega), if_neg (by omega), if_neg (by omega)]
  · rw [gF_np hq, gF_nA, gF_np hq, gF_nA, gF_np hq, gF_nA, gF_np hq]
  · rw [gA_sF, gA_nA, h3, gA_sF, gA_nA, h2, gA_sF, gA_nA, h1, gA_sF]
    by_cases e : p + 1 ≤ q ∧ q ≤ p + 3
    · rw [if_pos e]
      split
      · rfl
      split
      · rfl
      split
      · rfl
      omega
    · rw [if_neg e, if_neg (by omega), if_neg (by omega), if_neg (by omega)]
  · rw [gF_nk (by decide), gF_nA, gF_nk (by decide), gF_nA, gF_nk (by decide), gF_nA, gF_eq]
  · rw [gF_nk (by decide), gF_nA, gF_nk (by decide), gF_nA, gF_eq]
  · rw [gF_nk (by decide), gF_nA, gF_eq]
  · rw [gF_eq]
end CIN
