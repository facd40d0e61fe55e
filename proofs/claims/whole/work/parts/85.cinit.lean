/-! ===== the class: a new drawer, whole ===== -/
def upF (F : Nat → Int) (f : Nat) (v : Int) (j : Nat) : Int := if j = f then v else F j
/-- m cells were made behind n -/
def InD (s S : St) (n : Int) (T : List Nat) (L : List (List Int)) (F : Nat → Int) (c : Int) : Prop := nx S = n + 1 + T.length ∧ L.length = T.length ∧ (∀ q, kd S q = if n + 1 ≤ q ∧ q < n + 1 + T.length then T.getD (q - n - 1).toNat 0 else kd s q) ∧ (∀ q, gA S q = if n + 1 ≤ q ∧ q < n + 1 + T.length then L.getD (q - n - 1).toNat [] else gA s q) ∧ (∀ q j, q ≠ n → gF S q j = gF s q j) ∧ (∀ j, gF S n j = F j) ∧ sl S = sl s + c
section CIM
variable {s S s' : St} {n : Int} {d : Nat} {T : List Nat} {L : List (List Int)} {F : Nat → Int} {c : Int}
theorem InD.f {f : Nat} {v : Int} (h : InD s S n T L F c) : InD s (sF S n f v) n T L (upF F f v) c := by
  obtain ⟨h1, h2, h3, h4, h5, h6, h7⟩ := h
  refine ⟨h1, h2, h3, h4, fun q j hq => (gF_np hq).trans (h5 q j hq), fun j => ?_, h7⟩
  unfold upF
  rw [gF_sF]
  by_cases e : j = f
  · rw [if_pos ⟨rfl, e⟩, if_pos e]
  · rw [if_neg (fun x => e x.2), if_neg e]; exact h6 j
theorem InD.a {t k f : Nat} (h : InD s S n T L F c) : InD s (sF (nA S t k) n f (nx S)) n (T ++ [t]) (L ++ [List.replicate k 0]) (upF F f (n + 1 + T.length)) (c + k) := by
  obtain ⟨h1, h2, h3, h4, h5, h6, h7⟩ := h
  have hl : ((T ++ [t]).length : Int) = T.length + 1 := by rw [List.length_append]; rfl
  refine ⟨?_, ?_, fun q => ?_, fun q => ?_, fun q j hq => ?_, fun j => ?_, ?_⟩
  · rw [nx_sF, nx_nA, h1, hl]; omega
  · rw [List.length_append, List.length_append, h2]; rfl
  · rw [kd_sF, kd_nA, h1, hl, h3]
    by_cases e : q = n + 1 + T.length
    · rw [if_pos e, if_pos (by omega), show (q - n - 1).toNat = T.length by omega, gdApp2]
    · rw [if_neg e]
      by_cases e2 : n + 1 ≤ q ∧ q < n + 1 + T.length
      · rw [if_pos e2, if_pos (by omega), gdApp (by omega)]
      · rw [if_neg e2, if_neg (by omega)]
  · rw [gA_sF, gA_nA, h1, hl, h4]
    by_cases e : q = n + 1 + T.length
    · rw [if_pos e, if_pos (by omega), show (q - n - 1).toNat = L.length by omega, gdApp2]
    · rw [if_neg e]
      by_cases e2 : n + 1 ≤ q ∧ q < n + 1 + T.length
      · rw [if_pos e2, if_pos (by omega), gdApp (by omega)]
      · rw [if_neg e2, if_neg (by omega)]
  · rw [gF_np hq, gF_nA]; exact h5 q j hq
  · unfold upF
    rw [gF_sF, gF_nA, h1]
    by_cases e : j = f
    · rw [if_pos ⟨rfl, e⟩, if_pos e]
    · rw [if_neg (fun x => e x.2), if_neg e]; exact h6 j
  · rw [sl_sF, sl_nA, h7]; omega
theorem InD.k (h : InD s S n T L F c) (hk : kd s n = 4) : kd S n = 4 := by rw [h.2.2.1, if_neg (by omega)]; exact hk
/-- the drawer at n ahead of its knots -/
def PrD (s S : St) (n : Int) : Prop := nx S = n + 11 ∧ sl S = sl s + 99 ∧ (kd S n = 4 ∧ kd S (n + 1) = 24 ∧ kd S (n + 2) = 20 ∧ kd S (n + 3) = 20 ∧ kd S (n + 4) = 20 ∧ kd S (n + 5) = 20 ∧ kd S (n + 6) = 26 ∧ kd S (n + 7) = 13 ∧ kd S (n + 8) = 20 ∧ kd S (n + 9) = 20 ∧ kd S (n + 10) = 20) ∧ (gF S n 0 = n + 1 ∧ gF S n 1 = 0 ∧ gF S n 2 = n + 2 ∧ gF S n 3 = 0 ∧ gF S n 4 = n + 3 ∧ gF S n 5 = n + 4 ∧ gF S n 6 = 0 ∧ gF S n 7 = n + 5 ∧ gF S n 8 = n + 6 ∧ gF S n 9 = 0 ∧ gF S n 10 = -1 ∧ gF S n 11 = n + 7) ∧ (gF S (n + 7) 0 = 0 ∧ gF S (n + 7) 1 = n + 8 ∧ gF S (n + 7) 2 = n + 9 ∧ gF S (n + 7) 3 = n + 10) ∧ (gA S (n + 1) = List.replicate 8 0 ∧ gA S (n + 2) = List.replicate 6 0 ∧ gA S (n + 3) = List.replicate 12 0 ∧ gA S (n + 4) = List.replicate 12 0 ∧ gA S (n + 5) = List.replicate 3 0 ∧ gA S (n + 6) = List.replicate 6 0 ∧ gA S (n + 8) = List.replicate 16 0 ∧ gA S (n + 9) = List.replicate 16 0 ∧ gA S (n + 10) = List.replicate 16 0) ∧ ∀ p, ¬ (n ≤ p ∧ p ≤ n + 10) → kd S p = kd s p ∧ (∀ k, gF S p k = gF s p k) ∧ gA S p = gA s p
theorem c_dInit1 {Q : Res → Prop} (hn : 0 < n) (hk : kd s n = 4) (hx : nx s = n + 1) (hT : ∀ S, PrD s S n → Gl Q (X0_init_91 (d + 1) S n 0)) : Gl Q (X0_init (d + 1) s n) := by
  have I0 : InD s s n [] [] (fun j => gF s n j) 0 := ⟨by rw [hx]; simp, rfl, fun q => by rw [if_neg (by simp)], fun q => by rw [if_neg (by simp)], fun _ _ _ => rfl, fun _ => rfl, by omega⟩
  rw [e_X0_init, if_neg (by omega)]
  have I1 := (I0.a (t := 24) (k := 8) (f := 0)).f (f := 1) (v := 0)
  rw [al_ok (I0.k hk) (by decide) (by decide) (by rw [I0.1]; omega), show (8 : Int).toNat = 8 from rfl, wF_ok ((I0.a (t := 24) (k := 8) (f := 0)).k hk)]
  generalize sF (sF (nA s 24 8) n 0 (nx s)) n 1 0 = S1 at I1
  have I2 := (I1.a (t := 20) (k := 6) (f := 2)).f (f := 3) (v := 0)
  rw [al_ok (I1.k hk) (by decide) (by decide) (by rw [I1.1]; omega), show (6 : Int).toNat = 6 from rfl, wF_ok ((I1.a (t := 20) (k := 6) (f := 2)).k hk)]
  generalize sF (sF (nA S1 20 6) n 2 (nx S1)) n 3 0 = S2 at I2
  have I3 := I2.a (t := 20) (k := 12) (f := 4)
  rw [al_ok (I2.k hk) (by decide) (by decide) (by rw [I2.1]; omega), show (12 : Int).toNat = 12 from rfl]
  generalize sF (nA S2 20 12) n 4 (nx S2) = S3 at I3
  have I4 := (I3.a (t := 20) (k := 12) (f := 5)).f (f := 6) (v := 0)
  rw [al_ok (I3.k hk) (by decide) (by decide) (by rw [I3.1]; omega), show (12 : Int).toNat = 12 from rfl, wF_ok ((I3.a (t := 20) (k := 12) (f := 5)).k hk)]
  generalize sF (sF (nA S3 20 12) n 5 (nx S3)) n 6 0 = S4 at I4
  have I5 := I4.a (t := 20) (k := 3) (f := 7)
  rw [al_ok (I4.k hk) (by decide) (by decide) (by rw [I4.1]; omega), show (3 : Int).toNat = 3 from rfl]
  generalize sF (nA S4 20 3) n 7 (nx S4) = S5 at I5
  have I6 := ((I5.a (t := 26) (k := 6) (f := 8)).f (f := 9) (v := 0)).f (f := 10) (v := -1)
  rw [al_ok (I5.k hk) (by decide) (by decide) (by rw [I5.1]; omega), show (6 : Int).toNat = 6 from rfl, wF_ok ((I5.a (t := 26) (k := 6) (f := 8)).k hk), wF_ok (((I5.a (t := 26) (k := 6) (f := 8)).f (f := 9) (v := 0)).k hk)]
  generalize sF (sF (sF (nA S5 26 6) n 8 (nx S5)) n 9 0) n 10 (-1) = S6 at I6
  obtain ⟨h1, h2, h3, h4, h5, h6, h7⟩ := I6
  have hl : (((([] ++ [24] ++ [20] ++ [20] ++ [20] ++ [20] ++ [26] : List Nat)).length : Nat) : Int) = 6 := rfl
  rw [hl] at h1
  simp only [hl] at h3 h4
  have h1' : nx S6 = n + 7 := by omega
  unfold mO
  dsimp only
  have kO : kd (nO S6 9 4) (n + 7) = 13 := by rw [kd_nO, if_pos h1'.symm]
  have xO : nx (nO S6 9 4) = n + 7 + 1 := by rw [nx_nO, h1']
  obtain ⟨s', y1, y2, y3, y4, y5, y6, y7, y8, y9, y10⟩ := c_lInit (d := d) (by omega) kO xO
  rw [h1', oK_ok kO, y1, cV_ok]
  have k13 : kd s' (n + 7) = 13 := by rw [y4, if_neg (by omega)]; exact kO
  have kn : kd s' n = 4 := by rw [y4, if_neg (by omega), kd_nO, if_neg (by omega), h3, if_neg (by omega)]; exact hk
  rw [rk_ok k13, wF_ok kn]
  have K : ∀ q, kd (sF s' n 11 (n + 7)) q = if n + 8 ≤ q ∧ q ≤ n + 10 then 20 else if q = n + 7 then 13 else kd S6 q := by
    intro q
    rw [kd_sF, y4, kd_nO, h1']
    by_cases e : n + 8 ≤ q ∧ q ≤ n + 10
    · rw [if_pos e, if_pos (by omega)]
    · rw [if_neg e, if_neg (by omega)]
  have A : ∀ q, gA (sF s' n 11 (n + 7)) q = if n + 8 ≤ q ∧ q ≤ n + 10 then List.replicate 16 0 else gA S6 q := by
    intro q
    rw [gA_sF, y6, gA_nO]
    by_cases e : n + 8 ≤ q ∧ q ≤ n + 10
    · rw [if_pos e, if_pos (by omega)]
    · rw [if_neg e, if_neg (by omega)]
  have Fn : ∀ j, j ≠ 11 → gF (sF s' n 11 (n + 7)) n j = gF S6 n j := fun j hj => by rw [gF_nk hj, y5 n j (by omega), gF_nO, if_neg (by omega)]
  have F7 : ∀ j, gF (sF s' n 11 (n + 7)) (n + 7) j = gF s' (n + 7) j := fun j => gF_np (by omega)
  have kS : ∀ (i : Nat) (q : Int), i < 6 → q = n + 1 + i → kd S6 q = ([24, 20, 20, 20, 20, 26] : List Nat).getD i 0 := fun i q hi hq => by
    rw [h3, if_pos (by omega), show (q - n - 1).toNat = i by omega]; rfl
  have aS : ∀ (i : Nat) (q : Int), i < 6 → q = n + 1 + i → gA S6 q = ([List.replicate 8 0, List.replicate 6 0, List.replicate 12 0, List.replicate 12 0, List.replicate 3 0, List.replicate 6 0] : List (List Int)).getD i [] := fun i q hi hq => by
    rw [h4, if_pos (by omega), show (q - n - 1).toNat = i by omega]; rfl
  have k1 := kS 0 (n + 1) (by decide) (by omega)
  have k2 := kS 1 (n + 2) (by decide) (by omega)
  have k3 := kS 2 (n + 3) (by decide) (by omega)
  have k4 := kS 3 (n + 4) (by decide) (by omega)
  have k5 := kS 4 (n + 5) (by decide) (by omega)
  have k6 := kS 5 (n + 6) (by decide) (by omega)
  have a1 := aS 0 (n + 1) (by decide) (by omega)
  have a2 := aS 1 (n + 2) (by decide) (by omega)
  have a3 := aS 2 (n + 3) (by decide) (by omega)
  have a4 := aS 3 (n + 4) (by decide) (by omega)
  have a5 := aS 4 (n + 5) (by decide) (by omega)
  have a6 := aS 5 (n + 6) (by decide) (by omega)
  refine hT _ ⟨?_, ?_, ⟨?_, ?_, ?_, ?_, ?_, ?_, ?_, ?_, ?_, ?_, ?_⟩, ⟨?_, ?_, ?_, ?_, ?_, ?_, ?_, ?_, ?_, ?_, ?_, ?_⟩, ⟨?_, ?_, ?_, ?_⟩, ⟨?_, ?_, ?_, ?_, ?_, ?_, ?_, ?_, ?_⟩, fun p hp => ⟨?_, fun k => ?_, ?_⟩⟩
  · rw [nx_sF, y2]; omega
  · rw [sl_sF, y3, sl_nO, h7]; omega
  · rw [kd_sF]; exact kn
  · rw [K, if_neg (by omega), if_neg (by omega)]; exact k1
  · rw [K, if_neg (by omega), if_neg (by omega)]; exact k2
  · rw [K, if_neg (by omega), if_neg (by omega)]; exact k3
  · rw [K, if_neg (by omega), if_neg (by omega)]; exact k4
  · rw [K, if_neg (by omega), if_neg (by omega)]; exact k5
  · rw [K, if_neg (by omega), if_neg (by omega)]; exact k6
  · rw [K, if_neg (by omega), if_pos rfl]
  · rw [K, if_pos (by omega)]
  · rw [K, if_pos (by omega)]
  · rw [K, if_pos (by omega)]
  · rw [Fn 0 (by decide), h6]; exact Int.add_zero _
  · rw [Fn 1 (by decide), h6]; rfl
  · rw [Fn 2 (by decide), h6]; show n + 1 + 1 = n + 2; omega
  · rw [Fn 3 (by decide), h6]; rfl
  · rw [Fn 4 (by decide), h6]; show n + 1 + 2 = n + 3; omega
  · rw [Fn 5 (by decide), h6]; show n + 1 + 3 = n + 4; omega
  · rw [Fn 6 (by decide), h6]; rfl
  · rw [Fn 7 (by decide), h6]; show n + 1 + 4 = n + 5; omega
  · rw [Fn 8 (by decide), h6]; show n + 1 + 5 = n + 6; omega
  · rw [Fn 9 (by decide), h6]; rfl
  · rw [Fn 10 (by decide), h6]; rfl
  · rw [gF_eq]
  · rw [F7]; exact y7
  · rw [F7, y8]; omega
  · rw [F7, y9]; omega
  · rw [F7, y10]; omega
  · rw [A, if_neg (by omega)]; exact a1
  · rw [A, if_neg (by omega)]; exact a2
  · rw [A, if_neg (by omega)]; exact a3
  · rw [A, if_neg (by omega)]; exact a4
  · rw [A, if_neg (by omega)]; exact a5
  · rw [A, if_neg (by omega)]; exact a6
  · rw [A, if_pos (by omega)]
  · rw [A, if_pos (by omega)]
  · rw [A, if_pos (by omega)]
  · rw [K, if_neg (by omega), if_neg (by omega), h3, if_neg (by omega)]
  · rw [gF_np (by omega), y5 p k (by omega), gF_nO, if_neg (by omega), h5 p k (by omega)]
  · rw [A, if_neg (by omega), h4, if_neg (by omega)]
end CIM
