/-! ===== how many fronts, and the commonest: one word more ===== -/
theorem posN_inc {f f' : Nat → Int} {v : Nat} (h0 : 0 ≤ f v) (h : ∀ k, f' k = if k = v then f v + 1 else f k) : ∀ n, posN f' n = posN f n + (if v < n ∧ f v = 0 then 1 else 0)
  | 0 => by rw [if_neg (by omega)]; rfl
  | n + 1 => by
    have ih := posN_inc h0 h n
    have e1 : posN f' (n + 1) = posN f' n + (if 0 < f' n then 1 else 0) := rfl
    have e2 : posN f (n + 1) = posN f n + (if 0 < f n then 1 else 0) := rfl
    rw [e1, e2, ih, h n]
    by_cases c : n = v
    · rw [if_pos c, c, if_pos (show 0 < f v + 1 by omega), if_neg (show ¬ (v < v ∧ f v = 0) by omega)]
      by_cases z : f v = 0
      · rw [if_neg (show ¬ (0 < f v) by omega), if_pos (show v < v + 1 ∧ f v = 0 from ⟨by omega, z⟩)]
        <;> omega
      · rw [if_pos (show 0 < f v by omega), if_neg (show ¬ (v < v + 1 ∧ f v = 0) from fun e => z e.2)]; omega
    · rw [if_neg c]
      by_cases z : v < n ∧ f v = 0
      · rw [if_pos z, if_pos (show v < n + 1 ∧ f v = 0 from ⟨by omega, z.2⟩)]; omega
      · rw [if_neg z, if_neg (show ¬ (v < n + 1 ∧ f v = 0) from fun e => z ⟨by omega, e.2⟩)]; omega
theorem maxN_inc {f f' : Nat → Int} {v : Nat} (h : ∀ k, f' k = if k = v then f v + 1 else f k) : ∀ n, maxN f' n = if v < n then maxI (maxN f n) (f v + 1) else maxN f n
  | 0 => by rw [if_neg (by omega)]; rfl
  | n + 1 => by
    have ih := maxN_inc h n
    have e1 : maxN f' (n + 1) = if f' n < maxN f' n then maxN f' n else f' n := rfl
    have e2 : maxN f (n + 1) = if f n < maxN f n then maxN f n else f n := rfl
    rw [e1, e2, ih, h n]
    unfold maxI
    by_cases c : n = v
    · rw [if_pos c, c, if_neg (Nat.lt_irrefl v), if_pos (Nat.lt_succ_self v)]
      generalize maxN f v = M
      generalize f v = x
      repeat' split
      all_goals omega
    · rw [if_neg c]
      by_cases z : v < n
      · rw [if_pos z, if_pos (show v < n + 1 by omega)]
        generalize maxN f n = M
        generalize f v = x
        generalize f n = y
        repeat' split
        all_goals omega
      · rw [if_neg z, if_neg (show ¬ (v < n + 1) by omega)]
theorem tal_inc {n u v : Nat} {L : List Nat} (hv : frN (((n : Int) - 1) % 2) (plN n u) n = (v : Int)) : ∀ k, tal n (L ++ [u]) k = if k = v then tal n L v + 1 else tal n L k := by
  intro k
  rw [tal_a, hv]
  by_cases c : k = v
  · rw [if_pos c, c, if_pos rfl]
  · have : ¬ ((v : Int) = (k : Int)) := by omega
    rw [if_neg c, if_neg this]; omega
