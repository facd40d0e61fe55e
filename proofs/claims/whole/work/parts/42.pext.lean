/-! ===== words by number: prefixes, how many proper ones there are ===== -/
theorem plN_pre {n a w u : Nat} (h1 : 1 ≤ a) (h2 : a ≤ n) (h : w / 2 ^ (n - a) = u) : ∀ k, k < a → plN n w k = plN a u k
  | 0, _ => by
    unfold plN
    rw [← h, Nat.div_div_eq_div_mul, ← Nat.pow_add, show n - a + (a - 1) = n - 1 by omega]
  | k + 1, hk => by
    rw [plN, plN, plN_pre h1 h2 h k (by omega), ← h, Nat.div_div_eq_div_mul, ← Nat.pow_add, show n - a + (a - 1 - (k + 1)) = n - 1 - (k + 1) by omega]
theorem plN_step {a u : Nat} {b : Nat} (h1 : 1 ≤ a) (hb : b < 2) : (∀ k, k < a → plN (a + 1) (2 * u + b) k = plN a u k) ∧ plN (a + 1) (2 * u + b) a = fol (plN a u (a - 1)) (b : Int) := by
  have e : (2 * u + b) / 2 ^ (a + 1 - a) = u := by rw [show a + 1 - a = 1 by omega]; omega
  have hp := plN_pre (n := a + 1) (a := a) (w := 2 * u + b) h1 (by omega) e
  refine ⟨hp, ?_⟩
  obtain ⟨c, rfl⟩ : ∃ c, a = c + 1 := ⟨a - 1, by omega⟩
  rw [plN, hp c (by omega), show c + 1 + 1 - 1 - (c + 1) = 0 by omega, Nat.pow_zero, Nat.div_one, show (2 * u + b) % 2 = b by omega]
  rfl
/-- what may stand with m moves behind it -/
def okP (m : Nat) (p : Int) : Bool := if m = 0 then decide (p = 2) else if m ≤ 2 then decide (p ≠ 2) else true
def gN : Nat → Int → Nat
  | 0, _ => 1
  | m + 1, l => (if l ≠ 0 ∧ okP m 0 = true then gN m 0 else 0) + (if l ≠ 1 ∧ okP m 1 = true then gN m 1 else 0) + (if l ≠ 2 ∧ okP m 2 = true then gN m 2 else 0)
theorem gN_top : ∀ n, n < 13 → 3 ≤ n → gN n (-1) = 2 ^ (n - 2) := by decide +kernel
section PX
variable {cls : List Cl} {mood th : Int} {n : Nat}
/-- proper words with the prefix u that have m moves behind it -/
def prR (cls : List Cl) (mood th : Int) (n u m : Nat) : List Nat := (List.range' (u * 2 ^ m) (2 ^ m)).filter fun w => prB cls mood th (((n : Int) - 1) % 2) (plN n w) n
theorem prR_s (u m : Nat) : prR cls mood th n u (m + 1) = prR cls mood th n (2 * u) m ++ prR cls mood th n (2 * u + 1) m := by
  unfold prR
  rw [← List.filter_append]
  congr 1
  have e : (2 * u + 1) * 2 ^ m = 2 * u * 2 ^ m + 1 * 2 ^ m := by rw [Nat.add_mul]
  rw [e, show u * 2 ^ (m + 1) = 2 * u * 2 ^ m by rw [Nat.pow_succ, Nat.mul_comm (2 ^ m) 2, ← Nat.mul_assoc, Nat.mul_comm u 2], Nat.one_mul, List.range'_append_1, show 2 ^ m + 2 ^ m = 2 ^ (m + 1) by rw [Nat.pow_succ]; omega]
theorem prR_top (hn : 1 ≤ n) : prW cls mood th n = prR cls mood th n 0 (n - 1) ++ (prR cls mood th n 1 (n - 1) ++ prR cls mood th n 2 (n - 1)) := by
  unfold prW prU prR WN
  rw [← List.filter_append, ← List.filter_append]
  congr 1
  rw [Nat.zero_mul, Nat.one_mul, List.range_eq_range']
  have e1 := List.range'_append_1 (s := 2 ^ (n - 1)) (m := 2 ^ (n - 1)) (n := 2 ^ (n - 1))
  have e2 := List.range'_append_1 (s := 0) (m := 2 ^ (n - 1)) (n := 2 ^ (n - 1) + 2 ^ (n - 1))
  rw [show 2 * 2 ^ (n - 1) = 2 ^ (n - 1) + 2 ^ (n - 1) by omega, e1]
  rw [Nat.zero_add] at e2
  rw [e2]
  congr 1
  omega
theorem prR_mem {u m w : Nat} (h : w ∈ List.range' (u * 2 ^ m) (2 ^ m)) : w / 2 ^ m = u := by
  rw [List.mem_range'_1] at h
  have hp : 0 < 2 ^ m := Nat.two_pow_pos m
  rw [Nat.div_eq_of_lt_le]
  · exact h.1
  · rw [Nat.succ_mul]; exact h.2
/-- a move of the prefix that can't be: no proper word -/
theorem prR_no {u m a k : Nat} (ha : a + m = n) (h1 : 1 ≤ a) (hk : k < a) (hpl : ∀ j, j < n → ∀ w, w ∈ List.range' (u * 2 ^ m) (2 ^ m) → pl3 (plN n w j)) (h : okP (n - 1 - k) (plN a u k) = false ∨ brW cls mood th (((n : Int) - 1) % 2) (plN a u) k ≠ 0) : prR cls mood th n u m = [] := by
  unfold prR
  rw [List.filter_eq_nil_iff]
  intro w hw hpr
  have hd := prR_mem hw
  have pre := plN_pre (n := n) (a := a) (w := w) (u := u) h1 (by omega) (by rw [show n - a = m by omega]; exact hd)
  unfold prB at hpr
  rw [Bool.and_eq_true] at hpr
  rcases h with h | h
  · have hc := hpr.1
    unfold canT at hc
    simp only [Bool.and_eq_true, decide_eq_true_eq] at hc
    obtain ⟨c1, c2, c3, c4, c5⟩ := hc
    have q1 := hpl (n - 2) (by omega) w hw
    have q2 := hpl (n - 3) (by omega) w hw
    unfold pl3 at q1 q2
    rw [← pre k hk] at h
    unfold okP at h
    by_cases e0 : n - 1 - k = 0
    · rw [if_pos e0] at h
      have : k = n - 1 := by omega
      rw [this] at h
      exact absurd c2 (of_decide_eq_false h)
    · rw [if_neg e0] at h
      by_cases e2 : n - 1 - k ≤ 2
      · rw [if_pos e2] at h
        have hx : plN n w k = 2 := by
          have := of_decide_eq_false h
          omega
        have : k = n - 2 ∨ k = n - 3 := by omega
        rcases this with r | r
        · rw [r] at hx; omega
        · rw [r] at hx; omega
      · rw [if_neg e2] at h; cases h
  · have hb := allN_iff.mp hpr.2 k (by omega)
    have := of_decide_eq_true hb
    rw [brW_congr (g := plN a u) (fun j hj => pre j (by omega))] at this
    exact h this
theorem brW_mem (k : Nat) : True := trivial
/-- all moves can be: the word is proper -/
theorem prR_yes {u : Nat} (h3 : 3 ≤ n) (hu : u < WN n) (h : ∀ k, k < n → okP (n - 1 - k) (plN n u k) = true ∧ brW cls mood th (((n : Int) - 1) % 2) (plN n u) k = 0) : prR cls mood th n u 0 = [u] := by
  unfold prR
  rw [Nat.pow_zero, Nat.mul_one]
  have hp : prB cls mood th (((n : Int) - 1) % 2) (plN n u) n = true := by
    unfold prB
    rw [Bool.and_eq_true]
    refine ⟨?_, allN_iff.mpr fun k hk => decide_eq_true (h k hk).2⟩
    have a1 := (h (n - 1) (by omega)).1
    have a2 := (h (n - 2) (by omega)).1
    have a3 := (h (n - 3) (by omega)).1
    unfold okP at a1 a2 a3
    rw [if_pos (by omega)] at a1
    rw [if_neg (by omega), if_pos (by omega)] at a2 a3
    have b1 := of_decide_eq_true a1
    have b2 := of_decide_eq_true a2
    have b3 := of_decide_eq_true a3
    have q1 := plN_pl hu (n - 2)
    have q2 := plN_pl hu (n - 3)
    unfold pl3 at q1 q2
    have hne : plN n u (n - 2) ≠ plN n u (n - 3) := by
      obtain ⟨c, hc⟩ : ∃ c, n - 2 = c + 1 := ⟨n - 3, by omega⟩
      rw [hc, show n - 3 = c by omega, plN]
      exact fol_ne _
    unfold canT
    simp only [Bool.and_eq_true, decide_eq_true_eq]
    exact ⟨h3, b1, by omega, by omega, hne⟩
  simp [List.range', hp]
end PX
/-- the word as a number of base 4, its first k places -/
def w4p (f : Nat → Int) : Nat → Int
  | 0 => 0
  | k + 1 => w4p f k * 4 + f k
theorem w4p_congr {f g : Nat → Int} : ∀ {k : Nat}, (∀ j, j < k → f j = g j) → w4p f k = w4p g k
  | 0, _ => rfl
  | k + 1, h => by rw [w4p, w4p, w4p_congr (fun j hj => h j (by omega)), h k (by omega)]
theorem w4p_bd {f : Nat → Int} : ∀ {k : Nat}, (∀ j, j < k → pl3 (f j)) → 0 ≤ w4p f k ∧ w4p f k < 4 ^ k
  | 0, _ => by simp [w4p]
  | k + 1, h => by
    have h1 := w4p_bd (k := k) (fun j hj => h j (by omega))
    have h2 := h k (by omega)
    unfold pl3 at h2
    rw [w4p, Int.pow_succ]
    omega
