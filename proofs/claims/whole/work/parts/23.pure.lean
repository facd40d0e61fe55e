/-! ===== words: numbers, what is told of a row of places ===== -/
theorem and1 {x : Int} (h0 : 0 ≤ x) (h1 : x < 2147483648) : andI x 1 = x % 2 := by
  obtain ⟨n, rfl⟩ := Int.eq_ofNat_of_zero_le h0
  unfold andI
  rw [show Int32.ofInt (n : Int) = nI n from rfl, show Int32.ofInt 1 = 1 from rfl, pk_andN (by omega) 1 rfl]
  show (Int32.ofInt ((n % 2 ^ 1 : Nat) : Int)).toInt = _
  rw [i_to (by unfold rg; omega)]
  omega
theorem and3 {x : Int} (h0 : 0 ≤ x) (h1 : x < 2147483648) : andI x 3 = x % 4 := by
  obtain ⟨n, rfl⟩ := Int.eq_ofNat_of_zero_le h0
  unfold andI
  rw [show Int32.ofInt (n : Int) = nI n from rfl, show Int32.ofInt 3 = 3 from rfl, pk_andN (by omega) 2 rfl]
  show (Int32.ofInt ((n % 2 ^ 2 : Nat) : Int)).toInt = _
  rw [i_to (by unfold rg; omega)]
  omega
theorem and63 {x : Int} (h0 : 0 ≤ x) (h1 : x < 2147483648) : andI x 63 = x % 64 := by
  obtain ⟨n, rfl⟩ := Int.eq_ofNat_of_zero_le h0
  unfold andI
  rw [show Int32.ofInt (n : Int) = nI n from rfl, show Int32.ofInt 63 = 63 from rfl, pk_andN (by omega) 6 rfl]
  show (Int32.ofInt ((n % 2 ^ 6 : Nat) : Int)).toInt = _
  rw [i_to (by unfold rg; omega)]
  omega
theorem sh_c : ∀ k, k < 32 → ((Int32.ofInt (k : Nat) &&& 31).toBitVec.smod 32).toNat = k := by decide +kernel
theorem shr_n {n k : Nat} (hn : n < 2147483648) (hk : k < 32) : shrI n k = ((n / 2 ^ k : Nat) : Int) := by
  unfold shrI
  rw [show Int32.ofInt (n : Int) = nI n from rfl, pk_shrN (by omega) _ k (sh_c k hk)]
  show (Int32.ofInt ((n / 2 ^ k : Nat) : Int)).toInt = _
  have := Nat.div_le_self n (2 ^ k)
  generalize n / 2 ^ k = m at *
  rw [i_to (by unfold rg; omega)]
theorem shl_n {n k : Nat} (hk : k < 32) (h : n * 2 ^ k < 2147483648) : shlI n k = ((n * 2 ^ k : Nat) : Int) := by
  unfold shlI
  rw [show Int32.ofInt (n : Int) = nI n from rfl, pk_shlN _ k (sh_c k hk) (by omega)]
  show (Int32.ofInt ((n * 2 ^ k : Nat) : Int)).toInt = _
  rw [i_to (by unfold rg; omega)]
theorem tm2 {x : Int} (h : 0 ≤ x) : Int.tmod x 2 = x % 2 := Int.tmod_eq_emod_of_nonneg h
theorem tmn {x y : Int} (h : 0 ≤ x) : Int.tmod x y = x % y := Int.tmod_eq_emod_of_nonneg h
/-- a place -/
def pl3 (x : Int) : Prop := x = 0 ∨ x = 1 ∨ x = 2
def cenN (f : Nat → Int) (n : Nat) : Int := sumN (fun k => if f k = 2 then 1 else 0) n
def leanN (f : Nat → Int) (n : Nat) : Int := sumN (fun k => if f k = 0 then 1 else if f k = 1 then -1 else 0) n
def wnd (a b : Int) : Int := if (a = 0 ∧ b = 2) ∨ (a = 2 ∧ b = 1) ∨ (a = 1 ∧ b = 0) then 1 else -1
def twN (f : Nat → Int) (n : Nat) : Int := sumN (fun k => if 2 ≤ k ∧ wnd (f (k - 1)) (f k) ≠ wnd (f (k - 2)) (f (k - 1)) then 1 else 0) n
def lefN (f : Nat → Int) (n : Nat) : Int := absI (sumN (fun k => if 1 ≤ k then wnd (f (k - 1)) (f k) else 0) n)
def canT (st : Int) (f : Nat → Int) (n : Nat) : Bool := decide (3 ≤ n) && (decide (f (n - 1) = 2) && (decide ((st + n - 1) % 2 = 0) && (decide (f (n - 2) + f (n - 3) = 1) && decide (f (n - 2) ≠ f (n - 3)))))
def mir (x : Int) : Int := if x = 2 then 2 else 1 - x
def fol (b h : Int) : Int := if h = 1 then (if b = 2 then 1 else 2) else (if b = 0 then 1 else 0)
theorem wnd_pm (a b : Int) : wnd a b = 1 ∨ wnd a b = -1 := by unfold wnd; split <;> simp
theorem cenN_bd (f : Nat → Int) (n : Nat) : 0 ≤ cenN f n ∧ cenN f n ≤ n := by
  have := sumN_bd (f := fun k => if f k = 2 then (1 : Int) else 0) (a := 0) (b := 1) (n := n) (fun k _ => by split <;> omega)
  unfold cenN
  omega
theorem leanN_bd (f : Nat → Int) (n : Nat) : -n ≤ leanN f n ∧ leanN f n ≤ n := by
  have := sumN_bd (f := fun k => if f k = 0 then (1 : Int) else if f k = 1 then -1 else 0) (a := -1) (b := 1) (n := n) (fun k _ => by split; omega; split <;> omega)
  unfold leanN
  omega
theorem twN_bd (f : Nat → Int) (n : Nat) : 0 ≤ twN f n ∧ twN f n ≤ n := by
  have := sumN_bd (f := fun k => if 2 ≤ k ∧ wnd (f (k - 1)) (f k) ≠ wnd (f (k - 2)) (f (k - 1)) then (1 : Int) else 0) (a := 0) (b := 1) (n := n) (fun k _ => by split <;> omega)
  unfold twN
  omega
theorem lefS_bd (f : Nat → Int) (n : Nat) : -n ≤ sumN (fun k => if 1 ≤ k then wnd (f (k - 1)) (f k) else 0) n ∧ sumN (fun k => if 1 ≤ k then wnd (f (k - 1)) (f k) else 0) n ≤ n := by
  have := sumN_bd (f := fun k => if 1 ≤ k then wnd (f (k - 1)) (f k) else 0) (a := -1) (b := 1) (n := n) (fun k _ => by
    split
    · rcases wnd_pm (f (k - 1)) (f k) with e | e <;> rw [e] <;> omega
    · omega)
  omega
theorem cenN_congr {f g : Nat → Int} {n : Nat} (h : ∀ k, k < n → f k = g k) : cenN f n = cenN g n := sumN_congr fun k hk => by rw [h k hk]
theorem leanN_congr {f g : Nat → Int} {n : Nat} (h : ∀ k, k < n → f k = g k) : leanN f n = leanN g n := sumN_congr fun k hk => by rw [h k hk]
theorem twN_congr {f g : Nat → Int} {n : Nat} (h : ∀ k, k < n → f k = g k) : twN f n = twN g n := sumN_congr fun k hk => by rw [h k hk, h (k - 1) (by omega), h (k - 2) (by omega)]
theorem lefN_congr {f g : Nat → Int} {n : Nat} (h : ∀ k, k < n → f k = g k) : lefN f n = lefN g n := by
  unfold lefN
  rw [sumN_congr fun k hk => by rw [h k hk, h (k - 1) (by omega)]]
theorem canT_congr {st : Int} {f g : Nat → Int} {n : Nat} (h : ∀ k, k < n → f k = g k) : canT st f n = canT st g n := by
  unfold canT
  by_cases e : 3 ≤ n
  · rw [h (n - 1) (by omega), h (n - 2) (by omega), h (n - 3) (by omega)]
  · rw [decide_eq_false e]; rfl
/-- what lies in front, the latest first -/
def frL (st : Int) (f : Nat → Int) (n : Nat) : Nat → List Int
  | 0 => []
  | j + 1 => if (st + ((n - 1 - j : Nat) : Int)) % 2 = 0 ∧ f (n - 1 - j) ∉ frL st f n j then frL st f n j ++ [f (n - 1 - j)] else frL st f n j
def enc : List Int → Int
  | [] => 0
  | a :: l => (a + 1) + 4 * enc l
def msk (l : List Int) : Int := (if (0 : Int) ∈ l then 1 else 0) + (if (1 : Int) ∈ l then 2 else 0) + (if (2 : Int) ∈ l then 4 else 0)
def frN (st : Int) (f : Nat → Int) (n : Nat) : Int := enc (frL st f n n)
def L16 : List (List Int) := [[], [0], [1], [2], [0, 1], [0, 2], [1, 0], [1, 2], [2, 0], [2, 1], [0, 1, 2], [0, 2, 1], [1, 0, 2], [1, 2, 0], [2, 0, 1], [2, 1, 0]]
theorem L16_in : ∀ l ∈ L16, ∀ p ∈ [(0 : Int), 1, 2], (p ∈ l → andI (shrI (msk l) p) 1 = 1 ∧ andI (msk l) (shlI 1 p) ≠ 0) ∧ (p ∉ l → andI (shrI (msk l) p) 1 ≠ 1 ∧ andI (msk l) (shlI 1 p) = 0 ∧ (l ++ [p]) ∈ L16 ∧ orI (msk l) (shlI 1 p) = msk (l ++ [p]) ∧ enc l + 4 ^ l.length * (p + 1) = enc (l ++ [p]) ∧ orI (enc l) (shlI (p + 1) (2 * (l.length : Int))) = enc (l ++ [p])) := by decide +kernel
theorem L16_bd : ∀ l ∈ L16, 0 ≤ enc l ∧ enc l < 64 ∧ l.length ≤ 3 := by decide +kernel
theorem frL_in {st : Int} {f : Nat → Int} {n : Nat} (h : ∀ k, k < n → pl3 (f k)) : ∀ j, j ≤ n → frL st f n j ∈ L16
  | 0, _ => by show ([] : List Int) ∈ L16; decide
  | j + 1, hj => by
    have ih := frL_in (st := st) h j (by omega)
    unfold frL
    split
    · rename_i e
      refine ((L16_in _ ih (f (n - 1 - j)) ?_).2 e.2).2.2.1
      rcases h (n - 1 - j) (by omega) with q | q | q <;> rw [q] <;> decide
    · exact ih
theorem frL_congr {st : Int} {f g : Nat → Int} {n : Nat} (h : ∀ k, k < n → f k = g k) : ∀ j, j ≤ n → frL st f n j = frL st g n j
  | 0, _ => rfl
  | j + 1, hj => by rw [frL, frL, frL_congr h j (by omega), h (n - 1 - j) (by omega)]
theorem frN_congr {st : Int} {f g : Nat → Int} {n : Nat} (h : ∀ k, k < n → f k = g k) : frN st f n = frN st g n := by unfold frN; rw [frL_congr h n (Nat.le_refl _)]
theorem frN_bd {st : Int} {f : Nat → Int} {n : Nat} (h : ∀ k, k < n → pl3 (f k)) : 0 ≤ frN st f n ∧ frN st f n < 64 := by
  have := L16_bd _ (frL_in (st := st) h n (Nat.le_refl _))
  exact ⟨this.1, this.2.1⟩
theorem mir_mir {x : Int} (h : pl3 x) : mir (mir x) = x := by rcases h with rfl | rfl | rfl <;> rfl
theorem mir_pl {x : Int} (h : pl3 x) : pl3 (mir x) := by rcases h with rfl | rfl | rfl <;> (unfold pl3 mir; decide)
theorem fol_pl (b h : Int) : pl3 (fol b h) := by unfold fol pl3; split <;> split <;> simp
theorem fol_ne {b : Int} (h : Int) : fol b h ≠ b := by unfold fol; split <;> split <;> omega
