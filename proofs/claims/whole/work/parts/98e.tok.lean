/-! ===== tokens of a text, pure ===== -/
def isL (x : Int) : Bool := decide (97 ≤ x) && decide (x ≤ 122)
def isD (x : Int) : Bool := decide (48 ≤ x) && decide (x ≤ 57)
def tA (t : List Int) (k : Nat) : Int := t.getD k 0
def extT (t : List Int) (p : Int → Bool) : Nat → Nat → Nat
  | 0, j => j
  | f + 1, j => if j < t.length ∧ p (tA t j) = true then extT t p f (j + 1) else j
/-- where the token at k ends -/
def tkN (t : List Int) (k : Nat) : Nat := if isL (tA t k) then extT t isL (t.length - (k + 1)) (k + 1) else if isD (tA t k) then extT t isD (t.length - (k + 1)) (k + 1) else k + 1
theorem extT_ge {t : List Int} {p : Int → Bool} : ∀ (f j : Nat), j ≤ extT t p f j
  | 0, j => Nat.le_refl _
  | f + 1, j => by
    rw [extT]
    split
    · have := extT_ge (t := t) (p := p) f (j + 1); omega
    · exact Nat.le_refl _
theorem extT_le {t : List Int} {p : Int → Bool} : ∀ (f j : Nat), j ≤ t.length → extT t p f j ≤ t.length
  | 0, j, h => h
  | f + 1, j, h => by
    rw [extT]
    split
    · rename_i e; exact extT_le f (j + 1) (by omega)
    · exact h
theorem extT_in {t : List Int} {p : Int → Bool} : ∀ (f j q : Nat), j ≤ q → q < extT t p f j → p (tA t q) = true
  | 0, j, q, h1, h2 => by rw [extT] at h2; omega
  | f + 1, j, q, h1, h2 => by
    rw [extT] at h2
    split at h2
    · rename_i e
      by_cases e2 : q = j
      · rw [e2]; exact e.2
      · exact extT_in f (j + 1) q (by omega) h2
    · omega
theorem tkN_gt {t : List Int} {k : Nat} : k < tkN t k := by
  unfold tkN
  split
  · have := extT_ge (t := t) (p := isL) (t.length - (k + 1)) (k + 1); omega
  · split
    · have := extT_ge (t := t) (p := isD) (t.length - (k + 1)) (k + 1); omega
    · omega
theorem tkN_le {t : List Int} {k : Nat} (h : k < t.length) : tkN t k ≤ t.length := by
  unfold tkN
  split
  · exact extT_le _ _ (by omega)
  · split
    · exact extT_le _ _ (by omega)
    · omega
/-- starts and ends of the tokens from k on -/
def tkz (t : List Int) : Nat → Nat → List (Nat × Nat)
  | 0, _ => []
  | f + 1, k => if k < t.length then (if tA t k = 32 then tkz t f (k + 1) else (k, tkN t k) :: tkz t f (tkN t k)) else []
theorem tkz_fuel {t : List Int} : ∀ (f g k : Nat), t.length - k ≤ f → t.length - k ≤ g → tkz t f k = tkz t g k
  | 0, 0, _, _, _ => rfl
  | 0, g + 1, k, h, _ => by rw [tkz, tkz, if_neg (by omega)]
  | f + 1, 0, k, _, h => by rw [tkz, tkz, if_neg (by omega)]
  | f + 1, g + 1, k, h1, h2 => by
    rw [tkz, tkz]
    by_cases e : k < t.length
    · rw [if_pos e, if_pos e]
      by_cases e2 : tA t k = 32
      · rw [if_pos e2, if_pos e2]; exact tkz_fuel f g (k + 1) (by omega) (by omega)
      · rw [if_neg e2, if_neg e2]
        have := tkN_gt (t := t) (k := k)
        rw [tkz_fuel f g (tkN t k) (by omega) (by omega)]
    · rw [if_neg e, if_neg e]
def tkF (t : List Int) (k : Nat) : List (Nat × Nat) := tkz t (t.length - k) k
theorem tkF_end {t : List Int} {k : Nat} (h : t.length ≤ k) : tkF t k = [] := by unfold tkF; rw [show t.length - k = 0 by omega]; rfl
theorem tkF_sp {t : List Int} {k : Nat} (h : k < t.length) (e : tA t k = 32) : tkF t k = tkF t (k + 1) := by
  unfold tkF
  rw [show t.length - k = (t.length - (k + 1)) + 1 by omega, tkz, if_pos h, if_pos e]
theorem tkF_tk {t : List Int} {k : Nat} (h : k < t.length) (e : tA t k ≠ 32) : tkF t k = (k, tkN t k) :: tkF t (tkN t k) := by
  unfold tkF
  have := tkN_gt (t := t) (k := k)
  rw [show t.length - k = (t.length - (k + 1)) + 1 by omega, tkz, if_pos h, if_neg e]
  rw [tkz_fuel _ (t.length - tkN t k) (tkN t k) (by omega) (by omega)]
/-- the words, with their numbers -/
def kw0 : List (List Int) := [[116, 97, 107, 101, 115], [103, 114, 105, 112, 115], [98, 97, 114, 115], [105, 102], [111, 114], [97, 110, 100], [110, 111, 116], [112, 108, 97, 99, 101], [115, 105, 100, 101], [97, 116], [98, 101, 102, 111, 114, 101], [116, 104, 105, 99, 107], [109, 111, 111, 100]]
def kw1 : List (List Int) := [[108, 97, 121], [111, 110], [116, 104, 114, 111, 117, 103, 104], [100, 114, 97, 119], [109, 105, 114, 114, 111, 114], [116, 105, 109, 101, 115], [107, 110, 111, 116, 115], [100, 111, 110, 101], [108, 97, 116, 101, 115, 116], [109, 97, 110, 121], [101, 110, 100], [99, 108, 111, 116, 104]]
def slT (t : List Int) (a b : Nat) : List Int := (t.drop a).take (b - a)
/-- the first of the rows that is w; g stands for none -/
def fdW (w : List Int) (g : Int) : List (List Int) → Int → Int
  | [], _ => g
  | x :: r, n => if w = x then n else fdW w g r (n + 1)
/-- the kind of a word for the class -/
def kwK (w : List Int) : Int := if fdW w 258 kw0 300 = 258 then fdW w 258 kw1 313 else fdW w 258 kw0 300
/-- and its number -/
def kwC (w : List Int) : Int := if kwK w = 258 then 0 else if kwK w ≤ 312 then kwK w - 299 else if kwK w ≤ 318 then kwK w - 293 else kwK w - 305
theorem fdW_r {w : List Int} {g : Int} : ∀ (ws : List (List Int)) (n : Int), fdW w g ws n = g ∨ (n ≤ fdW w g ws n ∧ fdW w g ws n < n + ws.length)
  | [], n => Or.inl rfl
  | x :: r, n => by
    rw [fdW]
    split
    · right; simp; omega
    · rcases fdW_r r (n + 1) with h | h
      · exact Or.inl h
      · right; simp only [List.length_cons]; omega
theorem kwK_r (w : List Int) : kwK w = 258 ∨ (300 ≤ kwK w ∧ kwK w ≤ 324) := by
  unfold kwK
  have h0 := fdW_r (w := w) (g := 258) kw0 300
  have h1 := fdW_r (w := w) (g := 258) kw1 313
  have l0 : (kw0.length : Int) = 13 := rfl
  have l1 : (kw1.length : Int) = 12 := rfl
  split <;> omega
theorem kwC_r (w : List Int) : (0 ≤ kwC w ∧ kwC w ≤ 25) ∧ kT (kwC w) = kwK w := by
  have h := kwK_r w
  unfold kwC
  split
  · rename_i e; rw [e]; decide
  · split
    · refine ⟨by omega, ?_⟩
      unfold kT
      rw [if_neg (by omega), if_pos (by omega)]
      omega
    · split
      · refine ⟨by omega, ?_⟩
        unfold kT
        rw [if_neg (by omega), if_neg (by omega), if_neg (by omega), if_pos (by omega)]
        omega
      · refine ⟨by omega, ?_⟩
        unfold kT
        rw [if_neg (by omega), if_neg (by omega), if_pos (by omega)]
        omega
/-- a number as the class tells it, and as the reference does -/
def nvC (t : List Int) (a : Nat) : Nat → Int
  | 0 => 0
  | k + 1 => minI (nvC t a k * 10 + tA t (a + k) - 48) 1001
def nvM (t : List Int) (a : Nat) : Nat → Int
  | 0 => 0
  | k + 1 => if nvM t a k > 1000000 then nvM t a k else 10 * nvM t a k + tA t (a + k) - 48
def cdT (t : List Int) (p : Nat × Nat) : Int := if isL (tA t p.1) then kwC (slT t p.1 p.2) else if isD (tA t p.1) then 50 else 100 + tA t p.1
def vcT (t : List Int) (p : Nat × Nat) : Int := if isL (tA t p.1) then 0 else if isD (tA t p.1) then nvC t p.1 (p.2 - p.1) else 0
def vmT (t : List Int) (p : Nat × Nat) : Int := if isL (tA t p.1) then 0 else if isD (tA t p.1) then nvM t p.1 (p.2 - p.1) else 0
/-- the tokens of a text as both keep them -/
def toks (t : List Int) : Lwt := (tkF t 0).map fun p => (cdT t p, vmT t p)
def cTx (t : List Int) (i : Nat) : Int := ((tkF t 0).map (cdT t)).getD i 0
def vTx (t : List Int) (i : Nat) : Int := ((tkF t 0).map (vcT t)).getD i 0
def sTx (t : List Int) (i : Nat) : Int := ((tkF t 0).map fun p => (p.1 : Int)).getD i t.length
