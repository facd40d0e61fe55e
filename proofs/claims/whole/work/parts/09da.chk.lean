def ckI (j i : Nat) : Bool := match (mCode j).drop i with
  | t :: c => iokT j (mCode j) t c
  | [] => true
def ckP (j a n : Nat) : Bool := (List.range n).all fun i => ckI j (a + i)
theorem ckP_get {j a n i : Nat} (h : ckP j a n = true) (h1 : a ≤ i) (h2 : i < a + n) : ckI j i = true := by
  have := List.all_eq_true.mp h (i - a) (List.mem_range.mpr (by omega))
  rwa [show a + (i - a) = i by omega] at this
theorem chk_of {j : Nat} {full : List Tp} : ∀ {c : List Tp}, (∀ i, i < c.length → (match c.drop i with
    | t :: c' => iokT j full t c'
    | [] => true) = true) → chk j full c = true
  | [], _ => rfl
  | t :: c, h => by
    unfold chk
    rw [Bool.and_eq_true]
    exact ⟨h 0 (by simp), chk_of (fun i hi => h (i + 1) (by simpa using hi))⟩
def ckB (j : Nat) : Bool := (hdPc (mCode j) == 0) && chk j (mCode j) (mCode j)
set_option maxRecDepth 100000 in
theorem ck_0 : ((List.range 5).all fun i => ckB (0 + i)) = true := by decide +kernel
set_option maxRecDepth 100000 in
theorem ck_1 : ((List.range 4).all fun i => ckB (5 + i)) = true := by decide +kernel
set_option maxRecDepth 100000 in
theorem ck_2 : ((List.range 4).all fun i => ckB (9 + i)) = true := by decide +kernel
set_option maxRecDepth 100000 in
theorem ck_3 : ((List.range 3).all fun i => ckB (13 + i)) = true := by decide +kernel
set_option maxRecDepth 100000 in
theorem ck_4 : ((List.range 5).all fun i => ckB (16 + i)) = true := by decide +kernel
set_option maxRecDepth 100000 in
theorem ck_5 : ((List.range 5).all fun i => ckB (21 + i)) = true := by decide +kernel
set_option maxRecDepth 100000 in
theorem ck_6 : ((List.range 3).all fun i => ckB (26 + i)) = true := by decide +kernel
