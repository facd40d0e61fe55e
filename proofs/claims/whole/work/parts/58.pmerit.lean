/-! ===== the class's merit orders as lean and twists do ===== -/
def mrt (n u : Nat) : Int := twN (plN n u) n - 16 * absI (leanN (plN n u) n)
theorem mrt_lt {l1 l2 t1 t2 : Int} (h1 : 0 ≤ t1 ∧ t1 ≤ 13) (h2 : 0 ≤ t2 ∧ t2 ≤ 13) : (t2 - 16 * l2 < t1 - 16 * l1) ↔ (if l1 = l2 then t2 < t1 else l1 < l2) := by
  by_cases c : l1 = l2
  · rw [if_pos c]; omega
  · rw [if_neg c]; omega
theorem btr_m {a : BA} {n u : Nat} {m : Int} (hn : n ≤ 12) (ht : 0 ≤ a.2.2.2.1 ∧ a.2.2.2.1 ≤ 13) (hm : m = a.2.2.2.1 - 16 * a.2.2.1) (h : a.2.1 ≠ -1) : btr a n u = decide (m < mrt n u) := by
  have tb := twN_bd (plN n u) n
  have key := mrt_lt (l1 := absI (leanN (plN n u) n)) (l2 := a.2.2.1) (t1 := twN (plN n u) n) (t2 := a.2.2.2.1) (by omega) ht
  unfold btr mrt
  rw [hm, decide_eq_false h, Bool.false_or]
  by_cases c : absI (leanN (plN n u) n) = a.2.2.1
  · rw [if_pos c] at key ⊢
    exact decide_eq_decide.mpr key.symm
  · rw [if_neg c] at key ⊢
    exact decide_eq_decide.mpr key.symm
