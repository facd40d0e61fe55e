/-! ===== the class's merit orders as lean and twists do ===== -/
def mrt (n u : Nat) : Int := twN (plN n u) n - 16 * absI (leanN (plN n u) n)
theorem mrt_lt {l1 l2 t1 t2 : Int} (h1 : 0 ≤ t1 ∧ t1 ≤ 13) (h2 : 0 ≤ t2 ∧ t2 ≤ 13) : (t2 - 16 * l2 < t1 - 16 * l1) ↔ (if l1 = l2 then t2 < t1 else l1 < l2) := by
  by_cases c : l1 = l2
  · rw [if_pos c]; omega
  · rw [if_neg c]; omega
