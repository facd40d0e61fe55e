/-! ===== the class's best word so far: one word more ===== -/
section PBS
variable {cls : List Cl} {mood th need cloth : Int}
/-- length x, merit m, chosen c are those of the best so far -/
def BsR (cls : List Cl) (mood th : Int) (a : BA) (x m c : Int) : Prop := (a.2.1 = -1 ∧ x = -1) ∨ (a.2.1 ≠ -1 ∧ x ≠ -1 ∧ m = a.2.2.2.1 - 16 * a.2.2.1 ∧ (0 ≤ a.2.2.2.1 ∧ a.2.2.2.1 ≤ 13) ∧ ∃ n i u : Nat, (3 ≤ n ∧ n ≤ 12) ∧ x = n ∧ c = i ∧ i < (prW cls mood th n).length ∧ u = (prW cls mood th n).getD i 0 ∧ a = ((n : Int), (u : Int), absI (leanN (plN n u) n), twN (plN n u) n, tkS cls mood th n u))
theorem BsR.skip {a : BA} {x m c : Int} {n u : Nat} (h : BsR cls mood th a x m c) (hc : ¬ (tkS cls mood th n u ≤ cloth ∧ need ≤ gpS cls mood th n u)) : BsR cls mood th (bstep cls mood th need cloth n a u) x m c := by
  unfold bstep
  rw [if_neg (fun e => hc ⟨e.1, e.2.1⟩)]
  exact h
theorem BsR.take {a : BA} {x m c : Int} {n i u : Nat} (h : BsR cls mood th a x m c) (hn : 3 ≤ n ∧ n ≤ 12) (hi : i < (prW cls mood th n).length) (hu : u = (prW cls mood th n).getD i 0) (hc : tkS cls mood th n u ≤ cloth ∧ need ≤ gpS cls mood th n u) (hb : x = -1 ∨ m < mrt n u) : BsR cls mood th (bstep cls mood th need cloth n a u) n (mrt n u) i := by
  have tb := twN_bd (plN n u) n
  have b1 : btr a n u = true := by
    rcases h with ⟨h1, h2⟩ | ⟨h1, h2, h3, h4, -⟩
    · unfold btr; rw [decide_eq_true h1, Bool.true_or]
    · rw [btr_m hn.2 h4 h3 h1]
      exact decide_eq_true (hb.resolve_left h2)
  unfold bstep
  rw [if_pos ⟨hc.1, hc.2, b1⟩]
  exact Or.inr ⟨by dsimp only; omega, by omega, rfl, by dsimp only; omega, n, i, u, hn, rfl, rfl, hi, hu, rfl⟩
theorem BsR.keep {a : BA} {x m c : Int} {n u : Nat} (h : BsR cls mood th a x m c) (hn : n ≤ 12) (hb : ¬ (x = -1 ∨ m < mrt n u)) : BsR cls mood th (bstep cls mood th need cloth n a u) x m c := by
  have b1 : ¬ (btr a n u = true) := by
    rcases h with ⟨h1, h2⟩ | ⟨h1, h2, h3, h4, -⟩
    · exact absurd (Or.inl h2) hb
    · rw [btr_m hn h4 h3 h1]
      exact fun e => hb (Or.inr (of_decide_eq_true e))
  unfold bstep
  rw [if_neg (fun e => b1 e.2.2)]
  exact h
end PBS
