/-! ===== what is kept stays well formed ===== -/
section WF
variable {a a0 : Ab} {σ τ : OS}
theorem wf_knot {st th cl : Int} (W : wfA a) : wfA (aKnot a st th cl).2 := by
  unfold aKnot
  split
  · rename_i h
    split
    · rename_i h2
      exact wfA_dh W ⟨wfKns_app W.1.1 h2 (wfKn_new h), W.1.2⟩
    · exact W
  · exact W
theorem wf_terms {what v : Int} (W : wfA a) : wfA (aTerms a what v).2 := by
  unfold aTerms
  by_cases h : (0 ≤ what ∧ what ≤ 2) ∧ ((if what = 2 then 1 else 0) ≤ v ∧ v ≤ (if what = 1 then 99 else 9))
  · rw [if_pos h]
    obtain ⟨w1, w2, w3, w4, w5, w6⟩ := id W.1
    refine wfA_dh (D := (a.1.1, a.1.2.1, a.1.2.2.1, setTm a.1.2.2.2.1 what v, a.1.2.2.2.2)) W ⟨w1, w2, w3, ?_, w5, w6⟩
    obtain ⟨⟨m1, m2⟩, ⟨n1, n2⟩, ⟨t1, t2⟩⟩ := w4
    unfold moodD needD thickD at *
    have hw : what = 0 ∨ what = 1 ∨ what = 2 := by omega
    rcases hw with rfl | rfl | rfl
    · have h2 : 0 ≤ v ∧ v ≤ 9 := h.2
      exact ⟨h2, ⟨n1, n2⟩, ⟨t1, t2⟩⟩
    · have h2 : 0 ≤ v ∧ v ≤ 99 := h.2
      exact ⟨⟨m1, m2⟩, h2, ⟨t1, t2⟩⟩
    · have h2 : 1 ≤ v ∧ v ≤ 9 := h.2
      exact ⟨⟨m1, m2⟩, ⟨n1, n2⟩, h2⟩
  · rw [if_neg h]
    exact W
theorem by4_b {x b : Int} (h : b ∈ by4 x) : 0 ≤ b ∧ b < 256 := by
  unfold by4 at h
  simp only [List.mem_cons, List.not_mem_nil, or_false] at h
  rcases h with rfl | rfl | rfl | rfl <;> exact ⟨Int.emod_nonneg _ (by decide), Int.emod_lt_of_pos _ (by decide)⟩
theorem wf_feed {v w x y z : Int} (W : wfA a) : wfA (aFeed a v w x y z).2 := by
  unfold aFeed
  split
  · rename_i h
    refine wfA_tp W ⟨?_, fun b hb => ?_⟩
    · simp only [List.length_append]
      show a.2.2.2.1.length + 4 + 4 + 4 + 4 + 4 ≤ 400
      omega
    · simp only [List.mem_append] at hb
      rcases hb with ((((hb | hb) | hb) | hb) | hb) | hb
      · exact W.2.2.2.1.2 b hb
      · exact by4_b hb
      · exact by4_b hb
      · exact by4_b hb
      · exact by4_b hb
      · exact by4_b hb
  · exact W
theorem wf_end {n : Int} (W : wfA a) : wfA (aEnd a n).2 := by
  unfold aEnd
  split
  · refine wfA_tp W ⟨?_, fun b hb => W.2.2.2.1.2 b (List.mem_of_mem_take hb)⟩
    rw [List.length_take]
    have := W.2.2.2.1.1
    omega
  · exact W
theorem wf_row (W : wfA a) : wfA (aRow a).2 := by
  unfold aRow
  split
  · exact W
  · exact ⟨⟨(rowN_wf W.1.1 _).1, W.1.2⟩, W.2.1, ⟨by simp, fun x hx => absurd hx (by simp)⟩, ⟨by simp, fun x hx => absurd hx (by simp)⟩, W.2.2.2.2⟩
theorem wf_force {l : Int} (W : wfA a) : wfA (aForce a l).2 := by
  unfold aForce
  split
  · rename_i h
    obtain ⟨w1, w2, w3, w4, w5, w6⟩ := id W.1
    exact wfA_d (D := (a.1.1, a.1.2.1, a.1.2.2.1, a.1.2.2.2.1, a.1.2.2.2.2.1, l)) W ⟨w1, w2, w3, w4, w5, h⟩ rfl
  · exact W
theorem wf_forget (W : wfA a) : wfA (aForget a).2 := by
  obtain ⟨w1, w2, w3, w4⟩ := id W.1
  exact wfA_d (D := (a.1.1, a.1.2.1, [], a.1.2.2.2)) W ⟨w1, w2, ⟨by simp, fun x hx => absurd hx (by simp)⟩, w4⟩ rfl
theorem wf_home (W : wfA a) : wfA (aHome a).2 := by
  obtain ⟨w1, w2, w3⟩ := id W.1
  exact wfA_d (D := (a.1.1, [], a.1.2.2)) W ⟨w1, ⟨by simp, fun x hx => absurd hx (by simp)⟩, w3⟩ rfl
theorem wf_boy {c : Int} (W : wfA a) : wfA (aBoy a c).2 := by
  unfold aBoy
  split
  · rename_i h
    split
    · rename_i h2
      obtain ⟨w1, w2, w3⟩ := id W.1
      refine wfA_d (D := (a.1.1, a.1.2.1 ++ [c], a.1.2.2)) W ⟨w1, ⟨by rw [List.length_append]; show a.1.2.1.length + 1 ≤ 6; omega, fun x hx => ?_⟩, w3⟩ rfl
      rcases List.mem_append.mp hx with h3 | h3
      · exact w2.2 x h3
      · rw [List.mem_singleton] at h3
        rw [h3]
        exact h
    · exact W
  · exact W
theorem wf_sight {k pl : Int} (W : wfA a) : wfA (aSight a k pl).2 := by
  unfold aSight
  split
  · rename_i h
    split
    · rename_i h2
      obtain ⟨w1, w2, w3, w4⟩ := id W.1
      refine wfA_d (D := (a.1.1, a.1.2.1, a.1.2.2.1 ++ [(k, pl)], a.1.2.2.2)) W ⟨w1, w2, ⟨by rw [List.length_append]; show a.1.2.2.1.length + 1 ≤ 12; omega, fun x hx => ?_⟩, w4⟩ rfl
      rcases List.mem_append.mp hx with h3 | h3
      · exact w3.2 x h3
      · rw [List.mem_singleton] at h3
        rw [h3]
        exact ⟨h.1, pl_of h.2⟩
    · exact W
  · exact W
theorem wf_out {r : Int × Ab} (W : wfA r.2) : wfA (aOut r).2 := by
  unfold aOut outA
  split
  · exact W
  · exact W
theorem wf_hands {seed n m : Int} (W : wfA a) : wfA (aHands a seed n m).2 := by
  unfold aHands
  split
  · rename_i h
    refine ⟨W.1, W.2.1, W.2.2.1, W.2.2.2.1, fun x hx => ?_⟩
    have : x = _ := (Option.some.inj hx).symm
    rw [this]
    show 3 ≤ ((List.range m.toNat).map _).length ∧ ((List.range m.toNat).map _).length ≤ 12
    rw [List.length_map, List.length_range]
    omega
  · exact W
theorem wf_image {k : Int} (W : wfA a) : wfA (aImage a k).2 := by
  unfold aImage
  split
  · refine ⟨W.1, ?_, W.2.2⟩
    show wfIm (if k = 0 then (some a.1, a.2.1.2) else (a.2.1.1, some a.1)).1 ∧ wfIm (if k = 0 then (some a.1, a.2.1.2) else (a.2.1.1, some a.1)).2
    have h1 : wfIm (some a.1) := fun D hD => by
      cases hD
      exact W.1
    split
    · exact ⟨h1, W.2.1.2⟩
    · exact ⟨W.2.1.1, h1⟩
  · exact W
theorem wf_back {k : Int} (W : wfA a) : wfA (aBack a k).2 := by
  unfold aBack
  split
  · have hI : wfIm (imgA a k) := by
      unfold imgA
      split
      · exact W.2.1.1
      · exact W.2.1.2
    cases ho : imgA a k with
    | none => exact W
    | some D => exact wfA_dh W (hI D ho)
  · exact W
theorem wf_law (W : wfA a) : wfA (aLaw a).2 := by
  unfold aLaw
  have W0 : wfA (setTp a []) := wfA_e W
  split
  · rename_i h6
    cases hr : rdT a.2.2.2.1 8 with
    | error e => exact W0
    | ok cls => exact wfA_law (a := setFt (setTp a []) (-1)) W0 h6 (wf_toks W.2.2.2.1.1 hr).1
  · exact W0
theorem rep_jo {q : Cl} : ∀ {m : Nat} {σ : OS}, JO a0 σ → repO q m σ = some τ → JO a0 τ
  | 0, σ, J, h => by
    cases h
    exact J
  | m + 1, σ, J, h => by
    rw [repO] at h
    cases ho : onceO q σ with
    | none => rw [ho] at h; cases h
    | some ρ =>
      rw [ho] at h
      exact rep_jo (J.once ho).1 h
theorem run_jo : ∀ {cls : List Cl} {n : Nat} {σ : OS}, JO a0 σ → runO cls n σ = .ok τ → JO a0 τ
  | [], n, σ, J, h => by
    cases h
    exact J
  | q :: r, n, σ, J, h => by
    rw [runO] at h
    cases ho : repO q q.2.1.toNat σ with
    | none => rw [ho] at h; cases h
    | some ρ =>
      rw [ho] at h
      exact run_jo (rep_jo J ho) h
theorem wf_ord (W : wfA a) : wfA (aOrd a).2 := by
  unfold aOrd
  cases hr : rdT a.2.2.2.1 14 with
  | error e => exact wfA_sp (a := a) (x := -1) W
  | ok cls =>
    dsimp only
    cases ho : runO cls 0 (setFt (setTp (setSp a (-1)) []) (-1), 0, -1) with
    | ok τ =>
      have J : JO (setFt (setTp (setSp a (-1)) []) (-1)) (setFt (setTp (setSp a (-1)) []) (-1), 0, -1) := ⟨wfA_sp W, ⟨rfl, rfl⟩, Int.le_refl _, show (-1 : Int) ≤ -1 by decide, show (-1 : Int) ≤ 100 by decide⟩
      exact (run_jo J ho).1
    | error n =>
      have W0 : wfA (setTp a []) := wfA_e W
      exact W0
end WF
