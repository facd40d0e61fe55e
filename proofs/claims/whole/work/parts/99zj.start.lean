/-! ===== the law's start: what the tables give, an object is made, its constructor is called ===== -/
theorem good_in {w : Cond} (h : w ∈ lw_tbl) (hg : goodWord w = true) : w ∈ lw_good := List.mem_filter.mpr ⟨h, hg⟩
section STA
variable {s : State} {args : Array Value}
theorem st_cls (hts : ∀ w ∈ lw_good, w.before args s = true) : ∃ f : Nat → ClassId × (Nat → Nat), ∀ ci, ci < 13 → u_Kn s (cn ci) (cT ci) (cN ci) (f ci).1 (f ci).2 := by
  have h : ∀ ci : Nat, ∃ q : ClassId × (Nat → Nat), ci < 13 → u_Kn s (cn ci) (cT ci) (cN ci) q.1 q.2 := by
    intro ci
    by_cases hc : ci < 13
    · obtain ⟨cC, iS, hK⟩ := u_known (C := cn ci) (T := cT ci) (N := cN ci) (n := cN ci) hts (lay_in hc) (hts _ (ini_in hc).2)
      exact ⟨(cC, iS), fun _ => hK⟩
    · exact ⟨(0, fun _ => 0), fun h => absurd h hc⟩
  exact Classical.axiomOfChoice h
theorem st_prim {ty : FieldType} (h : (Cond.arrayClass ty).before args s = true) (hty : ty = .int ∨ ty = .byte ∨ ty = .boolean ∨ ty = .long) : ∃ cA : ClassId, ArrOfT s cA ty ∧ va_RA s cA ty := by
  obtain ⟨cA, k, comp, h1, h2, h3⟩ := Cond.arrayClass_spec (args := args) (first := s) (o := none) (s := s) (idx := []) h
  refine ⟨cA, fun n z => ⟨fun k h => (by cases h), k, h2, comp, h3⟩, ?_⟩
  rcases hty with rfl | rfl | rfl | rfl
  · exact h1
  · exact h1
  · exact h1
  · exact h1
theorem st_over {C : String} (h : (Cond.arrayOver (.object C)).before args s = true) : ∃ cA : ClassId, ArrOfT s cA (.object C) ∧ va_RA s cA (.object C) := by
  obtain ⟨comp, cA, k, h1, -, h3, h4, h5⟩ := Cond.arrayOver_spec (args := args) (first := s) (o := none) (s := s) (idx := []) h
  exact ⟨cA, fun n z => ⟨fun k h => (by cases h), k, h3, comp, h4⟩, k, comp, h3, h4, h1, h5⟩
theorem st_arr (hts : ∀ w ∈ lw_tbl, w.before args s = true) : ∃ g : Nat → ClassId, ∀ i, i < 7 → ArrOfT s (g i) (aty (20 + i)) ∧ va_RA s (g i) (aty (20 + i)) := by
  have h : ∀ i : Nat, ∃ cA : ClassId, i < 7 → ArrOfT s cA (aty (20 + i)) ∧ va_RA s cA (aty (20 + i)) := by
    intro i
    by_cases hc : i < 7
    · have hi : i = 0 ∨ i = 1 ∨ i = 2 ∨ i = 3 ∨ i = 4 ∨ i = 5 ∨ i = 6 := by omega
      rcases hi with rfl | rfl | rfl | rfl | rfl | rfl | rfl
      · obtain ⟨cA, q⟩ := st_prim (hts (.arrayClass .int) (by decide +kernel)) (by simp)
        exact ⟨cA, fun _ => q⟩
      · obtain ⟨cA, q⟩ := st_prim (hts (.arrayClass .byte) (by decide +kernel)) (by simp)
        exact ⟨cA, fun _ => q⟩
      · obtain ⟨cA, q⟩ := st_prim (hts (.arrayClass .boolean) (by decide +kernel)) (by simp)
        exact ⟨cA, fun _ => q⟩
      · obtain ⟨cA, q⟩ := st_prim (hts (.arrayClass .long) (by decide +kernel)) (by simp)
        exact ⟨cA, fun _ => q⟩
      · obtain ⟨cA, q⟩ := st_over (C := cn 3) (hts (.arrayOver (.object (cn 3))) (by decide +kernel))
        exact ⟨cA, fun _ => q⟩
      · obtain ⟨cA, q⟩ := st_over (C := cn 0) (hts (.arrayOver (.object (cn 0))) (by decide +kernel))
        exact ⟨cA, fun _ => q⟩
      · obtain ⟨cA, q⟩ := st_over (C := cn 7) (hts (.arrayOver (.object (cn 7))) (by decide +kernel))
        exact ⟨cA, fun _ => q⟩
    · exact ⟨0, fun h => absurd h hc⟩
  exact Classical.axiomOfChoice h
/-- the text constants -/
def tmS (i : Nat) : Term := if i = 0 then .string "NeckKnots$Reader" 85 else .string "NeckKnots$Reader" 91
theorem sta_el : ∀ i, i < 2 → ∀ j, j < (strL.map List.length).getD i 0 → Cond.eq (.elem (.field (tmS i) "java/lang/String" "value" "[B") (.int (Int32.ofNat j))) (.int (((strL.map fun q => q.map Int32.ofInt).getD i []).getD j 0)) ∈ flatC (Jvm.Cond.and given_1 narrow_1) := by decide +kernel
theorem sta_len : ∀ i, i < 2 → Cond.eq (.length (.field (tmS i) "java/lang/String" "value" "[B")) (.int (Int32.ofNat ((strL.map List.length).getD i 0))) ∈ flatC (Jvm.Cond.and given_1 narrow_1) := by decide +kernel
theorem st_str {A : Nat → Prop} (hgv : (Jvm.Cond.and given_1 narrow_1).before args s = true) (hA : ∀ a : Nat, a < s.heap.size → ¬ A a) : ∃ adK adV : Nat → Nat, vk_S 2 (strL.map List.length) (strL.map fun q => q.map Int32.ofInt) adK adV A s s.heap ∧ ∀ i : Nat, i < 2 → (tmS i).eval args s none [] s = some (.ref (adK i)) := by
  have hs := flat_of_before _ hgv
  have two : ∀ {P : Nat → Prop}, P 0 → P 1 → ∀ i, i < 2 → P i := fun p0 p1 i hi => by
    have : i = 0 ∨ i = 1 := by omega
    rcases this with rfl | rfl
    · exact p0
    · exact p1
  refine vk_Sof (tm := tmS) (two (by decide) (by decide)) (two (hs _ (by decide +kernel)) (hs _ (by decide +kernel))) (two (hs _ (by decide +kernel)) (hs _ (by decide +kernel))) (two (hs _ (by decide +kernel)) (hs _ (by decide +kernel))) (fun i hi => hs _ (sta_len i hi)) (fun i hi j hj => hs _ (sta_el i hi j hj)) (fun i j hi hj hne => ?_) hA
  have h01 : (Cond.not (Cond.eq (tmS 0) (tmS 1))).before args s = true ∨ (Cond.not (Cond.eq (tmS 1) (tmS 0))).before args s = true := by
    first
      | exact Or.inl (hs _ (by decide +kernel))
      | exact Or.inr (hs _ (by decide +kernel))
  have : (i = 0 ∧ j = 1) ∨ (i = 1 ∧ j = 0) := by omega
  rcases this with ⟨rfl, rfl⟩ | ⟨rfl, rfl⟩
  · exact h01
  · exact h01.symm
end STA
