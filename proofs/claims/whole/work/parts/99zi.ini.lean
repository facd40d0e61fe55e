/-! ===== both constructors ===== -/
def emp0 (n : Int) : St := ((fun _ => 0), (fun _ _ => 0), (fun _ => []), n, 0)
def st0C : St := nO (emp0 1) 11 15
def st0M (n : Int) : St := nO (emp0 n) 12 63
def a00 : Ab := (D00, (none, none), [], [], (0, 0, -1, -1), (0, 0, 0, 0, 0), none)
theorem wf_a00 : wfA a00 := ⟨wf_D00, ⟨fun D h => (by cases h), fun D h => (by cases h)⟩, ⟨by decide, fun h hx => absurd hx (by simp [a00])⟩, ⟨by decide, fun b hb => absurd hb (by simp [a00])⟩, fun x hx => by cases hx⟩
/-- what the class's constructor leaves -/
def ckC (s : St) : Bool := decide (nx s = 98) && decide (sl s ≤ 20000) && ((List.range 97).all fun i => decide (kd s ((i + 1 : Nat) : Int) = kC ((i + 1 : Nat) : Int)) && decide ((gA s ((i + 1 : Nat) : Int)).length = lC ((i + 1 : Nat) : Int))) && (fCL.all fun q => decide (gF s q.1 q.2.1 = q.2.2)) && decide (gA s 4 = kRow 3) && decide (gA s 36 = kRow 35) && decide (gF s 3 1 = 0 ∧ gF s 3 3 = 0 ∧ gF s 3 6 = 0 ∧ gF s 3 9 = 0 ∧ gF s 3 10 = -1 ∧ gA s 8 = [0, 3, 2]) && decide (gA s 30 = [0, 0] ∧ gF s 10 0 = 0 ∧ gF s 1 1 = 0 ∧ gF s 1 12 = 0 ∧ gF s 1 14 = 0 ∧ gF s 1 13 = -1 ∧ gF s 75 3 = -1 ∧ gA s 97 = [0, 0, 0, 0, 0] ∧ gF s 89 1 = 0 ∧ gF s 78 2 = -1 ∧ gA s 76 = List.replicate 27 0)
theorem ck_C : (match ev 100 60 99 0 [(0, 1, 1)] [] st0C with
  | some ([], s) => ckC s
  | _ => false) = true := by decide +kernel
/-- what the reference's leaves -/
def ckM (s : St) : Bool := decide (nx s = 126) && decide (sl s ≤ 50000) && ((List.range 28).all fun i => decide (kd s (98 + (i : Int)) = kM (98 + (i : Int))) && decide ((gA s (98 + (i : Int))).length = lM (98 + (i : Int)))) && decide (gF s 98 1 = 99 ∧ gF s 98 2 = 100 ∧ gF s 98 3 = 101 ∧ gF s 98 4 = 102 ∧ gF s 98 5 = 103 ∧ gF s 98 7 = 104 ∧ gF s 98 11 = 105 ∧ gF s 98 12 = 106 ∧ gF s 98 15 = 107 ∧ gF s 98 16 = 108 ∧ gF s 98 17 = 109 ∧ gF s 98 25 = 110 ∧ gF s 98 26 = 111 ∧ gF s 98 30 = 112 ∧ gF s 98 31 = 113 ∧ gF s 98 32 = 114 ∧ gF s 98 34 = 115 ∧ gF s 98 35 = 116 ∧ gF s 98 36 = 117 ∧ gF s 98 42 = 118 ∧ gF s 98 43 = 119 ∧ gF s 98 44 = 120 ∧ gF s 98 45 = 121 ∧ gF s 98 46 = 122 ∧ gF s 98 47 = 123 ∧ gF s 98 57 = 124 ∧ gF s 98 58 = 125) && decide ((gA s 100).getD 136 0 = 0 ∧ (gA s 100).getD 170 0 = 0 ∧ (gA s 100).getD 171 0 = 0 ∧ (gA s 100).getD 167 0 = 0 ∧ (gA s 100).getD 168 0 = 3 ∧ (gA s 100).getD 169 0 = 2 ∧ (gA s 100).getD 172 0 = 0 ∧ (gA s 100).getD 173 0 = -1) && decide (gA s 102 = [0, 0] ∧ gF s 98 33 = 0 ∧ gF s 98 13 = 0 ∧ gF s 98 0 = 0 ∧ gF s 98 6 = 0 ∧ gF s 98 14 = -1 ∧ gF s 98 49 = -1 ∧ gA s 99 = [0, 0, 0, 0, 0, 0, 0] ∧ gF s 98 59 = -1 ∧ gA s 104 = wdsL)
theorem ck_M : (match ev 100 60 162 0 [(0, 1, 98)] [] (st0M 98) with
  | some ([], s) => ckM s
  | _ => false) = true := by decide +kernel
theorem ini_C : ∃ s, EV 60 99 0 [(0, 1, 1)] [] st0C = some ([], s) ∧ RepC a00 s ∧ Fz s ∧ nx s = 98 ∧ sl s ≤ 20000 := by
  have h := ck_C
  split at h
  · rename_i s he
    have Q := ev_qz 100 60 99 0 _ _ _ _ he
    refine ⟨s, EV_of he, ?_⟩
    unfold ckC at h
    simp only [Bool.and_eq_true, decide_eq_true_eq] at h
    obtain ⟨⟨⟨⟨⟨⟨⟨h1, h2⟩, h3⟩, h4⟩, h5⟩, h6⟩, h7⟩, h8⟩ := h
    have h3' : ∀ p : Int, 0 < p → p < 98 → kd s p = kC p ∧ (gA s p).length = lC p := fun p p1 p2 => by
      have := List.all_eq_true.mp h3 (p - 1).toNat (List.mem_range.mpr (by omega))
      rw [Bool.and_eq_true, decide_eq_true_eq, decide_eq_true_eq, show (((p - 1).toNat + 1 : Nat) : Int) = p by omega] at this
      exact this
    have hs : ShC s := ⟨fun p p1 p2 => (h3' p p1 p2).1, fun p p1 p2 => (h3' p p1 p2).2, fun q hq => by
      have := List.all_eq_true.mp h4 q hq
      simpa using this, ⟨h5, h6⟩, by omega⟩
    obtain ⟨f1, f3, f6, f9, f10, a8⟩ := h7
    obtain ⟨a30, f100, t0, g12, g14, g13, g75, a97, g89, g78, a76⟩ := h8
    refine ⟨⟨hs, ⟨hs.d3, ⟨f1, fun i hi => absurd hi (by simp [a00, D00])⟩, ⟨f3, fun i hi => absurd hi (by simp [a00, D00])⟩, ⟨f6, fun i hi => absurd hi (by simp [a00, D00])⟩, a8, ⟨f9, fun i hi => absurd hi (by simp [a00, D00])⟩, f10⟩, ?_, ⟨f100, fun i hi => absurd hi (by simp [a00])⟩, ⟨t0, fun i hi => absurd hi (by simp [a00])⟩, ⟨g12, g14, g13, g75⟩, a97, g89, Or.inl g78, ?_⟩, ?_, h1, h2⟩
    · have e0 : af s 30 0 = 0 := by unfold af; rw [a30]; rfl
      have e1 : af s 30 1 = 0 := by unfold af; rw [a30]; rfl
      unfold IsC
      rw [e0, e1]
      exact ⟨Or.inl ⟨rfl, rfl⟩, Or.inl ⟨rfl, rfl⟩, Or.inl rfl⟩
    · intro k hk
      rw [a76, List.getD_eq_getElem?_getD, List.getElem?_replicate, if_pos hk]
      show -1000000000 ≤ (0 : Int) ∧ (0 : Int) ≤ 1000000000
      omega
    · intro p hp
      have hp' : p ≠ 1 := by omega
      refine (Q.2 p (Or.inr hp) ?_ rfl).1
      show (if p = 1 then 15 else 0) = 0
      rw [if_neg hp']
  · cases h
theorem ini_M : ∃ s, EV 60 162 0 [(0, 1, 98)] [] (st0M 98) = some ([], s) ∧ RepM a00 s ∧ nx s = 126 ∧ sl s ≤ 50000 := by
  have h := ck_M
  split at h
  · rename_i s he
    have Q := ev_qz 100 60 162 0 _ _ _ _ he
    refine ⟨s, EV_of he, ?_⟩
    unfold ckM at h
    simp only [Bool.and_eq_true, decide_eq_true_eq] at h
    obtain ⟨⟨⟨⟨⟨h1, h2⟩, h3⟩, h4⟩, h5⟩, h6⟩ := h
    have out : ∀ p : Int, ¬ (98 ≤ p ∧ p < 126) → kd s p = 0 ∧ gA s p = [] := fun p hp => by
      refine Q.2 p ?_ ?_ rfl
      · show p < 98 + 1 ∨ nx s ≤ p
        omega
      · show (if p = 98 then 16 else 0) = 0
        rw [if_neg (by omega)]
    have inn : ∀ p : Int, 98 ≤ p ∧ p < 126 → kd s p = kM p ∧ (gA s p).length = lM p := fun p hp => by
      have := List.all_eq_true.mp h3 (p - 98).toNat (List.mem_range.mpr (by omega))
      rw [Bool.and_eq_true, decide_eq_true_eq, decide_eq_true_eq, show 98 + ((p - 98).toNat : Int) = p by omega] at this
      exact this
    have kMo : ∀ p : Int, ¬ (98 ≤ p ∧ p < 126) → kM p = 0 ∧ lM p = 0 := fun p hp => by
      unfold kM lM
      by_cases e : p < 98
      · rw [if_pos e, if_pos e]
        exact ⟨rfl, rfl⟩
      · rw [if_neg e, if_neg e, gd_end (by show 28 ≤ _; omega), gd_end (by show 28 ≤ _; omega)]
        exact ⟨rfl, rfl⟩
    have hs : ShM s := by
      refine ⟨fun p => ?_, fun p => ?_, h4⟩
      · by_cases e : 98 ≤ p ∧ p < 126
        · exact (inn p e).1
        · rw [(out p e).1, (kMo p e).1]
      · by_cases e : 98 ≤ p ∧ p < 126
        · exact (inn p e).2
        · rw [(out p e).2, (kMo p e).2]
          rfl
    obtain ⟨k136, k170, k171, k167, k168, k169, k172, k173⟩ := h5
    obtain ⟨a102, f33, f13, f0, f6, f14, f49, a99, f59, a104⟩ := h6
    refine ⟨⟨hs, ⟨⟨k136, fun i hi => absurd hi (by simp [a00, D00])⟩, ⟨k170, fun i hi => absurd hi (by simp [a00, D00])⟩, ⟨k171, fun i hi => absurd hi (by simp [a00, D00])⟩, ⟨k167, k168, k169⟩, ⟨k172, fun i hi => absurd hi (by simp [a00, D00])⟩, k173⟩, ⟨?_, ?_⟩, ⟨f33, fun i hi => absurd hi (by simp [a00])⟩, ⟨f13, fun i hi => absurd hi (by simp [a00])⟩, ⟨f0, f6, f14, f49⟩, ?_, f59, a104⟩, h1, h2⟩
    · show (gA s 102).getD 0 0 = 0
      rw [a102]
      rfl
    · show (gA s 102).getD 1 0 = 0
      rw [a102]
      rfl
    · unfold RfM
      rw [a99]
      exact ⟨rfl, rfl, rfl, rfl, rfl⟩
  · cases h
