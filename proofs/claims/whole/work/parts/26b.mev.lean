/-! ===== the reference reckons terms and sums ===== -/
def tstep (o live x w b : Int) : Int × Int :=
  let w1 := if o ≠ 7 ∧ w = 0 then 1 else w
  let b1 := if o ≠ 7 ∧ w = 0 then (if b = 0 ∧ live = 0 then 0 else 1) else b
  let y := if o = 7 then x * w1 else if o = 8 then Int.tdiv x w1 else Int.tmod x w1
  if live ≠ 0 ∧ lim y = none then (0, 1) else if b1 = 0 then (y, b1) else (0, b1)
def sstep (o live x w b : Int) : Int × Int :=
  let y := if o = 5 then x + w else x - w
  if live ≠ 0 ∧ lim y = none then (0, 1) else if b = 0 then (y, b) else (0, b)
theorem lim_0 : lim 0 = some 0 := rfl
theorem lim_id {x : Int} (h : -1000000000 ≤ x ∧ x ≤ 1000000000) : lim x = some x := if_pos h
theorem tstep_ev {ρ : Nat → Int} {o live b : Int} {x y : Dn} (ho : o = 7 ∨ o = 8 ∨ o = 9) (hl : live = 0 ∨ live = 1) (hb : b = 0 ∨ b = 1) (hx : okV x ρ) : tstep o live (evV x ρ live b).1 (evV y ρ live (evV x ρ live b).2).1 (evV y ρ live (evV x ρ live b).2).2 = evV (jD o x y) ρ live b := by
  rcases hl with rfl | rfl
  · rcases hb with rfl | rfl <;> rcases ho with rfl | rfl | rfl <;> rfl
  · rcases hb with rfl | rfl
    · cases e1 : x ρ with
      | none =>
        have q1 : evV x ρ 1 0 = (0, 1) := by simp [evV, oV, e1]
        have q2 : evV (jD o x y) ρ 1 0 = (0, 1) := by simp [evV, oV, jD, e1]
        rw [q1, q2]
        rcases ho with rfl | rfl | rfl <;> rfl
      | some a =>
        have q1 : evV x ρ 1 0 = (a, 0) := by simp [evV, oV, e1]
        have ha := hx a e1
        rw [q1]
        cases e2 : y ρ with
        | none =>
          have q2 : evV y ρ 1 0 = (0, 1) := by simp [evV, oV, e2]
          have q3 : evV (jD o x y) ρ 1 0 = (0, 1) := by simp [evV, oV, jD, e1, e2]
          rw [q2, q3]
          rcases ho with rfl | rfl | rfl
          · simp [tstep, lim_0]
          · simp [tstep, lim_id ha]
          · simp [tstep, lim_0]
        | some w =>
          have q2 : evV y ρ 1 0 = (w, 0) := by simp [evV, oV, e2]
          have q3 : evV (jD o x y) ρ 1 0 = oV (jnd o a w) := by simp [evV, jD, e1, e2]
          rw [q2, q3]
          rcases ho with rfl | rfl | rfl
          · simp only [tstep, jnd]
            simp
            unfold lim
            by_cases h : -1000000000 ≤ a * w ∧ a * w ≤ 1000000000
            · simp [h, oV]
            · simp [h, oV]
          · simp only [tstep, jnd]
            by_cases hw : w = 0
            · simp [hw, lim_id ha, oV]
            · simp [hw]
              unfold lim
              by_cases h : -1000000000 ≤ Int.tdiv a w ∧ Int.tdiv a w ≤ 1000000000
              · simp [h, oV]
              · simp [h, oV]
          · simp only [tstep, jnd]
            by_cases hw : w = 0
            · simp [hw, lim_0, oV]
            · simp [hw]
              unfold lim
              by_cases h : -1000000000 ≤ Int.tmod a w ∧ Int.tmod a w ≤ 1000000000
              · simp [h, oV]
              · simp [h, oV]
    · have q1 : ∀ z : Dn, evV z ρ 1 1 = (0, 1) := fun z => by simp [evV]
      rw [q1, q1, q1]
      rcases ho with rfl | rfl | rfl <;> rfl
theorem sstep_ev {ρ : Nat → Int} {o live b : Int} {x y : Dn} (ho : o = 5 ∨ o = 6) (hl : live = 0 ∨ live = 1) (hb : b = 0 ∨ b = 1) (hx : okV x ρ) : sstep o live (evV x ρ live b).1 (evV y ρ live (evV x ρ live b).2).1 (evV y ρ live (evV x ρ live b).2).2 = evV (jD o x y) ρ live b := by
  rcases hl with rfl | rfl
  · rcases hb with rfl | rfl <;> rcases ho with rfl | rfl <;> rfl
  · rcases hb with rfl | rfl
    · cases e1 : x ρ with
      | none =>
        have q1 : evV x ρ 1 0 = (0, 1) := by simp [evV, oV, e1]
        have q2 : evV (jD o x y) ρ 1 0 = (0, 1) := by simp [evV, oV, jD, e1]
        rw [q1, q2]
        rcases ho with rfl | rfl <;> rfl
      | some a =>
        have q1 : evV x ρ 1 0 = (a, 0) := by simp [evV, oV, e1]
        have ha := hx a e1
        rw [q1]
        cases e2 : y ρ with
        | none =>
          have q2 : evV y ρ 1 0 = (0, 1) := by simp [evV, oV, e2]
          have q3 : evV (jD o x y) ρ 1 0 = (0, 1) := by simp [evV, oV, jD, e1, e2]
          rw [q2, q3]
          rcases ho with rfl | rfl
          · simp [sstep, lim_id ha]
          · simp [sstep, lim_id ha]
        | some w =>
          have q2 : evV y ρ 1 0 = (w, 0) := by simp [evV, oV, e2]
          have q3 : evV (jD o x y) ρ 1 0 = oV (jnd o a w) := by simp [evV, jD, e1, e2]
          rw [q2, q3]
          rcases ho with rfl | rfl
          · simp only [sstep, jnd]
            simp
            unfold lim
            by_cases h : -1000000000 ≤ a + w ∧ a + w ≤ 1000000000
            · simp [h, oV]
            · simp [h, oV]
          · simp only [sstep, jnd]
            simp
            unfold lim
            by_cases h : -1000000000 ≤ a - w ∧ a - w ≤ 1000000000
            · simp [h, oV]
            · simp [h, oV]
    · have q1 : ∀ z : Dn, evV z ρ 1 1 = (0, 1) := fun z => by simp [evV]
      rw [q1, q1, q1]
      rcases ho with rfl | rfl <;> rfl
theorem mul_bd {a b : Int} (ha : -1000000000 ≤ a ∧ a ≤ 1000000000) (hb : -1000000000 ≤ b ∧ b ≤ 1000000000) : -1000000000000000000 ≤ a * b ∧ a * b ≤ 1000000000000000000 := by
  have h := Int.natAbs_mul a b
  have h1 : a.natAbs ≤ 1000000000 := by omega
  have h2 : b.natAbs ≤ 1000000000 := by omega
  have h3 := Nat.mul_le_mul h1 h2
  omega
theorem tdiv_bd {a b : Int} (ha : -1000000000 ≤ a ∧ a ≤ 1000000000) : -1000000000 ≤ Int.tdiv a b ∧ Int.tdiv a b ≤ 1000000000 := by
  have h := Int.natAbs_tdiv_le_natAbs a b
  omega
theorem tmod_bd {a b : Int} (ha : -1000000000 ≤ a ∧ a ≤ 1000000000) : -1000000000 ≤ Int.tmod a b ∧ Int.tmod a b ≤ 1000000000 := by
  have h := tmod_abs a b
  rcases Int.lt_or_le a 0 with q | q
  · have := h.2 q; omega
  · have := h.1 q; omega
section MEW
variable {s : St} {B nt : Nat} {c v : Nat → Int} {fw lw : Int} {ρ : Nat → Int}
theorem m_t121 {D : Nat} {g b live x w o : Int} (hs : ShM s) (hb : b = 0 ∨ b = 1) (hx : -1000000000 ≤ x ∧ x ≤ 1000000000) (hw : -1000000000 ≤ w ∧ w ≤ 1000000000) (ho : o = 142 ∨ o = 147 ∨ o = 137) (hw0 : o = 142 ∨ w ≠ 0) :
    X12_termOf_121 (D + 1) (ge s g b) 98 live x o w = X12_termOf_6 (D + 1) (ge s g (tstep (opM o) live x w b).2) 98 live (tstep (opM o) live x w b).1 := by
  rw [e_X12_termOf_121]
  have m1 := mul_bd hx hw
  have m2 := tdiv_bd (b := w) hx
  have m3 := tmod_bd (b := w) hx
  rcases ho with rfl | rfl | rfl
  · simp (disch := ((try simp only [kd_sF, kd_sA, gA_sF, gA_sA, gF_sF, gF_sA, List.length_set, reduceIte, and_true, and_false, true_and, false_and, Nat.reduceEqDiff, Int.reduceEq, hs.kd, hs.ln, hs.fs, kMs, lMs, ge_K]); first | done | omega)) only [rF_ok, wF_ok, oK_ok, lA_ok, rA_ok, wA_ok, cI_ok, cV_ok, cL_ok, cR_ok, kd_sF, kd_sA, gA_sF, gF_sA, gF_sF, gA_sA, bk_0, bk_1, List.length_set, reduceIte, and_true, and_false, true_and, false_and, ne_eq, not_true_eq_false, not_false_eq_true, Int.toNat_natCast, Int.reduceToNat, Nat.reduceEqDiff, Int.reduceEq, Int.reduceLT, Int.reduceLE, Int.reduceAdd, Int.reduceSub, Int.reduceMul, Int.reduceNeg, hs.kd, hs.ln, hs.fs, kMs, lMs, ge_K, e_X12_sign, wi_sm, wl_sm, m_bounded hs (x := x * w) (by omega) hb]
    simp only [tstep, opM, reduceIte]
    simp only [ne_eq, not_true_eq_false, false_and, reduceIte]
    by_cases h : ¬ live = 0 ∧ lim (x * w) = none
    · rw [if_pos h, if_pos h]; rfl
    · rw [if_neg h, if_neg h]
      rcases hb with rfl | rfl <;> rfl
  · have hw1 : ¬ w = 0 := by omega
    simp (disch := ((try simp only [kd_sF, kd_sA, gA_sF, gA_sA, gF_sF, gF_sA, List.length_set, reduceIte, and_true, and_false, true_and, false_and, Nat.reduceEqDiff, Int.reduceEq, hs.kd, hs.ln, hs.fs, kMs, lMs, ge_K]); first | done | omega)) only [rF_ok, wF_ok, oK_ok, lA_ok, rA_ok, wA_ok, cI_ok, cV_ok, cL_ok, cR_ok, kd_sF, kd_sA, gA_sF, gF_sA, gF_sF, gA_sA, bk_0, bk_1, List.length_set, reduceIte, and_true, and_false, true_and, false_and, ne_eq, not_true_eq_false, not_false_eq_true, Int.toNat_natCast, Int.reduceToNat, Nat.reduceEqDiff, Int.reduceEq, Int.reduceLT, Int.reduceLE, Int.reduceAdd, Int.reduceSub, Int.reduceMul, Int.reduceNeg, hs.kd, hs.ln, hs.fs, kMs, lMs, ge_K, e_X12_sign, wi_sm, wl_sm, hw1, m_bounded hs (x := Int.tdiv x w) (by omega) hb]
    simp only [tstep, opM, reduceIte, Int.reduceEq]
    simp only [ne_eq, hw1, and_false, reduceIte]
    by_cases h : ¬ live = 0 ∧ lim (Int.tdiv x w) = none
    · simp [h]; rfl
    · rw [if_neg h]
      simp only [Int.reduceEq, reduceIte, h]
      rcases hb with rfl | rfl <;> rfl
  · have hw1 : ¬ w = 0 := by omega
    simp (disch := ((try simp only [kd_sF, kd_sA, gA_sF, gA_sA, gF_sF, gF_sA, List.length_set, reduceIte, and_true, and_false, true_and, false_and, Nat.reduceEqDiff, Int.reduceEq, hs.kd, hs.ln, hs.fs, kMs, lMs, ge_K]); first | done | omega)) only [rF_ok, wF_ok, oK_ok, lA_ok, rA_ok, wA_ok, cI_ok, cV_ok, cL_ok, cR_ok, kd_sF, kd_sA, gA_sF, gF_sA, gF_sF, gA_sA, bk_0, bk_1, List.length_set, reduceIte, and_true, and_false, true_and, false_and, ne_eq, not_true_eq_false, not_false_eq_true, Int.toNat_natCast, Int.reduceToNat, Nat.reduceEqDiff, Int.reduceEq, Int.reduceLT, Int.reduceLE, Int.reduceAdd, Int.reduceSub, Int.reduceMul, Int.reduceNeg, hs.kd, hs.ln, hs.fs, kMs, lMs, ge_K, e_X12_sign, wi_sm, wl_sm, hw1, m_bounded hs (x := Int.tmod x w) (by omega) hb]
    simp only [tstep, opM, reduceIte, Int.reduceEq]
    simp only [ne_eq, hw1, and_false, reduceIte]
    by_cases h : ¬ live = 0 ∧ lim (Int.tmod x w) = none
    · simp [h]; rfl
    · rw [if_neg h]
      simp only [Int.reduceEq, reduceIte, h]
      rcases hb with rfl | rfl <;> rfl
theorem m_t54 {D : Nat} {i j : Nat} {b b2 live x w : Int} (X : EvX s B nt c v fw lw ρ) (hi : i < nt) (hb : b = 0 ∨ b = 1) (hb2 : b2 = 0 ∨ b2 = 1) (hl : live = 0 ∨ live = 1) (hx : -1000000000 ≤ x ∧ x ≤ 1000000000) (hw : -1000000000 ≤ w ∧ w ≤ 1000000000) (ho : c i = 142 ∨ c i = 147 ∨ c i = 137)
    (hp : X12_partOf D (ge s ((B : Int) + (i + 1 : Nat)) b) 98 live = some ([(2, w)], ge s ((B : Int) + j) b2)) :
    X12_termOf_54 (D + 1) (ge s ((B : Int) + i) b) 98 live x = X12_termOf_6 (D + 1) (ge s ((B : Int) + j) (tstep (opM (c i)) live x w b2).2) 98 live (tstep (opM (c i)) live x w b2).1 := by
  have hs := X.1
  have hnt := X.2.2.2.1
  have hB := X.2.2.2.2.1
  rw [e_X12_termOf_54]
  have e8 : (B : Int) + i + 1 = B + (i + 1 : Nat) := by omega
  simp (disch := ((try simp only [kd_sF, kd_sA, gA_sF, gA_sA, gF_sF, gF_sA, List.length_set, reduceIte, and_true, and_false, true_and, false_and, Nat.reduceEqDiff, Int.reduceEq, hs.kd, hs.ln, hs.fs, kMs, lMs, ge_K]); first | done | omega)) only [rF_ok, wF_ok, oK_ok, lA_ok, rA_ok, wA_ok, cI_ok, cV_ok, cL_ok, cR_ok, kd_sF, kd_sA, gA_sF, gF_sA, gF_sF, gA_sA, bk_0, bk_1, List.length_set, reduceIte, and_true, and_false, true_and, false_and, ne_eq, not_true_eq_false, not_false_eq_true, Int.toNat_natCast, Int.reduceToNat, Nat.reduceEqDiff, Int.reduceEq, Int.reduceLT, Int.reduceLE, Int.reduceAdd, Int.reduceSub, Int.reduceMul, Int.reduceNeg, hs.kd, hs.ln, hs.fs, kMs, lMs, ge_K, m_codeAt X (show i ≤ 400 by omega), ge_22, ge_g, wi_sm]
  rw [e8, hp, cL_ok]
  simp (disch := ((try simp only [kd_sF, kd_sA, gA_sF, gA_sA, gF_sF, gF_sA, List.length_set, reduceIte, and_true, and_false, true_and, false_and, Nat.reduceEqDiff, Int.reduceEq, hs.kd, hs.ln, hs.fs, kMs, lMs, ge_K]); first | done | omega)) only [rF_ok, wF_ok, oK_ok, lA_ok, rA_ok, wA_ok, cI_ok, cV_ok, cL_ok, cR_ok, kd_sF, kd_sA, gA_sF, gF_sA, gF_sF, gA_sA, bk_0, bk_1, List.length_set, reduceIte, and_true, and_false, true_and, false_and, ne_eq, not_true_eq_false, not_false_eq_true, Int.toNat_natCast, Int.reduceToNat, Nat.reduceEqDiff, Int.reduceEq, Int.reduceLT, Int.reduceLE, Int.reduceAdd, Int.reduceSub, Int.reduceMul, Int.reduceNeg, hs.kd, hs.ln, hs.fs, kMs, lMs, ge_K, e_X12_sign, wi_sm]
  by_cases h1 : c i = 142
  · rw [if_pos h1, m_t121 hs hb2 hx hw ho (Or.inl h1)]
  · rw [if_neg h1]
    unfold lcm
    by_cases h2 : w = 0
    · subst h2
      have h3 : opM (c i) ≠ 7 := by rcases ho with h | h | h; exact absurd h h1; rw [h]; decide; rw [h]; decide
      rw [if_pos (by decide)]
      simp (disch := ((try simp only [kd_sF, kd_sA, gA_sF, gA_sA, gF_sF, gF_sA, List.length_set, reduceIte, and_true, and_false, true_and, false_and, Nat.reduceEqDiff, Int.reduceEq, hs.kd, hs.ln, hs.fs, kMs, lMs, ge_K, ge_24]); first | done | omega)) only [rF_ok, wF_ok, oK_ok, lA_ok, rA_ok, wA_ok, cI_ok, cV_ok, cL_ok, cR_ok, kd_sF, kd_sA, gA_sF, gF_sA, gF_sF, gA_sA, bk_0, bk_1, List.length_set, reduceIte, and_true, and_false, true_and, false_and, ne_eq, not_true_eq_false, not_false_eq_true, Int.toNat_natCast, Int.reduceToNat, Nat.reduceEqDiff, Int.reduceEq, Int.reduceLT, Int.reduceLE, Int.reduceAdd, Int.reduceSub, Int.reduceMul, Int.reduceNeg, hs.kd, hs.ln, hs.fs, kMs, lMs, ge_K, ge_24, ge_b]
      have key : ∀ b3 : Int, (b3 = if b2 = 0 ∧ live = 0 then 0 else 1) → X12_termOf_121 (D + 1) (ge s ((B : Int) + j) b3) 98 live x (c i) 1 = X12_termOf_6 (D + 1) (ge s ((B : Int) + j) (tstep (opM (c i)) live x 0 b2).2) 98 live (tstep (opM (c i)) live x 0 b2).1 := by
        intro b3 hb3
        have hb3' : b3 = 0 ∨ b3 = 1 := by rw [hb3]; split <;> simp
        rw [m_t121 hs hb3' hx (by omega) ho (Or.inr (by decide))]
        have : tstep (opM (c i)) live x 1 b3 = tstep (opM (c i)) live x 0 b2 := by
          unfold tstep
          simp only [ne_eq, h3, not_false_eq_true, Int.reduceEq, and_false, and_true, reduceIte, ← hb3]
        rw [this]
      rcases hb2 with rfl | rfl <;> rcases hl with rfl | rfl
      · exact key 0 rfl
      · exact key 1 rfl
      · exact key 1 rfl
      · exact key 1 rfl
    · have e3 : ¬ ((if 0 < w then (1 : Int) else if w = 0 then 0 else -1) = 0) := by
        rw [if_neg h2]; split <;> omega
      rw [if_neg e3, m_t121 hs hb2 hx hw ho (Or.inr h2)]
theorem opM_0 {x : Int} : opM x = 0 ↔ (x ≠ 142 ∧ x ≠ 147 ∧ x ≠ 137) := by
  unfold opM
  constructor
  · intro h
    repeat' split at h
    all_goals first | omega | cases h
  · intro h
    rw [if_neg h.1, if_neg h.2.1, if_neg h.2.2]
theorem opM_7 {x : Int} (h : opM x ≠ 0) : (opM x = 7 ∨ opM x = 8 ∨ opM x = 9) ∧ (x = 142 ∨ x = 147 ∨ x = 137) := by
  unfold opM at *
  repeat' split at h
  all_goals simp_all
theorem opA_0 {x : Int} : opA x = 0 ↔ (x ≠ 143 ∧ x ≠ 145) := by
  unfold opA
  constructor
  · intro h
    repeat' split at h
    all_goals first | omega | cases h
  · intro h
    rw [if_neg h.1, if_neg h.2]
theorem opA_5 {x : Int} (h : opA x ≠ 0) : (opA x = 5 ∨ opA x = 6) ∧ (x = 143 ∨ x = 145) := by
  unfold opA at *
  repeat' split at h
  all_goals simp_all
theorem ev_in (X : EvX s B nt c v fw lw ρ) {j : Nat} (hj : c j ≠ 0) : j < nt := by
  obtain ⟨-, -, -, -, -, hc, -⟩ := X
  rw [hc j] at hj
  by_cases e : j < nt
  · exact e
  · rw [if_neg e] at hj; exact absurd rfl hj
theorem m_t6_end {D : Nat} {i : Nat} {b live x : Int} (X : EvX s B nt c v fw lw ρ) (hi : i ≤ nt) (ho : opM (c i) = 0) : X12_termOf_6 (D + 1) (ge s ((B : Int) + i) b) 98 live x = some ([(2, x)], ge s ((B : Int) + i) b) := by
  have hs := X.1
  have hnt := X.2.2.2.1
  obtain ⟨o1, o2, o3⟩ := opM_0.mp ho
  rw [e_X12_termOf_6]
  simp (disch := ((try simp only [kd_sF, kd_sA, gA_sF, gA_sA, gF_sF, gF_sA, List.length_set, reduceIte, and_true, and_false, true_and, false_and, Nat.reduceEqDiff, Int.reduceEq, hs.kd, hs.ln, hs.fs, kMs, lMs, ge_K]); first | done | omega)) only [rF_ok, wF_ok, oK_ok, lA_ok, rA_ok, wA_ok, cI_ok, cV_ok, cL_ok, cR_ok, kd_sF, kd_sA, gA_sF, gF_sA, gF_sF, gA_sA, bk_0, bk_1, List.length_set, reduceIte, and_true, and_false, true_and, false_and, ne_eq, not_true_eq_false, not_false_eq_true, Int.toNat_natCast, Int.reduceToNat, Nat.reduceEqDiff, Int.reduceEq, Int.reduceLT, Int.reduceLE, Int.reduceAdd, Int.reduceSub, Int.reduceMul, Int.reduceNeg, hs.kd, hs.ln, hs.fs, kMs, lMs, ge_K, m_codeAt X (show i ≤ 400 by omega), ge_22, e_X12_sign, wi_sm, o1, o2, o3]
theorem m_t6_go {D : Nat} {i : Nat} {b live x : Int} (X : EvX s B nt c v fw lw ρ) (hi : i ≤ nt) (ho : opM (c i) ≠ 0) : X12_termOf_6 (D + 1) (ge s ((B : Int) + i) b) 98 live x = X12_termOf_54 (D + 1) (ge s ((B : Int) + i) b) 98 live x := by
  have hs := X.1
  have hnt := X.2.2.2.1
  rw [e_X12_termOf_6]
  rcases (opM_7 ho).2 with h | h | h
  all_goals simp (disch := ((try simp only [kd_sF, kd_sA, gA_sF, gA_sA, gF_sF, gF_sA, List.length_set, reduceIte, and_true, and_false, true_and, false_and, Nat.reduceEqDiff, Int.reduceEq, hs.kd, hs.ln, hs.fs, kMs, lMs, ge_K]); first | done | omega)) only [rF_ok, wF_ok, oK_ok, lA_ok, rA_ok, wA_ok, cI_ok, cV_ok, cL_ok, cR_ok, kd_sF, kd_sA, gA_sF, gF_sA, gF_sF, gA_sA, bk_0, bk_1, List.length_set, reduceIte, and_true, and_false, true_and, false_and, ne_eq, not_true_eq_false, not_false_eq_true, Int.toNat_natCast, Int.reduceToNat, Nat.reduceEqDiff, Int.reduceEq, Int.reduceLT, Int.reduceLE, Int.reduceAdd, Int.reduceSub, Int.reduceMul, Int.reduceNeg, hs.kd, hs.ln, hs.fs, kMs, lMs, ge_K, m_codeAt X (show i ≤ 400 by omega), ge_22, e_X12_sign, wi_sm, h]
theorem m_chnM (X : EvX s B nt c v fw lw ρ) {one : PP} {D : Nat} (hone : ∀ i l a, one i l = .ok a → MSp s B nt ρ (fun t live => X12_partOf D t 98 live) i a) :
    ∀ (f : Nat) (a r : PV), nt ≤ a.1 + f → a.1 ≤ nt → okV a.2.2.2 ρ → pChn one c opM f a = .ok r → (a.1 ≤ r.1 ∧ r.1 ≤ nt) ∧ okV r.2.2.2 ρ ∧ ∀ live b : Int, (live = 0 ∨ live = 1) → (b = 0 ∨ b = 1) → X12_termOf_6 (D + 1) (ge s ((B : Int) + a.1) (evV a.2.2.2 ρ live b).2) 98 live (evV a.2.2.2 ρ live b).1 = some ([(2, (evV r.2.2.2 ρ live b).1)], ge s ((B : Int) + r.1) (evV r.2.2.2 ρ live b).2)
  | 0, a, r, h1, h2, h3, h => by
    cases h
    refine ⟨⟨by omega, by omega⟩, h3, fun live b hl hb => m_t6_end X h2 ?_⟩
    have : c a.1 = 0 := by
      by_cases e : c a.1 = 0
      · exact e
      · have := ev_in X e; omega
    rw [this]; rfl
  | f + 1, a, r, h1, h2, h3, h => by
    unfold pChn at h
    by_cases ho : opM (c a.1) = 0
    · rw [if_pos ho] at h
      cases h
      exact ⟨⟨by omega, by omega⟩, h3, fun live b hl hb => m_t6_end X h2 ho⟩
    · rw [if_neg ho] at h
      obtain ⟨q, hq, h⟩ := bnd_ok.mp h
      obtain ⟨⟨k1, k2⟩, k3, k4⟩ := hone _ _ _ hq
      obtain ⟨⟨g1, g2⟩, g3, g4⟩ := m_chnM X hone f _ r (by dsimp only; omega) (by dsimp only; omega) jD_ok h
      dsimp only at g1 g2 g4
      refine ⟨⟨by omega, g2⟩, g3, fun live b hl hb => ?_⟩
      have hi : a.1 < nt := by omega
      have w1 := evV_bd h3 live b
      have w2 := evV_b (dn := a.2.2.2) (ρ := ρ) (live := live) hb
      have w3 := evV_bd k3 live (evV a.2.2.2 ρ live b).2
      have w4 := evV_b (dn := q.2.2.2) (ρ := ρ) (live := live) w2
      rw [m_t6_go X h2 ho, m_t54 X hi w2 w4 hl w1 w3 (opM_7 ho).2 (k4 live _ hl w2), tstep_ev (opM_7 ho).1 hl hb h3]
      exact g4 live b hl hb
theorem m_term (X : EvX s B nt c v fw lw ρ) {br : PP} {D i l : Nat} {r : PV} (hone : ∀ i l a, pPart c v fw lw br i l = .ok a → MSp s B nt ρ (fun t live => X12_partOf D t 98 live) i a) (h : pTerm c v fw lw br i l = .ok r) : MSp s B nt ρ (fun t live => X12_termOf (D + 1) t 98 live) i r := by
  have hs := X.1
  unfold pTerm at h
  obtain ⟨a, ha, h⟩ := bnd_ok.mp h
  obtain ⟨⟨k1, k2⟩, k3, k4⟩ := hone _ _ _ ha
  have hnt := X.2.2.2.1
  obtain ⟨⟨g1, g2⟩, g3, g4⟩ := m_chnM X hone 401 a r (by omega) (by omega) k3 h
  refine ⟨⟨by omega, g2⟩, g3, fun live b hl hb => ?_⟩
  have q4 := k4 live b hl hb
  dsimp only at q4 ⊢
  rw [e_X12_termOf]
  simp (disch := ((try simp only [kd_sF, kd_sA, gA_sF, gA_sA, gF_sF, gF_sA, List.length_set, reduceIte, and_true, and_false, true_and, false_and, Nat.reduceEqDiff, Int.reduceEq, hs.kd, hs.ln, hs.fs, kMs, lMs, ge_K]); first | done | omega)) only [rF_ok, wF_ok, oK_ok, lA_ok, rA_ok, wA_ok, cI_ok, cV_ok, cL_ok, cR_ok, kd_sF, kd_sA, gA_sF, gF_sA, gF_sF, gA_sA, bk_0, bk_1, List.length_set, reduceIte, and_true, and_false, true_and, false_and, ne_eq, not_true_eq_false, not_false_eq_true, Int.toNat_natCast, Int.reduceToNat, Nat.reduceEqDiff, Int.reduceEq, Int.reduceLT, Int.reduceLE, Int.reduceAdd, Int.reduceSub, Int.reduceMul, Int.reduceNeg, hs.kd, hs.ln, hs.fs, kMs, lMs, ge_K, q4]
  exact g4 live b hl hb
theorem m_s6_end {D : Nat} {i : Nat} {b live x : Int} (X : EvX s B nt c v fw lw ρ) (hi : i ≤ nt) (ho : opA (c i) = 0) : X12_sumOf_6 (D + 1) (ge s ((B : Int) + i) b) 98 live x = some ([(2, x)], ge s ((B : Int) + i) b) := by
  have hs := X.1
  have hnt := X.2.2.2.1
  obtain ⟨o1, o2⟩ := opA_0.mp ho
  rw [e_X12_sumOf_6]
  simp (disch := ((try simp only [kd_sF, kd_sA, gA_sF, gA_sA, gF_sF, gF_sA, List.length_set, reduceIte, and_true, and_false, true_and, false_and, Nat.reduceEqDiff, Int.reduceEq, hs.kd, hs.ln, hs.fs, kMs, lMs, ge_K]); first | done | omega)) only [rF_ok, wF_ok, oK_ok, lA_ok, rA_ok, wA_ok, cI_ok, cV_ok, cL_ok, cR_ok, kd_sF, kd_sA, gA_sF, gF_sA, gF_sF, gA_sA, bk_0, bk_1, List.length_set, reduceIte, and_true, and_false, true_and, false_and, ne_eq, not_true_eq_false, not_false_eq_true, Int.toNat_natCast, Int.reduceToNat, Nat.reduceEqDiff, Int.reduceEq, Int.reduceLT, Int.reduceLE, Int.reduceAdd, Int.reduceSub, Int.reduceMul, Int.reduceNeg, hs.kd, hs.ln, hs.fs, kMs, lMs, ge_K, m_codeAt X (show i ≤ 400 by omega), ge_22, e_X12_sign, wi_sm, o1, o2]
theorem m_s6_go {D : Nat} {i j : Nat} {b b2 live x w : Int} (X : EvX s B nt c v fw lw ρ) (hi : i < nt) (hb : b = 0 ∨ b = 1) (hb2 : b2 = 0 ∨ b2 = 1) (hx : -1000000000 ≤ x ∧ x ≤ 1000000000) (hw : -1000000000 ≤ w ∧ w ≤ 1000000000) (ho : c i = 143 ∨ c i = 145)
    (hp : X12_termOf D (ge s ((B : Int) + (i + 1 : Nat)) b) 98 live = some ([(2, w)], ge s ((B : Int) + j) b2)) :
    X12_sumOf_6 (D + 1) (ge s ((B : Int) + i) b) 98 live x = X12_sumOf_6 (D + 1) (ge s ((B : Int) + j) (sstep (opA (c i)) live x w b2).2) 98 live (sstep (opA (c i)) live x w b2).1 := by
  have hs := X.1
  have hnt := X.2.2.2.1
  have hB := X.2.2.2.2.1
  have e8 : (B : Int) + i + 1 = B + (i + 1 : Nat) := by omega
  rw [e_X12_sumOf_6]
  rcases ho with h | h
  · simp (disch := ((try simp only [kd_sF, kd_sA, gA_sF, gA_sA, gF_sF, gF_sA, List.length_set, reduceIte, and_true, and_false, true_and, false_and, Nat.reduceEqDiff, Int.reduceEq, hs.kd, hs.ln, hs.fs, kMs, lMs, ge_K]); first | done | omega)) only [rF_ok, wF_ok, oK_ok, lA_ok, rA_ok, wA_ok, cI_ok, cV_ok, cL_ok, cR_ok, kd_sF, kd_sA, gA_sF, gF_sA, gF_sF, gA_sA, bk_0, bk_1, List.length_set, reduceIte, and_true, and_false, true_and, false_and, ne_eq, not_true_eq_false, not_false_eq_true, Int.toNat_natCast, Int.reduceToNat, Nat.reduceEqDiff, Int.reduceEq, Int.reduceLT, Int.reduceLE, Int.reduceAdd, Int.reduceSub, Int.reduceMul, Int.reduceNeg, hs.kd, hs.ln, hs.fs, kMs, lMs, ge_K, m_codeAt X (show i ≤ 400 by omega), ge_22, e_X12_sign, wi_sm, h]
    rw [e_X12_sumOf_59]
    simp (disch := ((try simp only [kd_sF, kd_sA, gA_sF, gA_sA, gF_sF, gF_sA, List.length_set, reduceIte, and_true, and_false, true_and, false_and, Nat.reduceEqDiff, Int.reduceEq, hs.kd, hs.ln, hs.fs, kMs, lMs, ge_K]); first | done | omega)) only [rF_ok, wF_ok, oK_ok, lA_ok, rA_ok, wA_ok, cI_ok, cV_ok, cL_ok, cR_ok, kd_sF, kd_sA, gA_sF, gF_sA, gF_sF, gA_sA, bk_0, bk_1, List.length_set, reduceIte, and_true, and_false, true_and, false_and, ne_eq, not_true_eq_false, not_false_eq_true, Int.toNat_natCast, Int.reduceToNat, Nat.reduceEqDiff, Int.reduceEq, Int.reduceLT, Int.reduceLE, Int.reduceAdd, Int.reduceSub, Int.reduceMul, Int.reduceNeg, hs.kd, hs.ln, hs.fs, kMs, lMs, ge_K, ge_22, ge_g, wi_sm]
    rw [e8, hp, cL_ok]
    simp (disch := ((try simp only [kd_sF, kd_sA, gA_sF, gA_sA, gF_sF, gF_sA, List.length_set, reduceIte, and_true, and_false, true_and, false_and, Nat.reduceEqDiff, Int.reduceEq, hs.kd, hs.ln, hs.fs, kMs, lMs, ge_K]); first | done | omega)) only [rF_ok, wF_ok, oK_ok, lA_ok, rA_ok, wA_ok, cI_ok, cV_ok, cL_ok, cR_ok, kd_sF, kd_sA, gA_sF, gF_sA, gF_sF, gA_sA, bk_0, bk_1, List.length_set, reduceIte, and_true, and_false, true_and, false_and, ne_eq, not_true_eq_false, not_false_eq_true, Int.toNat_natCast, Int.reduceToNat, Nat.reduceEqDiff, Int.reduceEq, Int.reduceLT, Int.reduceLE, Int.reduceAdd, Int.reduceSub, Int.reduceMul, Int.reduceNeg, hs.kd, hs.ln, hs.fs, kMs, lMs, ge_K, wl_sm, m_bounded hs (x := x + w) (by omega) hb2]
    have e9 : opA 143 = 5 := rfl
    rw [e9]
    unfold sstep
    simp only [reduceIte]
    by_cases q : live ≠ 0 ∧ lim (x + w) = none
    · simp only [ne_eq] at q ⊢
      simp only [q, reduceIte, not_false_eq_true, and_self]; rfl
    · simp only [ne_eq] at q ⊢
      simp only [q, reduceIte]
      rcases hb2 with rfl | rfl <;> rfl
  · simp (disch := ((try simp only [kd_sF, kd_sA, gA_sF, gA_sA, gF_sF, gF_sA, List.length_set, reduceIte, and_true, and_false, true_and, false_and, Nat.reduceEqDiff, Int.reduceEq, hs.kd, hs.ln, hs.fs, kMs, lMs, ge_K]); first | done | omega)) only [rF_ok, wF_ok, oK_ok, lA_ok, rA_ok, wA_ok, cI_ok, cV_ok, cL_ok, cR_ok, kd_sF, kd_sA, gA_sF, gF_sA, gF_sF, gA_sA, bk_0, bk_1, List.length_set, reduceIte, and_true, and_false, true_and, false_and, ne_eq, not_true_eq_false, not_false_eq_true, Int.toNat_natCast, Int.reduceToNat, Nat.reduceEqDiff, Int.reduceEq, Int.reduceLT, Int.reduceLE, Int.reduceAdd, Int.reduceSub, Int.reduceMul, Int.reduceNeg, hs.kd, hs.ln, hs.fs, kMs, lMs, ge_K, m_codeAt X (show i ≤ 400 by omega), ge_22, e_X12_sign, wi_sm, h]
    rw [e_X12_sumOf_59]
    simp (disch := ((try simp only [kd_sF, kd_sA, gA_sF, gA_sA, gF_sF, gF_sA, List.length_set, reduceIte, and_true, and_false, true_and, false_and, Nat.reduceEqDiff, Int.reduceEq, hs.kd, hs.ln, hs.fs, kMs, lMs, ge_K]); first | done | omega)) only [rF_ok, wF_ok, oK_ok, lA_ok, rA_ok, wA_ok, cI_ok, cV_ok, cL_ok, cR_ok, kd_sF, kd_sA, gA_sF, gF_sA, gF_sF, gA_sA, bk_0, bk_1, List.length_set, reduceIte, and_true, and_false, true_and, false_and, ne_eq, not_true_eq_false, not_false_eq_true, Int.toNat_natCast, Int.reduceToNat, Nat.reduceEqDiff, Int.reduceEq, Int.reduceLT, Int.reduceLE, Int.reduceAdd, Int.reduceSub, Int.reduceMul, Int.reduceNeg, hs.kd, hs.ln, hs.fs, kMs, lMs, ge_K, ge_22, ge_g, wi_sm]
    rw [e8, hp, cL_ok]
    simp (disch := ((try simp only [kd_sF, kd_sA, gA_sF, gA_sA, gF_sF, gF_sA, List.length_set, reduceIte, and_true, and_false, true_and, false_and, Nat.reduceEqDiff, Int.reduceEq, hs.kd, hs.ln, hs.fs, kMs, lMs, ge_K]); first | done | omega)) only [rF_ok, wF_ok, oK_ok, lA_ok, rA_ok, wA_ok, cI_ok, cV_ok, cL_ok, cR_ok, kd_sF, kd_sA, gA_sF, gF_sA, gF_sF, gA_sA, bk_0, bk_1, List.length_set, reduceIte, and_true, and_false, true_and, false_and, ne_eq, not_true_eq_false, not_false_eq_true, Int.toNat_natCast, Int.reduceToNat, Nat.reduceEqDiff, Int.reduceEq, Int.reduceLT, Int.reduceLE, Int.reduceAdd, Int.reduceSub, Int.reduceMul, Int.reduceNeg, hs.kd, hs.ln, hs.fs, kMs, lMs, ge_K, wl_sm, m_bounded hs (x := x - w) (by omega) hb2]
    have e9 : opA 145 = 6 := rfl
    rw [e9]
    unfold sstep
    simp only [Int.reduceEq, reduceIte]
    by_cases q : live ≠ 0 ∧ lim (x - w) = none
    · simp only [ne_eq] at q ⊢
      simp only [q, reduceIte, not_false_eq_true, and_self]; rfl
    · simp only [ne_eq] at q ⊢
      simp only [q, reduceIte]
      rcases hb2 with rfl | rfl <;> rfl
theorem m_chnA (X : EvX s B nt c v fw lw ρ) {one : PP} {D : Nat} (hone : ∀ i l a, one i l = .ok a → MSp s B nt ρ (fun t live => X12_termOf D t 98 live) i a) :
    ∀ (f : Nat) (a r : PV), nt ≤ a.1 + f → a.1 ≤ nt → okV a.2.2.2 ρ → pChn one c opA f a = .ok r → (a.1 ≤ r.1 ∧ r.1 ≤ nt) ∧ okV r.2.2.2 ρ ∧ ∀ live b : Int, (live = 0 ∨ live = 1) → (b = 0 ∨ b = 1) → X12_sumOf_6 (D + 1) (ge s ((B : Int) + a.1) (evV a.2.2.2 ρ live b).2) 98 live (evV a.2.2.2 ρ live b).1 = some ([(2, (evV r.2.2.2 ρ live b).1)], ge s ((B : Int) + r.1) (evV r.2.2.2 ρ live b).2)
  | 0, a, r, h1, h2, h3, h => by
    cases h
    refine ⟨⟨by omega, by omega⟩, h3, fun live b hl hb => m_s6_end X h2 ?_⟩
    have : c a.1 = 0 := by
      by_cases e : c a.1 = 0
      · exact e
      · have := ev_in X e; omega
    rw [this]; rfl
  | f + 1, a, r, h1, h2, h3, h => by
    unfold pChn at h
    by_cases ho : opA (c a.1) = 0
    · rw [if_pos ho] at h
      cases h
      exact ⟨⟨by omega, by omega⟩, h3, fun live b hl hb => m_s6_end X h2 ho⟩
    · rw [if_neg ho] at h
      obtain ⟨q, hq, h⟩ := bnd_ok.mp h
      obtain ⟨⟨k1, k2⟩, k3, k4⟩ := hone _ _ _ hq
      obtain ⟨⟨g1, g2⟩, g3, g4⟩ := m_chnA X hone f _ r (by dsimp only; omega) (by dsimp only; omega) jD_ok h
      dsimp only at g1 g2 g4
      refine ⟨⟨by omega, g2⟩, g3, fun live b hl hb => ?_⟩
      have hi : a.1 < nt := by omega
      have w1 := evV_bd h3 live b
      have w2 := evV_b (dn := a.2.2.2) (ρ := ρ) (live := live) hb
      have w3 := evV_bd k3 live (evV a.2.2.2 ρ live b).2
      have w4 := evV_b (dn := q.2.2.2) (ρ := ρ) (live := live) w2
      rw [m_s6_go X hi w2 w4 w1 w3 (opA_5 ho).2 (k4 live _ hl w2), sstep_ev (opA_5 ho).1 hl hb h3]
      exact g4 live b hl hb
theorem m_sumG (X : EvX s B nt c v fw lw ρ) {br : PP} {D : Nat} (hb : ∀ i l a, br i l = .ok a → MSp s B nt ρ (fun t live => X12_sumOf (D + 2) t 98 live) (i + 1) a) {i l : Nat} {r : PV} (h : pSumG c v fw lw br i l = .ok r) : MSp s B nt ρ (fun t live => X12_sumOf (D + 5) t 98 live) i r := by
  have hs := X.1
  unfold pSumG at h
  obtain ⟨a, ha, h⟩ := bnd_ok.mp h
  have hone : ∀ i l a, pTerm c v fw lw br i l = .ok a → MSp s B nt ρ (fun t live => X12_termOf (D + 4) t 98 live) i a := fun i l a h => m_term X (fun i l a h => m_part X (hb i l) h) h
  obtain ⟨⟨k1, k2⟩, k3, k4⟩ := hone _ _ _ ha
  have hnt := X.2.2.2.1
  obtain ⟨⟨g1, g2⟩, g3, g4⟩ := m_chnA X hone 401 a r (by omega) (by omega) k3 h
  refine ⟨⟨by omega, g2⟩, g3, fun live b hl hb => ?_⟩
  have q4 := k4 live b hl hb
  dsimp only at q4 ⊢
  rw [e_X12_sumOf]
  simp (disch := ((try simp only [kd_sF, kd_sA, gA_sF, gA_sA, gF_sF, gF_sA, List.length_set, reduceIte, and_true, and_false, true_and, false_and, Nat.reduceEqDiff, Int.reduceEq, hs.kd, hs.ln, hs.fs, kMs, lMs, ge_K]); first | done | omega)) only [rF_ok, wF_ok, oK_ok, lA_ok, rA_ok, wA_ok, cI_ok, cV_ok, cL_ok, cR_ok, kd_sF, kd_sA, gA_sF, gF_sA, gF_sF, gA_sA, bk_0, bk_1, List.length_set, reduceIte, and_true, and_false, true_and, false_and, ne_eq, not_true_eq_false, not_false_eq_true, Int.toNat_natCast, Int.reduceToNat, Nat.reduceEqDiff, Int.reduceEq, Int.reduceLT, Int.reduceLE, Int.reduceAdd, Int.reduceSub, Int.reduceMul, Int.reduceNeg, hs.kd, hs.ln, hs.fs, kMs, lMs, ge_K, q4]
  exact g4 live b hl hb
theorem m_sum (X : EvX s B nt c v fw lw ρ) : ∀ (k D i l : Nat) (r : PV), pSum c v fw lw k i l = .ok r → MSp s B nt ρ (fun t live => X12_sumOf (D + 3 * k + 5) t 98 live) i r
  | 0, D, i, l, r, h => m_sumG (D := D) X (fun i l a h => by cases h) h
  | k + 1, D, i, l, r, h => m_sumG (D := D + 3 * k + 3) X (fun i l a h => m_sum X k D (i + 1) l a h) h
end MEW
