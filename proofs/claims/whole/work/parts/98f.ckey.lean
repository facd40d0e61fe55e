/-! ===== the class: where tokens end, numbers, words ===== -/
/-- the tape's row holds the text -/
def TpR (s : St) (t : List Int) : Prop := kd s 2 = 20 ∧ (gA s 2).length = 400 ∧ t.length ≤ 400 ∧ ∀ i, i < t.length → (gA s 2).getD i 0 = tA t i
section CKY
variable {s : St} {t : List Int} {d : Nat}
theorem c_isLetter (x : Int) : X5_isLetter d s x = some ([(0, if isL x then 1 else 0)], s) := by
  rw [e_X5_isLetter]
  unfold isL
  by_cases h1 : x < 97
  · rw [if_pos h1, decide_eq_false (show ¬ (97 ≤ x) by omega)]; rfl
  · rw [if_neg h1, decide_eq_true (show 97 ≤ x by omega), Bool.true_and]
    by_cases h2 : 122 < x
    · rw [if_pos h2, decide_eq_false (show ¬ (x ≤ 122) by omega)]; rfl
    · rw [if_neg h2, decide_eq_true (show x ≤ 122 by omega)]; rfl
theorem c_isDigit (x : Int) : X5_isDigit d s x = some ([(0, if isD x then 1 else 0)], s) := by
  rw [e_X5_isDigit]
  unfold isD
  by_cases h1 : x < 48
  · rw [if_pos h1, decide_eq_false (show ¬ (48 ≤ x) by omega)]; rfl
  · rw [if_neg h1, decide_eq_true (show 48 ≤ x by omega), Bool.true_and]
    by_cases h2 : 57 < x
    · rw [if_pos h2, decide_eq_false (show ¬ (x ≤ 57) by omega)]; rfl
    · rw [if_neg h2, decide_eq_true (show x ≤ 57 by omega)]; rfl
theorem c_re20L (P : TpR s t) : ∀ (f j : Nat), t.length - j ≤ f → j ≤ t.length → X5_rowEnd_20 (d + 1) s 2 t.length 1 0 j = some ([(0, ((extT t isL f j : Nat) : Int))], s)
  | 0, j, h, hj => by rw [e_X5_rowEnd_20, if_neg (by omega)]; rfl
  | f + 1, j, h, hj => by
    obtain ⟨p1, p2, p3, p4⟩ := P
    rw [e_X5_rowEnd_20, extT]
    by_cases e : j < t.length
    · have a := p4 j e
      rw [if_pos (show (j : Int) < (t.length : Int) by omega), if_neg (show ¬ ((1 : Int) = 0) by decide), rA_ok p1 (by omega) (by rw [p2]; omega), Int.toNat_natCast, a, c_isLetter, cI_ok]
      by_cases e2 : isL (tA t j) = true
      · rw [if_pos e2, if_neg (show ¬ ((1 : Int) = 0) by decide), if_pos ⟨e, e2⟩, wi_sc (by omega)]
        exact c_re20L ⟨p1, p2, p3, p4⟩ f (j + 1) (by omega) (by omega)
      · rw [if_neg e2, if_pos rfl, if_neg (fun x => e2 x.2), e_X5_rowEnd_40, if_pos rfl]
    · rw [if_neg (show ¬ ((j : Int) < (t.length : Int)) by omega), if_neg (fun x => e x.1)]
theorem c_re20D (P : TpR s t) : ∀ (f j : Nat), t.length - j ≤ f → j ≤ t.length → X5_rowEnd_20 (d + 1) s 2 t.length 0 1 j = some ([(0, ((extT t isD f j : Nat) : Int))], s)
  | 0, j, h, hj => by rw [e_X5_rowEnd_20, if_neg (by omega)]; rfl
  | f + 1, j, h, hj => by
    obtain ⟨p1, p2, p3, p4⟩ := P
    rw [e_X5_rowEnd_20, extT]
    by_cases e : j < t.length
    · have a := p4 j e
      rw [if_pos (show (j : Int) < (t.length : Int) by omega), if_pos rfl, e_X5_rowEnd_40, if_neg (show ¬ ((1 : Int) = 0) by decide), rA_ok p1 (by omega) (by rw [p2]; omega), Int.toNat_natCast, a, c_isDigit, cI_ok]
      by_cases e2 : isD (tA t j) = true
      · rw [if_pos e2, if_neg (show ¬ ((1 : Int) = 0) by decide), if_pos ⟨e, e2⟩, wi_sc (by omega)]
        exact c_re20D ⟨p1, p2, p3, p4⟩ f (j + 1) (by omega) (by omega)
      · rw [if_neg e2, if_pos rfl, if_neg (fun x => e2 x.2)]
    · rw [if_neg (show ¬ ((j : Int) < (t.length : Int)) by omega), if_neg (fun x => e x.1)]
theorem isLD {x : Int} (h : isL x = true) : isD x = false := by
  unfold isL at h
  unfold isD
  rw [Bool.and_eq_true] at h
  have h1 := of_decide_eq_true h.1
  rw [decide_eq_false (show ¬ (x ≤ 57) by omega), Bool.and_false]
theorem c_rowEnd {k : Nat} (P : TpR s t) (hk : k < t.length) : X5_rowEnd (d + 1) s 2 k t.length = some ([(0, ((tkN t k : Nat) : Int))], s) := by
  have P' := P
  obtain ⟨p1, p2, p3, p4⟩ := P
  have a := p4 k hk
  rw [e_X5_rowEnd, rA_ok p1 (by omega) (by rw [p2]; omega), Int.toNat_natCast, a, c_isLetter, cI_ok, rA_ok p1 (by omega) (by rw [p2]; omega), Int.toNat_natCast, a, c_isDigit, cI_ok, wi_sc (by omega)]
  unfold tkN
  by_cases e1 : isL (tA t k) = true
  · rw [if_pos e1, isLD e1, if_neg (by decide), if_pos e1]
    exact c_re20L P' _ _ (Nat.le_refl _) (by omega)
  · rw [if_neg e1, if_neg e1]
    by_cases e2 : isD (tA t k) = true
    · rw [if_pos e2, if_pos e2]
      exact c_re20D P' _ _ (Nat.le_refl _) (by omega)
    · rw [if_neg e2, if_neg e2, e_X5_rowEnd_20]
      by_cases e : k + 1 < t.length
      · rw [if_pos (show ((k + 1 : Nat) : Int) < (t.length : Int) by omega), if_pos rfl, e_X5_rowEnd_40, if_pos rfl]
      · rw [if_neg (show ¬ (((k + 1 : Nat) : Int) < (t.length : Int)) by omega)]
theorem nvC_bd {a : Nat} : ∀ (k : Nat), (∀ q, q < k → isD (tA t (a + q)) = true) → 0 ≤ nvC t a k ∧ nvC t a k ≤ 1001
  | 0, _ => by simp [nvC]
  | k + 1, h => by
    have ih := nvC_bd k (fun q hq => h q (by omega))
    have hd := h k (by omega)
    unfold isD at hd
    rw [Bool.and_eq_true] at hd
    have h1 := of_decide_eq_true hd.1
    rw [nvC]
    unfold minI
    split <;> omega
theorem c_numberOf {a b : Nat} (P : TpR s t) (hab : a ≤ b) (hb : b ≤ t.length) (hd : ∀ q, a ≤ q → q < b → isD (tA t q) = true) : X5_numberOf d s 2 a b = some ([(0, nvC t a (b - a))], s) := by
  obtain ⟨p1, p2, p3, p4⟩ := P
  rw [e_X5_numberOf]
  have dig : ∀ q, q < b - a → isD (tA t (a + q)) = true := fun q hq => hd (a + q) (by omega) (by omega)
  have key : ∀ m j, j + m = b - a → X5_numberOf_5 d s 2 b (nvC t a j) ((a + j : Nat) : Int) = some ([(0, nvC t a (b - a))], s) := by
    intro m
    induction m with
    | zero =>
      intro j hj
      rw [e_X5_numberOf_5, if_neg (by omega), show j = b - a by omega]
    | succ m ih =>
      intro j hj
      have hb2 := nvC_bd (t := t) (a := a) j (fun q hq => dig q (by omega))
      have hdj := dig j (by omega)
      have ha := p4 (a + j) (by omega)
      unfold isD at hdj
      rw [Bool.and_eq_true] at hdj
      have d1 := of_decide_eq_true hdj.1
      have d2 := of_decide_eq_true hdj.2
      rw [e_X5_numberOf_5, if_pos (by omega), rA_ok p1 (by omega) (by rw [p2]; omega), Int.toNat_natCast, ha, wi_sm (x := nvC t a j * 10) (by omega) (by omega), wi_sm (x := nvC t a j * 10 + _) (by omega) (by omega), wi_sm (x := nvC t a j * 10 + _ - 48) (by omega) (by omega), wi_sc (by omega)]
      exact ih (j + 1) (by omega)
  have := key (b - a) 0 (by omega)
  rw [Nat.add_zero] at this
  exact this
/-- words behind one another -/
def jnW : List (List Int) → List Int
  | [] => []
  | [w] => w
  | w :: x :: r => w ++ 32 :: jnW (x :: r)
/-- the first j letters are those of w -/
def pmW (t : List Int) (a b : Nat) (w : List Int) (j : Nat) : Bool := allN (fun q => decide (a + q < b) && decide (tA t (a + q) = w.getD q 0)) j
theorem pm_sl {a b : Nat} {w : List Int} (hb : b ≤ t.length) (hab : a ≤ b) : (pmW t a b w w.length = true ∧ a + w.length = b) ↔ slT t a b = w := by
  have hl : (slT t a b).length = b - a := by unfold slT; rw [List.length_take, List.length_drop]; omega
  have hg : ∀ q, q < b - a → (slT t a b).getD q 0 = tA t (a + q) := by
    intro q hq
    unfold slT tA
    rw [List.getD_eq_getElem?_getD, List.getD_eq_getElem?_getD, List.getElem?_take, if_pos hq, List.getElem?_drop]
  constructor
  · rintro ⟨h1, h2⟩
    refine list_ext0 (by rw [hl]; omega) fun q hq => ?_
    rw [hl] at hq
    rw [hg q hq]
    have := allN_iff.mp h1 q (by omega)
    rw [Bool.and_eq_true] at this
    exact of_decide_eq_true this.2
  · intro h
    have hw : w.length = b - a := by rw [← h]; exact hl
    refine ⟨allN_iff.mpr fun q hq => ?_, by omega⟩
    rw [decide_eq_true (show a + q < b by omega), Bool.true_and]
    refine decide_eq_true ?_
    rw [← hg q (by omega), h]
theorem c_kwI {r : Int} {a b : Nat} {kind : Int} {w : List Int} {p : Nat} (P : TpR s t) (hb : b ≤ t.length) (hab : a ≤ b) (hr : strLen r ≤ 1000) (hs : ∀ q, q < w.length → strCh r ((p + q : Nat) : Int) = w.getD q 0 ∧ w.getD q 0 ≠ 32) (hp : (p : Int) + w.length ≤ strLen r) : ∀ (m j : Nat), j + m = w.length → X5_keyword_12 d s r 2 a b kind ((a + j : Nat) : Int) (if pmW t a b w j then 1 else 0) ((p + j : Nat) : Int) = X5_keyword_12 d s r 2 a b kind ((a + w.length : Nat) : Int) (if pmW t a b w w.length then 1 else 0) ((p + w.length : Nat) : Int) := by
  obtain ⟨p1, p2, p3, p4⟩ := P
  intro m
  induction m with
  | zero => intro j hj; rw [show j = w.length by omega]
  | succ m ih =>
    intro j hj
    obtain ⟨h1, h2⟩ := hs j (by omega)
    have es : pmW t a b w (j + 1) = (pmW t a b w j && (decide (a + j < b) && decide (tA t (a + j) = w.getD j 0))) := rfl
    rw [← ih (j + 1) (by omega)]
    rw [e_X5_keyword_12, if_neg (by omega), if_neg (by omega)]
    unfold sC
    rw [if_pos (by omega), h1]
    dsimp only
    rw [if_neg h2]
    rw [show ((p + (j + 1) : Nat) : Int) = wi (((p + j : Nat) : Int) + 1) by rw [wi_sc (by omega)]; rfl]
    cases hm : pmW t a b w j with
    | false =>
      rw [hm, Bool.false_and] at es
      rw [es, if_pos (show (if false = true then (1 : Int) else 0) = 0 from rfl), wi_sc (by omega)]
      rfl
    | true =>
      rw [hm, Bool.true_and] at es
      rw [if_pos rfl, if_neg (show ¬ ((1 : Int) = 0) by decide)]
      by_cases e : a + j < b
      · rw [decide_eq_true e, Bool.true_and] at es
        have ha := p4 (a + j) (by omega)
        rw [if_pos (show ((a + j : Nat) : Int) < (b : Int) by omega), rA_ok p1 (by omega) (by rw [p2]; omega), Int.toNat_natCast, ha, if_pos (by omega), wi_sc (by omega)]
        by_cases e2 : tA t (a + j) = w.getD j 0
        · rw [decide_eq_true e2] at es
          rw [if_pos e2, es]
          rfl
        · rw [decide_eq_false e2] at es
          rw [if_neg e2, es]
          rfl
      · rw [decide_eq_false e, Bool.false_and] at es
        rw [if_neg (show ¬ (((a + j : Nat) : Int) < (b : Int)) by omega), es, wi_sc (by omega)]
        rfl
end CKY
