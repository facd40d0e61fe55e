/-! ===== the reference splits a text into tokens ===== -/
/-- the words in the reference's order -/
def kwM : List (List Int) := kw0 ++ kw1.drop 6 ++ kw1.take 6
theorem fdW_no {w : List Int} {g : Int} : ∀ (ws : List (List Int)) (n : Int), (∀ x ∈ ws, w ≠ x) → fdW w g ws n = g
  | [], _, _ => rfl
  | x :: r, n, h => by
    rw [fdW, if_neg (h x (by simp))]
    exact fdW_no r (n + 1) fun y hy => h y (by simp [hy])
theorem kwC_all : kwM.all (fun w => decide (kwC w = fdW w 0 kwM 1)) = true := by decide +kernel
theorem kwM_0 : kw0.all (fun w => kwM.any fun x => x == w) = true := by decide +kernel
theorem kwM_1 : kw1.all (fun w => kwM.any fun x => x == w) = true := by decide +kernel
theorem kwC_is (w : List Int) : kwC w = fdW w 0 kwM 1 := by
  by_cases h : ∃ x ∈ kwM, w = x
  · obtain ⟨x, hx, rfl⟩ := h
    have := List.all_eq_true.mp kwC_all _ hx
    simpa using this
  · have hn : ∀ x ∈ kwM, w ≠ x := fun x hx e => h ⟨x, hx, e⟩
    have m0 : ∀ x ∈ kw0, w ≠ x := fun x hx => hn x (all_in kwM_0 hx)
    have m1 : ∀ x ∈ kw1, w ≠ x := fun x hx => hn x (all_in kwM_1 hx)
    rw [fdW_no kwM 1 hn]
    unfold kwC kwK
    rw [fdW_no kw0 300 m0, fdW_no kw1 313 m1, if_pos rfl, if_pos rfl]
def wAt (o : Nat) (x : List Int) : Bool := decide (o + x.length < 129) && ((List.range x.length).all fun i => decide (wdsL.getD (o + i) 0 = x.getD i 0) && decide (x.getD i 0 ≠ 32)) && decide (wdsL.getD (o + x.length) 0 = 32)
/-- where the words lie -/
def wOf : List (List Int) → Nat → Bool
  | [], o => decide (o = 129)
  | x :: r, o => wAt o x && wOf r (o + x.length + 1)
theorem wOf_ok : wOf kwM 0 = true := by decide +kernel
section MTK
variable {s s' s0 : St} {d : Nat} {t : List Int}
/-- the tape holds t -/
def TpT (t : List Int) (s : St) : Prop := t.length ≤ 400 ∧ (∀ i, i < t.length → (gA s 105).getD i 0 = wb (tA t i)) ∧ (∀ i, i < t.length → 0 ≤ tA t i ∧ tA t i < 256) ∧ gA s 104 = wdsL
theorem wb_lt {x y : Int} (h : 0 ≤ x ∧ x < 256) (hy : 0 ≤ y ∧ y < 128) : wb x = y ↔ x = y := by
  have := wb_u h
  constructor <;> intro e <;> omega
theorem small_if {x : Int} (h : 0 ≤ x ∧ x < 256) : X12_isSmall d s (wb x) = some ([(0, if isL x then 1 else 0)], s) := by
  have := wb_u h
  rw [e_X12_isSmall]
  by_cases e : isL x = true
  · rw [if_pos e]
    unfold isL at e
    simp only [Bool.and_eq_true, decide_eq_true_eq] at e
    rw [if_neg (by omega), if_neg (by omega)]
  · rw [if_neg e]
    unfold isL at e
    simp only [Bool.and_eq_true, decide_eq_true_eq] at e
    by_cases e1 : wb x < 97
    · rw [if_pos e1]
    · rw [if_neg e1, if_pos (by omega)]
theorem digit_if {x : Int} (h : 0 ≤ x ∧ x < 256) : X12_isDigit d s (wb x) = some ([(0, if isD x then 1 else 0)], s) := by
  have := wb_u h
  rw [e_X12_isDigit]
  by_cases e : isD x = true
  · rw [if_pos e]
    unfold isD at e
    simp only [Bool.and_eq_true, decide_eq_true_eq] at e
    rw [if_neg (by omega), if_neg (by omega)]
  · rw [if_neg e]
    unfold isD at e
    simp only [Bool.and_eq_true, decide_eq_true_eq] at e
    by_cases e1 : wb x < 48
    · rw [if_pos e1]
    · rw [if_neg e1, if_pos (by omega)]
theorem slT_at {a b i : Nat} (h : i < b - a) : (slT t a b).getD i 0 = tA t (a + i) := by
  unfold slT tA
  rw [List.getD_eq_getElem?_getD, List.getD_eq_getElem?_getD, List.getElem?_take_of_lt h, List.getElem?_drop]
/-- letter by letter -/
theorem m_w57 {a b o : Nat} {w : Int} {x : List Int} (hs : ShM s) (T : TpT t s) (hb : a ≤ b ∧ b ≤ t.length) (hx : x.length = b - a) (ho : o + x.length < 129) (hw : ∀ i, i < x.length → wdsL.getD (o + i) 0 = x.getD i 0 ∧ 0 ≤ x.getD i 0 ∧ x.getD i 0 < 128) (hw0 : 0 ≤ w ∧ w < 100) :
    ∀ (f i : Nat), i + f = x.length → ((∀ j, i ≤ j → j < x.length → x.getD j 0 = tA t (a + j)) → X12_wordOf_57 d s 98 a b w o x.length 1 i = some ([(0, w)], s)) ∧ ((∃ j, i ≤ j ∧ j < x.length ∧ x.getD j 0 ≠ tA t (a + j)) → X12_wordOf_57 d s 98 a b w o x.length 1 i = X12_wordOf_5 d s 98 a b (w + 1) ((o + x.length + 1 : Nat) : Int))
  | 0, i, hf => by
    constructor
    · intro _
      rw [e_X12_wordOf_57, if_neg (by omega), if_neg (show ¬ ((1 : Int) = 0) by decide)]
    · rintro ⟨j, h1, h2, _⟩
      omega
  | f + 1, i, hf => by
    have hn : ∀ k : Nat, k < 129 → wi ((o : Int) + wi ((k : Int) + 1)) = ((o + k + 1 : Nat) : Int) := fun k hk => by
      rw [wi_sm (x := (k : Int) + 1) (by omega) (by omega), wi_sm (by omega) (by omega)]
      omega
    obtain ⟨t0, t1, t2, t3⟩ := id T
    have e1 : (gA s 104).getD (o + i) 0 = x.getD i 0 := by rw [t3]; exact (hw i (by omega)).1
    have e2 := t1 (a + i) (by omega)
    have u1 : ((o : Int) + (i : Int)).toNat = o + i := by omega
    have u2 : ((a : Int) + (i : Int)).toNat = a + i := by omega
    have cmp : wb (tA t (a + i)) = x.getD i 0 ↔ tA t (a + i) = x.getD i 0 := wb_lt (t2 _ (by omega)) (hw i (by omega)).2
    obtain ⟨r1, r2⟩ := m_w57 hs T hb hx ho hw hw0 f (i + 1) (by omega)
    have step : X12_wordOf_57 d s 98 a b w o x.length 1 i = if x.getD i 0 = wb (tA t (a + i)) then X12_wordOf_57 d s 98 a b w o x.length 1 ((i + 1 : Nat) : Int) else X12_wordOf_57 d s 98 a b w o x.length 0 ((i + 1 : Nat) : Int) := by
      rw [e_X12_wordOf_57, if_pos (by omega), if_neg (show ¬ ((1 : Int) = 0) by decide)]
      simp (disch := ((try simp only [kd_sF, kd_sA, gA_sF, gA_sA, gF_sF, gF_sA, List.length_set, reduceIte, and_true, and_false, true_and, false_and, Nat.reduceEqDiff, Int.reduceEq, hs.kd, hs.ln, hs.fs, kMs, lMs]); first | done | omega)) only [rF_ok, wF_ok, oK_ok, lA_ok, rA_ok, wA_ok, cI_ok, cV_ok, cL_ok, cR_ok, kd_sF, kd_sA, gA_sF, gF_sA, gF_sF, gA_sA, bk_0, bk_1, List.length_set, reduceIte, and_true, and_false, true_and, false_and, ne_eq, not_true_eq_false, not_false_eq_true, Int.toNat_natCast, Int.reduceToNat, Nat.reduceEqDiff, Int.reduceEq, Int.reduceLT, Int.reduceLE, Int.reduceAdd, Int.reduceSub, Int.reduceMul, Int.reduceNeg, hs.kd, hs.ln, hs.fs, kMs, lMs, wi_sm, wi_sc, u1, u2, e1, e2]
      rfl
    have out : X12_wordOf_57 d s 98 a b w o x.length 0 ((i + 1 : Nat) : Int) = X12_wordOf_5 d s 98 a b (w + 1) ((o + x.length + 1 : Nat) : Int) := by
      rw [e_X12_wordOf_57, hn _ (by omega), wi_sm (x := w + 1) (by omega) (by omega)]
      split <;> rfl
    constructor
    · intro h
      rw [step, if_pos ((cmp.mpr (h i (Nat.le_refl _) (by omega)).symm).symm)]
      exact r1 fun j h1 h2 => h j (by omega) h2
    · rintro ⟨j, h1, h2, h3⟩
      rw [step]
      by_cases e : x.getD i 0 = wb (tA t (a + i))
      · rw [if_pos e]
        refine r2 ⟨j, ?_, h2, h3⟩
        by_cases ej : j = i
        · subst ej
          exact absurd (cmp.mp e.symm).symm h3
        · omega
      · rw [if_neg e, out]
theorem m_word1 {a b o : Nat} {w : Int} {x : List Int} (hs : ShM s) (T : TpT t s) (hb : a ≤ b ∧ b ≤ t.length) (hx : wAt o x = true) (hxb : ∀ i, i < x.length → 0 ≤ x.getD i 0 ∧ x.getD i 0 < 128) (hw0 : 0 ≤ w ∧ w < 100) : X12_wordOf_5 d s 98 a b w o = if slT t a b = x then some ([(0, w)], s) else X12_wordOf_5 d s 98 a b (w + 1) ((o + x.length + 1 : Nat) : Int) := by
  unfold wAt at hx
  simp only [Bool.and_eq_true, decide_eq_true_eq, List.all_eq_true, List.mem_range] at hx
  obtain ⟨⟨ho, hx1⟩, hx2⟩ := hx
  obtain ⟨t0, t1, t2, t3⟩ := id T
  have l104 : (gA s 104).length = 129 := hs.ln 104
  have hn : wi ((o : Int) + wi ((x.length : Int) + 1)) = ((o + x.length + 1 : Nat) : Int) := by
    rw [wi_sm (x := (x.length : Int) + 1) (by omega) (by omega), wi_sm (by omega) (by omega)]
    omega
  have h18 : X12_wordOf_5 d s 98 a b w o = X12_wordOf_18 d s 98 a b w o x.length := by
    rw [e_X12_wordOf_5]
    simp (disch := ((try simp only [kd_sF, kd_sA, gA_sF, gA_sA, gF_sF, gF_sA, List.length_set, reduceIte, and_true, and_false, true_and, false_and, Nat.reduceEqDiff, Int.reduceEq, hs.kd, hs.ln, hs.fs, kMs, lMs]); first | done | omega)) only [rF_ok, wF_ok, oK_ok, lA_ok, rA_ok, wA_ok, cI_ok, cV_ok, cL_ok, cR_ok, kd_sF, kd_sA, gA_sF, gF_sA, gF_sF, gA_sA, bk_0, bk_1, List.length_set, reduceIte, and_true, and_false, true_and, false_and, ne_eq, not_true_eq_false, not_false_eq_true, Int.toNat_natCast, Int.reduceToNat, Nat.reduceEqDiff, Int.reduceEq, Int.reduceLT, Int.reduceLE, Int.reduceAdd, Int.reduceSub, Int.reduceMul, Int.reduceNeg, hs.kd, hs.ln, hs.fs, kMs, lMs]
    rw [if_pos (by omega)]
    refine lpG (T := fun r => r = X12_wordOf_18 d s 98 a b w o x.length) (fun k (_ : Unit) => X12_wordOf_18 d s 98 a b w o k) (fun _ _ => True) x.length ?_ ?_ 0 () (by omega) trivial
    · intro T' k _ hk _ hT
      have u1 : ((o : Int) + (k : Int)).toNat = o + k := by omega
      have e1 : (gA s 104).getD (o + k) 0 = x.getD k 0 := by rw [t3]; exact (hx1 k hk).1
      rw [e_X12_wordOf_18]
      simp (disch := ((try simp only [kd_sF, kd_sA, gA_sF, gA_sA, gF_sF, gF_sA, List.length_set, reduceIte, and_true, and_false, true_and, false_and, Nat.reduceEqDiff, Int.reduceEq, hs.kd, hs.ln, hs.fs, kMs, lMs]); first | done | omega)) only [rF_ok, wF_ok, oK_ok, lA_ok, rA_ok, wA_ok, cI_ok, cV_ok, cL_ok, cR_ok, kd_sF, kd_sA, gA_sF, gF_sA, gF_sF, gA_sA, bk_0, bk_1, List.length_set, reduceIte, and_true, and_false, true_and, false_and, ne_eq, not_true_eq_false, not_false_eq_true, Int.toNat_natCast, Int.reduceToNat, Nat.reduceEqDiff, Int.reduceEq, Int.reduceLT, Int.reduceLE, Int.reduceAdd, Int.reduceSub, Int.reduceMul, Int.reduceNeg, hs.kd, hs.ln, hs.fs, kMs, lMs, wi_sm, wi_sc, u1, e1, if_neg (hx1 k hk).2]
      exact hT () trivial
    · intro _ _
      exact rfl
  rw [h18, e_X12_wordOf_18]
  have u1 : ((o : Int) + (x.length : Int)).toNat = o + x.length := by omega
  have e1 : (gA s 104).getD (o + x.length) 0 = 32 := by rw [t3]; exact hx2
  simp (disch := ((try simp only [kd_sF, kd_sA, gA_sF, gA_sA, gF_sF, gF_sA, List.length_set, reduceIte, and_true, and_false, true_and, false_and, Nat.reduceEqDiff, Int.reduceEq, hs.kd, hs.ln, hs.fs, kMs, lMs]); first | done | omega)) only [rF_ok, wF_ok, oK_ok, lA_ok, rA_ok, wA_ok, cI_ok, cV_ok, cL_ok, cR_ok, kd_sF, kd_sA, gA_sF, gF_sA, gF_sF, gA_sA, bk_0, bk_1, List.length_set, reduceIte, and_true, and_false, true_and, false_and, ne_eq, not_true_eq_false, not_false_eq_true, Int.toNat_natCast, Int.reduceToNat, Nat.reduceEqDiff, Int.reduceEq, Int.reduceLT, Int.reduceLE, Int.reduceAdd, Int.reduceSub, Int.reduceMul, Int.reduceNeg, hs.kd, hs.ln, hs.fs, kMs, lMs, wi_sm, u1, e1]
  by_cases hl : x.length = b - a
  · rw [if_pos (by omega)]
    obtain ⟨r1, r2⟩ := m_w57 (d := d) (o := o) (w := w) hs T hb hl ho (fun i hi => ⟨(hx1 i hi).1, hxb i hi⟩) hw0 x.length 0 (by omega)
    by_cases e : slT t a b = x
    · rw [if_pos e]
      refine r1 fun j _ h2 => ?_
      rw [← e, slT_at (by omega)]
    · rw [if_neg e]
      refine r2 ?_
      refine Classical.byContradiction fun hc => e ?_
      refine list_ext0 (by rw [slT_len hb.2 hb.1, hl]) fun i hi => ?_
      rw [slT_len hb.2 hb.1] at hi
      rw [slT_at hi]
      exact Classical.byContradiction fun h => hc ⟨i, Nat.zero_le _, by omega, fun h2 => h h2.symm⟩
  · rw [if_neg (by omega), if_neg (fun e => hl (by rw [← e, slT_len hb.2 hb.1])), e_X12_wordOf_57, wi_sm (x := w + 1) (by omega) (by omega)]
    rw [wi_sm (x := (x.length : Int) + 1) (by omega) (by omega), wi_sm (by omega) (by omega), show (o : Int) + ((x.length : Int) + 1) = ((o + x.length + 1 : Nat) : Int) by omega]
    split <;> rfl
theorem kwM_b : kwM.all (fun x => (List.range x.length).all fun i => decide (0 ≤ x.getD i 0) && decide (x.getD i 0 < 128)) = true := by decide +kernel
theorem m_wordsFrom {a b : Nat} (hs : ShM s) (T : TpT t s) (hb : a ≤ b ∧ b ≤ t.length) : ∀ (ws : List (List Int)) (o : Nat) (w : Int), wOf ws o = true → (∀ x ∈ ws, ∀ i, i < x.length → 0 ≤ x.getD i 0 ∧ x.getD i 0 < 128) → 0 ≤ w → w + ws.length < 100 → X12_wordOf_5 d s 98 a b w o = some ([(0, fdW (slT t a b) 0 ws w)], s)
  | [], o, w, ho, _, _, _ => by
    have l104 : (gA s 104).length = 129 := hs.ln 104
    have ho' : o = 129 := by simpa [wOf] using ho
    rw [e_X12_wordOf_5]
    simp (disch := ((try simp only [kd_sF, kd_sA, gA_sF, gA_sA, gF_sF, gF_sA, List.length_set, reduceIte, and_true, and_false, true_and, false_and, Nat.reduceEqDiff, Int.reduceEq, hs.kd, hs.ln, hs.fs, kMs, lMs]); first | done | omega)) only [rF_ok, wF_ok, oK_ok, lA_ok, rA_ok, wA_ok, cI_ok, cV_ok, cL_ok, cR_ok, kd_sF, kd_sA, gA_sF, gF_sA, gF_sF, gA_sA, bk_0, bk_1, List.length_set, reduceIte, and_true, and_false, true_and, false_and, ne_eq, not_true_eq_false, not_false_eq_true, Int.toNat_natCast, Int.reduceToNat, Nat.reduceEqDiff, Int.reduceEq, Int.reduceLT, Int.reduceLE, Int.reduceAdd, Int.reduceSub, Int.reduceMul, Int.reduceNeg, hs.kd, hs.ln, hs.fs, kMs, lMs]
    rw [if_neg (by omega)]
    rfl
  | x :: r, o, w, ho, hxb, h1, h2 => by
    rw [wOf, Bool.and_eq_true] at ho
    have h2' : w + ((r.length : Int) + 1) < 100 := by simpa using h2
    rw [m_word1 hs T hb ho.1 (hxb x (by simp)) (by omega), fdW]
    by_cases e : slT t a b = x
    · rw [if_pos e, if_pos e]
    · rw [if_neg e, if_neg e]
      exact m_wordsFrom hs T hb r _ (w + 1) ho.2 (fun y hy => hxb y (by simp [hy])) (by omega) (by omega)
theorem m_wordOf {a b : Nat} (hs : ShM s) (T : TpT t s) (hb : a ≤ b ∧ b ≤ t.length) : X12_wordOf d s 98 a b = some ([(0, kwC (slT t a b))], s) := by
  rw [e_X12_wordOf, kwC_is]
  refine m_wordsFrom hs T hb kwM 0 1 wOf_ok (fun x hx i hi => ?_) (by decide) (by decide)
  have := List.all_eq_true.mp kwM_b x hx
  have := List.all_eq_true.mp this i (List.mem_range.mpr hi)
  simpa using this
/-! tokens -/
def TkI (t : List Int) (s0 : St) (L : List (Nat × Nat)) (s : St) : Prop := ShM s ∧ Fa [107, 108, 109] s0 s ∧ (∀ j, j ≠ 18 → gF s 98 j = gF s0 98 j) ∧ gF s 98 18 = L.length ∧ ∀ i, i < L.length → (gA s 107).getD i 0 = cdT t (L.getD i (0, 0)) ∧ (gA s 108).getD i 0 = vmT t (L.getD i (0, 0)) ∧ (gA s 109).getD i 0 = ((L.getD i (0, 0)).1 : Int)
theorem TpT.fr (T : TpT t s) (F : Fa [107, 108, 109] s s') : TpT t s' := by
  obtain ⟨t0, t1, t2, t3⟩ := T
  exact ⟨t0, by rw [F 105 (by decide)]; exact t1, t2, (F 104 (by decide)).trans t3⟩
theorem m_43 {T : Res → Prop} {k : Nat} (hs : ShM s) (P : TpT t s) (hk : k < t.length) (hl : isL (tA t k) = true) : ∀ (f j : Nat), t.length - j ≤ f → j ≤ t.length → Gl T (X12_splits_100 (d + 1) s 98 t.length k (wb (tA t k)) (extT t isL f j)) → Gl T (X12_splits_43 (d + 1) s 98 t.length k (wb (tA t k)) j)
  | f, j, hf, hj, hT => by
    obtain ⟨t0, t1, t2, t3⟩ := id P
    have nd : isD (tA t k) = false := by
      unfold isL at hl
      unfold isD
      simp only [Bool.and_eq_true, decide_eq_true_eq] at hl
      rw [decide_eq_true (show 48 ≤ tA t k by omega), decide_eq_false (show ¬ (tA t k ≤ 57) by omega)]
      rfl
    have l105 : (gA s 105).length = 400 := hs.ln 105
    rw [e_X12_splits_43, digit_if (t2 k hk), nd, if_neg (show ¬ (false = true) by decide)]
    by_cases e : j < t.length
    · rw [if_pos (by omega)]
      simp (disch := ((try simp only [kd_sF, kd_sA, gA_sF, gA_sA, gF_sF, gF_sA, List.length_set, reduceIte, and_true, and_false, true_and, false_and, Nat.reduceEqDiff, Int.reduceEq, hs.kd, hs.ln, hs.fs, kMs, lMs]); first | done | omega)) only [rF_ok, wF_ok, oK_ok, lA_ok, rA_ok, wA_ok, cI_ok, cV_ok, cL_ok, cR_ok, kd_sF, kd_sA, gA_sF, gF_sA, gF_sF, gA_sA, bk_0, bk_1, List.length_set, reduceIte, and_true, and_false, true_and, false_and, ne_eq, not_true_eq_false, not_false_eq_true, Int.toNat_natCast, Int.reduceToNat, Nat.reduceEqDiff, Int.reduceEq, Int.reduceLT, Int.reduceLE, Int.reduceAdd, Int.reduceSub, Int.reduceMul, Int.reduceNeg, hs.kd, hs.ln, hs.fs, kMs, lMs, t1 j e, small_if (t2 j e)]
      by_cases e2 : isL (tA t j) = true
      · rw [if_pos e2, if_neg (show ¬ ((1 : Int) = 0) by decide), wi_sc (by omega)]
        match f, hf, hT with
        | 0, hf, _ => omega
        | f + 1, hf, hT =>
          rw [extT, if_pos ⟨e, e2⟩] at hT
          exact m_43 hs P hk hl f (j + 1) (by omega) (by omega) hT
      · rw [if_neg e2, if_pos rfl, digit_if (t2 k hk), nd, if_neg (show ¬ (false = true) by decide), cI_ok, if_pos rfl]
        match f, hf, hT with
        | 0, hf, hT => exact hT
        | f + 1, hf, hT =>
          rw [extT, if_neg (fun h => e2 h.2)] at hT
          exact hT
    · rw [if_neg (by omega), cI_ok, if_pos rfl]
      match f, hf, hT with
      | 0, hf, hT => exact hT
      | f + 1, hf, hT =>
        rw [extT, if_neg (fun h => e h.1)] at hT
        exact hT
theorem m_75 {T : Res → Prop} {k : Nat} (hs : ShM s) (P : TpT t s) (hk : k < t.length) : ∀ (f j : Nat), t.length - j ≤ f → j ≤ t.length → Gl T (X12_splits_100 (d + 1) s 98 t.length k (wb (tA t k)) (extT t isD f j)) → Gl T (X12_splits_75 (d + 1) s 98 t.length k (wb (tA t k)) j)
  | f, j, hf, hj, hT => by
    obtain ⟨t0, t1, t2, t3⟩ := id P
    have l105 : (gA s 105).length = 400 := hs.ln 105
    rw [e_X12_splits_75]
    by_cases e : j < t.length
    · rw [if_pos (by omega)]
      simp (disch := ((try simp only [kd_sF, kd_sA, gA_sF, gA_sA, gF_sF, gF_sA, List.length_set, reduceIte, and_true, and_false, true_and, false_and, Nat.reduceEqDiff, Int.reduceEq, hs.kd, hs.ln, hs.fs, kMs, lMs]); first | done | omega)) only [rF_ok, wF_ok, oK_ok, lA_ok, rA_ok, wA_ok, cI_ok, cV_ok, cL_ok, cR_ok, kd_sF, kd_sA, gA_sF, gF_sA, gF_sF, gA_sA, bk_0, bk_1, List.length_set, reduceIte, and_true, and_false, true_and, false_and, ne_eq, not_true_eq_false, not_false_eq_true, Int.toNat_natCast, Int.reduceToNat, Nat.reduceEqDiff, Int.reduceEq, Int.reduceLT, Int.reduceLE, Int.reduceAdd, Int.reduceSub, Int.reduceMul, Int.reduceNeg, hs.kd, hs.ln, hs.fs, kMs, lMs, t1 j e, digit_if (t2 j e)]
      by_cases e2 : isD (tA t j) = true
      · rw [if_pos e2, if_neg (show ¬ ((1 : Int) = 0) by decide), wi_sc (by omega)]
        match f, hf, hT with
        | 0, hf, _ => omega
        | f + 1, hf, hT =>
          rw [extT, if_pos ⟨e, e2⟩] at hT
          exact m_75 hs P hk f (j + 1) (by omega) (by omega) hT
      · rw [if_neg e2, if_pos rfl]
        match f, hf, hT with
        | 0, hf, hT => exact hT
        | f + 1, hf, hT =>
          rw [extT, if_neg (fun h => e2 h.2)] at hT
          exact hT
    · rw [if_neg (by omega)]
      match f, hf, hT with
      | 0, hf, hT => exact hT
      | f + 1, hf, hT =>
        rw [extT, if_neg (fun h => e h.1)] at hT
        exact hT
end MTK
