/-! ===== the reference: who wears what ===== -/
/-- the boys tried so far wear pre; st is the best so far -/
def WrS (s0 : St) (pre : List Int) (st : Int × List Int) (s : St) : Prop := ShM s ∧ Fa [120, 121] s0 s ∧ (∀ j, j ≠ 48 → gF s 98 j = gF s0 98 j) ∧ (∀ i, i < pre.length → (gA s 120).getD i 0 = pre.getD i 0) ∧ gF s 98 48 = st.1 ∧ ∀ i, i < st.2.length → (gA s 121).getD i 0 = st.2.getD i 0
/-- what is told of knots and boys -/
def WrT (s0 : St) (K : Nat) (tr fr : Nat → Int) (bo : List Int) : Prop := kA s0 136 = K ∧ K ≤ 8 ∧ kA s0 170 = bo.length ∧ bo.length ≤ 6 ∧ (∀ i, i < bo.length → kA s0 (137 + i) = bo.getD i 0) ∧ (∀ q, q < K → (gA s0 122).getD q 0 = fr q) ∧ ∀ q, q < K → (gA s0 123).getD q 0 = tr q
def preB (K : Nat) (pre : List Int) : Prop := ∀ x ∈ pre, x = 100 ∨ (0 ≤ x ∧ x < (K : Int))
section MWR
variable {s s' s0 : St} {a : Ab} {d K : Nat} {tr fr : Nat → Int} {bo pre : List Int} {st : Int × List Int}
theorem m_isWorn {q : Nat} (T : WrT s0 K tr fr bo) (I : WrS s0 pre st s) (hp : pre.length ≤ 6) (hb : preB K pre) (hq : q < K) : X12_isWorn d s 98 pre.length q = some ([(0, if iwP fr pre q then 1 else 0)], s) := by
  obtain ⟨hs, F, -, i4, -, -⟩ := I
  obtain ⟨-, h8, -, -, -, t6, -⟩ := T
  rw [e_X12_isWorn]
  refine lpG (T := fun r => r = some ([(0, if iwP fr pre q then 1 else 0)], s)) (fun k x => X12_isWorn_5 d s 98 pre.length q x k) (fun k x => x = if iwP fr (pre.take k) q then 1 else 0) pre.length ?_ ?_ 0 0 (by omega) rfl
  · intro T' k x hk e hT
    have ek := i4 k hk
    have et : iwP fr (pre.take (k + 1)) q = (iwP fr (pre.take k) q || (decide (pre.getD k 0 ≠ 100) && decide (fr (pre.getD k 0).toNat = fr q))) := by
      unfold iwP
      rw [List.take_add_one, List.any_append, List.getElem?_eq_getElem hk]
      rw [List.getD_eq_getElem?_getD, List.getElem?_eq_getElem hk]
      simp
    have bk0 := hb _ (gdMem (a := 0) hk)
    have f122 : ∀ q, q < K → (gA s 122).getD q 0 = fr q := fun q hq => by rw [F 122 (by decide)]; exact t6 q hq
    rw [e_X12_isWorn_5, if_pos (by omega)]
    by_cases e0 : iwP fr (pre.take k) q = true
    · rw [e, if_pos e0, if_neg (show ¬ ((1 : Int) = 0) by decide), wi_sc (by omega)]
      exact hT _ (by rw [et, e0]; rfl)
    · have e0' : iwP fr (pre.take k) q = false := by simpa using e0
      rw [e, if_neg e0, if_pos rfl]
      simp (disch := ((try simp only [kd_sF, kd_sA, gA_sF, gA_sA, gF_sF, gF_sA, List.length_set, reduceIte, and_true, and_false, true_and, false_and, Nat.reduceEqDiff, Int.reduceEq, hs.kd, hs.ln, hs.fs, kMs, lMs]); first | done | omega)) only [rF_ok, wF_ok, oK_ok, lA_ok, rA_ok, wA_ok, cI_ok, cV_ok, cL_ok, cR_ok, kd_sF, kd_sA, gA_sF, gF_sA, gF_sF, gA_sA, bk_0, bk_1, List.length_set, reduceIte, and_true, and_false, true_and, false_and, ne_eq, not_true_eq_false, not_false_eq_true, Int.toNat_natCast, Int.reduceToNat, Nat.reduceEqDiff, Int.reduceEq, Int.reduceLT, Int.reduceLE, Int.reduceAdd, Int.reduceSub, Int.reduceMul, Int.reduceNeg, hs.kd, hs.ln, hs.fs, kMs, lMs, ek, wi_sc]
      by_cases e1 : pre.getD k 0 = 100
      · rw [if_pos e1]
        exact hT _ (by rw [et, e0', decide_eq_false (show ¬ (pre.getD k 0 ≠ 100) from fun h => h e1), Bool.false_and]; rfl)
      · rw [if_neg e1]
        have b2 : 0 ≤ pre.getD k 0 ∧ pre.getD k 0 < (K : Int) := by
          rcases bk0 with h | h
          · exact absurd h e1
          · exact h
        have f1 := f122 (pre.getD k 0).toNat (by omega)
        have f2 := f122 q hq
        simp (disch := ((try simp only [kd_sF, kd_sA, gA_sF, gA_sA, gF_sF, gF_sA, List.length_set, reduceIte, and_true, and_false, true_and, false_and, Nat.reduceEqDiff, Int.reduceEq, hs.kd, hs.ln, hs.fs, kMs, lMs]); first | done | omega)) only [rF_ok, wF_ok, oK_ok, lA_ok, rA_ok, wA_ok, cI_ok, cV_ok, cL_ok, cR_ok, kd_sF, kd_sA, gA_sF, gF_sA, gF_sF, gA_sA, bk_0, bk_1, List.length_set, reduceIte, and_true, and_false, true_and, false_and, ne_eq, not_true_eq_false, not_false_eq_true, Int.toNat_natCast, Int.reduceToNat, Nat.reduceEqDiff, Int.reduceEq, Int.reduceLT, Int.reduceLE, Int.reduceAdd, Int.reduceSub, Int.reduceMul, Int.reduceNeg, hs.kd, hs.ln, hs.fs, kMs, lMs, ek, wi_sc, f1, f2]
        by_cases e2 : fr (pre.getD k 0).toNat = fr q
        · rw [if_pos e2]
          exact hT _ (by rw [et, e0', decide_eq_true (show pre.getD k 0 ≠ 100 from e1), decide_eq_true e2]; rfl)
        · rw [if_neg e2]
          exact hT _ (by rw [et, e0', decide_eq_false e2, Bool.and_false]; rfl)
  · intro x e
    rw [e_X12_isWorn_5, if_neg (Int.lt_irrefl _), e, List.take_length, bk_ite]
    exact rfl
theorem WrS.set {x : Int} (I : WrS s0 pre st s) (hp : pre.length < 6) : WrS s0 (pre ++ [x]) st (sA s 120 ((gA s 120).set pre.length x)) := by
  obtain ⟨hs, F, f, i4, i5, i6⟩ := I
  have l120 : (gA s 120).length = 6 := hs.ln 120
  refine ⟨hs.sA (by rw [List.length_set]), F.tr (Fa.sA _ (by decide)), f, fun i hi => ?_, i5, fun i hi => ?_⟩
  · rw [List.length_append] at hi
    have hi' : i < pre.length + 1 := hi
    rw [gA_eq, setD_getD (by omega), gd_app (by omega)]
    by_cases e : i = pre.length
    · rw [if_pos e.symm, if_pos e]
    · rw [if_neg (fun h => e h.symm), if_neg e]
      exact i4 i (by omega)
  · rw [gA_ne (by decide)]
    exact i6 i hi
theorem WrS.less {x : Int} (I : WrS s0 (pre ++ [x]) st s) : WrS s0 pre st s := by
  obtain ⟨hs, F, f, i4, i5, i6⟩ := I
  refine ⟨hs, F, f, fun i hi => ?_, i5, i6⟩
  have := i4 i (by rw [List.length_append]; omega)
  rw [gd_app (by omega), if_neg (by omega)] at this
  exact this
theorem m_tries (T : WrT s0 K tr fr bo) : ∀ (bl pre : List Int) (m : Int) (st : Int × List Int) (s : St), WrS s0 pre st s → preB K pre → pre.length + bl.length = bo.length → (∀ i, i < bl.length → bl.getD i 0 = bo.getD (pre.length + i) 0) → (0 ≤ m ∧ m ≤ pre.length) → Gl (GV fun s' => WrS s0 pre (dfs K tr fr bl pre m st) s') (X12_triesBoy (d + bl.length) s 98 pre.length m)
  | [], pre, m, st, s, I, hb, hl, hbl, hm => by
    obtain ⟨hs, F, f, i4, i5, i6⟩ := id I
    obtain ⟨t1, t2, t3, t4, t5, t6, t7⟩ := id T
    have e170 : (gA s 100).getD 170 0 = (bo.length : Int) := by rw [F 100 (by decide)]; exact t3
    have hl' : pre.length = bo.length := by simpa using hl
    rw [e_X12_triesBoy]
    simp (disch := ((try simp only [kd_sF, kd_sA, gA_sF, gA_sA, gF_sF, gF_sA, List.length_set, reduceIte, and_true, and_false, true_and, false_and, Nat.reduceEqDiff, Int.reduceEq, hs.kd, hs.ln, hs.fs, kMs, lMs]); first | done | omega)) only [rF_ok, wF_ok, oK_ok, lA_ok, rA_ok, wA_ok, cI_ok, cV_ok, cL_ok, cR_ok, kd_sF, kd_sA, gA_sF, gF_sA, gF_sF, gA_sA, bk_0, bk_1, List.length_set, reduceIte, and_true, and_false, true_and, false_and, ne_eq, not_true_eq_false, not_false_eq_true, Int.toNat_natCast, Int.reduceToNat, Nat.reduceEqDiff, Int.reduceEq, Int.reduceLT, Int.reduceLE, Int.reduceAdd, Int.reduceSub, Int.reduceMul, Int.reduceNeg, hs.kd, hs.ln, hs.fs, kMs, lMs, e170, i5]
    rw [if_pos (by omega)]
    show Gl (GV fun s' => WrS s0 pre (if m ≤ st.1 then st else (m, pre)) s') _
    by_cases e : m ≤ st.1
    · rw [if_pos e, if_neg (by omega)]
      exact reV I
    · rw [if_neg e, if_pos (by omega)]
      have hs1 : ShM (sF s 98 48 m) := hs.sF (by decide)
      refine lpG (fun k s => X12_triesBoy_28 (d + 0) s 98 pre.length k) (fun k s1 => ShM s1 ∧ Fa [120, 121] s0 s1 ∧ (∀ j, j ≠ 48 → gF s1 98 j = gF s0 98 j) ∧ gA s1 120 = gA s 120 ∧ gF s1 98 48 = m ∧ ∀ i, i < k → (gA s1 121).getD i 0 = pre.getD i 0) pre.length ?_ ?_ 0 (sF s 98 48 m) (by omega) ⟨hs1, F, fun j hj => (gF_nk hj).trans (f j hj), rfl, gF_eq _ _ _ _, fun i hi => by omega⟩
      · intro T' k s1 hk ⟨j1, j2, j3, j4, j5, j6⟩ hT
        have l121 : (gA s1 121).length = 6 := j1.ln 121
        have ek : (gA s1 120).getD k 0 = pre.getD k 0 := by rw [j4]; exact i4 k hk
        rw [e_X12_triesBoy_28, if_pos (by omega)]
        simp (disch := ((try simp only [kd_sF, kd_sA, gA_sF, gA_sA, gF_sF, gF_sA, List.length_set, reduceIte, and_true, and_false, true_and, false_and, Nat.reduceEqDiff, Int.reduceEq, j1.kd, j1.ln, j1.fs, kMs, lMs]); first | done | omega)) only [rF_ok, wF_ok, oK_ok, lA_ok, rA_ok, wA_ok, cI_ok, cV_ok, cL_ok, cR_ok, kd_sF, kd_sA, gA_sF, gF_sA, gF_sF, gA_sA, bk_0, bk_1, List.length_set, reduceIte, and_true, and_false, true_and, false_and, ne_eq, not_true_eq_false, not_false_eq_true, Int.toNat_natCast, Int.reduceToNat, Nat.reduceEqDiff, Int.reduceEq, Int.reduceLT, Int.reduceLE, Int.reduceAdd, Int.reduceSub, Int.reduceMul, Int.reduceNeg, j1.kd, j1.ln, j1.fs, kMs, lMs, ek, wi_sc]
        refine hT _ ⟨j1.sA (by rw [List.length_set]), j2.tr (Fa.sA _ (by decide)), j3, (gA_ne (by decide)).trans j4, j5, fun i hi => ?_⟩
        rw [gA_eq, setD_getD (by omega)]
        by_cases e : k = i
        · rw [if_pos e, e]
        · rw [if_neg e]
          exact j6 i (by omega)
      · intro s1 ⟨j1, j2, j3, j4, j5, j6⟩
        rw [e_X12_triesBoy_28, if_neg (by omega)]
        exact reV ⟨j1, j2, j3, fun i hi => by rw [j4]; exact i4 i hi, j5, j6⟩
  | c :: r, pre, m, st, s, I, hb, hl, hbl, hm => by
    obtain ⟨hs, F, f, i4, i5, i6⟩ := id I
    obtain ⟨t1, t2, t3, t4, t5, t6, t7⟩ := id T
    have e170 : (gA s 100).getD 170 0 = (bo.length : Int) := by rw [F 100 (by decide)]; exact t3
    have hl' : pre.length + (r.length + 1) = bo.length := by simpa using hl
    have ec : kA s0 (137 + pre.length) = c := by
      rw [t5 _ (by omega)]
      exact (hbl 0 (by simp)).symm
    have hr : ∀ x : Int, ∀ i, i < r.length → r.getD i 0 = bo.getD ((pre ++ [x]).length + i) 0 := fun x i hi => by
      have := hbl (i + 1) (by simp; omega)
      rw [List.length_append]
      show r.getD i 0 = bo.getD (pre.length + 1 + i) 0
      rw [show pre.length + 1 + i = pre.length + (i + 1) by omega, ← this]
      rfl
    rw [e_X12_triesBoy]
    simp (disch := ((try simp only [kd_sF, kd_sA, gA_sF, gA_sA, gF_sF, gF_sA, List.length_set, reduceIte, and_true, and_false, true_and, false_and, Nat.reduceEqDiff, Int.reduceEq, hs.kd, hs.ln, hs.fs, kMs, lMs]); first | done | omega)) only [rF_ok, wF_ok, oK_ok, lA_ok, rA_ok, wA_ok, cI_ok, cV_ok, cL_ok, cR_ok, kd_sF, kd_sA, gA_sF, gF_sA, gF_sF, gA_sA, bk_0, bk_1, List.length_set, reduceIte, and_true, and_false, true_and, false_and, ne_eq, not_true_eq_false, not_false_eq_true, Int.toNat_natCast, Int.reduceToNat, Nat.reduceEqDiff, Int.reduceEq, Int.reduceLT, Int.reduceLE, Int.reduceAdd, Int.reduceSub, Int.reduceMul, Int.reduceNeg, hs.kd, hs.ln, hs.fs, kMs, lMs, e170]
    rw [if_neg (by omega)]
    show Gl (GV fun s' => WrS s0 pre (dfs K tr fr r (pre ++ [100]) m ((List.range K).foldl (fun st q => if c < tr q ∨ iwP fr pre q = true then st else dfs K tr fr r (pre ++ [(q : Int)]) (m + 1) st) st)) s') (X12_triesBoy_54 (d + r.length + 1) s 98 pre.length m 0)
    refine lpG (fun q s => X12_triesBoy_54 (d + r.length + 1) s 98 pre.length m q) (fun q s1 => WrS s0 pre ((List.range q).foldl (fun st q => if c < tr q ∨ iwP fr pre q = true then st else dfs K tr fr r (pre ++ [(q : Int)]) (m + 1) st) st) s1) K ?_ ?_ 0 s (by omega) I
    · intro T' q s1 hq I1 hT
      rw [List.range_succ, List.foldl_append, List.foldl_cons, List.foldl_nil] at hT
      generalize (List.range q).foldl (fun st q => if c < tr q ∨ iwP fr pre q = true then st else dfs K tr fr r (pre ++ [(q : Int)]) (m + 1) st) st = st1 at I1 hT
      obtain ⟨hs1, F1, f1, -, -, -⟩ := id I1
      have e136 : (gA s1 100).getD 136 0 = (K : Int) := by rw [F1 100 (by decide)]; exact t1
      have e137 : (gA s1 100).getD (137 + pre.length) 0 = c := by rw [F1 100 (by decide)]; exact ec
      have e123 : (gA s1 123).getD q 0 = tr q := by rw [F1 123 (by decide)]; exact t7 q hq
      have et : (137 + (pre.length : Int)).toNat = 137 + pre.length := by omega
      rw [e_X12_triesBoy_54]
      simp (disch := ((try simp only [kd_sF, kd_sA, gA_sF, gA_sA, gF_sF, gF_sA, List.length_set, reduceIte, and_true, and_false, true_and, false_and, Nat.reduceEqDiff, Int.reduceEq, hs1.kd, hs1.ln, hs1.fs, kMs, lMs]); first | done | omega)) only [rF_ok, wF_ok, oK_ok, lA_ok, rA_ok, wA_ok, cI_ok, cV_ok, cL_ok, cR_ok, kd_sF, kd_sA, gA_sF, gF_sA, gF_sF, gA_sA, bk_0, bk_1, List.length_set, reduceIte, and_true, and_false, true_and, false_and, ne_eq, not_true_eq_false, not_false_eq_true, Int.toNat_natCast, Int.reduceToNat, Nat.reduceEqDiff, Int.reduceEq, Int.reduceLT, Int.reduceLE, Int.reduceAdd, Int.reduceSub, Int.reduceMul, Int.reduceNeg, hs1.kd, hs1.ln, hs1.fs, kMs, lMs, e136, wi_sm, wi_sc, et, e137, e123, if_pos (show (q : Int) < (K : Int) by omega)]
      by_cases h1 : c < tr q
      · rw [if_pos h1]
        rw [if_pos (Or.inl h1)] at hT
        exact hT s1 I1
      rw [if_neg h1, m_isWorn T I1 (by omega) hb hq, cI_ok]
      by_cases h2 : iwP fr pre q = true
      · rw [if_pos h2, if_neg (show ¬ ((1 : Int) = 0) by decide)]
        rw [if_pos (Or.inr h2)] at hT
        exact hT s1 I1
      · rw [if_neg h2, if_pos rfl]
        rw [if_neg (fun h => h.elim h1 h2)] at hT
        have l120 : (gA s1 120).length = 6 := hs1.ln 120
        simp (disch := ((try simp only [kd_sF, kd_sA, gA_sF, gA_sA, gF_sF, gF_sA, List.length_set, reduceIte, and_true, and_false, true_and, false_and, Nat.reduceEqDiff, Int.reduceEq, hs1.kd, hs1.ln, hs1.fs, kMs, lMs]); first | done | omega)) only [rF_ok, wF_ok, oK_ok, lA_ok, rA_ok, wA_ok, cI_ok, cV_ok, cL_ok, cR_ok, kd_sF, kd_sA, gA_sF, gF_sA, gF_sF, gA_sA, bk_0, bk_1, List.length_set, reduceIte, and_true, and_false, true_and, false_and, ne_eq, not_true_eq_false, not_false_eq_true, Int.toNat_natCast, Int.reduceToNat, Nat.reduceEqDiff, Int.reduceEq, Int.reduceLT, Int.reduceLE, Int.reduceAdd, Int.reduceSub, Int.reduceMul, Int.reduceNeg, hs1.kd, hs1.ln, hs1.fs, kMs, lMs, wi_sm]
        have I2 := I1.set (x := (q : Int)) (by omega)
        have hb2 : preB K (pre ++ [(q : Int)]) := fun x hx => by
          rcases List.mem_append.mp hx with h | h
          · exact hb x h
          · rw [List.mem_singleton] at h
            exact Or.inr (by omega)
        have hrec := m_tries T r (pre ++ [(q : Int)]) (m + 1) st1 _ I2 hb2 (by rw [List.length_append]; show pre.length + 1 + r.length = _; omega) (hr _) (by rw [List.length_append]; show 0 ≤ m + 1 ∧ m + 1 ≤ ((pre.length + 1 : Nat) : Int); omega)
        rw [List.length_append, show ((pre.length + [(q : Int)].length : Nat) : Int) = (pre.length : Int) + 1 from rfl] at hrec
        refine biV hrec fun s2 _ I3 => ?_
        exact hT s2 I3.less
    · intro s1 I1
      generalize (List.range K).foldl (fun st q => if c < tr q ∨ iwP fr pre q = true then st else dfs K tr fr r (pre ++ [(q : Int)]) (m + 1) st) st = st1 at I1 ⊢
      obtain ⟨hs1, F1, f1, -, -, -⟩ := id I1
      have e136 : (gA s1 100).getD 136 0 = (K : Int) := by rw [F1 100 (by decide)]; exact t1
      have l120 : (gA s1 120).length = 6 := hs1.ln 120
      rw [e_X12_triesBoy_54]
      simp (disch := ((try simp only [kd_sF, kd_sA, gA_sF, gA_sA, gF_sF, gF_sA, List.length_set, reduceIte, and_true, and_false, true_and, false_and, Nat.reduceEqDiff, Int.reduceEq, hs1.kd, hs1.ln, hs1.fs, kMs, lMs]); first | done | omega)) only [rF_ok, wF_ok, oK_ok, lA_ok, rA_ok, wA_ok, cI_ok, cV_ok, cL_ok, cR_ok, kd_sF, kd_sA, gA_sF, gF_sA, gF_sF, gA_sA, bk_0, bk_1, List.length_set, reduceIte, and_true, and_false, true_and, false_and, ne_eq, not_true_eq_false, not_false_eq_true, Int.toNat_natCast, Int.reduceToNat, Nat.reduceEqDiff, Int.reduceEq, Int.reduceLT, Int.reduceLE, Int.reduceAdd, Int.reduceSub, Int.reduceMul, Int.reduceNeg, hs1.kd, hs1.ln, hs1.fs, kMs, lMs, e136, wi_sm, Int.lt_irrefl]
      have I2 := I1.set (x := 100) (by omega)
      have hb2 : preB K (pre ++ [100]) := fun x hx => by
        rcases List.mem_append.mp hx with h | h
        · exact hb x h
        · rw [List.mem_singleton] at h
          exact Or.inl h
      have hrec := m_tries T r (pre ++ [100]) m st1 _ I2 hb2 (by rw [List.length_append]; show pre.length + 1 + r.length = _; omega) (hr _) (by rw [List.length_append]; show 0 ≤ m ∧ m ≤ ((pre.length + 1 : Nat) : Int); omega)
      rw [List.length_append, show ((pre.length + [(100 : Int)].length : Nat) : Int) = (pre.length : Int) + 1 from rfl] at hrec
      refine biV hrec fun s2 _ I3 => ?_
      exact reV I3.less
theorem LkA.wr {k : Kn} {p : Int} {l : List Int} (L : LkA a k s) (hp : p = 122 ∨ p = 123) (hl : l.length = (gA s p).length) : LkA a k (sA s p l) := by
  obtain ⟨l1, ⟨m1, m2, m3, m4, m5, m6, m7⟩, l3, l4⟩ := L
  have e : ∀ x : Int, x ≠ 122 → x ≠ 123 → gA (sA s p l) x = gA s x := fun x h1 h2 => gA_ne (by omega)
  have hs' : ShM (sA s p l) := m1.sA hl
  refine ⟨l1.fr hs' (fun x hx => e x (by revert x; decide) (by revert x; decide)) (fun _ _ => rfl), ⟨hs', by rw [e 100 (by decide) (by decide)]; exact m2, m3, m4, m5, m6, by rw [e 100 (by decide) (by decide)]; exact m7⟩, l3, fun j hj => ?_⟩
  unfold pf
  rw [e 112 (by decide) (by decide)]
  exact l4 j hj
end MWR
