/-! ===== the reference: rank, change, alike ===== -/
def unlN (f g : Nat → Int) (n : Nat) : Int := sumN (fun k => if f k = g k then 0 else 1) n
theorem unlN_bd (f g : Nat → Int) (n : Nat) : 0 ≤ unlN f g n ∧ unlN f g n ≤ n := by
  have := sumN_bd (f := fun k => if f k = g k then (0 : Int) else 1) (a := 0) (b := 1) (n := n) (fun k _ => by split <;> omega)
  unfold unlN
  omega
theorem unlN_congr {f f' g : Nat → Int} {n : Nat} (h : ∀ k, k < n → f k = f' k) : unlN f g n = unlN f' g n := sumN_congr fun k hk => by rw [h k hk]
/-- the places of the knot q -/
def kp (K : List Int) (q : Int) (k : Nat) : Int := K.getD (17 * q + 5 + k).toNat 0
section MQ2
variable {d : Nat} {s : St} {n : Nat} {th mood : Int} {cls : List Cl}
theorem m_unlike {q : Int} (hs : ShM s) (hn : gF s 98 29 = n) (hn2 : n ≤ 12) (hq : 0 ≤ q ∧ q < 8) : X12_unlike (d + 1) s 98 q = some ([(0, unlN (pf s) (kp (gA s 100) q) n)], s) := by
  rw [e_X12_unlike]
  refine lpG (T := fun r => r = some ([(0, unlN (pf s) (kp (gA s 100) q) n)], s)) (fun k a => X12_unlike_4 (d + 1) s 98 q a k) (fun k a => a = unlN (pf s) (kp (gA s 100) q) k) n ?_ ?_ 0 0 (by omega) rfl
  · intro T k a hk e hT
    have hb := unlN_bd (pf s) (kp (gA s 100) q) k
    have hx : unlN (pf s) (kp (gA s 100) q) (k + 1) = unlN (pf s) (kp (gA s 100) q) k + if pf s k = kp (gA s 100) q k then 0 else 1 := rfl
    have e1 : (gA s 112).getD k 0 = pf s k := rfl
    have e2 : (gA s 100).getD (17 * q + (5 + k)).toNat 0 = kp (gA s 100) q k := by unfold kp; rw [Int.add_assoc]
    rw [e_X12_unlike_4]
    simp (disch := ((try simp only [kd_sF, kd_sA, gA_sF, gA_sA, gF_sF, gF_sA, List.length_set, reduceIte, and_true, and_false, true_and, false_and, Nat.reduceEqDiff, Int.reduceEq, hs.kd, hs.ln, hs.fs, kMs, lMs]); first | done | omega)) only [rF_ok, wF_ok, oK_ok, lA_ok, rA_ok, wA_ok, cI_ok, cV_ok, cL_ok, cR_ok, kd_sF, kd_sA, gA_sF, gF_sA, gF_sF, gA_sA, bk_0, bk_1, List.length_set, reduceIte, and_true, and_false, true_and, false_and, ne_eq, not_true_eq_false, not_false_eq_true, Int.toNat_natCast, Int.reduceToNat, Nat.reduceEqDiff, Int.reduceEq, Int.reduceLT, Int.reduceLE, Int.reduceAdd, Int.reduceSub, Int.reduceMul, Int.reduceNeg, hs.kd, hs.ln, hs.fs, kMs, lMs, hn, wi_sm, Int.ofNat_lt, hk, e_X12_fact, Int.zero_add, e1, e2]
    by_cases h : pf s k = kp (gA s 100) q k
    · rw [if_pos h]
      rw [if_pos h] at hx
      exact hT _ (by rw [e, hx])
    · rw [if_neg h]
      rw [if_neg h] at hx
      exact hT _ (by rw [e, hx])
  · intro a e
    rw [e_X12_unlike_4]
    simp (disch := ((try simp only [kd_sF, kd_sA, gA_sF, gA_sA, gF_sF, gF_sA, List.length_set, reduceIte, and_true, and_false, true_and, false_and, Nat.reduceEqDiff, Int.reduceEq, hs.kd, hs.ln, hs.fs, kMs, lMs]); first | done | omega)) only [rF_ok, wF_ok, oK_ok, lA_ok, rA_ok, wA_ok, cI_ok, cV_ok, cL_ok, cR_ok, kd_sF, kd_sA, gA_sF, gF_sA, gF_sF, gA_sA, bk_0, bk_1, List.length_set, reduceIte, and_true, and_false, true_and, false_and, ne_eq, not_true_eq_false, not_false_eq_true, Int.toNat_natCast, Int.reduceToNat, Nat.reduceEqDiff, Int.reduceEq, Int.reduceLT, Int.reduceLE, Int.reduceAdd, Int.reduceSub, Int.reduceMul, Int.reduceNeg, hs.kd, hs.ln, hs.fs, kMs, lMs, hn, Int.lt_irrefl, e]
    exact rfl
theorem m_isKnot1 {q : Int} (hs : ShM s) (hc : (gA s 100).getD 136 0 ≤ 8) (h : 0 ≤ q ∧ q < (gA s 100).getD 136 0) : X12_isKnot (d + 1) s 98 q = some ([(0, 1)], s) := by
  rw [e_X12_isKnot]
  simp (disch := ((try simp only [kd_sF, kd_sA, gA_sF, gA_sA, gF_sF, gF_sA, List.length_set, reduceIte, and_true, and_false, true_and, false_and, Nat.reduceEqDiff, Int.reduceEq, hs.kd, hs.ln, hs.fs, kMs, lMs]); first | done | omega)) only [rF_ok, wF_ok, oK_ok, lA_ok, rA_ok, wA_ok, cI_ok, cV_ok, cL_ok, cR_ok, kd_sF, kd_sA, gA_sF, gF_sA, gF_sF, gA_sA, bk_0, bk_1, List.length_set, reduceIte, and_true, and_false, true_and, false_and, ne_eq, not_true_eq_false, not_false_eq_true, Int.toNat_natCast, Int.reduceToNat, Nat.reduceEqDiff, Int.reduceEq, Int.reduceLT, Int.reduceLE, Int.reduceAdd, Int.reduceSub, Int.reduceMul, Int.reduceNeg, hs.kd, hs.ln, hs.fs, kMs, lMs, wi_sm, m_lies1 (show 0 ≤ q by omega) (show q ≤ (gA s 100).getD 136 0 - 1 by omega)]
theorem m_isKnot0 {q : Int} (hs : ShM s) (hc : 0 ≤ (gA s 100).getD 136 0 ∧ (gA s 100).getD 136 0 ≤ 8) (h : q < 0 ∨ (gA s 100).getD 136 0 ≤ q) : X12_isKnot (d + 1) s 98 q = some ([(0, 0)], s) := by
  rw [e_X12_isKnot]
  simp (disch := ((try simp only [kd_sF, kd_sA, gA_sF, gA_sA, gF_sF, gF_sA, List.length_set, reduceIte, and_true, and_false, true_and, false_and, Nat.reduceEqDiff, Int.reduceEq, hs.kd, hs.ln, hs.fs, kMs, lMs]); first | done | omega)) only [rF_ok, wF_ok, oK_ok, lA_ok, rA_ok, wA_ok, cI_ok, cV_ok, cL_ok, cR_ok, kd_sF, kd_sA, gA_sF, gF_sA, gF_sF, gA_sA, bk_0, bk_1, List.length_set, reduceIte, and_true, and_false, true_and, false_and, ne_eq, not_true_eq_false, not_false_eq_true, Int.toNat_natCast, Int.reduceToNat, Nat.reduceEqDiff, Int.reduceEq, Int.reduceLT, Int.reduceLE, Int.reduceAdd, Int.reduceSub, Int.reduceMul, Int.reduceNeg, hs.kd, hs.ln, hs.fs, kMs, lMs, wi_sm, m_lies0 (show q < 0 ∨ (gA s 100).getD 136 0 - 1 < q by omega)]
def idxI (o : Option Nat) : Int := match o with
  | some i => (i : Int)
  | none => -1
theorem findIdx_app {α : Type} {p : α → Bool} : ∀ {L R : List α}, (∀ u ∈ L, p u = false) → (L ++ R).findIdx? p = (R.findIdx? p).map (· + L.length)
  | [], R, _ => by simp
  | a :: L, R, h => by
    rw [List.cons_append, List.findIdx?_cons, h a List.mem_cons_self]
    simp only [Bool.false_eq_true, reduceIte]
    rw [findIdx_app (fun u hu => h u (List.mem_cons_of_mem _ hu)), Option.map_map]
    congr 1
theorem prW_cut {w : Nat} (hw : w ≤ WN n) : ∃ R, prW cls mood th n = prU cls mood th n w ++ R := by
  unfold prW prU
  obtain ⟨m, hm⟩ := Nat.le.dest hw
  refine ⟨((List.range m).map (w + ·)).filter fun u => prB cls mood th (((n : Int) - 1) % 2) (plN n u) n, ?_⟩
  rw [← List.filter_append, ← List.range_add, hm]
def rankL (g : Nat → Int) (n : Nat) (L : List Nat) : Int := idxI (L.findIdx? fun u => decide (unlN (plN n u) g n = 0))
theorem m_rank {q : Int} (hs : ShM s) (hB : BK (gA s 100)) (hc : (gA s 100).getD 136 0 ≤ 8) (hq : 0 ≤ q ∧ q < (gA s 100).getD 136 0) (hm : (gA s 100).getD (17 * q + 3).toNat 0 = n) (hn : 3 ≤ n ∧ n ≤ 12) : Gl (GI fun x s' => x = rankL (kp (gA s 100) q) n (prW (clsK (gA s 100)) ((gA s 100).getD 167 0) ((gA s 100).getD 169 0) n) ∧ Fa scr s s') (X12_rank (d + 48) s 98 q) := by
  rw [e_X12_rank]
  simp (disch := ((try simp only [kd_sF, kd_sA, gA_sF, gA_sA, gF_sF, gF_sA, List.length_set, reduceIte, and_true, and_false, true_and, false_and, Nat.reduceEqDiff, Int.reduceEq, hs.kd, hs.ln, hs.fs, kMs, lMs]); first | done | omega)) only [rF_ok, wF_ok, oK_ok, lA_ok, rA_ok, wA_ok, cI_ok, cV_ok, cL_ok, cR_ok, kd_sF, kd_sA, gA_sF, gF_sA, gF_sF, gA_sA, bk_0, bk_1, List.length_set, reduceIte, and_true, and_false, true_and, false_and, ne_eq, not_true_eq_false, not_false_eq_true, Int.toNat_natCast, Int.reduceToNat, Nat.reduceEqDiff, Int.reduceEq, Int.reduceLT, Int.reduceLE, Int.reduceAdd, Int.reduceSub, Int.reduceMul, Int.reduceNeg, hs.kd, hs.ln, hs.fs, kMs, lMs, m_isKnot1 hs hc hq, m_fact hs (show 0 ≤ q ∧ q < 8 by omega) (show 0 ≤ (3 : Int) ∧ (3 : Int) < 17 by omega), hm, m_isLong1 (show 3 ≤ (n : Int) ∧ (n : Int) ≤ 12 by omega)]
  refine m_ask hs hB fun s1 h1 I => ?_
  generalize clsK (gA s 100) = cls at *
  generalize (gA s 100).getD 167 0 = mood at *
  generalize (gA s 100).getD 169 0 = th at *
  refine lpF (fun w (a : St × Int) => X12_rank_30 (d + 48) a.1 98 q a.2 w) (fun w a => QI cls mood th s a.1 ∧ a.2 = ((prU cls mood th n w).length : Int) ∧ ∀ u ∈ prU cls mood th n w, decide (unlN (plN n u) (kp (gA s 100) q) n = 0) = false) (WN n) ?_ ?_ 0 (s1, 0) (by omega) ⟨I, rfl, fun u hu => by cases hu⟩
  · intro w ⟨s2, a⟩ hw ⟨I2, ha, hai⟩ hT
    dsimp only at I2 ha hai ⊢
    have hs2 := I2.1
    have hW := WN_bd hn.2
    have hl := prU_len (cls := cls) (mood := mood) (th := th) (n := n) (w := w)
    have e100 : gA s2 100 = gA s 100 := I2.2.1 100 (by decide)
    rw [e_X12_rank_30]
    have f2 := m_fact (d := d + 47) hs2 (show 0 ≤ q ∧ q < 8 by omega) (show 0 ≤ (3 : Int) ∧ (3 : Int) < 17 by omega)
    rw [e100, hm] at f2
    simp (disch := ((try simp only [kd_sF, kd_sA, gA_sF, gA_sA, gF_sF, gF_sA, List.length_set, reduceIte, and_true, and_false, true_and, false_and, Nat.reduceEqDiff, Int.reduceEq, hs2.kd, hs2.ln, hs2.fs, kMs, lMs]); first | done | omega)) only [rF_ok, wF_ok, oK_ok, lA_ok, rA_ok, wA_ok, cI_ok, cV_ok, cL_ok, cR_ok, kd_sF, kd_sA, gA_sF, gF_sA, gF_sF, gA_sA, bk_0, bk_1, List.length_set, reduceIte, and_true, and_false, true_and, false_and, ne_eq, not_true_eq_false, not_false_eq_true, Int.toNat_natCast, Int.reduceToNat, Nat.reduceEqDiff, Int.reduceEq, Int.reduceLT, Int.reduceLE, Int.reduceAdd, Int.reduceSub, Int.reduceMul, Int.reduceNeg, hs2.kd, hs2.ln, hs2.fs, kMs, lMs, f2, m_wordsOf (show 1 ≤ n ∧ n ≤ 12 by omega), Int.ofNat_lt, hw]
    refine m_num I2 (by omega) hw fun s3 h3 I3 F3 O3 => ?_
    have hs3 := I3.1
    have e3 : gA s3 100 = gA s 100 := I3.2.1 100 (by decide)
    have eu : unlN (pf s3) (kp (gA s3 100) q) n = unlN (plN n w) (kp (gA s 100) q) n := by rw [e3]; exact unlN_congr O3.2.2
    cases hp : prB cls mood th (((n : Int) - 1) % 2) (plN n w) n with
    | false =>
      simp only [Bool.false_eq_true, reduceIte]
      rw [wi_sc (by omega)]
      exact hT (s3, a) ⟨I3, by rw [prU_0 hp]; exact ha, by rw [prU_0 hp]; exact hai⟩
    | true =>
      simp only [reduceIte, Int.reduceEq]
      simp (disch := ((try simp only [kd_sF, kd_sA, gA_sF, gA_sA, gF_sF, gF_sA, List.length_set, reduceIte, and_true, and_false, true_and, false_and, Nat.reduceEqDiff, Int.reduceEq, hs3.kd, hs3.ln, hs3.fs, kMs, lMs]); first | done | omega)) only [rF_ok, wF_ok, oK_ok, lA_ok, rA_ok, wA_ok, cI_ok, cV_ok, cL_ok, cR_ok, kd_sF, kd_sA, gA_sF, gF_sA, gF_sF, gA_sA, bk_0, bk_1, List.length_set, reduceIte, and_true, and_false, true_and, false_and, ne_eq, not_true_eq_false, not_false_eq_true, Int.toNat_natCast, Int.reduceToNat, Nat.reduceEqDiff, Int.reduceEq, Int.reduceLT, Int.reduceLE, Int.reduceAdd, Int.reduceSub, Int.reduceMul, Int.reduceNeg, hs3.kd, hs3.ln, hs3.fs, kMs, lMs, m_unlike hs3 O3.1 hn.2 (show 0 ≤ q ∧ q < 8 by omega), eu]
      by_cases e : unlN (plN n w) (kp (gA s 100) q) n = 0
      · rw [if_pos e]
        refine reI ⟨?_, I3.2.1⟩
        obtain ⟨R, hR⟩ := prW_cut (cls := cls) (mood := mood) (th := th) (n := n) (w := w + 1) (by omega)
        unfold rankL
        rw [hR, prU_1 hp, List.append_assoc, findIdx_app hai, List.singleton_append, List.findIdx?_cons, decide_eq_true e, ha]
        simp [idxI]
      · rw [if_neg e, wi_sm (by omega) (by omega), wi_sc (by omega)]
        refine hT (s3, a + 1) ⟨I3, by rw [prU_1 hp, List.length_append]; show a + 1 = _; simp; omega, ?_⟩
        rw [prU_1 hp]
        intro u hu
        rcases List.mem_append.mp hu with hu | hu
        · exact hai u hu
        · rw [List.mem_singleton.mp hu]; exact decide_eq_false e
  · intro ⟨s2, a⟩ ⟨I2, ha, hai⟩
    dsimp only at I2 ha hai ⊢
    have hs2 := I2.1
    have e100 : gA s2 100 = gA s 100 := I2.2.1 100 (by decide)
    rw [e_X12_rank_30]
    have f2 := m_fact (d := d + 47) hs2 (show 0 ≤ q ∧ q < 8 by omega) (show 0 ≤ (3 : Int) ∧ (3 : Int) < 17 by omega)
    rw [e100, hm] at f2
    simp (disch := ((try simp only [kd_sF, kd_sA, gA_sF, gA_sA, gF_sF, gF_sA, List.length_set, reduceIte, and_true, and_false, true_and, false_and, Nat.reduceEqDiff, Int.reduceEq, hs2.kd, hs2.ln, hs2.fs, kMs, lMs]); first | done | omega)) only [rF_ok, wF_ok, oK_ok, lA_ok, rA_ok, wA_ok, cI_ok, cV_ok, cL_ok, cR_ok, kd_sF, kd_sA, gA_sF, gF_sA, gF_sF, gA_sA, bk_0, bk_1, List.length_set, reduceIte, and_true, and_false, true_and, false_and, ne_eq, not_true_eq_false, not_false_eq_true, Int.toNat_natCast, Int.reduceToNat, Nat.reduceEqDiff, Int.reduceEq, Int.reduceLT, Int.reduceLE, Int.reduceAdd, Int.reduceSub, Int.reduceMul, Int.reduceNeg, hs2.kd, hs2.ln, hs2.fs, kMs, lMs, f2, m_wordsOf (show 1 ≤ n ∧ n ≤ 12 by omega), Int.lt_irrefl]
    refine reI ⟨?_, I2.2.1⟩
    unfold rankL prW
    rw [List.findIdx?_eq_none_iff.mpr hai]
    rfl
/-- the nearest so far: its number, in how many places it is unlike -/
def chS (g : Nat → Int) (n : Nat) (a : Int × Int) (u : Nat) : Int × Int := if unlN (plN n u) g n < a.2 then ((u : Int), unlN (plN n u) g n) else a
def chL (g : Nat → Int) (n : Nat) (L : List Nat) : Int × Int := L.foldl (chS g n) (-1, 1000000)
theorem chL_a {g : Nat → Int} {n u : Nat} {L : List Nat} : chL g n (L ++ [u]) = chS g n (chL g n L) u := by unfold chL; rw [List.foldl_append]; rfl
theorem chL_in {g : Nat → Int} {n B : Nat} : ∀ (L : List Nat), (∀ u ∈ L, u < B) → ∀ a : Int × Int, (a.1 = -1 ∨ (0 ≤ a.1 ∧ a.1 < B)) → ((L.foldl (chS g n) a).1 = -1 ∨ (0 ≤ (L.foldl (chS g n) a).1 ∧ (L.foldl (chS g n) a).1 < B))
  | [], _, a, h => h
  | u :: L, hL, a, h => by
    rw [List.foldl_cons]
    refine chL_in L (fun v hv => hL v (List.mem_cons_of_mem _ hv)) _ ?_
    unfold chS
    split
    · have := hL u List.mem_cons_self
      right
      dsimp only
      omega
    · exact h
def chA (n : Nat) (what : Int) (a : Int × Int) : Int := if a.1 = -1 then -1 else if what = 0 then a.2 else plN n a.1.toNat (what - 1).toNat
theorem m_change {q what : Int} (hs : ShM s) (hB : BK (gA s 100)) (hc : (gA s 100).getD 136 0 ≤ 8) (hq : 0 ≤ q ∧ q < (gA s 100).getD 136 0) (hm : (gA s 100).getD (17 * q + 3).toNat 0 = n) (hn : 3 ≤ n ∧ n ≤ 12) (hw0 : 0 ≤ what ∧ what ≤ n) : Gl (GI fun x s' => x = chA n what (chL (kp (gA s 100) q) n (prW (clsK (gA s 100)) ((gA s 100).getD 167 0) ((gA s 100).getD 169 0) n)) ∧ Fa scr s s') (X12_change (d + 48) s 98 q what) := by
  rw [e_X12_change]
  simp (disch := ((try simp only [kd_sF, kd_sA, gA_sF, gA_sA, gF_sF, gF_sA, List.length_set, reduceIte, and_true, and_false, true_and, false_and, Nat.reduceEqDiff, Int.reduceEq, hs.kd, hs.ln, hs.fs, kMs, lMs]); first | done | omega)) only [rF_ok, wF_ok, oK_ok, lA_ok, rA_ok, wA_ok, cI_ok, cV_ok, cL_ok, cR_ok, kd_sF, kd_sA, gA_sF, gF_sA, gF_sF, gA_sA, bk_0, bk_1, List.length_set, reduceIte, and_true, and_false, true_and, false_and, ne_eq, not_true_eq_false, not_false_eq_true, Int.toNat_natCast, Int.reduceToNat, Nat.reduceEqDiff, Int.reduceEq, Int.reduceLT, Int.reduceLE, Int.reduceAdd, Int.reduceSub, Int.reduceMul, Int.reduceNeg, hs.kd, hs.ln, hs.fs, kMs, lMs, m_isKnot1 hs hc hq, m_fact hs (show 0 ≤ q ∧ q < 8 by omega) (show 0 ≤ (3 : Int) ∧ (3 : Int) < 17 by omega), hm, m_isLong1 (show 3 ≤ (n : Int) ∧ (n : Int) ≤ 12 by omega), m_lies1 hw0.1 hw0.2]
  refine m_ask hs hB fun s1 h1 I => ?_
  generalize clsK (gA s 100) = cls at *
  generalize (gA s 100).getD 167 0 = mood at *
  generalize (gA s 100).getD 169 0 = th at *
  refine lpG (fun w (a : St × (Int × Int)) => X12_change_57 (d + 48) a.1 98 q what n a.2.1 a.2.2 w) (fun w a => QI cls mood th s a.1 ∧ a.2 = chL (kp (gA s 100) q) n (prU cls mood th n w)) (WN n) ?_ ?_ 0 (s1, (-1, 1000000)) (by omega) ⟨I, rfl⟩
  · intro T w ⟨s2, a⟩ hw ⟨I2, ha⟩ hT
    dsimp only at I2 ha ⊢
    have hs2 := I2.1
    have hW := WN_bd hn.2
    rw [e_X12_change_57]
    simp (disch := ((try simp only [kd_sF, kd_sA, gA_sF, gA_sA, gF_sF, gF_sA, List.length_set, reduceIte, and_true, and_false, true_and, false_and, Nat.reduceEqDiff, Int.reduceEq, hs2.kd, hs2.ln, hs2.fs, kMs, lMs]); first | done | omega)) only [rF_ok, wF_ok, oK_ok, lA_ok, rA_ok, wA_ok, cI_ok, cV_ok, cL_ok, cR_ok, kd_sF, kd_sA, gA_sF, gF_sA, gF_sF, gA_sA, bk_0, bk_1, List.length_set, reduceIte, and_true, and_false, true_and, false_and, ne_eq, not_true_eq_false, not_false_eq_true, Int.toNat_natCast, Int.reduceToNat, Nat.reduceEqDiff, Int.reduceEq, Int.reduceLT, Int.reduceLE, Int.reduceAdd, Int.reduceSub, Int.reduceMul, Int.reduceNeg, hs2.kd, hs2.ln, hs2.fs, kMs, lMs, m_wordsOf (show 1 ≤ n ∧ n ≤ 12 by omega), Int.ofNat_lt, hw]
    refine m_num I2 (by omega) hw fun s3 h3 I3 F3 O3 => ?_
    have hs3 := I3.1
    have e3 : gA s3 100 = gA s 100 := I3.2.1 100 (by decide)
    have eu : unlN (pf s3) (kp (gA s3 100) q) n = unlN (plN n w) (kp (gA s 100) q) n := by rw [e3]; exact unlN_congr O3.2.2
    cases hp : prB cls mood th (((n : Int) - 1) % 2) (plN n w) n with
    | false =>
      simp only [Bool.false_eq_true, reduceIte]
      rw [wi_sc (by omega)]
      exact hT (s3, a) ⟨I3, by rw [prU_0 hp]; exact ha⟩
    | true =>
      simp only [reduceIte, Int.reduceEq]
      simp (disch := ((try simp only [kd_sF, kd_sA, gA_sF, gA_sA, gF_sF, gF_sA, List.length_set, reduceIte, and_true, and_false, true_and, false_and, Nat.reduceEqDiff, Int.reduceEq, hs3.kd, hs3.ln, hs3.fs, kMs, lMs]); first | done | omega)) only [rF_ok, wF_ok, oK_ok, lA_ok, rA_ok, wA_ok, cI_ok, cV_ok, cL_ok, cR_ok, kd_sF, kd_sA, gA_sF, gF_sA, gF_sF, gA_sA, bk_0, bk_1, List.length_set, reduceIte, and_true, and_false, true_and, false_and, ne_eq, not_true_eq_false, not_false_eq_true, Int.toNat_natCast, Int.reduceToNat, Nat.reduceEqDiff, Int.reduceEq, Int.reduceLT, Int.reduceLE, Int.reduceAdd, Int.reduceSub, Int.reduceMul, Int.reduceNeg, hs3.kd, hs3.ln, hs3.fs, kMs, lMs, m_unlike hs3 O3.1 hn.2 (show 0 ≤ q ∧ q < 8 by omega), eu]
      by_cases e : unlN (plN n w) (kp (gA s 100) q) n < a.2
      · rw [if_pos e, wi_sc (by omega)]
        exact hT (s3, ((w : Int), unlN (plN n w) (kp (gA s 100) q) n)) ⟨I3, by rw [prU_1 hp, chL_a, ← ha]; unfold chS; rw [if_pos e]⟩
      · rw [if_neg e, wi_sc (by omega)]
        exact hT (s3, a) ⟨I3, by rw [prU_1 hp, chL_a, ← ha]; unfold chS; rw [if_neg e]⟩
  · intro ⟨s2, a⟩ ⟨I2, ha⟩
    dsimp only at I2 ha ⊢
    have hs2 := I2.1
    have hin := chL_in (g := kp (gA s 100) q) (n := n) (B := WN n) (prU cls mood th n (WN n)) (fun u hu => prU_mem hu) (-1, 1000000) (Or.inl rfl)
    have hin2 : a.1 = -1 ∨ (0 ≤ a.1 ∧ a.1 < WN n) := by rw [ha]; exact hin
    rw [e_X12_change_57]
    simp (disch := ((try simp only [kd_sF, kd_sA, gA_sF, gA_sA, gF_sF, gF_sA, List.length_set, reduceIte, and_true, and_false, true_and, false_and, Nat.reduceEqDiff, Int.reduceEq, hs2.kd, hs2.ln, hs2.fs, kMs, lMs]); first | done | omega)) only [rF_ok, wF_ok, oK_ok, lA_ok, rA_ok, wA_ok, cI_ok, cV_ok, cL_ok, cR_ok, kd_sF, kd_sA, gA_sF, gF_sA, gF_sF, gA_sA, bk_0, bk_1, List.length_set, reduceIte, and_true, and_false, true_and, false_and, ne_eq, not_true_eq_false, not_false_eq_true, Int.toNat_natCast, Int.reduceToNat, Nat.reduceEqDiff, Int.reduceEq, Int.reduceLT, Int.reduceLE, Int.reduceAdd, Int.reduceSub, Int.reduceMul, Int.reduceNeg, hs2.kd, hs2.ln, hs2.fs, kMs, lMs, m_wordsOf (show 1 ≤ n ∧ n ≤ 12 by omega), Int.lt_irrefl]
    show Gl (GI fun x s' => x = chA n what (chL (kp (gA s 100) q) n (prU cls mood th n (WN n))) ∧ Fa scr s s') _
    rw [← ha]
    by_cases h1 : a.1 = -1
    · rw [if_pos h1, if_pos h1]
      exact reI ⟨by unfold chA; rw [if_pos h1], I2.2.1⟩
    · rw [if_neg h1]
      by_cases h2 : what = 0
      · rw [if_pos h2, if_neg h1]
        exact reI ⟨by unfold chA; rw [if_neg h1, if_pos h2], I2.2.1⟩
      · rw [if_neg h2]
        obtain ⟨m, hm2⟩ := Int.eq_ofNat_of_zero_le (show 0 ≤ a.1 by omega)
        rw [hm2]
        refine biV (m_opens hs2 (by omega) (show m < WN n by omega)) fun s3 h3 ⟨q1, q2, q3, q4, q5⟩ => ?_
        have hs3 := hs2.ev h3 rfl
        have e1 := q5 (what - 1).toNat (by omega)
        unfold pf at e1
        simp (disch := ((try simp only [kd_sF, kd_sA, gA_sF, gA_sA, gF_sF, gF_sA, List.length_set, reduceIte, and_true, and_false, true_and, false_and, Nat.reduceEqDiff, Int.reduceEq, hs3.kd, hs3.ln, hs3.fs, kMs, lMs]); first | done | omega)) only [rF_ok, wF_ok, oK_ok, lA_ok, rA_ok, wA_ok, cI_ok, cV_ok, cL_ok, cR_ok, kd_sF, kd_sA, gA_sF, gF_sA, gF_sF, gA_sA, bk_0, bk_1, List.length_set, reduceIte, and_true, and_false, true_and, false_and, ne_eq, not_true_eq_false, not_false_eq_true, Int.toNat_natCast, Int.reduceToNat, Nat.reduceEqDiff, Int.reduceEq, Int.reduceLT, Int.reduceLE, Int.reduceAdd, Int.reduceSub, Int.reduceMul, Int.reduceNeg, hs3.kd, hs3.ln, hs3.fs, kMs, lMs, wi_sm, e1]
        refine reI ⟨?_, I2.2.1.tr (q1.mono (by decide))⟩
        unfold chA
        rw [if_neg (by omega), if_neg h2, hm2]
        rfl
/-- how many of the words have the front v -/
def tal (n : Nat) (L : List Nat) (v : Nat) : Int := ((L.filter fun u => decide (frN (((n : Int) - 1) % 2) (plN n u) n = (v : Int))).length : Int)
theorem tal_a {n u v : Nat} {L : List Nat} : tal n (L ++ [u]) v = tal n L v + if frN (((n : Int) - 1) % 2) (plN n u) n = (v : Int) then 1 else 0 := by
  unfold tal
  rw [List.filter_append, List.length_append]
  by_cases h : frN (((n : Int) - 1) % 2) (plN n u) n = (v : Int)
  · simp [h]
  · simp [h]
theorem tal_bd {n v : Nat} {L : List Nat} : 0 ≤ tal n L v ∧ tal n L v ≤ L.length := by
  unfold tal
  have := List.length_filter_le (fun u => decide (frN (((n : Int) - 1) % 2) (plN n u) n = (v : Int))) L
  omega
def maxN (f : Nat → Int) : Nat → Int
  | 0 => 0
  | n + 1 => if f n < maxN f n then maxN f n else f n
def posN (f : Nat → Int) (n : Nat) : Int := sumN (fun k => if 0 < f k then 1 else 0) n
theorem posN_bd (f : Nat → Int) (n : Nat) : 0 ≤ posN f n ∧ posN f n ≤ n := by
  have := sumN_bd (f := fun k => if 0 < f k then (1 : Int) else 0) (a := 0) (b := 1) (n := n) (fun k _ => by split <;> omega)
  unfold posN
  omega
def alA (n : Nat) (what : Int) (L : List Nat) : Int := if what = 0 then posN (tal n L) 64 else maxN (tal n L) 64
theorem m_alike {what : Int} (hs : ShM s) (hB : BK (gA s 100)) (hn : 3 ≤ n ∧ n ≤ 12) (hw0 : 0 ≤ what ∧ what ≤ 1) : Gl (GI fun x s' => x = alA n what (prW (clsK (gA s 100)) ((gA s 100).getD 167 0) ((gA s 100).getD 169 0) n) ∧ Fa scr s s') (X12_alike (d + 48) s 98 n what) := by
  rw [e_X12_alike]
  simp (disch := ((try simp only [kd_sF, kd_sA, gA_sF, gA_sA, gF_sF, gF_sA, List.length_set, reduceIte, and_true, and_false, true_and, false_and, Nat.reduceEqDiff, Int.reduceEq, hs.kd, hs.ln, hs.fs, kMs, lMs]); first | done | omega)) only [rF_ok, wF_ok, oK_ok, lA_ok, rA_ok, wA_ok, cI_ok, cV_ok, cL_ok, cR_ok, kd_sF, kd_sA, gA_sF, gF_sA, gF_sF, gA_sA, bk_0, bk_1, List.length_set, reduceIte, and_true, and_false, true_and, false_and, ne_eq, not_true_eq_false, not_false_eq_true, Int.toNat_natCast, Int.reduceToNat, Nat.reduceEqDiff, Int.reduceEq, Int.reduceLT, Int.reduceLE, Int.reduceAdd, Int.reduceSub, Int.reduceMul, Int.reduceNeg, hs.kd, hs.ln, hs.fs, kMs, lMs, m_isLong1 (show 3 ≤ (n : Int) ∧ (n : Int) ≤ 12 by omega), m_lies1 hw0.1 hw0.2]
  refine m_ask hs hB fun s1 h1 I => ?_
  generalize clsK (gA s 100) = cls at *
  generalize (gA s 100).getD 167 0 = mood at *
  generalize (gA s 100).getD 169 0 = th at *
  refine lpG (fun k s => X12_alike_24 (d + 48) s 98 n what k) (fun k s2 => QI cls mood th s s2 ∧ ∀ v, v < k → (gA s2 118).getD v 0 = 0) 64 ?_ ?_ 0 s1 (by omega) ⟨I, fun v hv => by omega⟩
  · intro T k s2 hk ⟨I2, h2⟩ hT
    have hs2 := I2.1
    have l118 : (gA s2 118).length = 64 := hs2.ln 118
    rw [e_X12_alike_24, if_pos (by omega)]
    simp (disch := ((try simp only [kd_sF, kd_sA, gA_sF, gA_sA, gF_sF, gF_sA, List.length_set, reduceIte, and_true, and_false, true_and, false_and, Nat.reduceEqDiff, Int.reduceEq, hs2.kd, hs2.ln, hs2.fs, kMs, lMs]); first | done | omega)) only [rF_ok, wF_ok, oK_ok, lA_ok, rA_ok, wA_ok, cI_ok, cV_ok, cL_ok, cR_ok, kd_sF, kd_sA, gA_sF, gF_sA, gF_sF, gA_sA, bk_0, bk_1, List.length_set, reduceIte, and_true, and_false, true_and, false_and, ne_eq, not_true_eq_false, not_false_eq_true, Int.toNat_natCast, Int.reduceToNat, Nat.reduceEqDiff, Int.reduceEq, Int.reduceLT, Int.reduceLE, Int.reduceAdd, Int.reduceSub, Int.reduceMul, Int.reduceNeg, hs2.kd, hs2.ln, hs2.fs, kMs, lMs, wi_sm]
    refine hT _ ⟨I2.fa (hs2.sA (by rw [List.length_set])) (Fa.sA (P := [118]) _ (by decide)) (by decide) (by decide), fun v hv => ?_⟩
    rw [gA_eq, setD_getD (by omega)]
    by_cases e : k = v
    · rw [if_pos e]
    · rw [if_neg e]; exact h2 v (by omega)
  · intro s2 ⟨I2, h2⟩
    rw [e_X12_alike_24, if_neg (by decide)]
    refine lpG (fun w s => X12_alike_45 (d + 48) s 98 n what w) (fun w s3 => QI cls mood th s s3 ∧ ∀ v, v < 64 → (gA s3 118).getD v 0 = tal n (prU cls mood th n w) v) (WN n) ?_ ?_ 0 s2 (by omega) ⟨I2, h2⟩
    · intro T w s3 hw ⟨I3, h3⟩ hT
      have hs3 := I3.1
      have hW := WN_bd hn.2
      rw [e_X12_alike_45]
      simp (disch := ((try simp only [kd_sF, kd_sA, gA_sF, gA_sA, gF_sF, gF_sA, List.length_set, reduceIte, and_true, and_false, true_and, false_and, Nat.reduceEqDiff, Int.reduceEq, hs3.kd, hs3.ln, hs3.fs, kMs, lMs]); first | done | omega)) only [rF_ok, wF_ok, oK_ok, lA_ok, rA_ok, wA_ok, cI_ok, cV_ok, cL_ok, cR_ok, kd_sF, kd_sA, gA_sF, gF_sA, gF_sF, gA_sA, bk_0, bk_1, List.length_set, reduceIte, and_true, and_false, true_and, false_and, ne_eq, not_true_eq_false, not_false_eq_true, Int.toNat_natCast, Int.reduceToNat, Nat.reduceEqDiff, Int.reduceEq, Int.reduceLT, Int.reduceLE, Int.reduceAdd, Int.reduceSub, Int.reduceMul, Int.reduceNeg, hs3.kd, hs3.ln, hs3.fs, kMs, lMs, m_wordsOf (show 1 ≤ n ∧ n ≤ 12 by omega), Int.ofNat_lt, hw]
      refine m_num I3 (by omega) hw fun s4 h4 I4 F4 O4 => ?_
      have hs4 := I4.1
      have e118 : gA s4 118 = gA s3 118 := F4 118 (by decide)
      cases hp : prB cls mood th (((n : Int) - 1) % 2) (plN n w) n with
      | false =>
        simp only [Bool.false_eq_true, reduceIte]
        rw [wi_sc (by omega)]
        exact hT s4 ⟨I4, by rw [prU_0 hp, e118]; exact h3⟩
      | true =>
        simp only [reduceIte, Int.reduceEq]
        have hpl : ∀ k, k < n → pl3 (pf s4 k) := fun k hk => by rw [O4.2.2 k hk]; exact plN_pl hw k
        have efr : frN (((n : Int) - 1) % 2) (pf s4) n = frN (((n : Int) - 1) % 2) (plN n w) n := frN_congr O4.2.2
        have hfb := frN_bd (st := ((n : Int) - 1) % 2) (f := plN n w) (n := n) (fun k _ => plN_pl hw k)
        obtain ⟨fv, hfv⟩ := Int.eq_ofNat_of_zero_le hfb.1
        have hl := prU_len (cls := cls) (mood := mood) (th := th) (n := n) (w := w)
        have hb := tal_bd (n := n) (v := fv) (L := prU cls mood th n w)
        have h5 := h3 fv (by omega)
        rw [← e118] at h5
        have l118 : (gA s4 118).length = 64 := hs4.ln 118
        simp (disch := ((try simp only [kd_sF, kd_sA, gA_sF, gA_sA, gF_sF, gF_sA, List.length_set, reduceIte, and_true, and_false, true_and, false_and, Nat.reduceEqDiff, Int.reduceEq, hs4.kd, hs4.ln, hs4.fs, kMs, lMs]); first | done | omega)) only [rF_ok, wF_ok, oK_ok, lA_ok, rA_ok, wA_ok, cI_ok, cV_ok, cL_ok, cR_ok, kd_sF, kd_sA, gA_sF, gF_sA, gF_sF, gA_sA, bk_0, bk_1, List.length_set, reduceIte, and_true, and_false, true_and, false_and, ne_eq, not_true_eq_false, not_false_eq_true, Int.toNat_natCast, Int.reduceToNat, Nat.reduceEqDiff, Int.reduceEq, Int.reduceLT, Int.reduceLE, Int.reduceAdd, Int.reduceSub, Int.reduceMul, Int.reduceNeg, hs4.kd, hs4.ln, hs4.fs, kMs, lMs, m_frontOf hs4 O4.1 (show n ≤ 13 by omega) O4.2.1 (by omega) hpl, efr, hfv, wi_sm, h5]
        refine hT _ ⟨I4.fa (hs4.sA (by rw [List.length_set])) (Fa.sA (P := [118]) _ (by decide)) (by decide) (by decide), fun v hv => ?_⟩
        rw [gA_eq, setD_getD (by omega), prU_1 hp, tal_a, hfv]
        by_cases e : fv = v
        · rw [if_pos e, if_pos (by omega), ← e]
        · rw [if_neg e, if_neg (by omega), e118, h3 v hv]; omega
    · intro s3 ⟨I3, h3⟩
      have hs3 := I3.1
      have hW := WN_bd hn.2
      have hl := prU_len (cls := cls) (mood := mood) (th := th) (n := n) (w := WN n)
      rw [e_X12_alike_45]
      simp (disch := ((try simp only [kd_sF, kd_sA, gA_sF, gA_sA, gF_sF, gF_sA, List.length_set, reduceIte, and_true, and_false, true_and, false_and, Nat.reduceEqDiff, Int.reduceEq, hs3.kd, hs3.ln, hs3.fs, kMs, lMs]); first | done | omega)) only [rF_ok, wF_ok, oK_ok, lA_ok, rA_ok, wA_ok, cI_ok, cV_ok, cL_ok, cR_ok, kd_sF, kd_sA, gA_sF, gF_sA, gF_sF, gA_sA, bk_0, bk_1, List.length_set, reduceIte, and_true, and_false, true_and, false_and, ne_eq, not_true_eq_false, not_false_eq_true, Int.toNat_natCast, Int.reduceToNat, Nat.reduceEqDiff, Int.reduceEq, Int.reduceLT, Int.reduceLE, Int.reduceAdd, Int.reduceSub, Int.reduceMul, Int.reduceNeg, hs3.kd, hs3.ln, hs3.fs, kMs, lMs, m_wordsOf (show 1 ≤ n ∧ n ≤ 12 by omega), Int.lt_irrefl]
      show Gl (GI fun x s' => x = alA n what (prU cls mood th n (WN n)) ∧ Fa scr s s') _
      generalize prU cls mood th n (WN n) = L at *
      refine lpG (fun k (a : Int × Int) => X12_alike_89 (d + 48) s3 98 what a.1 a.2 k) (fun k a => a.1 = posN (tal n L) k ∧ a.2 = maxN (tal n L) k) 64 ?_ ?_ 0 (0, 0) (by omega) ⟨rfl, rfl⟩
      · intro T k ⟨a, b⟩ hk ⟨h6, h7⟩ hT
        dsimp only at h6 h7 ⊢
        have h5 := h3 k hk
        have hpb := posN_bd (tal n L) k
        have hx : posN (tal n L) (k + 1) = posN (tal n L) k + if 0 < tal n L k then 1 else 0 := rfl
        have hy : maxN (tal n L) (k + 1) = if tal n L k < maxN (tal n L) k then maxN (tal n L) k else tal n L k := rfl
        rw [e_X12_alike_89, if_pos (by omega)]
        simp (disch := ((try simp only [kd_sF, kd_sA, gA_sF, gA_sA, gF_sF, gF_sA, List.length_set, reduceIte, and_true, and_false, true_and, false_and, Nat.reduceEqDiff, Int.reduceEq, hs3.kd, hs3.ln, hs3.fs, kMs, lMs]); first | done | omega)) only [rF_ok, wF_ok, oK_ok, lA_ok, rA_ok, wA_ok, cI_ok, cV_ok, cL_ok, cR_ok, kd_sF, kd_sA, gA_sF, gF_sA, gF_sF, gA_sA, bk_0, bk_1, List.length_set, reduceIte, and_true, and_false, true_and, false_and, ne_eq, not_true_eq_false, not_false_eq_true, Int.toNat_natCast, Int.reduceToNat, Nat.reduceEqDiff, Int.reduceEq, Int.reduceLT, Int.reduceLE, Int.reduceAdd, Int.reduceSub, Int.reduceMul, Int.reduceNeg, hs3.kd, hs3.ln, hs3.fs, kMs, lMs, h5, e_X12_greater, cI_if, wi_sm]
        rw [← h7] at hy
        by_cases e1 : 0 < tal n L k
        · rw [if_pos e1]
          rw [if_pos e1] at hx
          by_cases e2 : tal n L k < b
          · rw [if_pos e2]
            rw [if_pos e2] at hy
            exact hT (a + 1, b) ⟨by rw [hx, ← h6], by rw [hy]⟩
          · rw [if_neg e2]
            rw [if_neg e2] at hy
            exact hT (a + 1, tal n L k) ⟨by rw [hx, ← h6], by rw [hy]⟩
        · rw [if_neg e1]
          rw [if_neg e1] at hx
          by_cases e2 : tal n L k < b
          · rw [if_pos e2]
            rw [if_pos e2] at hy
            exact hT (a + 0, b) ⟨by rw [hx, ← h6], by rw [hy]⟩
          · rw [if_neg e2]
            rw [if_neg e2] at hy
            exact hT (a + 0, tal n L k) ⟨by rw [hx, ← h6], by rw [hy]⟩
      · intro ⟨a, b⟩ ⟨h6, h7⟩
        dsimp only at h6 h7 ⊢
        rw [e_X12_alike_89, if_neg (by decide)]
        by_cases e : what = 0
        · rw [if_pos e]
          exact reI ⟨by unfold alA; rw [if_pos e, h6], I3.2.1⟩
        · rw [if_neg e]
          exact reI ⟨by unfold alA; rw [if_neg e, h7], I3.2.1⟩
end MQ2
