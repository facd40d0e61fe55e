/-! ===== the reference: questions about words ===== -/
def WN (n : Nat) : Nat := 3 * 2 ^ (n - 1)
theorem WN_bd {n : Nat} (h : n ≤ 12) : WN n ≤ 6144 := by
  unfold WN
  have : 2 ^ (n - 1) ≤ 2 ^ 11 := Nat.pow_le_pow_right (by decide) (by omega)
  omega
/-- proper words of n moves below w, in their order -/
def prU (cls : List Cl) (mood th : Int) (n w : Nat) : List Nat := (List.range w).filter fun u => prB cls mood th (((n : Int) - 1) % 2) (plN n u) n
def prW (cls : List Cl) (mood th : Int) (n : Nat) : List Nat := prU cls mood th n (WN n)
theorem prU_1 {cls : List Cl} {mood th : Int} {n w : Nat} (h : prB cls mood th (((n : Int) - 1) % 2) (plN n w) n = true) : prU cls mood th n (w + 1) = prU cls mood th n w ++ [w] := by
  unfold prU
  rw [List.range_succ, List.filter_append]
  simp [h]
theorem prU_0 {cls : List Cl} {mood th : Int} {n w : Nat} (h : prB cls mood th (((n : Int) - 1) % 2) (plN n w) n = false) : prU cls mood th n (w + 1) = prU cls mood th n w := by
  unfold prU
  rw [List.range_succ, List.filter_append]
  simp [h]
theorem prU_len {cls : List Cl} {mood th : Int} {n w : Nat} : (prU cls mood th n w).length ≤ w := by
  unfold prU
  have := List.length_filter_le (fun u => prB cls mood th (((n : Int) - 1) % 2) (plN n u) n) (List.range w)
  rw [List.length_range] at this
  exact this
theorem prU_mem {cls : List Cl} {mood th : Int} {n w u : Nat} (h : u ∈ prU cls mood th n w) : u < w := List.mem_range.mp (List.mem_filter.mp h).1
/-- the reference's rows that keep nothing -/
def scr : List Int := [103, 106, 107, 108, 109, 110, 111, 112, 114, 115, 116, 117, 118, 119, 120, 121, 122, 123, 124]
/-- what stands in the kept row when words are asked for -/
def BK (K : List Int) : Prop := LawK K ∧ (0 ≤ K.getD 167 0 ∧ K.getD 167 0 ≤ 9) ∧ (0 ≤ K.getD 168 0 ∧ K.getD 168 0 ≤ 99) ∧ (1 ≤ K.getD 169 0 ∧ K.getD 169 0 ≤ 9)
section MQ
variable {d : Nat} {s : St} {n : Nat} {th mood : Int} {cls : List Cl}
theorem m_wordsOf (hn : 1 ≤ n ∧ n ≤ 12) : X12_wordsOf d s n = some ([(0, ((WN n : Nat) : Int))], s) := by
  rw [e_X12_wordsOf, wi_sm (by omega) (by omega), show (n : Int) - 1 = ((n - 1 : Nat) : Int) by omega, show (3 : Int) = ((3 : Nat) : Int) from rfl, shl_n (by omega) (by have := WN_bd hn.2; unfold WN at this; omega)]
  rfl
theorem m_isLong1 {n : Int} (h : 3 ≤ n ∧ n ≤ 12) : X12_isLong (d + 1) s n = some ([(0, 1)], s) := by
  rw [e_X12_isLong, m_lies1 h.1 h.2]; rfl
theorem m_isLong0 {n : Int} (h : n < 3 ∨ 12 < n) : X12_isLong (d + 1) s n = some ([(0, 0)], s) := by
  rw [e_X12_isLong, m_lies0 h]; rfl
/-- the state of a loop over numbers -/
def QI (cls : List Cl) (mood th : Int) (s0 s : St) : Prop := ShM s ∧ Fa scr s0 s ∧ Rt cls mood th 288 s
theorem QI.fa {s0 s' : St} {P : List Int} (h : QI cls mood th s0 s) (hs : ShM s') (hF : Fa P s s') (hP : P.all (fun x => scr.any fun y => y == x) = true) (hP2 : (115 : Int) ∉ P ∧ (116 : Int) ∉ P ∧ (117 : Int) ∉ P) : QI cls mood th s0 s' := ⟨hs, h.2.1.tr (hF.mono hP), h.2.2.fa hF hP2⟩
theorem m_ask {T : Res → Prop} {K : St → Res} (hs : ShM s) (hB : BK (gA s 100)) (h : ∀ s1, X12_asksAll (d + 47) s 98 = some ([], s1) → QI (clsK (gA s 100)) ((gA s 100).getD 167 0) ((gA s 100).getD 169 0) s s1 → Gl T (K s1)) : Gl T (cV (X12_asksAll (d + 47) s 98) K) := by
  refine biV (m_asksAll hs hB.1 hB.2.1 rfl (by have := hB.2.2.2; omega)) fun s1 h1 ⟨q1, q2⟩ => h s1 h1 ⟨hs.ev h1 rfl, q1.mono (by decide), q2⟩
/-- one number of a loop: proper or not -/
theorem m_num {T : Res → Prop} {K : Int → St → Res} {s0 : St} {w : Nat} (I : QI cls mood th s0 s) (hn : 1 ≤ n ∧ n ≤ 12) (hw : w < WN n) (h : ∀ s1, X12_opensProper (d + 3) s 98 n w = some ([(0, if prB cls mood th (((n : Int) - 1) % 2) (plN n w) n then 1 else 0)], s1) → QI cls mood th s0 s1 → Fa [112] s s1 → Opn s1 n w → Gl T (K (if prB cls mood th (((n : Int) - 1) % 2) (plN n w) n then 1 else 0) s1)) : Gl T (cI (X12_opensProper (d + 3) s 98 n w) K) := by
  refine biI (m_opensProper I.1 hn hw I.2.2) fun x s1 h1 ⟨q1, q2, q3⟩ => ?_
  rw [q3] at h1 ⊢
  exact h s1 h1 (I.fa (I.1.ev h1 rfl) q1 (by decide) (by decide)) q1 q2
def waysL (c : Int) (n : Nat) (L : List Nat) : Int := ((L.filter fun u => decide (c = -1 ∨ cenN (plN n u) n = c)).length : Int)
theorem waysL_a {c : Int} {n u : Nat} {L : List Nat} : waysL c n (L ++ [u]) = waysL c n L + if c = -1 ∨ cenN (plN n u) n = c then 1 else 0 := by
  unfold waysL
  rw [List.filter_append, List.length_append]
  by_cases h : c = -1 ∨ cenN (plN n u) n = c
  · simp [h]
  · simp [h]
theorem waysL_bd {c : Int} {n : Nat} {L : List Nat} : 0 ≤ waysL c n L ∧ waysL c n L ≤ L.length := by
  unfold waysL
  have := List.length_filter_le (fun u => decide (c = -1 ∨ cenN (plN n u) n = c)) L
  omega
theorem m_ways {c : Int} (hs : ShM s) (hB : BK (gA s 100)) (hn : 3 ≤ n ∧ n ≤ 12) : Gl (GI fun x s' => x = waysL c n (prW (clsK (gA s 100)) ((gA s 100).getD 167 0) ((gA s 100).getD 169 0) n) ∧ Fa scr s s') (X12_ways (d + 48) s 98 n c) := by
  rw [e_X12_ways]
  simp (disch := ((try simp only [kd_sF, kd_sA, gA_sF, gA_sA, gF_sF, gF_sA, List.length_set, reduceIte, and_true, and_false, true_and, false_and, Nat.reduceEqDiff, Int.reduceEq, hs.kd, hs.ln, hs.fs, kMs, lMs]); first | done | omega)) only [rF_ok, wF_ok, oK_ok, lA_ok, rA_ok, wA_ok, cI_ok, cV_ok, cL_ok, cR_ok, kd_sF, kd_sA, gA_sF, gF_sA, gF_sF, gA_sA, bk_0, bk_1, List.length_set, reduceIte, and_true, and_false, true_and, false_and, ne_eq, not_true_eq_false, not_false_eq_true, Int.toNat_natCast, Int.reduceToNat, Nat.reduceEqDiff, Int.reduceEq, Int.reduceLT, Int.reduceLE, Int.reduceAdd, Int.reduceSub, Int.reduceMul, Int.reduceNeg, hs.kd, hs.ln, hs.fs, kMs, lMs, m_isLong1 (show 3 ≤ (n : Int) ∧ (n : Int) ≤ 12 by omega)]
  refine m_ask hs hB fun s1 h1 I => ?_
  generalize clsK (gA s 100) = cls at *
  generalize (gA s 100).getD 167 0 = mood at *
  generalize (gA s 100).getD 169 0 = th at *
  refine lpG (fun w (a : St × Int) => X12_ways_18 (d + 48) a.1 98 n c a.2 w) (fun w a => QI cls mood th s a.1 ∧ a.2 = waysL c n (prU cls mood th n w)) (WN n) ?_ ?_ 0 (s1, 0) (by omega) ⟨I, rfl⟩
  · intro T w ⟨s2, a⟩ hw ⟨I2, ha⟩ hT
    dsimp only at I2 ha ⊢
    have hs2 := I2.1
    have hW := WN_bd hn.2
    have hb := waysL_bd (c := c) (n := n) (L := prU cls mood th n w)
    have hl := prU_len (cls := cls) (mood := mood) (th := th) (n := n) (w := w)
    rw [e_X12_ways_18]
    simp (disch := ((try simp only [kd_sF, kd_sA, gA_sF, gA_sA, gF_sF, gF_sA, List.length_set, reduceIte, and_true, and_false, true_and, false_and, Nat.reduceEqDiff, Int.reduceEq, hs2.kd, hs2.ln, hs2.fs, kMs, lMs]); first | done | omega)) only [rF_ok, wF_ok, oK_ok, lA_ok, rA_ok, wA_ok, cI_ok, cV_ok, cL_ok, cR_ok, kd_sF, kd_sA, gA_sF, gF_sA, gF_sF, gA_sA, bk_0, bk_1, List.length_set, reduceIte, and_true, and_false, true_and, false_and, ne_eq, not_true_eq_false, not_false_eq_true, Int.toNat_natCast, Int.reduceToNat, Nat.reduceEqDiff, Int.reduceEq, Int.reduceLT, Int.reduceLE, Int.reduceAdd, Int.reduceSub, Int.reduceMul, Int.reduceNeg, hs2.kd, hs2.ln, hs2.fs, kMs, lMs, m_wordsOf (show 1 ≤ n ∧ n ≤ 12 by omega), Int.ofNat_lt, hw]
    refine m_num I2 (by omega) hw fun s3 h3 I3 F3 O3 => ?_
    have hs3 := I3.1
    have ec : cenN (pf s3) n = cenN (plN n w) n := cenN_congr O3.2.2
    cases hp : prB cls mood th (((n : Int) - 1) % 2) (plN n w) n with
    | false =>
      simp only [Bool.false_eq_true, reduceIte]
      rw [wi_sm (by omega) (by omega), wi_sc (by omega)]
      exact hT (s3, a + 0) ⟨I3, by rw [prU_0 hp]; show a + 0 = _; omega⟩
    | true =>
      simp only [reduceIte, Int.reduceEq]
      have hx := waysL_a (c := c) (n := n) (u := w) (L := prU cls mood th n w)
      by_cases h1 : c = -1
      · rw [if_pos h1, wi_sm (by omega) (by omega), wi_sc (by omega)]
        rw [if_pos (Or.inl h1)] at hx
        exact hT (s3, a + 1) ⟨I3, by rw [prU_1 hp, hx, ha]⟩
      · rw [if_neg h1]
        simp (disch := ((try simp only [kd_sF, kd_sA, gA_sF, gA_sA, gF_sF, gF_sA, List.length_set, reduceIte, and_true, and_false, true_and, false_and, Nat.reduceEqDiff, Int.reduceEq, hs3.kd, hs3.ln, hs3.fs, kMs, lMs]); first | done | omega)) only [rF_ok, wF_ok, oK_ok, lA_ok, rA_ok, wA_ok, cI_ok, cV_ok, cL_ok, cR_ok, kd_sF, kd_sA, gA_sF, gF_sA, gF_sF, gA_sA, bk_0, bk_1, List.length_set, reduceIte, and_true, and_false, true_and, false_and, ne_eq, not_true_eq_false, not_false_eq_true, Int.toNat_natCast, Int.reduceToNat, Nat.reduceEqDiff, Int.reduceEq, Int.reduceLT, Int.reduceLE, Int.reduceAdd, Int.reduceSub, Int.reduceMul, Int.reduceNeg, hs3.kd, hs3.ln, hs3.fs, kMs, lMs, m_centres hs3 O3.1 (show n ≤ 13 by omega), ec]
        by_cases h2 : cenN (plN n w) n = c
        · rw [if_pos h2, wi_sm (by omega) (by omega), wi_sc (by omega)]
          rw [if_pos (Or.inr h2)] at hx
          exact hT (s3, a + 1) ⟨I3, by rw [prU_1 hp, hx, ha]⟩
        · rw [if_neg h2, wi_sm (by omega) (by omega), wi_sc (by omega)]
          rw [if_neg (fun q => q.elim h1 h2)] at hx
          exact hT (s3, a + 0) ⟨I3, by rw [prU_1 hp, hx, ha]⟩
  · intro ⟨s2, a⟩ ⟨I2, ha⟩
    dsimp only at I2 ha ⊢
    have hs2 := I2.1
    rw [e_X12_ways_18]
    simp (disch := ((try simp only [kd_sF, kd_sA, gA_sF, gA_sA, gF_sF, gF_sA, List.length_set, reduceIte, and_true, and_false, true_and, false_and, Nat.reduceEqDiff, Int.reduceEq, hs2.kd, hs2.ln, hs2.fs, kMs, lMs]); first | done | omega)) only [rF_ok, wF_ok, oK_ok, lA_ok, rA_ok, wA_ok, cI_ok, cV_ok, cL_ok, cR_ok, kd_sF, kd_sA, gA_sF, gF_sA, gF_sF, gA_sA, bk_0, bk_1, List.length_set, reduceIte, and_true, and_false, true_and, false_and, ne_eq, not_true_eq_false, not_false_eq_true, Int.toNat_natCast, Int.reduceToNat, Nat.reduceEqDiff, Int.reduceEq, Int.reduceLT, Int.reduceLE, Int.reduceAdd, Int.reduceSub, Int.reduceMul, Int.reduceNeg, hs2.kd, hs2.ln, hs2.fs, kMs, lMs, m_wordsOf (show 1 ≤ n ∧ n ≤ 12 by omega), Int.lt_irrefl]
    exact reI ⟨ha, I2.2.1⟩
def wordL (n : Nat) (k : Nat) (o : Option Nat) : Int := match o with
  | some u => plN n u k
  | none => -1
theorem m_word {i k : Int} (hs : ShM s) (hB : BK (gA s 100)) (hn : 3 ≤ n ∧ n ≤ 12) (hi : 0 ≤ i) (hk : 0 ≤ k ∧ k < n) : Gl (GI fun x s' => x = wordL n k.toNat ((prW (clsK (gA s 100)) ((gA s 100).getD 167 0) ((gA s 100).getD 169 0) n)[i.toNat]?) ∧ Fa scr s s') (X12_word (d + 48) s 98 n i k) := by
  rw [e_X12_word]
  simp (disch := ((try simp only [kd_sF, kd_sA, gA_sF, gA_sA, gF_sF, gF_sA, List.length_set, reduceIte, and_true, and_false, true_and, false_and, Nat.reduceEqDiff, Int.reduceEq, hs.kd, hs.ln, hs.fs, kMs, lMs]); first | done | omega)) only [rF_ok, wF_ok, oK_ok, lA_ok, rA_ok, wA_ok, cI_ok, cV_ok, cL_ok, cR_ok, kd_sF, kd_sA, gA_sF, gF_sA, gF_sF, gA_sA, bk_0, bk_1, List.length_set, reduceIte, and_true, and_false, true_and, false_and, ne_eq, not_true_eq_false, not_false_eq_true, Int.toNat_natCast, Int.reduceToNat, Nat.reduceEqDiff, Int.reduceEq, Int.reduceLT, Int.reduceLE, Int.reduceAdd, Int.reduceSub, Int.reduceMul, Int.reduceNeg, hs.kd, hs.ln, hs.fs, kMs, lMs, m_isLong1 (show 3 ≤ (n : Int) ∧ (n : Int) ≤ 12 by omega), if_neg (show ¬ (i < 0) by omega), wi_sm, m_lies1 (show 0 ≤ k by omega) (show k ≤ (n : Int) - 1 by omega)]
  refine m_ask hs hB fun s1 h1 I => ?_
  generalize clsK (gA s 100) = cls at *
  generalize (gA s 100).getD 167 0 = mood at *
  generalize (gA s 100).getD 169 0 = th at *
  have hpw : ∀ w, w ≤ WN n → ∃ R, prW cls mood th n = prU cls mood th n w ++ R := by
    intro w hw
    unfold prW prU
    obtain ⟨m, hm⟩ := Nat.le.dest hw
    refine ⟨((List.range m).map (w + ·)).filter fun u => prB cls mood th (((n : Int) - 1) % 2) (plN n u) n, ?_⟩
    rw [← List.filter_append, ← List.range_add, hm]
  refine lpF (fun w (a : St × Int) => X12_word_34 (d + 48) a.1 98 n i k a.2 w) (fun w a => QI cls mood th s a.1 ∧ a.2 = ((prU cls mood th n w).length : Int) ∧ a.2 ≤ i) (WN n) ?_ ?_ 0 (s1, 0) (by omega) ⟨I, rfl, hi⟩
  · intro w ⟨s2, a⟩ hw ⟨I2, ha, hai⟩ hT
    dsimp only at I2 ha hai ⊢
    have hs2 := I2.1
    have hW := WN_bd hn.2
    have hl := prU_len (cls := cls) (mood := mood) (th := th) (n := n) (w := w)
    rw [e_X12_word_34]
    simp (disch := ((try simp only [kd_sF, kd_sA, gA_sF, gA_sA, gF_sF, gF_sA, List.length_set, reduceIte, and_true, and_false, true_and, false_and, Nat.reduceEqDiff, Int.reduceEq, hs2.kd, hs2.ln, hs2.fs, kMs, lMs]); first | done | omega)) only [rF_ok, wF_ok, oK_ok, lA_ok, rA_ok, wA_ok, cI_ok, cV_ok, cL_ok, cR_ok, kd_sF, kd_sA, gA_sF, gF_sA, gF_sF, gA_sA, bk_0, bk_1, List.length_set, reduceIte, and_true, and_false, true_and, false_and, ne_eq, not_true_eq_false, not_false_eq_true, Int.toNat_natCast, Int.reduceToNat, Nat.reduceEqDiff, Int.reduceEq, Int.reduceLT, Int.reduceLE, Int.reduceAdd, Int.reduceSub, Int.reduceMul, Int.reduceNeg, hs2.kd, hs2.ln, hs2.fs, kMs, lMs, m_wordsOf (show 1 ≤ n ∧ n ≤ 12 by omega), Int.ofNat_lt, hw]
    refine m_num I2 (by omega) hw fun s3 h3 I3 F3 O3 => ?_
    have hs3 := I3.1
    cases hp : prB cls mood th (((n : Int) - 1) % 2) (plN n w) n with
    | false =>
      simp only [Bool.false_eq_true, reduceIte]
      rw [wi_sc (by omega)]
      exact hT (s3, a) ⟨I3, by rw [prU_0 hp]; exact ha, hai⟩
    | true =>
      simp only [reduceIte, Int.reduceEq]
      by_cases e : a = i
      · rw [if_pos e]
        simp (disch := ((try simp only [kd_sF, kd_sA, gA_sF, gA_sA, gF_sF, gF_sA, List.length_set, reduceIte, and_true, and_false, true_and, false_and, Nat.reduceEqDiff, Int.reduceEq, hs3.kd, hs3.ln, hs3.fs, kMs, lMs]); first | done | omega)) only [rF_ok, wF_ok, oK_ok, lA_ok, rA_ok, wA_ok, cI_ok, cV_ok, cL_ok, cR_ok, kd_sF, kd_sA, gA_sF, gF_sA, gF_sF, gA_sA, bk_0, bk_1, List.length_set, reduceIte, and_true, and_false, true_and, false_and, ne_eq, not_true_eq_false, not_false_eq_true, Int.toNat_natCast, Int.reduceToNat, Nat.reduceEqDiff, Int.reduceEq, Int.reduceLT, Int.reduceLE, Int.reduceAdd, Int.reduceSub, Int.reduceMul, Int.reduceNeg, hs3.kd, hs3.ln, hs3.fs, kMs, lMs]
        refine reI ⟨?_, I3.2.1⟩
        obtain ⟨R, hR⟩ := hpw (w + 1) (by omega)
        rw [hR, prU_1 hp]
        have e2 : (prU cls mood th n w ++ [w] ++ R)[i.toNat]? = some w := by
          rw [List.append_assoc, List.getElem?_append_right (by omega), show i.toNat - (prU cls mood th n w).length = 0 by omega]
          rfl
        rw [e2]
        exact O3.2.2 k.toNat (by omega)
      · rw [if_neg e, wi_sm (by omega) (by omega), wi_sc (by omega)]
        exact hT (s3, a + 1) ⟨I3, by rw [prU_1 hp, List.length_append]; show a + 1 = _; simp; omega, by show a + 1 ≤ i; omega⟩
  · intro ⟨s2, a⟩ ⟨I2, ha, hai⟩
    dsimp only at I2 ha hai ⊢
    have hs2 := I2.1
    rw [e_X12_word_34]
    simp (disch := ((try simp only [kd_sF, kd_sA, gA_sF, gA_sA, gF_sF, gF_sA, List.length_set, reduceIte, and_true, and_false, true_and, false_and, Nat.reduceEqDiff, Int.reduceEq, hs2.kd, hs2.ln, hs2.fs, kMs, lMs]); first | done | omega)) only [rF_ok, wF_ok, oK_ok, lA_ok, rA_ok, wA_ok, cI_ok, cV_ok, cL_ok, cR_ok, kd_sF, kd_sA, gA_sF, gF_sA, gF_sF, gA_sA, bk_0, bk_1, List.length_set, reduceIte, and_true, and_false, true_and, false_and, ne_eq, not_true_eq_false, not_false_eq_true, Int.toNat_natCast, Int.reduceToNat, Nat.reduceEqDiff, Int.reduceEq, Int.reduceLT, Int.reduceLE, Int.reduceAdd, Int.reduceSub, Int.reduceMul, Int.reduceNeg, hs2.kd, hs2.ln, hs2.fs, kMs, lMs, m_wordsOf (show 1 ≤ n ∧ n ≤ 12 by omega), Int.lt_irrefl]
    refine reI ⟨?_, I2.2.1⟩
    rw [List.getElem?_eq_none (by unfold prW; omega)]
    rfl
end MQ
