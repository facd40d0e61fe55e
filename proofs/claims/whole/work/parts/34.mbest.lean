/-! ===== the reference: the best word ===== -/
/-- moves, number, lean, twists, cloth of the best so far; number -1: none -/
abbrev BA : Type := Int × Int × Int × Int × Int
def tkS (cls : List Cl) (mood th : Int) (n u : Nat) : Int := sumN (tkW cls mood th (((n : Int) - 1) % 2) (plN n u)) n
def gpS (cls : List Cl) (mood th : Int) (n u : Nat) : Int := sumN (gpW cls mood th (((n : Int) - 1) % 2) (plN n u)) n
def btr (a : BA) (n u : Nat) : Bool := decide (a.2.1 = -1) || (if absI (leanN (plN n u) n) = a.2.2.1 then decide (a.2.2.2.1 < twN (plN n u) n) else decide (absI (leanN (plN n u) n) < a.2.2.1))
def bstep (cls : List Cl) (mood th need cloth : Int) (n : Nat) (a : BA) (u : Nat) : BA := if tkS cls mood th n u ≤ cloth ∧ need ≤ gpS cls mood th n u ∧ btr a n u = true then ((n : Int), (u : Int), absI (leanN (plN n u) n), twN (plN n u) n, tkS cls mood th n u) else a
def bestTo (cls : List Cl) (mood th need cloth : Int) : Nat → BA
  | 0 => (0, -1, 0, 0, 0)
  | j + 1 => (prW cls mood th (3 + j)).foldl (bstep cls mood th need cloth (3 + j)) (bestTo cls mood th need cloth j)
def bestA (what : Int) (a : BA) : Int := if a.2.1 = -1 then -1 else if what = 0 then a.1 else if what = 1 then a.2.2.1 else if what = 2 then a.2.2.2.1 else if what = 3 then a.2.2.2.2 else if what - 4 < a.1 then plN a.1.toNat a.2.1.toNat (what - 4).toNat else -1
/-- the fields hold the best so far -/
def BF (s : St) (a : BA) : Prop := gF s 98 41 = a.2.1 ∧ (a.2.1 ≠ -1 → gF s 98 40 = a.1 ∧ gF s 98 37 = a.2.2.1 ∧ gF s 98 38 = a.2.2.2.1 ∧ gF s 98 39 = a.2.2.2.2)
theorem absI_bd {x : Int} {n : Nat} (h : -(n : Int) ≤ x ∧ x ≤ n) : 0 ≤ absI x ∧ absI x ≤ n := by unfold absI; split <;> omega
section MB
variable {d : Nat} {s : St} {n : Nat} {th mood : Int} {cls : List Cl}
theorem m_size0 {x : Int} (h : -1000 ≤ x ∧ x ≤ 1000) : X12_size0 d s x = some ([(0, absI x)], s) := by
  rw [e_X12_size0]
  unfold absI
  split
  · rw [wi_sm (by omega) (by omega)]
  · rfl
theorem m_isBetter {w : Nat} {a : BA} (hs : ShM s) (hn : n ≤ 12) (hw : w < WN n) (O : Opn s n w) (B : BF s a) : X12_isBetter (d + 2) s 98 = some ([(0, if btr a n w then 1 else 0)], s) := by
  obtain ⟨B1, B2⟩ := B
  have hp : ∀ k, k < n → pl3 (pf s k) := fun k hk => by rw [O.2.2 k hk]; exact plN_pl hw k
  have hlb := leanN_bd (plN n w) n
  have el : leanN (pf s) n = leanN (plN n w) n := leanN_congr O.2.2
  have et : twN (pf s) n = twN (plN n w) n := twN_congr O.2.2
  have ml := fun d => m_leans (d := d) hs O.1 (show n ≤ 13 by omega)
  have mt := fun d => m_twists (d := d) hs O.1 (show n ≤ 13 by omega) hp
  have ms := fun d => m_size0 (d := d) (s := s) (x := leanN (plN n w) n) (by omega)
  rw [e_X12_isBetter]
  by_cases h1 : a.2.1 = -1
  · have hb : btr a n w = true := by unfold btr; rw [decide_eq_true h1, Bool.true_or]
    rw [hb]
    simp (disch := ((try simp only [kd_sF, kd_sA, gA_sF, gA_sA, gF_sF, gF_sA, List.length_set, reduceIte, and_true, and_false, true_and, false_and, Nat.reduceEqDiff, Int.reduceEq, hs.kd, hs.ln, hs.fs, kMs, lMs]); first | done | omega)) only [rF_ok, wF_ok, oK_ok, lA_ok, rA_ok, wA_ok, cI_ok, cV_ok, cL_ok, cR_ok, kd_sF, kd_sA, gA_sF, gF_sA, gF_sF, gA_sA, bk_0, bk_1, List.length_set, reduceIte, and_true, and_false, true_and, false_and, ne_eq, not_true_eq_false, not_false_eq_true, Int.toNat_natCast, Int.reduceToNat, Nat.reduceEqDiff, Int.reduceEq, Int.reduceLT, Int.reduceLE, Int.reduceAdd, Int.reduceSub, Int.reduceMul, Int.reduceNeg, hs.kd, hs.ln, hs.fs, kMs, lMs, B1, h1, e_X12_isBetter_22]
  · obtain ⟨-, c1, c2, -⟩ := B2 h1
    simp (disch := ((try simp only [kd_sF, kd_sA, gA_sF, gA_sA, gF_sF, gF_sA, List.length_set, reduceIte, and_true, and_false, true_and, false_and, Nat.reduceEqDiff, Int.reduceEq, hs.kd, hs.ln, hs.fs, kMs, lMs]); first | done | omega)) only [rF_ok, wF_ok, oK_ok, lA_ok, rA_ok, wA_ok, cI_ok, cV_ok, cL_ok, cR_ok, kd_sF, kd_sA, gA_sF, gF_sA, gF_sF, gA_sA, bk_0, bk_1, List.length_set, reduceIte, and_true, and_false, true_and, false_and, ne_eq, not_true_eq_false, not_false_eq_true, Int.toNat_natCast, Int.reduceToNat, Nat.reduceEqDiff, Int.reduceEq, Int.reduceLT, Int.reduceLE, Int.reduceAdd, Int.reduceSub, Int.reduceMul, Int.reduceNeg, hs.kd, hs.ln, hs.fs, kMs, lMs, B1, if_neg h1, ml, el, ms, c1]
    by_cases h2 : absI (leanN (plN n w) n) = a.2.2.1
    · rw [if_pos h2]
      have hb : btr a n w = decide (a.2.2.2.1 < twN (plN n w) n) := by unfold btr; rw [decide_eq_false h1, Bool.false_or, if_pos h2]
      rw [hb]
      simp (disch := ((try simp only [kd_sF, kd_sA, gA_sF, gA_sA, gF_sF, gF_sA, List.length_set, reduceIte, and_true, and_false, true_and, false_and, Nat.reduceEqDiff, Int.reduceEq, hs.kd, hs.ln, hs.fs, kMs, lMs]); first | done | omega)) only [rF_ok, wF_ok, oK_ok, lA_ok, rA_ok, wA_ok, cI_ok, cV_ok, cL_ok, cR_ok, kd_sF, kd_sA, gA_sF, gF_sA, gF_sF, gA_sA, bk_0, bk_1, List.length_set, reduceIte, and_true, and_false, true_and, false_and, ne_eq, not_true_eq_false, not_false_eq_true, Int.toNat_natCast, Int.reduceToNat, Nat.reduceEqDiff, Int.reduceEq, Int.reduceLT, Int.reduceLE, Int.reduceAdd, Int.reduceSub, Int.reduceMul, Int.reduceNeg, hs.kd, hs.ln, hs.fs, kMs, lMs, mt, et, c2]
      by_cases h3 : a.2.2.2.1 < twN (plN n w) n
      · rw [if_pos h3, decide_eq_true h3]; rfl
      · rw [if_neg h3, decide_eq_false h3]; rfl
    · rw [if_neg h2]
      have hb : btr a n w = decide (absI (leanN (plN n w) n) < a.2.2.1) := by unfold btr; rw [decide_eq_false h1, Bool.false_or, if_neg h2]
      rw [hb, e_X12_isBetter_22]
      simp (disch := ((try simp only [kd_sF, kd_sA, gA_sF, gA_sA, gF_sF, gF_sA, List.length_set, reduceIte, and_true, and_false, true_and, false_and, Nat.reduceEqDiff, Int.reduceEq, hs.kd, hs.ln, hs.fs, kMs, lMs]); first | done | omega)) only [rF_ok, wF_ok, oK_ok, lA_ok, rA_ok, wA_ok, cI_ok, cV_ok, cL_ok, cR_ok, kd_sF, kd_sA, gA_sF, gF_sA, gF_sF, gA_sA, bk_0, bk_1, List.length_set, reduceIte, and_true, and_false, true_and, false_and, ne_eq, not_true_eq_false, not_false_eq_true, Int.toNat_natCast, Int.reduceToNat, Nat.reduceEqDiff, Int.reduceEq, Int.reduceLT, Int.reduceLE, Int.reduceAdd, Int.reduceSub, Int.reduceMul, Int.reduceNeg, hs.kd, hs.ln, hs.fs, kMs, lMs, B1, if_neg h1, ml, el, ms, c1]
      by_cases h3 : absI (leanN (plN n w) n) < a.2.2.1
      · rw [if_pos h3, decide_eq_true h3]; rfl
      · rw [if_neg h3, decide_eq_false h3]; rfl
theorem QI.sF {s0 : St} {k : Nat} {v : Int} (h : QI cls mood th s0 s) (hk : finM.all (fun x => !(x == k)) = true) : QI cls mood th s0 (sF s 98 k v) := ⟨h.1.sF hk, h.2.1, h.2.2⟩
theorem m_best37 {T : Res → Prop} {s0 : St} {cloth what : Int} {a : BA} (hth : 0 ≤ th ∧ th ≤ 9) (hn : 3 ≤ n ∧ n ≤ 12) (I : QI cls mood th s0 s) (B : BF s a) (hT : ∀ s' a', QI cls mood th s0 s' → a' = (prW cls mood th n).foldl (bstep cls mood th ((gA s0 100).getD 168 0) cloth n) a → BF s' a' → Gl T (X12_best_28 (d + 48) s' 98 cloth what (n + 1 : Nat))) : Gl T (X12_best_37 (d + 48) s 98 cloth what n 0) := by
  refine lpG (fun w (q : St × BA) => X12_best_37 (d + 48) q.1 98 cloth what n w) (fun w q => QI cls mood th s0 q.1 ∧ q.2 = (prU cls mood th n w).foldl (bstep cls mood th ((gA s0 100).getD 168 0) cloth n) a ∧ BF q.1 q.2) (WN n) ?_ ?_ 0 (s, a) (by omega) ⟨I, rfl, B⟩
  · intro T w ⟨s2, b⟩ hw ⟨I2, hb, B2⟩ hT
    dsimp only at I2 hb B2 ⊢
    have hs2 := I2.1
    have hW := WN_bd hn.2
    rw [e_X12_best_37]
    simp (disch := ((try simp only [kd_sF, kd_sA, gA_sF, gA_sA, gF_sF, gF_sA, List.length_set, reduceIte, and_true, and_false, true_and, false_and, Nat.reduceEqDiff, Int.reduceEq, hs2.kd, hs2.ln, hs2.fs, kMs, lMs]); first | done | omega)) only [rF_ok, wF_ok, oK_ok, lA_ok, rA_ok, wA_ok, cI_ok, cV_ok, cL_ok, cR_ok, kd_sF, kd_sA, gA_sF, gF_sA, gF_sF, gA_sA, bk_0, bk_1, List.length_set, reduceIte, and_true, and_false, true_and, false_and, ne_eq, not_true_eq_false, not_false_eq_true, Int.toNat_natCast, Int.reduceToNat, Nat.reduceEqDiff, Int.reduceEq, Int.reduceLT, Int.reduceLE, Int.reduceAdd, Int.reduceSub, Int.reduceMul, Int.reduceNeg, hs2.kd, hs2.ln, hs2.fs, kMs, lMs, m_wordsOf (show 1 ≤ n ∧ n ≤ 12 by omega), Int.ofNat_lt, hw]
    refine m_num I2 (by omega) hw fun s3 h3 I3 F3 O3 => ?_
    have hs3 := I3.1
    have B3 : BF s3 b := by
      have g := fun k hk => hs2.gf (k := k) h3 rfl hk
      exact ⟨(g 41 rfl).trans B2.1, fun q => ⟨(g 40 rfl).trans (B2.2 q).1, (g 37 rfl).trans (B2.2 q).2.1, (g 38 rfl).trans (B2.2 q).2.2.1, (g 39 rfl).trans (B2.2 q).2.2.2⟩⟩
    have fin : ∀ (s' : St) (b' : BA), QI cls mood th s0 s' → prB cls mood th (((n : Int) - 1) % 2) (plN n w) n = true → b' = bstep cls mood th ((gA s0 100).getD 168 0) cloth n b w → BF s' b' → Gl T (X12_best_37 (d + 48) s' 98 cloth what n (wi ((w : Int) + 1))) := by
      intro s' b' I' hp hb' B'
      rw [wi_sc (by omega)]
      exact hT (s', b') ⟨I', by rw [prU_1 hp, List.foldl_append, ← hb]; exact hb', B'⟩
    cases hp : prB cls mood th (((n : Int) - 1) % 2) (plN n w) n with
    | false =>
      simp only [Bool.false_eq_true, reduceIte]
      rw [wi_sc (by omega)]
      exact hT (s3, b) ⟨I3, by rw [prU_0 hp]; exact hb, B3⟩
    | true =>
      simp only [reduceIte, Int.reduceEq]
      have e100 : gA s3 100 = gA s0 100 := I3.2.1 100 (by decide)
      have hpl : ∀ k, k < n → pl3 (pf s3 k) := fun k hk => by rw [O3.2.2 k hk]; exact plN_pl hw k
      have ek : sumN (tkW cls mood th (((n : Int) - 1) % 2) (pf s3)) n = tkS cls mood th n w := sumN_congr fun k hk => tkW_congr fun j hj => O3.2.2 j (by omega)
      have eg : sumN (gpW cls mood th (((n : Int) - 1) % 2) (pf s3)) n = gpS cls mood th n w := sumN_congr fun k hk => gpW_congr fun j hj => O3.2.2 j (by omega)
      have mk := m_takesWord (d := d + 45) hs3 O3.1 hn.2 O3.2.1 (by omega) hth hpl I3.2.2
      have mg := m_gripsWord (d := d + 45) hs3 O3.1 hn.2 O3.2.1 (by omega) hpl I3.2.2
      have mb := m_isBetter (d := d + 45) hs3 hn.2 hw O3 B3
      have el : leanN (pf s3) n = leanN (plN n w) n := leanN_congr O3.2.2
      have et : twN (pf s3) n = twN (plN n w) n := twN_congr O3.2.2
      have hlb := leanN_bd (plN n w) n
      rw [ek] at mk
      rw [eg] at mg
      simp (disch := ((try simp only [kd_sF, kd_sA, gA_sF, gA_sA, gF_sF, gF_sA, List.length_set, reduceIte, and_true, and_false, true_and, false_and, Nat.reduceEqDiff, Int.reduceEq, hs3.kd, hs3.ln, hs3.fs, kMs, lMs]); first | done | omega)) only [rF_ok, wF_ok, oK_ok, lA_ok, rA_ok, wA_ok, cI_ok, cV_ok, cL_ok, cR_ok, kd_sF, kd_sA, gA_sF, gF_sA, gF_sF, gA_sA, bk_0, bk_1, List.length_set, reduceIte, and_true, and_false, true_and, false_and, ne_eq, not_true_eq_false, not_false_eq_true, Int.toNat_natCast, Int.reduceToNat, Nat.reduceEqDiff, Int.reduceEq, Int.reduceLT, Int.reduceLE, Int.reduceAdd, Int.reduceSub, Int.reduceMul, Int.reduceNeg, hs3.kd, hs3.ln, hs3.fs, kMs, lMs, mk, mg, mb, e100]
      by_cases k1 : cloth < tkS cls mood th n w
      · rw [if_pos k1]
        exact fin s3 b I3 hp (by unfold bstep; rw [if_neg (by omega)]) B3
      · rw [if_neg k1]
        by_cases k2 : gpS cls mood th n w < (gA s0 100).getD 168 0
        · rw [if_pos k2]
          exact fin s3 b I3 hp (by unfold bstep; rw [if_neg (by omega)]) B3
        · rw [if_neg k2]
          cases k3 : btr b n w with
          | false =>
            simp only [Bool.false_eq_true, reduceIte]
            exact fin s3 b I3 hp (by unfold bstep; rw [if_neg (fun q => by rw [k3] at q; cases q.2.2)]) B3
          | true =>
            simp only [reduceIte, Int.reduceEq]
            have ml := m_leans (d := d + 47) hs3 O3.1 (show n ≤ 13 by omega)
            rw [el] at ml
            have I4 : QI cls mood th s0 (sF s3 98 37 (absI (leanN (plN n w) n))) := I3.sF (by decide)
            have mt := m_twists (d := d + 46) I4.1 (n := n) O3.1 (show n ≤ 13 by omega) hpl
            have et2 : twN (pf (sF s3 98 37 (absI (leanN (plN n w) n)))) n = twN (plN n w) n := et
            rw [et2] at mt
            have I5 : QI cls mood th s0 (sF (sF s3 98 37 (absI (leanN (plN n w) n))) 98 38 (twN (plN n w) n)) := I4.sF (by decide)
            have mk2 := m_takesWord (d := d + 45) I5.1 (n := n) O3.1 hn.2 O3.2.1 (by omega) hth hpl I5.2.2
            have ek2 : sumN (tkW cls mood th (((n : Int) - 1) % 2) (pf (sF (sF s3 98 37 (absI (leanN (plN n w) n))) 98 38 (twN (plN n w) n)))) n = tkS cls mood th n w := ek
            rw [ek2] at mk2
            simp (disch := ((try simp only [kd_sF, kd_sA, gA_sF, gA_sA, gF_sF, gF_sA, List.length_set, reduceIte, and_true, and_false, true_and, false_and, Nat.reduceEqDiff, Int.reduceEq, hs3.kd, hs3.ln, hs3.fs, kMs, lMs]); first | done | omega)) only [rF_ok, wF_ok, oK_ok, lA_ok, rA_ok, wA_ok, cI_ok, cV_ok, cL_ok, cR_ok, kd_sF, kd_sA, gA_sF, gF_sA, gF_sF, gA_sA, bk_0, bk_1, List.length_set, reduceIte, and_true, and_false, true_and, false_and, ne_eq, not_true_eq_false, not_false_eq_true, Int.toNat_natCast, Int.reduceToNat, Nat.reduceEqDiff, Int.reduceEq, Int.reduceLT, Int.reduceLE, Int.reduceAdd, Int.reduceSub, Int.reduceMul, Int.reduceNeg, hs3.kd, hs3.ln, hs3.fs, kMs, lMs, ml, m_size0 (show -1000 ≤ leanN (plN n w) n ∧ leanN (plN n w) n ≤ 1000 by omega), mt, mk2]
            refine fin _ ((n : Int), (w : Int), absI (leanN (plN n w) n), twN (plN n w) n, tkS cls mood th n w) (((I5.sF (by decide)).sF (by decide)).sF (by decide)) hp ?_ ?_
            · unfold bstep
              rw [if_pos ⟨by omega, by omega, k3⟩]
            · exact ⟨rfl, fun _ => ⟨rfl, rfl, rfl, rfl⟩⟩
  · intro ⟨s2, b⟩ ⟨I2, hb, B2⟩
    dsimp only at I2 hb B2 ⊢
    have hs2 := I2.1
    rw [e_X12_best_37]
    simp (disch := ((try simp only [kd_sF, kd_sA, gA_sF, gA_sA, gF_sF, gF_sA, List.length_set, reduceIte, and_true, and_false, true_and, false_and, Nat.reduceEqDiff, Int.reduceEq, hs2.kd, hs2.ln, hs2.fs, kMs, lMs]); first | done | omega)) only [rF_ok, wF_ok, oK_ok, lA_ok, rA_ok, wA_ok, cI_ok, cV_ok, cL_ok, cR_ok, kd_sF, kd_sA, gA_sF, gF_sA, gF_sF, gA_sA, bk_0, bk_1, List.length_set, reduceIte, and_true, and_false, true_and, false_and, ne_eq, not_true_eq_false, not_false_eq_true, Int.toNat_natCast, Int.reduceToNat, Nat.reduceEqDiff, Int.reduceEq, Int.reduceLT, Int.reduceLE, Int.reduceAdd, Int.reduceSub, Int.reduceMul, Int.reduceNeg, hs2.kd, hs2.ln, hs2.fs, kMs, lMs, m_wordsOf (show 1 ≤ n ∧ n ≤ 12 by omega), Int.lt_irrefl, wi_sm]
    exact hT s2 b I2 hb B2
theorem bestTo_in {need cloth : Int} : ∀ j, j ≤ 10 → (bestTo cls mood th need cloth j).2.1 = -1 ∨ ∃ n u : Nat, 3 ≤ n ∧ n < 3 + j ∧ u < WN n ∧ (bestTo cls mood th need cloth j).1 = n ∧ (bestTo cls mood th need cloth j).2.1 = u
  | 0, _ => Or.inl rfl
  | j + 1, hj => by
    have ih := bestTo_in (need := need) (cloth := cloth) j (by omega)
    rw [bestTo]
    have key : ∀ (L : List Nat), (∀ u ∈ L, u < WN (3 + j)) → ∀ a : BA, (a.2.1 = -1 ∨ ∃ n u : Nat, 3 ≤ n ∧ n < 3 + (j + 1) ∧ u < WN n ∧ a.1 = n ∧ a.2.1 = u) → ((L.foldl (bstep cls mood th need cloth (3 + j)) a).2.1 = -1 ∨ ∃ n u : Nat, 3 ≤ n ∧ n < 3 + (j + 1) ∧ u < WN n ∧ (L.foldl (bstep cls mood th need cloth (3 + j)) a).1 = n ∧ (L.foldl (bstep cls mood th need cloth (3 + j)) a).2.1 = u) := by
      intro L
      induction L with
      | nil => exact fun _ a h => h
      | cons u L ihL =>
        intro hL a h
        rw [List.foldl_cons]
        refine ihL (fun v hv => hL v (List.mem_cons_of_mem _ hv)) _ ?_
        unfold bstep
        split
        · exact Or.inr ⟨3 + j, u, by omega, by omega, hL u List.mem_cons_self, rfl, rfl⟩
        · exact h
    refine key _ (fun u hu => prU_mem hu) _ ?_
    rcases ih with h | ⟨n, u, h1, h2, h3⟩
    · exact Or.inl h
    · exact Or.inr ⟨n, u, h1, by omega, h3⟩
theorem m_best {cloth what : Int} (hs : ShM s) (hB : BK (gA s 100)) (hc : 1 ≤ cloth ∧ cloth ≤ 200) (hw0 : 0 ≤ what) (hw1 : what < 2147483648) : Gl (GI fun x s' => x = bestA what (bestTo (clsK (gA s 100)) ((gA s 100).getD 167 0) ((gA s 100).getD 169 0) ((gA s 100).getD 168 0) cloth 10) ∧ Fa scr s s') (X12_best (d + 48) s 98 cloth what) := by
  rw [e_X12_best]
  simp (disch := ((try simp only [kd_sF, kd_sA, gA_sF, gA_sA, gF_sF, gF_sA, List.length_set, reduceIte, and_true, and_false, true_and, false_and, Nat.reduceEqDiff, Int.reduceEq, hs.kd, hs.ln, hs.fs, kMs, lMs]); first | done | omega)) only [rF_ok, wF_ok, oK_ok, lA_ok, rA_ok, wA_ok, cI_ok, cV_ok, cL_ok, cR_ok, kd_sF, kd_sA, gA_sF, gF_sA, gF_sF, gA_sA, bk_0, bk_1, List.length_set, reduceIte, and_true, and_false, true_and, false_and, ne_eq, not_true_eq_false, not_false_eq_true, Int.toNat_natCast, Int.reduceToNat, Nat.reduceEqDiff, Int.reduceEq, Int.reduceLT, Int.reduceLE, Int.reduceAdd, Int.reduceSub, Int.reduceMul, Int.reduceNeg, hs.kd, hs.ln, hs.fs, kMs, lMs, m_lies1 hc.1 hc.2, if_neg (show ¬ (what < 0) by omega)]
  have hth : 0 ≤ (gA s 100).getD 169 0 ∧ (gA s 100).getD 169 0 ≤ 9 := by have := hB.2.2.2; omega
  refine m_ask hs hB fun s1 h1 I => ?_
  generalize clsK (gA s 100) = cls at *
  generalize (gA s 100).getD 167 0 = mood at *
  generalize (gA s 100).getD 169 0 = th at *
  have hs1 := I.1
  simp (disch := ((try simp only [kd_sF, kd_sA, gA_sF, gA_sA, gF_sF, gF_sA, List.length_set, reduceIte, and_true, and_false, true_and, false_and, Nat.reduceEqDiff, Int.reduceEq, hs1.kd, hs1.ln, hs1.fs, kMs, lMs]); first | done | omega)) only [rF_ok, wF_ok, oK_ok, lA_ok, rA_ok, wA_ok, cI_ok, cV_ok, cL_ok, cR_ok, kd_sF, kd_sA, gA_sF, gF_sA, gF_sF, gA_sA, bk_0, bk_1, List.length_set, reduceIte, and_true, and_false, true_and, false_and, ne_eq, not_true_eq_false, not_false_eq_true, Int.toNat_natCast, Int.reduceToNat, Nat.reduceEqDiff, Int.reduceEq, Int.reduceLT, Int.reduceLE, Int.reduceAdd, Int.reduceSub, Int.reduceMul, Int.reduceNeg, hs1.kd, hs1.ln, hs1.fs, kMs, lMs]
  refine lpG (fun j (q : St × BA) => X12_best_28 (d + 48) q.1 98 cloth what (3 + j : Nat)) (fun j q => QI cls mood th s q.1 ∧ q.2 = bestTo cls mood th ((gA s 100).getD 168 0) cloth j ∧ BF q.1 q.2) 10 ?_ ?_ 0 (sF s1 98 41 (-1), (0, -1, 0, 0, 0)) (by omega) ⟨I.sF (by decide), rfl, ⟨rfl, fun q => absurd rfl q⟩⟩
  · intro T j ⟨s2, b⟩ hj ⟨I2, hb, B2⟩ hT
    dsimp only at I2 hb B2 ⊢
    rw [e_X12_best_28, if_neg (by omega)]
    refine m_best37 hth (show 3 ≤ 3 + j ∧ 3 + j ≤ 12 by omega) I2 B2 fun s' a' I' ha' B' => ?_
    exact hT (s', a') ⟨I', by rw [bestTo, ← hb]; exact ha', B'⟩
  · intro ⟨s2, b⟩ ⟨I2, hb, B2⟩
    dsimp only at I2 hb B2 ⊢
    have hs2 := I2.1
    have hin := bestTo_in (cls := cls) (mood := mood) (th := th) (need := (gA s 100).getD 168 0) (cloth := cloth) 10 (by omega)
    rw [← hb] at hin ⊢
    rw [e_X12_best_28, if_pos (by decide)]
    by_cases h0 : b.2.1 = -1
    · simp (disch := ((try simp only [kd_sF, kd_sA, gA_sF, gA_sA, gF_sF, gF_sA, List.length_set, reduceIte, and_true, and_false, true_and, false_and, Nat.reduceEqDiff, Int.reduceEq, hs2.kd, hs2.ln, hs2.fs, kMs, lMs]); first | done | omega)) only [rF_ok, wF_ok, oK_ok, lA_ok, rA_ok, wA_ok, cI_ok, cV_ok, cL_ok, cR_ok, kd_sF, kd_sA, gA_sF, gF_sA, gF_sF, gA_sA, bk_0, bk_1, List.length_set, reduceIte, and_true, and_false, true_and, false_and, ne_eq, not_true_eq_false, not_false_eq_true, Int.toNat_natCast, Int.reduceToNat, Nat.reduceEqDiff, Int.reduceEq, Int.reduceLT, Int.reduceLE, Int.reduceAdd, Int.reduceSub, Int.reduceMul, Int.reduceNeg, hs2.kd, hs2.ln, hs2.fs, kMs, lMs, B2.1, h0]
      exact reI ⟨by unfold bestA; rw [if_pos h0], I2.2.1⟩
    · obtain ⟨c1, c2, c3, c4⟩ := B2.2 h0
      obtain ⟨n, u, u1, u2, u3, u4, u5⟩ := hin.resolve_left h0
      simp (disch := ((try simp only [kd_sF, kd_sA, gA_sF, gA_sA, gF_sF, gF_sA, List.length_set, reduceIte, and_true, and_false, true_and, false_and, Nat.reduceEqDiff, Int.reduceEq, hs2.kd, hs2.ln, hs2.fs, kMs, lMs]); first | done | omega)) only [rF_ok, wF_ok, oK_ok, lA_ok, rA_ok, wA_ok, cI_ok, cV_ok, cL_ok, cR_ok, kd_sF, kd_sA, gA_sF, gF_sA, gF_sF, gA_sA, bk_0, bk_1, List.length_set, reduceIte, and_true, and_false, true_and, false_and, ne_eq, not_true_eq_false, not_false_eq_true, Int.toNat_natCast, Int.reduceToNat, Nat.reduceEqDiff, Int.reduceEq, Int.reduceLT, Int.reduceLE, Int.reduceAdd, Int.reduceSub, Int.reduceMul, Int.reduceNeg, hs2.kd, hs2.ln, hs2.fs, kMs, lMs, B2.1, c1, c2, c3, c4, if_neg h0]
      by_cases k0 : what = 0
      · rw [if_pos k0]; exact reI ⟨by unfold bestA; rw [if_neg h0, if_pos k0], I2.2.1⟩
      rw [if_neg k0]
      by_cases k1 : what = 1
      · rw [if_pos k1]; exact reI ⟨by unfold bestA; rw [if_neg h0, if_neg k0, if_pos k1], I2.2.1⟩
      rw [if_neg k1]
      by_cases k2 : what = 2
      · rw [if_pos k2]; exact reI ⟨by unfold bestA; rw [if_neg h0, if_neg k0, if_neg k1, if_pos k2], I2.2.1⟩
      rw [if_neg k2]
      by_cases k3 : what = 3
      · rw [if_pos k3]; exact reI ⟨by unfold bestA; rw [if_neg h0, if_neg k0, if_neg k1, if_neg k2, if_pos k3], I2.2.1⟩
      rw [if_neg k3, u4, u5]
      refine biV (m_opens hs2 (by omega) u3) fun s3 h3 ⟨q1, q2, q3, q4, q5⟩ => ?_
      have hs3 := hs2.ev h3 rfl
      have e40 : gF s3 98 40 = n := by rw [hs2.gf h3 rfl rfl, c1, u4]
      have ew : wi (what - 4) = what - 4 := wi_sm (by omega) (by omega)
      simp (disch := ((try simp only [kd_sF, kd_sA, gA_sF, gA_sA, gF_sF, gF_sA, List.length_set, reduceIte, and_true, and_false, true_and, false_and, Nat.reduceEqDiff, Int.reduceEq, hs3.kd, hs3.ln, hs3.fs, kMs, lMs]); first | done | omega)) only [rF_ok, wF_ok, oK_ok, lA_ok, rA_ok, wA_ok, cI_ok, cV_ok, cL_ok, cR_ok, kd_sF, kd_sA, gA_sF, gF_sA, gF_sF, gA_sA, bk_0, bk_1, List.length_set, reduceIte, and_true, and_false, true_and, false_and, ne_eq, not_true_eq_false, not_false_eq_true, Int.toNat_natCast, Int.reduceToNat, Nat.reduceEqDiff, Int.reduceEq, Int.reduceLT, Int.reduceLE, Int.reduceAdd, Int.reduceSub, Int.reduceMul, Int.reduceNeg, hs3.kd, hs3.ln, hs3.fs, kMs, lMs, e40, ew]
      by_cases k4 : what - 4 < n
      · rw [if_pos k4]
        have e1 := q5 (what - 4).toNat (by omega)
        unfold pf at e1
        simp (disch := ((try simp only [kd_sF, kd_sA, gA_sF, gA_sA, gF_sF, gF_sA, List.length_set, reduceIte, and_true, and_false, true_and, false_and, Nat.reduceEqDiff, Int.reduceEq, hs3.kd, hs3.ln, hs3.fs, kMs, lMs]); first | done | omega)) only [rF_ok, wF_ok, oK_ok, lA_ok, rA_ok, wA_ok, cI_ok, cV_ok, cL_ok, cR_ok, kd_sF, kd_sA, gA_sF, gF_sA, gF_sF, gA_sA, bk_0, bk_1, List.length_set, reduceIte, and_true, and_false, true_and, false_and, ne_eq, not_true_eq_false, not_false_eq_true, Int.toNat_natCast, Int.reduceToNat, Nat.reduceEqDiff, Int.reduceEq, Int.reduceLT, Int.reduceLE, Int.reduceAdd, Int.reduceSub, Int.reduceMul, Int.reduceNeg, hs3.kd, hs3.ln, hs3.fs, kMs, lMs, e1]
        refine reI ⟨?_, I2.2.1.tr (q1.mono (by decide))⟩
        unfold bestA
        rw [if_neg h0, if_neg k0, if_neg k1, if_neg k2, if_neg k3, u4, u5, if_pos k4]
        rfl
      · rw [if_neg k4]
        refine reI ⟨?_, I2.2.1.tr (q1.mono (by decide))⟩
        unfold bestA
        rw [if_neg h0, if_neg k0, if_neg k1, if_neg k2, if_neg k3, u4, if_neg k4]
end MB
