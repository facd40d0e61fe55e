/-! ===== the reference: what fits, where to look ===== -/
def fitB (sm sp : Nat → Int) (c : Nat) (mi : Int) (n : Nat) (f : Nat → Int) : Bool := allN (fun i => decide (sm i < n → (if mi = 1 then mir (f (sm i).toNat) else f (sm i).toNat) = sp i)) c
theorem fitB_congr {sm sp : Nat → Int} {c : Nat} {mi : Int} {n : Nat} {f g : Nat → Int} (hp : ∀ i, i < c → 0 ≤ sm i) (h : ∀ k, k < n → f k = g k) : fitB sm sp c mi n f = fitB sm sp c mi n g := by
  refine allN_congr fun i hi => ?_
  have := hp i hi
  by_cases e : sm i < n
  · rw [h (sm i).toNat (by omega)]
  · rw [decide_eq_true (fun q => absurd q e), decide_eq_true (fun q => absurd q e)]
def sMk (K : List Int) (i : Nat) : Int := K.getD (143 + 2 * i) 0
def sPk (K : List Int) (i : Nat) : Int := K.getD (144 + 2 * i) 0
/-- the sights in the kept row -/
def SgK (K : List Int) (c : Nat) : Prop := K.getD 171 0 = c ∧ c ≤ 12 ∧ ∀ i, i < c → (0 ≤ sMk K i ∧ sMk K i < 12) ∧ pl3 (sPk K i)
section MQ3
variable {d : Nat} {s : St} {n c : Nat} {th mood mi : Int} {cls : List Cl}
theorem m_mirrored {x : Int} (h : pl3 x) : X12_mirrored d s x = some ([(0, mir x)], s) := by
  rw [e_X12_mirrored]
  rcases h with rfl | rfl | rfl <;> rfl
theorem m_fit17 (hs : ShM s) (hS : SgK (gA s 100) c) (hn : n ≤ 12) (hp : ∀ k, k < n → pl3 (pf s k)) : X12_isFitting_17 (d + 1) s 98 n mi 1 0 = some ([(0, if fitB (sMk (gA s 100)) (sPk (gA s 100)) c mi n (pf s) then 1 else 0)], s) := by
  obtain ⟨hc, hc2, hr⟩ := hS
  generalize hX : (if fitB (sMk (gA s 100)) (sPk (gA s 100)) c mi n (pf s) then (1 : Int) else 0) = X
  have hXb : X = 0 ∨ X = 1 := by rw [← hX]; split <;> simp
  refine lpF (T := fun r => r = some ([(0, X)], s)) (fun i (a : Bool) => X12_isFitting_17 (d + 1) s 98 n mi (if a then 1 else 0) i) (fun i a => a = fitB (sMk (gA s 100)) (sPk (gA s 100)) i mi n (pf s)) c ?_ ?_ 0 true (by omega) rfl
  · intro i a hi ha hT
    have hri := hr i hi
    rw [e_X12_isFitting_17]
    have e1 : ((143 : Int) + 2 * i).toNat = 143 + 2 * i := by omega
    have e2 : ((143 : Int) + 2 * i + 1).toNat = 144 + 2 * i := by omega
    cases a with
    | false =>
      have : X = 0 := by
        rw [← hX]
        cases hq : fitB (sMk (gA s 100)) (sPk (gA s 100)) c mi n (pf s) with
        | false => rfl
        | true =>
          have h2 : fitB (sMk (gA s 100)) (sPk (gA s 100)) i mi n (pf s) = true := allN_iff.mpr fun j hj => allN_iff.mp hq j (by omega)
          rw [h2] at ha
          cases ha
      simp (disch := ((try simp only [kd_sF, kd_sA, gA_sF, gA_sA, gF_sF, gF_sA, List.length_set, reduceIte, and_true, and_false, true_and, false_and, Nat.reduceEqDiff, Int.reduceEq, hs.kd, hs.ln, hs.fs, kMs, lMs]); first | done | omega)) only [rF_ok, wF_ok, oK_ok, lA_ok, rA_ok, wA_ok, cI_ok, cV_ok, cL_ok, cR_ok, kd_sF, kd_sA, gA_sF, gF_sA, gF_sF, gA_sA, bk_0, bk_1, List.length_set, reduceIte, and_true, and_false, true_and, false_and, ne_eq, not_true_eq_false, not_false_eq_true, Int.toNat_natCast, Int.reduceToNat, Nat.reduceEqDiff, Int.reduceEq, Int.reduceLT, Int.reduceLE, Int.reduceAdd, Int.reduceSub, Int.reduceMul, Int.reduceNeg, hs.kd, hs.ln, hs.fs, kMs, lMs, hc, Int.ofNat_lt, hi, Bool.false_eq_true, this]
      exact rfl
    | true =>
      have a1 : (gA s 100).getD (143 + 2 * i) 0 = sMk (gA s 100) i := rfl
      have a2 : (gA s 100).getD (144 + 2 * i) 0 = sPk (gA s 100) i := rfl
      have hst : ∀ b : Bool, b = decide (sMk (gA s 100) i < n → (if mi = 1 then mir (pf s (sMk (gA s 100) i).toNat) else pf s (sMk (gA s 100) i).toNat) = sPk (gA s 100) i) → b = fitB (sMk (gA s 100)) (sPk (gA s 100)) (i + 1) mi n (pf s) := by
        intro b hb
        unfold fitB at ha ⊢
        rw [allN, ← ha, Bool.true_and]
        exact hb
      simp (disch := ((try simp only [kd_sF, kd_sA, gA_sF, gA_sA, gF_sF, gF_sA, List.length_set, reduceIte, and_true, and_false, true_and, false_and, Nat.reduceEqDiff, Int.reduceEq, hs.kd, hs.ln, hs.fs, kMs, lMs]); first | done | omega)) only [rF_ok, wF_ok, oK_ok, lA_ok, rA_ok, wA_ok, cI_ok, cV_ok, cL_ok, cR_ok, kd_sF, kd_sA, gA_sF, gF_sA, gF_sF, gA_sA, bk_0, bk_1, List.length_set, reduceIte, and_true, and_false, true_and, false_and, ne_eq, not_true_eq_false, not_false_eq_true, Int.toNat_natCast, Int.reduceToNat, Nat.reduceEqDiff, Int.reduceEq, Int.reduceLT, Int.reduceLE, Int.reduceAdd, Int.reduceSub, Int.reduceMul, Int.reduceNeg, hs.kd, hs.ln, hs.fs, kMs, lMs, hc, Int.ofNat_lt, hi, wi_sm, e1, a1]
      by_cases k1 : sMk (gA s 100) i < n
      · rw [if_pos k1]
        have k2 : (gA s 112).getD (sMk (gA s 100) i).toNat 0 = pf s (sMk (gA s 100) i).toNat := rfl
        have k3 := hp (sMk (gA s 100) i).toNat (by omega)
        have fin : ∀ x : Int, x = (if mi = 1 then mir (pf s (sMk (gA s 100) i).toNat) else pf s (sMk (gA s 100) i).toNat) → Gl (fun r => r = some ([(0, X)], s)) (X12_isFitting_81 (d + 1) s 98 n mi i x) := by
          intro x hx
          rw [e_X12_isFitting_81]
          simp (disch := ((try simp only [kd_sF, kd_sA, gA_sF, gA_sA, gF_sF, gF_sA, List.length_set, reduceIte, and_true, and_false, true_and, false_and, Nat.reduceEqDiff, Int.reduceEq, hs.kd, hs.ln, hs.fs, kMs, lMs]); first | done | omega)) only [rF_ok, wF_ok, oK_ok, lA_ok, rA_ok, wA_ok, cI_ok, cV_ok, cL_ok, cR_ok, kd_sF, kd_sA, gA_sF, gF_sA, gF_sF, gA_sA, bk_0, bk_1, List.length_set, reduceIte, and_true, and_false, true_and, false_and, ne_eq, not_true_eq_false, not_false_eq_true, Int.toNat_natCast, Int.reduceToNat, Nat.reduceEqDiff, Int.reduceEq, Int.reduceLT, Int.reduceLE, Int.reduceAdd, Int.reduceSub, Int.reduceMul, Int.reduceNeg, hs.kd, hs.ln, hs.fs, kMs, lMs, wi_sm, e2, a2]
          by_cases k4 : x = sPk (gA s 100) i
          · rw [if_pos k4]
            exact hT true (hst true (by rw [← hx, decide_eq_true (fun _ => k4)]))
          · rw [if_neg k4]
            exact hT false (hst false (by rw [← hx, decide_eq_false (fun q => k4 (q k1))]))
        by_cases k5 : mi = 1
        · rw [if_pos k5]
          simp (disch := ((try simp only [kd_sF, kd_sA, gA_sF, gA_sA, gF_sF, gF_sA, List.length_set, reduceIte, and_true, and_false, true_and, false_and, Nat.reduceEqDiff, Int.reduceEq, hs.kd, hs.ln, hs.fs, kMs, lMs]); first | done | omega)) only [rF_ok, wF_ok, oK_ok, lA_ok, rA_ok, wA_ok, cI_ok, cV_ok, cL_ok, cR_ok, kd_sF, kd_sA, gA_sF, gF_sA, gF_sF, gA_sA, bk_0, bk_1, List.length_set, reduceIte, and_true, and_false, true_and, false_and, ne_eq, not_true_eq_false, not_false_eq_true, Int.toNat_natCast, Int.reduceToNat, Nat.reduceEqDiff, Int.reduceEq, Int.reduceLT, Int.reduceLE, Int.reduceAdd, Int.reduceSub, Int.reduceMul, Int.reduceNeg, hs.kd, hs.ln, hs.fs, kMs, lMs, k2, m_mirrored k3]
          exact fin _ (by rw [if_pos k5])
        · rw [if_neg k5]
          simp (disch := ((try simp only [kd_sF, kd_sA, gA_sF, gA_sA, gF_sF, gF_sA, List.length_set, reduceIte, and_true, and_false, true_and, false_and, Nat.reduceEqDiff, Int.reduceEq, hs.kd, hs.ln, hs.fs, kMs, lMs]); first | done | omega)) only [rF_ok, wF_ok, oK_ok, lA_ok, rA_ok, wA_ok, cI_ok, cV_ok, cL_ok, cR_ok, kd_sF, kd_sA, gA_sF, gF_sA, gF_sF, gA_sA, bk_0, bk_1, List.length_set, reduceIte, and_true, and_false, true_and, false_and, ne_eq, not_true_eq_false, not_false_eq_true, Int.toNat_natCast, Int.reduceToNat, Nat.reduceEqDiff, Int.reduceEq, Int.reduceLT, Int.reduceLE, Int.reduceAdd, Int.reduceSub, Int.reduceMul, Int.reduceNeg, hs.kd, hs.ln, hs.fs, kMs, lMs, k2]
          exact fin _ (by rw [if_neg k5])
      · rw [if_neg k1]
        exact hT true (hst true (by rw [decide_eq_true (fun q => absurd q k1)]))
  · intro a ha
    rw [e_X12_isFitting_17]
    simp (disch := ((try simp only [kd_sF, kd_sA, gA_sF, gA_sA, gF_sF, gF_sA, List.length_set, reduceIte, and_true, and_false, true_and, false_and, Nat.reduceEqDiff, Int.reduceEq, hs.kd, hs.ln, hs.fs, kMs, lMs]); first | done | omega)) only [rF_ok, wF_ok, oK_ok, lA_ok, rA_ok, wA_ok, cI_ok, cV_ok, cL_ok, cR_ok, kd_sF, kd_sA, gA_sF, gF_sA, gF_sF, gA_sA, bk_0, bk_1, List.length_set, reduceIte, and_true, and_false, true_and, false_and, ne_eq, not_true_eq_false, not_false_eq_true, Int.toNat_natCast, Int.reduceToNat, Nat.reduceEqDiff, Int.reduceEq, Int.reduceLT, Int.reduceLE, Int.reduceAdd, Int.reduceSub, Int.reduceMul, Int.reduceNeg, hs.kd, hs.ln, hs.fs, kMs, lMs, hc, Int.lt_irrefl]
    have : (if a = true then (1 : Int) else 0) = X := by rw [← hX, ha]
    rw [this, bk_b hXb]
    exact rfl
theorem m_isFitting {s0 : St} {w : Nat} {T : Res → Prop} {Kk : Int → St → Res} (I : QI cls mood th s0 s) (hS : SgK (gA s0 100) c) (hn : 1 ≤ n ∧ n ≤ 12) (hw : w < WN n) (h : ∀ s1, X12_isFitting (d + 4) s 98 n w mi = some ([(0, if prB cls mood th (((n : Int) - 1) % 2) (plN n w) n && fitB (sMk (gA s0 100)) (sPk (gA s0 100)) c mi n (plN n w) then 1 else 0)], s1) → QI cls mood th s0 s1 → Fa [112] s s1 → Opn s1 n w → Gl T (Kk (if prB cls mood th (((n : Int) - 1) % 2) (plN n w) n && fitB (sMk (gA s0 100)) (sPk (gA s0 100)) c mi n (plN n w) then 1 else 0) s1)) : Gl T (cI (X12_isFitting (d + 4) s 98 n w mi) Kk) := by
  have hs := I.1
  have key : Gl (GI fun x s1 => x = (if prB cls mood th (((n : Int) - 1) % 2) (plN n w) n && fitB (sMk (gA s0 100)) (sPk (gA s0 100)) c mi n (plN n w) then 1 else 0) ∧ QI cls mood th s0 s1 ∧ Fa [112] s s1 ∧ Opn s1 n w) (X12_isFitting (d + 4) s 98 n w mi) := by
    rw [e_X12_isFitting]
    simp (disch := ((try simp only [kd_sF, kd_sA, gA_sF, gA_sA, gF_sF, gF_sA, List.length_set, reduceIte, and_true, and_false, true_and, false_and, Nat.reduceEqDiff, Int.reduceEq, hs.kd, hs.ln, hs.fs, kMs, lMs]); first | done | omega)) only [rF_ok, wF_ok, oK_ok, lA_ok, rA_ok, wA_ok, cI_ok, cV_ok, cL_ok, cR_ok, kd_sF, kd_sA, gA_sF, gF_sA, gF_sF, gA_sA, bk_0, bk_1, List.length_set, reduceIte, and_true, and_false, true_and, false_and, ne_eq, not_true_eq_false, not_false_eq_true, Int.toNat_natCast, Int.reduceToNat, Nat.reduceEqDiff, Int.reduceEq, Int.reduceLT, Int.reduceLE, Int.reduceAdd, Int.reduceSub, Int.reduceMul, Int.reduceNeg, hs.kd, hs.ln, hs.fs, kMs, lMs]
    refine m_num I hn hw fun s1 h1 I1 F1 O1 => ?_
    have hs1 := I1.1
    have e100 : gA s1 100 = gA s0 100 := I1.2.1 100 (by decide)
    cases hp : prB cls mood th (((n : Int) - 1) % 2) (plN n w) n with
    | false =>
      simp only [Bool.false_eq_true, reduceIte, Bool.false_and]
      exact reI ⟨rfl, I1, F1, O1⟩
    | true =>
      simp only [reduceIte, Int.reduceEq, Bool.true_and]
      have hpl : ∀ k, k < n → pl3 (pf s1 k) := fun k hk => by rw [O1.2.2 k hk]; exact plN_pl hw k
      rw [m_fit17 hs1 (by rw [e100]; exact hS) hn.2 hpl, e100, fitB_congr (fun i hi => (hS.2.2 i hi).1.1) O1.2.2]
      exact reI ⟨rfl, I1, F1, O1⟩
  refine biI key fun x s1 h1 ⟨q1, q2, q3, q4⟩ => ?_
  rw [q1] at h1 ⊢
  exact h s1 h1 q2 q3 q4
def ftU (f : Nat → Bool) (cls : List Cl) (mood th : Int) (n w : Nat) : List Nat := (prU cls mood th n w).filter f
theorem ftU_1 {f : Nat → Bool} {w : Nat} (h : (prB cls mood th (((n : Int) - 1) % 2) (plN n w) n && f w) = true) : ftU f cls mood th n (w + 1) = ftU f cls mood th n w ++ [w] := by
  rw [Bool.and_eq_true] at h
  unfold ftU
  rw [prU_1 h.1, List.filter_append]
  simp [h.2]
theorem ftU_0 {f : Nat → Bool} {w : Nat} (h : (prB cls mood th (((n : Int) - 1) % 2) (plN n w) n && f w) = false) : ftU f cls mood th n (w + 1) = ftU f cls mood th n w := by
  unfold ftU
  cases hp : prB cls mood th (((n : Int) - 1) % 2) (plN n w) n with
  | false => rw [prU_0 hp]
  | true =>
    rw [hp, Bool.true_and] at h
    rw [prU_1 hp, List.filter_append]
    simp [h]
theorem ftU_len {f : Nat → Bool} {w : Nat} : (ftU f cls mood th n w).length ≤ w := by
  unfold ftU
  exact Nat.le_trans (List.length_filter_le _ _) prU_len
theorem ftU_cut {f : Nat → Bool} {w : Nat} (hw : w ≤ WN n) : ∃ R, ftU f cls mood th n (WN n) = ftU f cls mood th n w ++ R := by
  obtain ⟨R, hR⟩ := prW_cut (cls := cls) (mood := mood) (th := th) hw
  unfold prW at hR
  refine ⟨R.filter f, ?_⟩
  unfold ftU
  rw [hR, List.filter_append]
/-- the words that fit -/
def ftL (K : List Int) (mi : Int) (n : Nat) : List Nat := (prW (clsK K) (K.getD 167 0) (K.getD 169 0) n).filter fun u => fitB (sMk K) (sPk K) (K.getD 171 0).toNat mi n (plN n u)
def fitA (n : Nat) (i k : Int) (L : List Nat) : Int := if i = -1 then (L.length : Int) else wordL n k.toNat L[i.toNat]?
theorem m_fits {i k : Int} (hs : ShM s) (hB : BK (gA s 100)) (hS : SgK (gA s 100) c) (hn : 3 ≤ n ∧ n ≤ 12) (hmi : 0 ≤ mi ∧ mi ≤ 1) (hi : -1 ≤ i) (hk : i = -1 ∨ (0 ≤ k ∧ k < n)) : Gl (GI fun x s' => x = fitA n i k (ftL (gA s 100) mi n) ∧ Fa scr s s') (X12_fits (d + 48) s 98 n mi i k) := by
  have e0 : ((gA s 100).getD 171 0).toNat = c := by rw [hS.1]; omega
  have main : Gl (GI fun x s' => x = fitA n i k (ftL (gA s 100) mi n) ∧ Fa scr s s') (cV (X12_asksAll (d + 47) s 98) fun s5 => X12_fits_50 (d + 48) s5 98 n mi i k 0 0) := by
    refine m_ask hs hB fun s1 h1 I => ?_
    unfold ftL
    rw [e0]
    show Gl (GI fun x s' => x = fitA n i k (ftU (fun u => fitB (sMk (gA s 100)) (sPk (gA s 100)) c mi n (plN n u)) (clsK (gA s 100)) ((gA s 100).getD 167 0) ((gA s 100).getD 169 0) n (WN n)) ∧ Fa scr s s') _
    generalize clsK (gA s 100) = cls at *
    generalize (gA s 100).getD 167 0 = mood at *
    generalize (gA s 100).getD 169 0 = th at *
    generalize hf : (fun u => fitB (sMk (gA s 100)) (sPk (gA s 100)) c mi n (plN n u)) = f
    have hfu : ∀ u, fitB (sMk (gA s 100)) (sPk (gA s 100)) c mi n (plN n u) = f u := fun u => by rw [← hf]
    refine lpF (fun w (a : St × Int) => X12_fits_50 (d + 48) a.1 98 n mi i k a.2 w) (fun w a => QI cls mood th s a.1 ∧ a.2 = ((ftU f cls mood th n w).length : Int) ∧ (i = -1 ∨ a.2 ≤ i)) (WN n) ?_ ?_ 0 (s1, 0) (by omega) ⟨I, rfl, by show i = -1 ∨ (0 : Int) ≤ i; omega⟩
    · intro w ⟨s2, a⟩ hw ⟨I2, ha, hai⟩ hT
      dsimp only at I2 ha hai ⊢
      have hs2 := I2.1
      have hW := WN_bd hn.2
      have hl := ftU_len (f := f) (cls := cls) (mood := mood) (th := th) (n := n) (w := w)
      rw [e_X12_fits_50]
      simp (disch := ((try simp only [kd_sF, kd_sA, gA_sF, gA_sA, gF_sF, gF_sA, List.length_set, reduceIte, and_true, and_false, true_and, false_and, Nat.reduceEqDiff, Int.reduceEq, hs2.kd, hs2.ln, hs2.fs, kMs, lMs]); first | done | omega)) only [rF_ok, wF_ok, oK_ok, lA_ok, rA_ok, wA_ok, cI_ok, cV_ok, cL_ok, cR_ok, kd_sF, kd_sA, gA_sF, gF_sA, gF_sF, gA_sA, bk_0, bk_1, List.length_set, reduceIte, and_true, and_false, true_and, false_and, ne_eq, not_true_eq_false, not_false_eq_true, Int.toNat_natCast, Int.reduceToNat, Nat.reduceEqDiff, Int.reduceEq, Int.reduceLT, Int.reduceLE, Int.reduceAdd, Int.reduceSub, Int.reduceMul, Int.reduceNeg, hs2.kd, hs2.ln, hs2.fs, kMs, lMs, m_wordsOf (show 1 ≤ n ∧ n ≤ 12 by omega), Int.ofNat_lt, hw]
      refine m_isFitting I2 hS (by omega) hw fun s3 h3 I3 F3 O3 => ?_
      have hs3 := I3.1
      rw [hfu]
      cases hp : (prB cls mood th (((n : Int) - 1) % 2) (plN n w) n && f w) with
      | false =>
        simp only [Bool.false_eq_true, reduceIte]
        rw [wi_sc (by omega)]
        exact hT (s3, a) ⟨I3, by rw [ftU_0 hp]; exact ha, hai⟩
      | true =>
        simp only [reduceIte, Int.reduceEq]
        by_cases e : a = i
        · rw [if_pos e]
          have hk2 : 0 ≤ k ∧ k < n := by omega
          simp (disch := ((try simp only [kd_sF, kd_sA, gA_sF, gA_sA, gF_sF, gF_sA, List.length_set, reduceIte, and_true, and_false, true_and, false_and, Nat.reduceEqDiff, Int.reduceEq, hs3.kd, hs3.ln, hs3.fs, kMs, lMs]); first | done | omega)) only [rF_ok, wF_ok, oK_ok, lA_ok, rA_ok, wA_ok, cI_ok, cV_ok, cL_ok, cR_ok, kd_sF, kd_sA, gA_sF, gF_sA, gF_sF, gA_sA, bk_0, bk_1, List.length_set, reduceIte, and_true, and_false, true_and, false_and, ne_eq, not_true_eq_false, not_false_eq_true, Int.toNat_natCast, Int.reduceToNat, Nat.reduceEqDiff, Int.reduceEq, Int.reduceLT, Int.reduceLE, Int.reduceAdd, Int.reduceSub, Int.reduceMul, Int.reduceNeg, hs3.kd, hs3.ln, hs3.fs, kMs, lMs]
          refine reI ⟨?_, I3.2.1⟩
          obtain ⟨R, hR⟩ := ftU_cut (f := f) (cls := cls) (mood := mood) (th := th) (n := n) (w := w + 1) (by omega)
          rw [hR, ftU_1 hp]
          have e2 : (ftU f cls mood th n w ++ [w] ++ R)[i.toNat]? = some w := by
            rw [List.append_assoc, List.getElem?_append_right (by omega), show i.toNat - (ftU f cls mood th n w).length = 0 by omega]
            rfl
          unfold fitA
          rw [if_neg (by omega), e2]
          exact O3.2.2 k.toNat (by omega)
        · rw [if_neg e, wi_sm (by omega) (by omega), wi_sc (by omega)]
          exact hT (s3, a + 1) ⟨I3, by rw [ftU_1 hp, List.length_append]; show a + 1 = _; simp; omega, by show i = -1 ∨ a + 1 ≤ i; omega⟩
    · intro ⟨s2, a⟩ ⟨I2, ha, hai⟩
      dsimp only at I2 ha hai ⊢
      have hs2 := I2.1
      rw [e_X12_fits_50]
      simp (disch := ((try simp only [kd_sF, kd_sA, gA_sF, gA_sA, gF_sF, gF_sA, List.length_set, reduceIte, and_true, and_false, true_and, false_and, Nat.reduceEqDiff, Int.reduceEq, hs2.kd, hs2.ln, hs2.fs, kMs, lMs]); first | done | omega)) only [rF_ok, wF_ok, oK_ok, lA_ok, rA_ok, wA_ok, cI_ok, cV_ok, cL_ok, cR_ok, kd_sF, kd_sA, gA_sF, gF_sA, gF_sF, gA_sA, bk_0, bk_1, List.length_set, reduceIte, and_true, and_false, true_and, false_and, ne_eq, not_true_eq_false, not_false_eq_true, Int.toNat_natCast, Int.reduceToNat, Nat.reduceEqDiff, Int.reduceEq, Int.reduceLT, Int.reduceLE, Int.reduceAdd, Int.reduceSub, Int.reduceMul, Int.reduceNeg, hs2.kd, hs2.ln, hs2.fs, kMs, lMs, m_wordsOf (show 1 ≤ n ∧ n ≤ 12 by omega), Int.lt_irrefl]
      by_cases e : i = -1
      · rw [if_pos e]
        exact reI ⟨by unfold fitA; rw [if_pos e, ha], I2.2.1⟩
      · rw [if_neg e]
        refine reI ⟨?_, I2.2.1⟩
        unfold fitA
        rw [if_neg e, List.getElem?_eq_none (by omega)]
        rfl
  rw [e_X12_fits]
  simp (disch := ((try simp only [kd_sF, kd_sA, gA_sF, gA_sA, gF_sF, gF_sA, List.length_set, reduceIte, and_true, and_false, true_and, false_and, Nat.reduceEqDiff, Int.reduceEq, hs.kd, hs.ln, hs.fs, kMs, lMs]); first | done | omega)) only [rF_ok, wF_ok, oK_ok, lA_ok, rA_ok, wA_ok, cI_ok, cV_ok, cL_ok, cR_ok, kd_sF, kd_sA, gA_sF, gF_sA, gF_sF, gA_sA, bk_0, bk_1, List.length_set, reduceIte, and_true, and_false, true_and, false_and, ne_eq, not_true_eq_false, not_false_eq_true, Int.toNat_natCast, Int.reduceToNat, Nat.reduceEqDiff, Int.reduceEq, Int.reduceLT, Int.reduceLE, Int.reduceAdd, Int.reduceSub, Int.reduceMul, Int.reduceNeg, hs.kd, hs.ln, hs.fs, kMs, lMs, m_isLong1 (show 3 ≤ (n : Int) ∧ (n : Int) ≤ 12 by omega), m_lies1 hmi.1 hmi.2, if_neg (show ¬ (i < -1) by omega)]
  by_cases e : -1 < i
  · rw [if_pos e]
    simp (disch := ((try simp only [kd_sF, kd_sA, gA_sF, gA_sA, gF_sF, gF_sA, List.length_set, reduceIte, and_true, and_false, true_and, false_and, Nat.reduceEqDiff, Int.reduceEq, hs.kd, hs.ln, hs.fs, kMs, lMs]); first | done | omega)) only [rF_ok, wF_ok, oK_ok, lA_ok, rA_ok, wA_ok, cI_ok, cV_ok, cL_ok, cR_ok, kd_sF, kd_sA, gA_sF, gF_sA, gF_sF, gA_sA, bk_0, bk_1, List.length_set, reduceIte, and_true, and_false, true_and, false_and, ne_eq, not_true_eq_false, not_false_eq_true, Int.toNat_natCast, Int.reduceToNat, Nat.reduceEqDiff, Int.reduceEq, Int.reduceLT, Int.reduceLE, Int.reduceAdd, Int.reduceSub, Int.reduceMul, Int.reduceNeg, hs.kd, hs.ln, hs.fs, kMs, lMs, wi_sm, m_lies1 (show 0 ≤ k by omega) (show k ≤ (n : Int) - 1 by omega)]
    exact main
  · rw [if_neg e]
    exact main
/-- of the words, how many have the place p at k -/
def cnt (n : Nat) (L : List Nat) (k : Nat) (p : Int) : Int := ((L.filter fun u => decide (plN n u k = p)).length : Int)
theorem cnt_a {u k : Nat} {p : Int} {L : List Nat} : cnt n (L ++ [u]) k p = cnt n L k p + if plN n u k = p then 1 else 0 := by
  unfold cnt
  rw [List.filter_append, List.length_append]
  by_cases h : plN n u k = p
  · simp [h]
  · simp [h]
theorem cnt_bd {k : Nat} {p : Int} {L : List Nat} : 0 ≤ cnt n L k p ∧ cnt n L k p ≤ L.length := by
  unfold cnt
  have := List.length_filter_le (fun u => decide (plN n u k = p)) L
  omega
def gtr (a b : Int) : Int := if b < a then a else b
def mx3 (n : Nat) (L : List Nat) (k : Nat) : Int := gtr (gtr (cnt n L k 0) (cnt n L k 1)) (cnt n L k 2)
/-- where to look so far: the move and how many words are left at most -/
def lkS (g : Nat → Int) : Nat → Int × Int
  | 0 => (-1, 1000000)
  | k + 1 => if g k < (lkS g k).2 then ((k : Int), g k) else lkS g k
def lookA (n : Nat) (L : List Nat) : Int := if L = [] then -1 else (lkS (mx3 n L) n).1
theorem m_greater {a b : Int} : X12_greater d s a b = some ([(0, gtr a b)], s) := by
  rw [e_X12_greater]; unfold gtr; split <;> rfl
theorem m_look77 {T : Res → Prop} {w : Nat} {L : List Nat} {a : Int} (hs : ShM s) (O : Opn s n w) (hn : n ≤ 12) (hw : w < WN n) (hL : L.length ≤ 6144) (h0 : ∀ k, k < n → ∀ p, p < 3 → (gA s 119).getD (3 * k + p) 0 = cnt n L k (p : Nat)) (hT : ∀ s', ShM s' → Fa [119] s s' → (∀ k, k < n → ∀ p, p < 3 → (gA s' 119).getD (3 * k + p) 0 = cnt n (L ++ [w]) k (p : Nat)) → Gl T (X12_look_48 d s' 98 n mi a (wi ((w : Int) + 1)))) : Gl T (X12_look_77 d s 98 n mi a w 0) := by
  refine lpG (fun i s1 => X12_look_77 d s1 98 n mi a w i) (fun i s1 => ShM s1 ∧ Fa [119] s s1 ∧ (∀ k, k < n → ∀ p, p < 3 → (gA s1 119).getD (3 * k + p) 0 = cnt n (if k < i then L ++ [w] else L) k (p : Nat))) n ?_ ?_ 0 s (by omega) ⟨hs, Fa.rf _ _, fun k hk p hp => by rw [if_neg (by omega)]; exact h0 k hk p hp⟩
  · intro T i s1 hi ⟨i1, i2, i3⟩ hT1
    have e112 : gA s1 112 = gA s 112 := i2 112 (by decide)
    have l119 : (gA s1 119).length = 36 := i1.ln 119
    have hpl := plN_pl hw i
    have e1 : (gA s 112).getD i 0 = plN n w i := O.2.2 i hi
    rw [e_X12_look_77, if_pos (by omega)]
    obtain ⟨p, hp, hp2⟩ : ∃ p : Nat, p < 3 ∧ plN n w i = p := by
      rcases hpl with q | q | q
      · exact ⟨0, by omega, q⟩
      · exact ⟨1, by omega, q⟩
      · exact ⟨2, by omega, q⟩
    have e2 := i3 i hi p hp
    rw [if_neg (Nat.lt_irrefl _)] at e2
    have hb := cnt_bd (n := n) (k := i) (p := (p : Nat)) (L := L)
    have e3 : ((3 : Int) * i + p).toNat = 3 * i + p := by omega
    simp (disch := ((try simp only [kd_sF, kd_sA, gA_sF, gA_sA, gF_sF, gF_sA, List.length_set, reduceIte, and_true, and_false, true_and, false_and, Nat.reduceEqDiff, Int.reduceEq, i1.kd, i1.ln, i1.fs, kMs, lMs]); first | done | omega)) only [rF_ok, wF_ok, oK_ok, lA_ok, rA_ok, wA_ok, cI_ok, cV_ok, cL_ok, cR_ok, kd_sF, kd_sA, gA_sF, gF_sA, gF_sF, gA_sA, bk_0, bk_1, List.length_set, reduceIte, and_true, and_false, true_and, false_and, ne_eq, not_true_eq_false, not_false_eq_true, Int.toNat_natCast, Int.reduceToNat, Nat.reduceEqDiff, Int.reduceEq, Int.reduceLT, Int.reduceLE, Int.reduceAdd, Int.reduceSub, Int.reduceMul, Int.reduceNeg, i1.kd, i1.ln, i1.fs, kMs, lMs, e112, e1, hp2, wi_sm, e3, e2]
    refine hT1 _ ⟨i1.sA (by rw [List.length_set]), i2.tr (Fa.sA _ (by decide)), fun k hk q hq => ?_⟩
    rw [gA_eq, setD_getD (by omega)]
    by_cases ek : k = i
    · rw [ek, if_pos (show i < i + 1 by omega), cnt_a, hp2]
      by_cases eq : q = p
      · rw [eq, if_pos rfl, if_pos rfl]
      · rw [if_neg (by omega), if_neg (by omega)]
        have := i3 i hi q hq
        rw [if_neg (Nat.lt_irrefl _)] at this
        rw [this]; omega
    · rw [if_neg (by omega), i3 k hk q hq]
      by_cases e5 : k < i
      · rw [if_pos e5, if_pos (by omega)]
      · rw [if_neg e5, if_neg (by omega)]
  · intro s1 ⟨i1, i2, i3⟩
    rw [e_X12_look_77, if_neg (by omega)]
    exact hT s1 i1 i2 fun k hk p hp => by rw [i3 k hk p hp, if_pos hk]
theorem m_look {c : Nat} (hs : ShM s) (hB : BK (gA s 100)) (hS : SgK (gA s 100) c) (hn : 3 ≤ n ∧ n ≤ 12) (hmi : 0 ≤ mi ∧ mi ≤ 1) : Gl (GI fun x s' => x = lookA n (ftL (gA s 100) mi n) ∧ Fa scr s s') (X12_look (d + 48) s 98 n mi) := by
  have e0 : ((gA s 100).getD 171 0).toNat = c := by rw [hS.1]; omega
  rw [e_X12_look]
  simp (disch := ((try simp only [kd_sF, kd_sA, gA_sF, gA_sA, gF_sF, gF_sA, List.length_set, reduceIte, and_true, and_false, true_and, false_and, Nat.reduceEqDiff, Int.reduceEq, hs.kd, hs.ln, hs.fs, kMs, lMs]); first | done | omega)) only [rF_ok, wF_ok, oK_ok, lA_ok, rA_ok, wA_ok, cI_ok, cV_ok, cL_ok, cR_ok, kd_sF, kd_sA, gA_sF, gF_sA, gF_sF, gA_sA, bk_0, bk_1, List.length_set, reduceIte, and_true, and_false, true_and, false_and, ne_eq, not_true_eq_false, not_false_eq_true, Int.toNat_natCast, Int.reduceToNat, Nat.reduceEqDiff, Int.reduceEq, Int.reduceLT, Int.reduceLE, Int.reduceAdd, Int.reduceSub, Int.reduceMul, Int.reduceNeg, hs.kd, hs.ln, hs.fs, kMs, lMs, m_isLong1 (show 3 ≤ (n : Int) ∧ (n : Int) ≤ 12 by omega), m_lies1 hmi.1 hmi.2]
  refine m_ask hs hB fun s1 h1 I => ?_
  unfold ftL
  rw [e0]
  show Gl (GI fun x s' => x = lookA n (ftU (fun u => fitB (sMk (gA s 100)) (sPk (gA s 100)) c mi n (plN n u)) (clsK (gA s 100)) ((gA s 100).getD 167 0) ((gA s 100).getD 169 0) n (WN n)) ∧ Fa scr s s') _
  generalize clsK (gA s 100) = cls at *
  generalize (gA s 100).getD 167 0 = mood at *
  generalize (gA s 100).getD 169 0 = th at *
  generalize hf : (fun u => fitB (sMk (gA s 100)) (sPk (gA s 100)) c mi n (plN n u)) = f
  have hfu : ∀ u, fitB (sMk (gA s 100)) (sPk (gA s 100)) c mi n (plN n u) = f u := fun u => by rw [← hf]
  refine lpG (fun k s => X12_look_24 (d + 48) s 98 n mi k) (fun k s2 => QI cls mood th s s2 ∧ ∀ v, v < k → (gA s2 119).getD v 0 = 0) 36 ?_ ?_ 0 s1 (by omega) ⟨I, fun v hv => by omega⟩
  · intro T k s2 hk ⟨I2, h2⟩ hT
    have hs2 := I2.1
    have l119 : (gA s2 119).length = 36 := hs2.ln 119
    rw [e_X12_look_24, if_pos (by omega)]
    simp (disch := ((try simp only [kd_sF, kd_sA, gA_sF, gA_sA, gF_sF, gF_sA, List.length_set, reduceIte, and_true, and_false, true_and, false_and, Nat.reduceEqDiff, Int.reduceEq, hs2.kd, hs2.ln, hs2.fs, kMs, lMs]); first | done | omega)) only [rF_ok, wF_ok, oK_ok, lA_ok, rA_ok, wA_ok, cI_ok, cV_ok, cL_ok, cR_ok, kd_sF, kd_sA, gA_sF, gF_sA, gF_sF, gA_sA, bk_0, bk_1, List.length_set, reduceIte, and_true, and_false, true_and, false_and, ne_eq, not_true_eq_false, not_false_eq_true, Int.toNat_natCast, Int.reduceToNat, Nat.reduceEqDiff, Int.reduceEq, Int.reduceLT, Int.reduceLE, Int.reduceAdd, Int.reduceSub, Int.reduceMul, Int.reduceNeg, hs2.kd, hs2.ln, hs2.fs, kMs, lMs, wi_sm]
    refine hT _ ⟨I2.fa (hs2.sA (by rw [List.length_set])) (Fa.sA (P := [119]) _ (by decide)) (by decide) (by decide), fun v hv => ?_⟩
    rw [gA_eq, setD_getD (by omega)]
    by_cases e : k = v
    · rw [if_pos e]
    · rw [if_neg e]; exact h2 v (by omega)
  · intro s2 ⟨I2, h2⟩
    rw [e_X12_look_24, if_neg (by decide)]
    refine lpG (fun w (a : St × Int) => X12_look_48 (d + 48) a.1 98 n mi a.2 w) (fun w a => QI cls mood th s a.1 ∧ a.2 = ((ftU f cls mood th n w).length : Int) ∧ ∀ k, k < n → ∀ p, p < 3 → (gA a.1 119).getD (3 * k + p) 0 = cnt n (ftU f cls mood th n w) k (p : Nat)) (WN n) ?_ ?_ 0 (s2, 0) (by omega) ⟨I2, rfl, fun k hk p hp => h2 _ (by omega)⟩
    · intro T w ⟨s3, a⟩ hw ⟨I3, ha, h3⟩ hT
      dsimp only at I3 ha h3 ⊢
      have hs3 := I3.1
      have hW := WN_bd hn.2
      have hl := ftU_len (f := f) (cls := cls) (mood := mood) (th := th) (n := n) (w := w)
      rw [e_X12_look_48]
      simp (disch := ((try simp only [kd_sF, kd_sA, gA_sF, gA_sA, gF_sF, gF_sA, List.length_set, reduceIte, and_true, and_false, true_and, false_and, Nat.reduceEqDiff, Int.reduceEq, hs3.kd, hs3.ln, hs3.fs, kMs, lMs]); first | done | omega)) only [rF_ok, wF_ok, oK_ok, lA_ok, rA_ok, wA_ok, cI_ok, cV_ok, cL_ok, cR_ok, kd_sF, kd_sA, gA_sF, gF_sA, gF_sF, gA_sA, bk_0, bk_1, List.length_set, reduceIte, and_true, and_false, true_and, false_and, ne_eq, not_true_eq_false, not_false_eq_true, Int.toNat_natCast, Int.reduceToNat, Nat.reduceEqDiff, Int.reduceEq, Int.reduceLT, Int.reduceLE, Int.reduceAdd, Int.reduceSub, Int.reduceMul, Int.reduceNeg, hs3.kd, hs3.ln, hs3.fs, kMs, lMs, m_wordsOf (show 1 ≤ n ∧ n ≤ 12 by omega), Int.ofNat_lt, hw]
      refine m_isFitting I3 hS (by omega) hw fun s4 h4 I4 F4 O4 => ?_
      have hs4 := I4.1
      have e119 : gA s4 119 = gA s3 119 := F4 119 (by decide)
      rw [hfu]
      cases hp : (prB cls mood th (((n : Int) - 1) % 2) (plN n w) n && f w) with
      | false =>
        simp only [Bool.false_eq_true, reduceIte]
        rw [wi_sc (by omega)]
        exact hT (s4, a) ⟨I4, by rw [ftU_0 hp]; exact ha, by rw [ftU_0 hp]; intro k hk p hp; show (gA s4 119).getD _ 0 = _; rw [e119]; exact h3 k hk p hp⟩
      | true =>
        simp only [reduceIte, Int.reduceEq]
        rw [wi_sm (by omega) (by omega)]
        refine m_look77 (L := ftU f cls mood th n w) hs4 O4 hn.2 hw (by omega) (fun k hk p hp => by rw [e119]; exact h3 k hk p hp) fun s5 hs5 F5 h5 => ?_
        rw [wi_sc (by omega)]
        refine hT (s5, a + 1) ⟨I4.fa hs5 F5 (by decide) (by decide), by rw [ftU_1 hp, List.length_append]; show a + 1 = _; simp; omega, by rw [ftU_1 hp]; exact h5⟩
    · intro ⟨s3, a⟩ ⟨I3, ha, h3⟩
      dsimp only at I3 ha h3 ⊢
      have hs3 := I3.1
      have hW := WN_bd hn.2
      have hl := ftU_len (f := f) (cls := cls) (mood := mood) (th := th) (n := n) (w := WN n)
      rw [e_X12_look_48]
      simp (disch := ((try simp only [kd_sF, kd_sA, gA_sF, gA_sA, gF_sF, gF_sA, List.length_set, reduceIte, and_true, and_false, true_and, false_and, Nat.reduceEqDiff, Int.reduceEq, hs3.kd, hs3.ln, hs3.fs, kMs, lMs]); first | done | omega)) only [rF_ok, wF_ok, oK_ok, lA_ok, rA_ok, wA_ok, cI_ok, cV_ok, cL_ok, cR_ok, kd_sF, kd_sA, gA_sF, gF_sA, gF_sF, gA_sA, bk_0, bk_1, List.length_set, reduceIte, and_true, and_false, true_and, false_and, ne_eq, not_true_eq_false, not_false_eq_true, Int.toNat_natCast, Int.reduceToNat, Nat.reduceEqDiff, Int.reduceEq, Int.reduceLT, Int.reduceLE, Int.reduceAdd, Int.reduceSub, Int.reduceMul, Int.reduceNeg, hs3.kd, hs3.ln, hs3.fs, kMs, lMs, m_wordsOf (show 1 ≤ n ∧ n ≤ 12 by omega), Int.lt_irrefl]
      generalize ftU f cls mood th n (WN n) = L at *
      by_cases hL0 : L = []
      · rw [e_X12_look_126, if_pos (by omega), if_neg (by rw [ha, hL0]; decide)]
        exact reI ⟨by unfold lookA; rw [if_pos hL0], I3.2.1⟩
      · have hpos : 0 < a := by
          rw [ha]
          have : 0 < L.length := List.length_pos_iff.mpr hL0
          omega
        refine lpG (fun k (b : Int × Int) => X12_look_126 (d + 48) s3 98 n a b.1 b.2 k) (fun k b => b = lkS (mx3 n L) k) n ?_ ?_ 0 (-1, 1000000) (by omega) rfl
        · intro T k b hk hb hT
          have q0 := h3 k hk 0 (by omega)
          have q1 := h3 k hk 1 (by omega)
          have q2 := h3 k hk 2 (by omega)
          have e1 : ((3 : Int) * k).toNat = 3 * k + 0 := by omega
          have e2 : ((3 : Int) * k + 1).toNat = 3 * k + 1 := by omega
          have e3 : ((3 : Int) * k + 2).toNat = 3 * k + 2 := by omega
          rw [e_X12_look_126, if_pos (by omega), if_pos hpos]
          simp (disch := ((try simp only [kd_sF, kd_sA, gA_sF, gA_sA, gF_sF, gF_sA, List.length_set, reduceIte, and_true, and_false, true_and, false_and, Nat.reduceEqDiff, Int.reduceEq, hs3.kd, hs3.ln, hs3.fs, kMs, lMs]); first | done | omega)) only [rF_ok, wF_ok, oK_ok, lA_ok, rA_ok, wA_ok, cI_ok, cV_ok, cL_ok, cR_ok, kd_sF, kd_sA, gA_sF, gF_sA, gF_sF, gA_sA, bk_0, bk_1, List.length_set, reduceIte, and_true, and_false, true_and, false_and, ne_eq, not_true_eq_false, not_false_eq_true, Int.toNat_natCast, Int.reduceToNat, Nat.reduceEqDiff, Int.reduceEq, Int.reduceLT, Int.reduceLE, Int.reduceAdd, Int.reduceSub, Int.reduceMul, Int.reduceNeg, hs3.kd, hs3.ln, hs3.fs, kMs, lMs, wi_sm, e1, e2, e3, q0, q1, q2, m_greater]
          have hx : gtr (gtr (cnt n L k (0 : Nat)) (cnt n L k (1 : Nat))) (cnt n L k (2 : Nat)) = mx3 n L k := rfl
          rw [hx]
          by_cases e : mx3 n L k < b.2
          · rw [if_pos e]
            exact hT ((k : Int), mx3 n L k) (by rw [lkS, ← hb, if_pos e])
          · rw [if_neg e]
            exact hT b (by rw [lkS, ← hb, if_neg e])
        · intro b hb
          rw [e_X12_look_126, if_neg (by omega)]
          exact reI ⟨by unfold lookA; rw [if_neg hL0, ← hb], I3.2.1⟩
end MQ3
