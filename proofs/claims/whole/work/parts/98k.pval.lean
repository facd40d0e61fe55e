/-! ===== texts with numbers cut at 1001 mean the same ===== -/
def vEq (v w : Nat → Int) : Prop := ∀ i, v i = w i ∨ (1000 < v i ∧ 1000 < w i)
section PVL
variable {c v w : Nat → Int} {fw lw : Int}
theorem pPart_v (h : vEq v w) (hlw : lw < 50) {br : PP} : pPart c v fw lw br = pPart c w fw lw br := by
  funext i l
  unfold pPart
  have hi := h i
  have hj := h (i + 1)
  by_cases e1 : c i = 191
  · rw [if_pos e1, if_pos e1]
  rw [if_neg e1, if_neg e1]
  have c1 : ((c i = 50 ∧ v i ≤ 1000) ∨ (fw ≤ c i ∧ c i ≤ lw)) ↔ ((c i = 50 ∧ w i ≤ 1000) ∨ (fw ≤ c i ∧ c i ≤ lw)) := by
    constructor
    · rintro (⟨a, b⟩ | a)
      · left; omega
      · right; exact a
    · rintro (⟨a, b⟩ | a)
      · left; omega
      · right; exact a
  by_cases e2 : (c i = 50 ∧ v i ≤ 1000) ∨ (fw ≤ c i ∧ c i ≤ lw)
  · rw [if_pos e2, if_pos (c1.mp e2)]
    by_cases e3 : l = 50
    · rw [if_pos e3, if_pos e3]
    rw [if_neg e3, if_neg e3]
    by_cases e4 : c i = 50
    · rw [if_pos e4, if_pos e4, show v i = w i by omega]
    · rw [if_neg e4, if_neg e4]
      by_cases e5 : 17 ≤ c i ∧ c i ≤ 19
      · rw [if_pos e5, if_pos e5]
        by_cases e6 : c (i + 1) = 50 ∧ v (i + 1) ≤ 7
        · rw [if_pos e6, if_pos (by omega), show v (i + 1) = w (i + 1) by omega]
        · rw [if_neg e6, if_neg (by omega)]
      · rw [if_neg e5, if_neg e5]
  · rw [if_neg e2, if_neg (fun x => e2 (c1.mpr x))]
theorem pSumG_v (h : vEq v w) (hlw : lw < 50) {br : PP} : pSumG c v fw lw br = pSumG c w fw lw br := by
  have e : pTerm c v fw lw br = pTerm c w fw lw br := by
    funext i l
    unfold pTerm
    rw [pPart_v h hlw]
  funext i l
  unfold pSumG
  rw [e]
theorem pSum_v (h : vEq v w) (hlw : lw < 50) : ∀ k, pSum c v fw lw k = pSum c w fw lw k
  | 0 => pSumG_v h hlw
  | k + 1 => by
    rw [pSum, pSum, pSum_v h hlw k]
    exact pSumG_v h hlw
theorem pTest_v (h : vEq v w) (hlw : lw < 50) : ∀ k, pTest c v fw lw k = pTest c w fw lw k
  | 0 => by rw [pTest, pTest, pSum_v h hlw 0]
  | k + 1 => by rw [pTest, pTest, pTest_v h hlw k, pSum_v h hlw (k + 1)]
theorem pCl_v (h : vEq v w) : pCl c v fw = pCl c w fw := by
  funext i l
  unfold pCl
  split
  · unfold pClO
    rw [pSum_v h (by decide), pTest_v h (by decide)]
    have e : ∀ (ts : PP) (j m : Nat) (h0 : Int) (x y : Cd × Dn), pTm c v ts j m h0 x y = pTm c w ts j m h0 x y := by
      intro ts j m h0 x y
      unfold pTm
      have hj := h (j + 1)
      by_cases e1 : c j = 25
      · rw [if_pos e1, if_pos e1]
        by_cases e2 : c (j + 1) = 50 ∧ 1 ≤ v (j + 1) ∧ v (j + 1) ≤ 20
        · rw [if_pos e2, if_pos (by omega), show v (j + 1) = w (j + 1) by omega]
        · rw [if_neg e2, if_neg (by omega)]
      · rw [if_neg e1, if_neg e1]
    simp only [e]
  · unfold pClL
    rw [pSum_v h (by decide), pTest_v h (by decide)]
end PVL
theorem nv_eq {t : List Int} {a : Nat} : ∀ (k : Nat), (∀ q, q < k → isD (tA t (a + q)) = true) → nvC t a k = nvM t a k ∨ (1000 < nvC t a k ∧ 1000 < nvM t a k)
  | 0, _ => Or.inl rfl
  | k + 1, h => by
    have ih := nv_eq k (fun q hq => h q (by omega))
    have hb := nvC_bd (t := t) (a := a) k (fun q hq => h q (by omega))
    have hd := h k (by omega)
    unfold isD at hd
    rw [Bool.and_eq_true] at hd
    have h1 := of_decide_eq_true hd.1
    have h2 := of_decide_eq_true hd.2
    rw [nvC, nvM]
    unfold minI
    split <;> split <;> omega
theorem nvM_nn {t : List Int} {a : Nat} : ∀ (k : Nat), (∀ q, q < k → isD (tA t (a + q)) = true) → 0 ≤ nvM t a k
  | 0, _ => by simp [nvM]
  | k + 1, h => by
    have ih := nvM_nn k (fun q hq => h q (by omega))
    have hd := h k (by omega)
    unfold isD at hd
    rw [Bool.and_eq_true] at hd
    have h1 := of_decide_eq_true hd.1
    rw [nvM]
    split <;> omega
section PTX
variable {t : List Int}
theorem toks_len : (toks t).length = (tkF t 0).length := by unfold toks; rw [List.length_map]
theorem cTk_toks : cTk (toks t) = cTx t := by
  funext i
  unfold cTk toks cTx
  by_cases e : i < (tkF t 0).length
  · rw [gd_map e, gd_map e]
  · rw [gd_out (by rw [List.length_map]; omega), gd_out (by rw [List.length_map]; omega)]
theorem vTk_toks : vEq (vTx t) (vTk (toks t)) := by
  intro i
  unfold vTk toks vTx
  by_cases e : i < (tkF t 0).length
  · rw [gd_map e, gd_map e]
    dsimp only
    have hp : ((tkF t 0).getD i (0, 0)).1 < t.length ∧ ((tkF t 0).getD i (0, 0)).2 = tkN t ((tkF t 0).getD i (0, 0)).1 := tkz_in _ _ _ (gdMem (a := (0, 0)) e)
    unfold vcT vmT
    split
    · exact Or.inl rfl
    · split
      · rename_i hd
        exact nv_eq _ fun q hq => tkN_dig hd (by omega) (by rw [← hp.2]; omega)
      · exact Or.inl rfl
  · rw [gd_out (by rw [List.length_map]; omega), gd_out (by rw [List.length_map]; omega)]
    exact Or.inl rfl
theorem vTk_nn (i : Nat) : 0 ≤ vTk (toks t) i := by
  unfold vTk toks
  by_cases e : i < (tkF t 0).length
  · rw [gd_map e]
    dsimp only
    have hp : ((tkF t 0).getD i (0, 0)).1 < t.length ∧ ((tkF t 0).getD i (0, 0)).2 = tkN t ((tkF t 0).getD i (0, 0)).1 := tkz_in _ _ _ (gdMem (a := (0, 0)) e)
    unfold vmT
    split
    · decide
    · split
      · rename_i hd
        exact nvM_nn _ fun q hq => tkN_dig hd (by omega) (by rw [← hp.2]; omega)
      · decide
  · rw [gd_out (by rw [List.length_map]; omega)]
    decide
/-- what the class reads is what the tokens mean -/
theorem rdT_toks (fw : Int) : rdT t fw = pText (pCl (cTk (toks t)) (vTk (toks t)) fw) (cTk (toks t)) (toks t).length := by
  unfold rdT
  rw [cTk_toks, toks_len, pCl_v vTk_toks]
theorem rdT_law : rdT t 8 = pText (pClL (cTk (toks t)) (vTk (toks t))) (cTk (toks t)) (toks t).length := by
  rw [rdT_toks]
  rfl
theorem rdT_ord : rdT t 14 = pText (pClO (cTk (toks t)) (vTk (toks t))) (cTk (toks t)) (toks t).length := by
  rw [rdT_toks]
  rfl
theorem wf_toks {cls : List Cl} (hl : t.length ≤ 400) (h : rdT t 8 = .ok cls) : wfLw (toks t) ∧ clsT (toks t) = cls := by
  rw [rdT_law] at h
  refine ⟨⟨?_, fun i _ => vTk_nn i, cls, h⟩, by unfold clsT; rw [h]⟩
  rw [toks_len]
  have := tkz_len (t := t) (t.length - 0) 0
  unfold tkF
  omega
end PTX
