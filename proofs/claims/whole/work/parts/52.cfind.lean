/-! ===== the class's paper: finding a word ===== -/
section CFD
variable {cls : List Cl} {mood th : Int} {n d : Nat} {s : St} {q : Int}
theorem p4_bd : ∀ {k : Nat}, k ≤ 12 → (4 : Int) ^ k ≤ 16777216
  | 0, _ => by decide
  | k + 1, h => by
    have : (k = 0 ∨ k = 1 ∨ k = 2 ∨ k = 3 ∨ k = 4 ∨ k = 5 ∨ k = 6 ∨ k = 7 ∨ k = 8 ∨ k = 9 ∨ k = 10 ∨ k = 11) := by omega
    rcases this with rfl | rfl | rfl | rfl | rfl | rfl | rfl | rfl | rfl | rfl | rfl | rfl <;> decide
theorem p2_bd : ∀ {k : Nat}, k ≤ 12 → 2 ^ (k - 2) ≤ 1024
  | 0, _ => by decide
  | k + 1, h => by
    have : (k = 0 ∨ k = 1 ∨ k = 2 ∨ k = 3 ∨ k = 4 ∨ k = 5 ∨ k = 6 ∨ k = 7 ∨ k = 8 ∨ k = 9 ∨ k = 10 ∨ k = 11) := by omega
    rcases this with rfl | rfl | rfl | rfl | rfl | rfl | rfl | rfl | rfl | rfl | rfl | rfl <;> decide
def hlv (a st : Nat) : Prop := a * 2 ^ st ≤ 1024
theorem hlv_s {a b st : Nat} (h : hlv a st) (h2 : 2 * b ≤ a) : hlv b (st + 1) := by
  unfold hlv at *
  rw [Nat.pow_succ, Nat.mul_comm (2 ^ st) 2, ← Nat.mul_assoc, Nat.mul_comm b 2]
  exact Nat.le_trans (Nat.mul_le_mul_right _ h2) h
theorem hlv_13 {a : Nat} (h : hlv a 13) : a = 0 := by
  have h' : a * 8192 ≤ 1024 := h
  omega
theorem mid_bd {lo hi : Nat} (h : lo < hi) : lo ≤ (lo + hi) / 2 ∧ (lo + hi) / 2 < hi ∧ 2 * (hi - ((lo + hi) / 2 + 1)) ≤ hi - lo ∧ 2 * ((lo + hi) / 2 - lo) ≤ hi - lo := by omega
theorem mid_sh {lo hi : Nat} (h : lo + hi < 100000) : shrI (wi ((lo : Int) + hi)) 1 = (((lo + hi) / 2 : Nat) : Int) := by
  rw [wi_sm (by omega) (by omega), show (lo : Int) + hi = ((lo + hi : Nat) : Int) by omega]
  exact shr_n (n := lo + hi) (k := 1) (by omega) (by omega)
def wdI (cls : List Cl) (mood th : Int) (n i : Nat) : Int := w4p (plN n ((prW cls mood th n).getD i 0)) n
theorem wdI_lt {i j : Nat} (hn : 3 ≤ n) (hij : i < j) (hj : j < (prW cls mood th n).length) : wdI cls mood th n i < wdI cls mood th n j :=
  w4p_lt (by omega) (prU_mem (gdMem (a := 0) hj)) (prU_lt hij hj)
theorem rank_wd {g : Nat → Int} {lo : Nat} (hn : 3 ≤ n) (hg : ∀ k, k < n → pl3 (g k)) (hlo : lo ≤ (prW cls mood th n).length) (h1 : ∀ i, i < lo → wdI cls mood th n i < w4p g n) (h2 : ∀ i, lo ≤ i → i < (prW cls mood th n).length → w4p g n ≤ wdI cls mood th n i) : rankL g n (prW cls mood th n) = if lo < (prW cls mood th n).length ∧ wdI cls mood th n lo = w4p g n then (lo : Int) else -1 := by
  have key : ∀ i, i < (prW cls mood th n).length → (unlN (plN n ((prW cls mood th n).getD i 0)) g n = 0 ↔ wdI cls mood th n i = w4p g n) := fun i hi => unl_w4 (fun k _ => plN_pl (prU_mem (gdMem (a := 0) hi)) k) hg
  unfold rankL
  by_cases c : lo < (prW cls mood th n).length ∧ wdI cls mood th n lo = w4p g n
  · rw [if_pos c]
    refine fidx_some c.1 (decide_eq_true ((key lo c.1).mpr c.2)) fun j hj => decide_eq_false fun e => ?_
    have := (key j (by omega)).mp e
    have := h1 j hj
    omega
  · rw [if_neg c]
    refine fidx_none fun j hj => decide_eq_false fun e => ?_
    have e1 := (key j hj).mp e
    by_cases c1 : j < lo
    · have := h1 j c1; omega
    · by_cases c2 : j = lo
      · rw [c2] at e1 hj; exact c ⟨hj, e1⟩
      · have a1 := wdI_lt (cls := cls) (mood := mood) (th := th) (n := n) (i := lo) hn (show lo < j by omega) hj
        have a2 := h2 lo (Nat.le_refl _) (by omega)
        omega
theorem c_find98 {W : Int} {lo : Nat} (hs : ShC s) (hn : 3 ≤ n ∧ n ≤ 12) (Wd : WdC cls mood th n s) (hlo : lo ≤ (prW cls mood th n).length) : X4_find_98 (d + 1) s 78 n W lo = some ([(0, if lo < (prW cls mood th n).length ∧ wdI cls mood th n lo = W then (lo : Int) else -1)], s) := by
  obtain ⟨w1, w2, w3⟩ := Wd
  have hb := SLn_bd n (by omega) hn.1
  have l84 : (gA s 84).length = 2046 := hs.2.1 84 (by decide) (by decide)
  have l83 : (gA s 83).length = 13 := hs.2.1 83 (by decide) (by decide)
  have e1 : ((SLn n : Int) + lo).toNat = SLn n + lo := by omega
  rw [e_X4_find_98]
  by_cases c : lo < (prW cls mood th n).length
  · have g1 : (gA s 84).getD (SLn n + lo) 0 = wdI cls mood th n lo := (w3 lo c).1
    simp (disch := ((try simp only [kd_sF, kd_sA, gA_sF, gA_sA, gF_sF, gF_sA, List.length_set, reduceIte, and_true, and_false, true_and, false_and, Nat.reduceEqDiff, Int.reduceEq, hs.o78]); first | done | omega)) only [rF_ok, wF_ok, oK_ok, lA_ok, rA_ok, wA_ok, cI_ok, cV_ok, cL_ok, cR_ok, kd_sF, kd_sA, gA_sF, gF_sA, gF_sF, gA_sA, bk_0, bk_1, List.length_set, reduceIte, and_true, and_false, true_and, false_and, ne_eq, not_true_eq_false, not_false_eq_true, Int.toNat_natCast, Int.reduceToNat, Nat.reduceEqDiff, Int.reduceEq, Int.reduceLT, Int.reduceLE, Int.reduceAdd, Int.reduceSub, Int.reduceMul, Int.reduceNeg, hs.o78, w2, Int.ofNat_lt, c, c_firstSlot hn, wi_sm, e1, g1]
    by_cases c2 : wdI cls mood th n lo = W
    · rw [if_pos c2, if_pos c2]
    · rw [if_neg c2, if_neg c2]
  · simp (disch := ((try simp only [kd_sF, kd_sA, gA_sF, gA_sA, gF_sF, gF_sA, List.length_set, reduceIte, and_true, and_false, true_and, false_and, Nat.reduceEqDiff, Int.reduceEq, hs.o78]); first | done | omega)) only [rF_ok, wF_ok, oK_ok, lA_ok, rA_ok, wA_ok, cI_ok, cV_ok, cL_ok, cR_ok, kd_sF, kd_sA, gA_sF, gF_sA, gF_sF, gA_sA, bk_0, bk_1, List.length_set, reduceIte, and_true, and_false, true_and, false_and, ne_eq, not_true_eq_false, not_false_eq_true, Int.toNat_natCast, Int.reduceToNat, Nat.reduceEqDiff, Int.reduceEq, Int.reduceLT, Int.reduceLE, Int.reduceAdd, Int.reduceSub, Int.reduceMul, Int.reduceNeg, hs.o78, w2, Int.ofNat_lt, c]
theorem c_find40 {g : Nat → Int} (hs : ShC s) (hn : 3 ≤ n ∧ n ≤ 12) (Wd : WdC cls mood th n s) (hg : ∀ k, k < n → pl3 (g k)) : X4_find_40 (d + 1) s 78 n (w4p g n) 0 (prW cls mood th n).length 0 = some ([(0, rankL g n (prW cls mood th n))], s) := by
  have Wd' := Wd
  obtain ⟨w1, w2, w3⟩ := Wd
  have hb := SLn_bd n (by omega) hn.1
  have hp2 := p2_bd hn.2
  have l84 : (gA s 84).length = 2046 := hs.2.1 84 (by decide) (by decide)
  generalize hX : rankL g n (prW cls mood th n) = X
  generalize hN : (prW cls mood th n).length = N at *
  have hNb : N ≤ 1024 := Nat.le_trans w1 hp2
  have hsl : SLn n + N ≤ 2046 := by omega
  clear w1 hp2
  have fin : ∀ lo : Nat, lo ≤ N → (∀ i, i < lo → wdI cls mood th n i < w4p g n) → (∀ i, lo ≤ i → i < N → w4p g n ≤ wdI cls mood th n i) → X4_find_98 (d + 1) s 78 n (w4p g n) lo = some ([(0, X)], s) := by
    intro lo h0 h1 h2
    rw [c_find98 hs hn Wd' (by omega), ← hX, rank_wd hn.1 hg (by omega) h1 (by rw [hN]; exact h2)]
  refine lpM (T := fun r => r = some ([(0, X)], s)) (fun a : Nat × Nat × Nat => X4_find_40 (d + 1) s 78 n (w4p g n) a.1 a.2.1 a.2.2) (fun a => a.1 ≤ a.2.1 ∧ a.2.1 ≤ N ∧ a.2.2 ≤ 13 ∧ hlv (a.2.1 - a.1) a.2.2 ∧ (∀ i, i < a.1 → wdI cls mood th n i < w4p g n) ∧ (∀ i, a.2.1 ≤ i → i < N → w4p g n ≤ wdI cls mood th n i)) (fun a => 14 - a.2.2) ?_ (0, N, 0) ⟨by omega, Nat.le_refl _, Nat.zero_le _, by show (N - 0) * 1 ≤ 1024; omega, fun i hi => absurd hi (Nat.not_lt_zero _), fun i h1 h2 => by dsimp only at h1; omega⟩
  intro ⟨lo, hi, st⟩ ⟨h1, h2, h3, h4, h5, h6⟩ hT
  dsimp only at h1 h2 h3 h4 h5 h6 ⊢
  rw [e_X4_find_40]
  by_cases c : 12 < (st : Int)
  · rw [if_pos c]
    have : st = 13 := by omega
    rw [this] at h4
    have h40 := hlv_13 h4
    exact fin lo (by omega) h5 (fun i a1 a2 => h6 i (by omega) a2)
  rw [if_neg c]
  by_cases c2 : lo < hi
  · have em := mid_sh (lo := lo) (hi := hi) (by omega)
    obtain ⟨m1, m2, m3, m4⟩ := mid_bd c2
    generalize (lo + hi) / 2 = M at em m1 m2 m3 m4
    have hMn : M < N := by omega
    have g1 : (gA s 84).getD (SLn n + M) 0 = wdI cls mood th n M := (w3 M hMn).1
    have e1 : ((SLn n : Int) + M).toNat = SLn n + M := by omega
    rw [em]
    simp (disch := ((try simp only [kd_sF, kd_sA, gA_sF, gA_sA, gF_sF, gF_sA, List.length_set, reduceIte, and_true, and_false, true_and, false_and, Nat.reduceEqDiff, Int.reduceEq, hs.o78]); first | done | omega)) only [rF_ok, wF_ok, oK_ok, lA_ok, rA_ok, wA_ok, cI_ok, cV_ok, cL_ok, cR_ok, kd_sF, kd_sA, gA_sF, gF_sA, gF_sF, gA_sA, bk_0, bk_1, List.length_set, reduceIte, and_true, and_false, true_and, false_and, ne_eq, not_true_eq_false, not_false_eq_true, Int.toNat_natCast, Int.reduceToNat, Nat.reduceEqDiff, Int.reduceEq, Int.reduceLT, Int.reduceLE, Int.reduceAdd, Int.reduceSub, Int.reduceMul, Int.reduceNeg, hs.o78, Int.ofNat_lt, c2, c_firstSlot hn, wi_sm, e1, g1]
    by_cases c3 : wdI cls mood th n M < w4p g n
    · rw [if_pos c3]
      refine hT (M + 1, hi, st + 1) ⟨by dsimp only; omega, h2, by dsimp only; omega, ?_, fun i hi1 => ?_, h6⟩ (by dsimp only; omega)
      · exact hlv_s h4 m3
      · dsimp only at hi1
        by_cases e : i = M
        · rw [e]; exact c3
        · have := wdI_lt (cls := cls) (mood := mood) (th := th) (n := n) (i := i) (j := M) hn.1 (by omega) (by omega)
          omega
    · rw [if_neg c3]
      refine hT (lo, M, st + 1) ⟨by dsimp only; omega, by dsimp only; omega, by dsimp only; omega, ?_, h5, fun i hi1 hi2 => ?_⟩ (by dsimp only; omega)
      · exact hlv_s h4 m4
      · dsimp only at hi1
        by_cases e : i = M
        · rw [e]; omega
        · have := wdI_lt (cls := cls) (mood := mood) (th := th) (n := n) (i := M) (j := i) hn.1 (by omega) (by omega)
          omega
  · rw [if_neg (by omega)]
    exact fin lo (by omega) h5 (fun i a1 a2 => h6 i (by omega) a2)
theorem c_find (hs : ShC s) (hn : 3 ≤ n ∧ n ≤ 12) (Wd : WdC cls mood th n s) (hk : kd s q = 20) (hl : n ≤ (gA s q).length) (hg : ∀ k, k < n → pl3 (af s q k)) : X4_find (d + 1) s 78 q n = some ([(0, rankL (af s q) n (prW cls mood th n))], s) := by
  have l83 : (gA s 83).length = 13 := hs.2.1 83 (by decide) (by decide)
  have w2 := Wd.2.1
  rw [e_X4_find]
  refine lpG (T := fun r => r = some ([(0, rankL (af s q) n (prW cls mood th n))], s)) (fun k a => X4_find_5 (d + 1) s 78 q n a k) (fun k a => a = w4p (af s q) k) n ?_ ?_ 0 0 (by omega) rfl
  · intro T k a hk2 e hT
    have hb := w4p_bd (f := af s q) (k := k) (fun j hj => hg j (by omega))
    have h4 := p4_bd (k := k) (by omega)
    have a1 : (gA s q).getD k 0 = af s q k := rfl
    have hgk := hg k hk2
    unfold pl3 at hgk
    rw [e_X4_find_5]
    simp (disch := ((try simp only [kd_sF, kd_sA, gA_sF, gA_sA, gF_sF, gF_sA, List.length_set, reduceIte, and_true, and_false, true_and, false_and, Nat.reduceEqDiff, Int.reduceEq, hk]); first | done | omega)) only [rF_ok, wF_ok, oK_ok, lA_ok, rA_ok, wA_ok, cI_ok, cV_ok, cL_ok, cR_ok, kd_sF, kd_sA, gA_sF, gF_sA, gF_sF, gA_sA, bk_0, bk_1, List.length_set, reduceIte, and_true, and_false, true_and, false_and, ne_eq, not_true_eq_false, not_false_eq_true, Int.toNat_natCast, Int.reduceToNat, Nat.reduceEqDiff, Int.reduceEq, Int.reduceLT, Int.reduceLE, Int.reduceAdd, Int.reduceSub, Int.reduceMul, Int.reduceNeg, hk, wi_sm, Int.ofNat_lt, hk2, a1]
    refine hT _ ?_
    rw [e, w4p]
  · intro a e
    rw [e_X4_find_5]
    simp (disch := ((try simp only [kd_sF, kd_sA, gA_sF, gA_sA, gF_sF, gF_sA, List.length_set, reduceIte, and_true, and_false, true_and, false_and, Nat.reduceEqDiff, Int.reduceEq, hs.o78]); first | done | omega)) only [rF_ok, wF_ok, oK_ok, lA_ok, rA_ok, wA_ok, cI_ok, cV_ok, cL_ok, cR_ok, kd_sF, kd_sA, gA_sF, gF_sA, gF_sF, gA_sA, bk_0, bk_1, List.length_set, reduceIte, and_true, and_false, true_and, false_and, ne_eq, not_true_eq_false, not_false_eq_true, Int.toNat_natCast, Int.reduceToNat, Nat.reduceEqDiff, Int.reduceEq, Int.reduceLT, Int.reduceLE, Int.reduceAdd, Int.reduceSub, Int.reduceMul, Int.reduceNeg, hs.o78, Int.lt_irrefl, w2]
    rw [e]
    exact c_find40 hs hn Wd hg
end CFD
