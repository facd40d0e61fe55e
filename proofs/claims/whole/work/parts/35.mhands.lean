/-! ===== the reference: hands by draws ===== -/
def lcg (x : Int) : Int := (1103 * x + 12345) % 1000003
def lcgI (x : Int) : Nat → Int
  | 0 => x
  | k + 1 => lcg (lcgI x k)
theorem lcg_bd (x : Int) : 0 ≤ lcg x ∧ lcg x < 1000003 := ⟨Int.emod_nonneg _ (by decide), Int.emod_lt_of_pos _ (by decide)⟩
theorem lcgI_bd {x : Int} (h : 0 ≤ x ∧ x < 1000003) : ∀ k, 0 ≤ lcgI x k ∧ lcgI x k < 1000003
  | 0 => h
  | k + 1 => lcg_bd _
theorem lcgI_add (x : Int) (a : Nat) : ∀ b, lcgI x (a + b) = lcgI (lcgI x a) b
  | 0 => rfl
  | b + 1 => by rw [← Nat.add_assoc, lcgI, lcgI_add x a b, lcgI]
/-- the word that is drawn from x on -/
def dealF (x : Int) : Nat → Int
  | 0 => lcg x % 3
  | k + 1 => fol (dealF x k) (lcgI x (k + 2) % 2)
theorem dealF_pl (x : Int) : ∀ k, pl3 (dealF x k)
  | 0 => by unfold dealF pl3; omega
  | k + 1 => fol_pl _ _
abbrev HA : Type := Int × Int × Int
def hstep (cls : List Cl) (mood th need : Int) (m : Nat) (a : HA) (x : Int) : HA := if prB cls mood th (((m : Int) - 1) % 2) (dealF x) m then (a.1 + 1, a.2.1 + (if sumN (gpW cls mood th (((m : Int) - 1) % 2) (dealF x)) m < need then 0 else 1), gtr a.2.2 (absI (leanN (dealF x) m))) else a
def hdN (cls : List Cl) (mood th need : Int) (m : Nat) (seed : Int) : Nat → HA
  | 0 => (0, 0, -1)
  | h + 1 => hstep cls mood th need m (hdN cls mood th need m seed h) (lcgI seed (m * h))
theorem hdN_bd {cls : List Cl} {mood th need : Int} {m : Nat} {seed : Int} : ∀ h, (0 ≤ (hdN cls mood th need m seed h).1 ∧ (hdN cls mood th need m seed h).1 ≤ h) ∧ (0 ≤ (hdN cls mood th need m seed h).2.1 ∧ (hdN cls mood th need m seed h).2.1 ≤ h)
  | 0 => by simp [hdN]
  | h + 1 => by
    have ih := hdN_bd (cls := cls) (mood := mood) (th := th) (need := need) (m := m) (seed := seed) h
    rw [hdN]
    unfold hstep
    split
    · dsimp only
      split <;> omega
    · omega
def QH (cls : List Cl) (mood th : Int) (s0 s : St) : Prop := ShM s ∧ Fa (125 :: scr) s0 s ∧ Rt cls mood th 288 s
section MH
variable {d : Nat} {s s0 : St} {n m : Nat} {th mood : Int} {cls : List Cl}
theorem m_draws {x k : Int} (hs : ShM s) (hx : gF s 98 62 = x) (hb : 0 ≤ x ∧ x < 1000003) (hk : k = 2 ∨ k = 3) : X12_draws d s 98 k = some ([(0, lcg x % k)], sF s 98 62 (lcg x)) := by
  have hl := lcg_bd x
  have e1 : Int.tmod (1103 * x + 12345) 1000003 = lcg x := tmn (by omega)
  have e2 : Int.tmod (lcg x) k = lcg x % k := tmn hl.1
  rw [e_X12_draws]
  simp (disch := ((try simp only [kd_sF, kd_sA, gA_sF, gA_sA, gF_sF, gF_sA, List.length_set, reduceIte, and_true, and_false, true_and, false_and, Nat.reduceEqDiff, Int.reduceEq, hs.kd, hs.ln, hs.fs, kMs, lMs]); first | done | omega)) only [rF_ok, wF_ok, oK_ok, lA_ok, rA_ok, wA_ok, cI_ok, cV_ok, cL_ok, cR_ok, kd_sF, kd_sA, gA_sF, gF_sA, gF_sF, gA_sA, bk_0, bk_1, List.length_set, reduceIte, and_true, and_false, true_and, false_and, ne_eq, not_true_eq_false, not_false_eq_true, Int.toNat_natCast, Int.reduceToNat, Nat.reduceEqDiff, Int.reduceEq, Int.reduceLT, Int.reduceLE, Int.reduceAdd, Int.reduceSub, Int.reduceMul, Int.reduceNeg, hs.kd, hs.ln, hs.fs, kMs, lMs, hx, wl_sm, e1, wi_sm, if_neg (show ¬ (k = 0) by omega), e2]
theorem QH.sF {k : Nat} {v : Int} (h : QH cls mood th s0 s) (hk : finM.all (fun x => !(x == k)) = true) : QH cls mood th s0 (sF s 98 k v) := ⟨h.1.sF hk, h.2.1, h.2.2⟩
theorem QH.fa {s' : St} {P : List Int} (h : QH cls mood th s0 s) (hs : ShM s') (hF : Fa P s s') (hP : P.all (fun x => (125 :: scr).any fun y => y == x) = true) (hP2 : (115 : Int) ∉ P ∧ (116 : Int) ∉ P ∧ (117 : Int) ∉ P) : QH cls mood th s0 s' := ⟨hs, h.2.1.tr (hF.mono hP), h.2.2.fa hF hP2⟩
theorem m_h89 {T : Res → Prop} {x a h : Int} (I : QH cls mood th s0 s) (hm : 3 ≤ m ∧ m ≤ 12) (hx : 0 ≤ x ∧ x < 1000003) (h62 : gF s 98 62 = lcgI x 1) (h0 : pf s 0 = dealF x 0) (hT : ∀ s', QH cls mood th s0 s' → (∀ j, j ≠ 62 → gF s' 98 j = gF s 98 j) → gF s' 98 62 = lcgI x m → (∀ k, k < m → pf s' k = dealF x k) → Gl T (X12_hands_128 (d + 1) s' 98 n m a h 0)) : Gl T (X12_hands_89 (d + 1) s 98 n m a h 1) := by
  refine lpG (fun k s1 => X12_hands_89 (d + 1) s1 98 n m a h k) (fun k s1 => 1 ≤ k ∧ QH cls mood th s0 s1 ∧ (∀ j, j ≠ 62 → gF s1 98 j = gF s 98 j) ∧ gF s1 98 62 = lcgI x k ∧ ∀ i, i < k → pf s1 i = dealF x i) m ?_ ?_ 1 s (by omega) ⟨by omega, I, fun _ _ => rfl, h62, fun i hi => by rw [show i = 0 by omega]; exact h0⟩
  · intro T k s1 hk ⟨i0, i1, i2, i3, i4⟩ hT1
    have hs1 := i1.1
    have l112 : (gA s1 112).length = 13 := hs1.ln 112
    obtain ⟨p, rfl⟩ : ∃ p, k = p + 1 := ⟨k - 1, by omega⟩
    have e1 : (((p + 1 : Nat) : Int) - 1).toNat = p := by omega
    have e2 : (gA s1 112).getD p 0 = dealF x p := i4 p (by omega)
    rw [e_X12_hands_89, if_pos (by omega)]
    simp (disch := ((try simp only [kd_sF, kd_sA, gA_sF, gA_sA, gF_sF, gF_sA, List.length_set, reduceIte, and_true, and_false, true_and, false_and, Nat.reduceEqDiff, Int.reduceEq, hs1.kd, hs1.ln, hs1.fs, kMs, lMs]); first | done | omega)) only [rF_ok, wF_ok, oK_ok, lA_ok, rA_ok, wA_ok, cI_ok, cV_ok, cL_ok, cR_ok, kd_sF, kd_sA, gA_sF, gF_sA, gF_sF, gA_sA, bk_0, bk_1, List.length_set, reduceIte, and_true, and_false, true_and, false_and, ne_eq, not_true_eq_false, not_false_eq_true, Int.toNat_natCast, Int.reduceToNat, Nat.reduceEqDiff, Int.reduceEq, Int.reduceLT, Int.reduceLE, Int.reduceAdd, Int.reduceSub, Int.reduceMul, Int.reduceNeg, hs1.kd, hs1.ln, hs1.fs, kMs, lMs, wi_sm, e1, e2, m_draws hs1 i3 (lcgI_bd hx (p + 1)) (Or.inl rfl), m_following]
    refine hT1 _ ⟨by omega, (i1.sF (by decide)).fa ((hs1.sF (by decide)).sA (by rw [List.length_set]; rfl)) (Fa.sA (P := [112]) _ (by decide)) (by decide) (by decide), fun j hj => (gF_nk hj).trans (i2 j hj), rfl, fun i hi => ?_⟩
    unfold pf
    rw [gA_eq]
    show ((gA s1 112).set ((p + 1 : Nat) : Int).toNat _).getD i 0 = _
    rw [show ((p + 1 : Nat) : Int).toNat = p + 1 by omega, setD_getD (by omega)]
    by_cases e : p + 1 = i
    · rw [if_pos e, ← e]; rfl
    · rw [if_neg e]; exact i4 i (by omega)
  · intro s1 ⟨i0, i1, i2, i3, i4⟩
    rw [e_X12_hands_89, if_neg (by omega)]
    exact hT s1 i1 i2 i3 i4
theorem m_h128 {T : Res → Prop} {x h : Int} {a : HA} (hm : 3 ≤ m ∧ m ≤ 12) (hh : 0 ≤ h ∧ h < 1000) (ha : 0 ≤ a.1 ∧ a.1 < 1000 ∧ 0 ≤ a.2.1 ∧ a.2.1 < 1000) (I : QH cls mood th s0 s) (h29 : gF s 98 29 = m) (h27 : gF s 98 27 = ((m : Int) - 1) % 2) (h60 : gF s 98 60 = a.2.1) (h61 : gF s 98 61 = a.2.2) (hp : ∀ k, k < m → pf s k = dealF x k)
    (hT : ∀ (s' : St) (a' : HA), QH cls mood th s0 s' → (∀ j, j ≠ 60 → j ≠ 61 → gF s' 98 j = gF s 98 j) → a' = hstep cls mood th ((gA s0 100).getD 168 0) m a x → gF s' 98 60 = a'.2.1 → gF s' 98 61 = a'.2.2 → (∀ k, k < m → (gA s' 125).getD k 0 = dealF x k) → Gl T (X12_hands_63 (d + 3) s' 98 n m a'.1 (h + 1))) : Gl T (X12_hands_128 (d + 3) s 98 n m a.1 h 0) := by
  refine lpG (fun k s1 => X12_hands_128 (d + 3) s1 98 n m a.1 h k) (fun k s1 => QH cls mood th s0 s1 ∧ (∀ j, gF s1 98 j = gF s 98 j) ∧ (∀ i, i < m → pf s1 i = dealF x i) ∧ ∀ i, i < k → (gA s1 125).getD i 0 = dealF x i) m ?_ ?_ 0 s (by omega) ⟨I, fun _ => rfl, hp, fun i hi => by omega⟩
  · intro T k s1 hk ⟨i1, i2, i3, i4⟩ hT1
    have hs1 := i1.1
    have l125 : (gA s1 125).length = 12 := hs1.ln 125
    have e2 : (gA s1 112).getD k 0 = dealF x k := i3 k hk
    rw [e_X12_hands_128, if_pos (by omega)]
    simp (disch := ((try simp only [kd_sF, kd_sA, gA_sF, gA_sA, gF_sF, gF_sA, List.length_set, reduceIte, and_true, and_false, true_and, false_and, Nat.reduceEqDiff, Int.reduceEq, hs1.kd, hs1.ln, hs1.fs, kMs, lMs]); first | done | omega)) only [rF_ok, wF_ok, oK_ok, lA_ok, rA_ok, wA_ok, cI_ok, cV_ok, cL_ok, cR_ok, kd_sF, kd_sA, gA_sF, gF_sA, gF_sF, gA_sA, bk_0, bk_1, List.length_set, reduceIte, and_true, and_false, true_and, false_and, ne_eq, not_true_eq_false, not_false_eq_true, Int.toNat_natCast, Int.reduceToNat, Nat.reduceEqDiff, Int.reduceEq, Int.reduceLT, Int.reduceLE, Int.reduceAdd, Int.reduceSub, Int.reduceMul, Int.reduceNeg, hs1.kd, hs1.ln, hs1.fs, kMs, lMs, wi_sm, e2]
    refine hT1 _ ⟨i1.fa (hs1.sA (by rw [List.length_set])) (Fa.sA (P := [125]) _ (by decide)) (by decide) (by decide), i2, i3, fun i hi => ?_⟩
    rw [gA_eq, setD_getD (by omega)]
    by_cases e : k = i
    · rw [if_pos e, ← e]
    · rw [if_neg e]; exact i4 i (by omega)
  · intro s1 ⟨i1, i2, i3, i4⟩
    have hs1 := i1.1
    have hpl : ∀ k, k < m → pl3 (pf s1 k) := fun k hk => by rw [i3 k hk]; exact dealF_pl x k
    have g29 : gF s1 98 29 = m := (i2 29).trans h29
    have g27 : gF s1 98 27 = ((m : Int) - 1) % 2 := (i2 27).trans h27
    have e100 : gA s1 100 = gA s0 100 := i1.2.1 100 (by decide)
    have mp := m_isProper (d := d) hs1 g29 hm.2 g27 (by omega) hpl i1.2.2
    rw [prB_congr i3] at mp
    have mg := m_gripsWord (d := d) hs1 g29 hm.2 g27 (by omega) hpl i1.2.2
    have eg : sumN (gpW cls mood th (((m : Int) - 1) % 2) (pf s1)) m = sumN (gpW cls mood th (((m : Int) - 1) % 2) (dealF x)) m := sumN_congr fun k hk => gpW_congr fun j hj => i3 j (by omega)
    rw [eg] at mg
    have hlb := leanN_bd (dealF x) m
    rw [e_X12_hands_128, if_neg (by omega)]
    simp (disch := ((try simp only [kd_sF, kd_sA, gA_sF, gA_sA, gF_sF, gF_sA, List.length_set, reduceIte, and_true, and_false, true_and, false_and, Nat.reduceEqDiff, Int.reduceEq, hs1.kd, hs1.ln, hs1.fs, kMs, lMs]); first | done | omega)) only [rF_ok, wF_ok, oK_ok, lA_ok, rA_ok, wA_ok, cI_ok, cV_ok, cL_ok, cR_ok, kd_sF, kd_sA, gA_sF, gF_sA, gF_sF, gA_sA, bk_0, bk_1, List.length_set, reduceIte, and_true, and_false, true_and, false_and, ne_eq, not_true_eq_false, not_false_eq_true, Int.toNat_natCast, Int.reduceToNat, Nat.reduceEqDiff, Int.reduceEq, Int.reduceLT, Int.reduceLE, Int.reduceAdd, Int.reduceSub, Int.reduceMul, Int.reduceNeg, hs1.kd, hs1.ln, hs1.fs, kMs, lMs, mp]
    have hw : wi (h + 1) = h + 1 := wi_sm (by omega) (by omega)
    cases hpr : prB cls mood th (((m : Int) - 1) % 2) (dealF x) m with
    | false =>
      simp only [Bool.false_eq_true, reduceIte]
      rw [hw]
      refine hT s1 a i1 (fun j _ _ => i2 j) ?_ ((i2 60).trans h60) ((i2 61).trans h61) i4
      unfold hstep
      rw [hpr]
      rfl
    | true =>
      simp only [reduceIte, Int.reduceEq]
      have g60 : gF s1 98 60 = a.2.1 := (i2 60).trans h60
      have g61 : gF s1 98 61 = a.2.2 := (i2 61).trans h61
      have ml : ∀ v : Int, X12_leans (d + 2) (sF s1 98 60 v) 98 = some ([(0, leanN (dealF x) m)], sF s1 98 60 v) := fun v => by
        rw [m_leans (s := sF s1 98 60 v) (n := m) (hs1.sF (by decide)) g29 (by omega)]
        have : leanN (pf (sF s1 98 60 v)) m = leanN (dealF x) m := leanN_congr i3
        rw [this]
      have hst : hstep cls mood th ((gA s0 100).getD 168 0) m a x = (a.1 + 1, a.2.1 + (if sumN (gpW cls mood th (((m : Int) - 1) % 2) (dealF x)) m < (gA s0 100).getD 168 0 then 0 else 1), gtr a.2.2 (absI (leanN (dealF x) m))) := by
        unfold hstep; rw [hpr]; rfl
      simp (disch := ((try simp only [kd_sF, kd_sA, gA_sF, gA_sA, gF_sF, gF_sA, List.length_set, reduceIte, and_true, and_false, true_and, false_and, Nat.reduceEqDiff, Int.reduceEq, hs1.kd, hs1.ln, hs1.fs, kMs, lMs]); first | done | omega)) only [rF_ok, wF_ok, oK_ok, lA_ok, rA_ok, wA_ok, cI_ok, cV_ok, cL_ok, cR_ok, kd_sF, kd_sA, gA_sF, gF_sA, gF_sF, gA_sA, bk_0, bk_1, List.length_set, reduceIte, and_true, and_false, true_and, false_and, ne_eq, not_true_eq_false, not_false_eq_true, Int.toNat_natCast, Int.reduceToNat, Nat.reduceEqDiff, Int.reduceEq, Int.reduceLT, Int.reduceLE, Int.reduceAdd, Int.reduceSub, Int.reduceMul, Int.reduceNeg, hs1.kd, hs1.ln, hs1.fs, kMs, lMs, mg, e100, g60]
      by_cases k1 : sumN (gpW cls mood th (((m : Int) - 1) % 2) (dealF x)) m < (gA s0 100).getD 168 0
      · rw [if_pos k1]
        rw [if_pos k1] at hst
        simp (disch := ((try simp only [kd_sF, kd_sA, gA_sF, gA_sA, gF_sF, gF_sA, List.length_set, reduceIte, and_true, and_false, true_and, false_and, Nat.reduceEqDiff, Int.reduceEq, hs1.kd, hs1.ln, hs1.fs, kMs, lMs]); first | done | omega)) only [rF_ok, wF_ok, oK_ok, lA_ok, rA_ok, wA_ok, cI_ok, cV_ok, cL_ok, cR_ok, kd_sF, kd_sA, gA_sF, gF_sA, gF_sF, gA_sA, bk_0, bk_1, List.length_set, reduceIte, and_true, and_false, true_and, false_and, ne_eq, not_true_eq_false, not_false_eq_true, Int.toNat_natCast, Int.reduceToNat, Nat.reduceEqDiff, Int.reduceEq, Int.reduceLT, Int.reduceLE, Int.reduceAdd, Int.reduceSub, Int.reduceMul, Int.reduceNeg, hs1.kd, hs1.ln, hs1.fs, kMs, lMs, ml, g61, m_size0 (show -1000 ≤ leanN (dealF x) m ∧ leanN (dealF x) m ≤ 1000 by omega), m_greater, wi_sm]
        exact hT _ (a.1 + 1, a.2.1 + 0, gtr a.2.2 (absI (leanN (dealF x) m))) ((i1.sF (by decide)).sF (by decide)) (fun j h1 h2 => (gF_nk h2).trans ((gF_nk h1).trans (i2 j))) hst.symm rfl rfl i4
      · rw [if_neg k1]
        rw [if_neg k1] at hst
        simp (disch := ((try simp only [kd_sF, kd_sA, gA_sF, gA_sA, gF_sF, gF_sA, List.length_set, reduceIte, and_true, and_false, true_and, false_and, Nat.reduceEqDiff, Int.reduceEq, hs1.kd, hs1.ln, hs1.fs, kMs, lMs]); first | done | omega)) only [rF_ok, wF_ok, oK_ok, lA_ok, rA_ok, wA_ok, cI_ok, cV_ok, cL_ok, cR_ok, kd_sF, kd_sA, gA_sF, gF_sA, gF_sF, gA_sA, bk_0, bk_1, List.length_set, reduceIte, and_true, and_false, true_and, false_and, ne_eq, not_true_eq_false, not_false_eq_true, Int.toNat_natCast, Int.reduceToNat, Nat.reduceEqDiff, Int.reduceEq, Int.reduceLT, Int.reduceLE, Int.reduceAdd, Int.reduceSub, Int.reduceMul, Int.reduceNeg, hs1.kd, hs1.ln, hs1.fs, kMs, lMs, ml, g61, m_size0 (show -1000 ≤ leanN (dealF x) m ∧ leanN (dealF x) m ≤ 1000 by omega), m_greater, wi_sm]
        exact hT _ (a.1 + 1, a.2.1 + 1, gtr a.2.2 (absI (leanN (dealF x) m))) ((i1.sF (by decide)).sF (by decide)) (fun j h1 h2 => (gF_nk h2).trans ((gF_nk h1).trans (i2 j))) hst.symm rfl rfl i4
theorem m_hands {seed : Int} (hs : ShM s) (hB : BK (gA s 100)) (hsd : 0 ≤ seed ∧ seed ≤ 1000000) (hn : 1 ≤ n ∧ n ≤ 100) (hm : 3 ≤ m ∧ m ≤ 12) : Gl (GI fun r s' => Fa (125 :: scr) s s' ∧ r = (hdN (clsK (gA s 100)) ((gA s 100).getD 167 0) ((gA s 100).getD 169 0) ((gA s 100).getD 168 0) m seed n).1 ∧ gF s' 98 0 = 0 ∧ gF s' 98 59 = m ∧ gF s' 98 60 = (hdN (clsK (gA s 100)) ((gA s 100).getD 167 0) ((gA s 100).getD 169 0) ((gA s 100).getD 168 0) m seed n).2.1 ∧ gF s' 98 61 = (hdN (clsK (gA s 100)) ((gA s 100).getD 167 0) ((gA s 100).getD 169 0) ((gA s 100).getD 168 0) m seed n).2.2 ∧ ∀ k, k < m → (gA s' 125).getD k 0 = dealF (lcgI seed (m * (n - 1))) k) (X12_hands (d + 48) s 98 seed n m) := by
  rw [e_X12_hands]
  simp (disch := ((try simp only [kd_sF, kd_sA, gA_sF, gA_sA, gF_sF, gF_sA, List.length_set, reduceIte, and_true, and_false, true_and, false_and, Nat.reduceEqDiff, Int.reduceEq, hs.kd, hs.ln, hs.fs, kMs, lMs]); first | done | omega)) only [rF_ok, wF_ok, oK_ok, lA_ok, rA_ok, wA_ok, cI_ok, cV_ok, cL_ok, cR_ok, kd_sF, kd_sA, gA_sF, gF_sA, gF_sF, gA_sA, bk_0, bk_1, List.length_set, reduceIte, and_true, and_false, true_and, false_and, ne_eq, not_true_eq_false, not_false_eq_true, Int.toNat_natCast, Int.reduceToNat, Nat.reduceEqDiff, Int.reduceEq, Int.reduceLT, Int.reduceLE, Int.reduceAdd, Int.reduceSub, Int.reduceMul, Int.reduceNeg, hs.kd, hs.ln, hs.fs, kMs, lMs, m_lies1 hsd.1 hsd.2, m_lies1 (show 1 ≤ (n : Int) by omega) (show (n : Int) ≤ 100 by omega), m_isLong1 (show 3 ≤ (m : Int) ∧ (m : Int) ≤ 12 by omega)]
  refine m_ask hs hB fun s1 h1 I => ?_
  generalize clsK (gA s 100) = cls at *
  generalize (gA s 100).getD 167 0 = mood at *
  generalize (gA s 100).getD 169 0 = th at *
  have hs1 := I.1
  simp (disch := ((try simp only [kd_sF, kd_sA, gA_sF, gA_sA, gF_sF, gF_sA, List.length_set, reduceIte, and_true, and_false, true_and, false_and, Nat.reduceEqDiff, Int.reduceEq, hs1.kd, hs1.ln, hs1.fs, kMs, lMs]); first | done | omega)) only [rF_ok, wF_ok, oK_ok, lA_ok, rA_ok, wA_ok, cI_ok, cV_ok, cL_ok, cR_ok, kd_sF, kd_sA, gA_sF, gF_sA, gF_sF, gA_sA, bk_0, bk_1, List.length_set, reduceIte, and_true, and_false, true_and, false_and, ne_eq, not_true_eq_false, not_false_eq_true, Int.toNat_natCast, Int.reduceToNat, Nat.reduceEqDiff, Int.reduceEq, Int.reduceLT, Int.reduceLE, Int.reduceAdd, Int.reduceSub, Int.reduceMul, Int.reduceNeg, hs1.kd, hs1.ln, hs1.fs, kMs, lMs]
  have IH : QH cls mood th s s1 := ⟨I.1, I.2.1.mono (by decide), I.2.2⟩
  refine lpG (fun h (q : St × HA) => X12_hands_63 (d + 48) q.1 98 n m q.2.1 h) (fun h q => QH cls mood th s q.1 ∧ q.2 = hdN cls mood th ((gA s 100).getD 168 0) m seed h ∧ gF q.1 98 62 = lcgI seed (m * h) ∧ gF q.1 98 59 = m ∧ gF q.1 98 60 = q.2.2.1 ∧ gF q.1 98 61 = q.2.2.2 ∧ (1 ≤ h → ∀ k, k < m → (gA q.1 125).getD k 0 = dealF (lcgI seed (m * (h - 1))) k)) n ?_ ?_ 0 (_, (0, 0, -1)) (by omega) ⟨(((IH.sF (by decide)).sF (by decide)).sF (by decide)).sF (by decide), rfl, rfl, rfl, rfl, rfl, fun q => by omega⟩
  · intro T h ⟨s2, a⟩ hh ⟨I2, ha, h62, h59, h60, h61, h125⟩ hT
    dsimp only at I2 ha h62 h59 h60 h61 ⊢
    have hs2 := I2.1
    have hbd := hdN_bd (cls := cls) (mood := mood) (th := th) (need := (gA s 100).getD 168 0) (m := m) (seed := seed) h
    rw [← ha] at hbd
    have hxb := lcgI_bd (x := seed) (by omega) (m * h)
    rw [e_X12_hands_63, if_pos (by omega)]
    simp (disch := ((try simp only [kd_sF, kd_sA, gA_sF, gA_sA, gF_sF, gF_sA, List.length_set, reduceIte, and_true, and_false, true_and, false_and, Nat.reduceEqDiff, Int.reduceEq, hs2.kd, hs2.ln, hs2.fs, kMs, lMs]); first | done | omega)) only [rF_ok, wF_ok, oK_ok, lA_ok, rA_ok, wA_ok, cI_ok, cV_ok, cL_ok, cR_ok, kd_sF, kd_sA, gA_sF, gF_sA, gF_sF, gA_sA, bk_0, bk_1, List.length_set, reduceIte, and_true, and_false, true_and, false_and, ne_eq, not_true_eq_false, not_false_eq_true, Int.toNat_natCast, Int.reduceToNat, Nat.reduceEqDiff, Int.reduceEq, Int.reduceLT, Int.reduceLE, Int.reduceAdd, Int.reduceSub, Int.reduceMul, Int.reduceNeg, hs2.kd, hs2.ln, hs2.fs, kMs, lMs]
    have mo := m_opens (d := d + 46) (n := m) (w := 0) hs2 (by omega) (by have : 0 < 2 ^ (m - 1) := Nat.two_pow_pos _; omega)
    refine biV mo fun s3 h3 ⟨q1, q2, q3, q4, q5⟩ => ?_
    have hs3 := hs2.ev h3 rfl
    have I3 : QH cls mood th s s3 := I2.fa hs3 q1 (by decide) (by decide)
    have f62 : gF s3 98 62 = lcgI seed (m * h) := (hs2.gf h3 rfl rfl).trans h62
    have l112 : (gA s3 112).length = 13 := hs3.ln 112
    simp (disch := ((try simp only [kd_sF, kd_sA, gA_sF, gA_sA, gF_sF, gF_sA, List.length_set, reduceIte, and_true, and_false, true_and, false_and, Nat.reduceEqDiff, Int.reduceEq, hs3.kd, hs3.ln, hs3.fs, kMs, lMs]); first | done | omega)) only [rF_ok, wF_ok, oK_ok, lA_ok, rA_ok, wA_ok, cI_ok, cV_ok, cL_ok, cR_ok, kd_sF, kd_sA, gA_sF, gF_sA, gF_sF, gA_sA, bk_0, bk_1, List.length_set, reduceIte, and_true, and_false, true_and, false_and, ne_eq, not_true_eq_false, not_false_eq_true, Int.toNat_natCast, Int.reduceToNat, Nat.reduceEqDiff, Int.reduceEq, Int.reduceLT, Int.reduceLE, Int.reduceAdd, Int.reduceSub, Int.reduceMul, Int.reduceNeg, hs3.kd, hs3.ln, hs3.fs, kMs, lMs, m_draws hs3 f62 hxb (Or.inr rfl)]
    refine m_h89 (x := lcgI seed (m * h)) ((I3.sF (by decide)).fa ((hs3.sF (by decide)).sA (by rw [List.length_set]; rfl)) (Fa.sA (P := [112]) _ (by decide)) (by decide) (by decide)) hm hxb rfl (by unfold pf; rw [gA_eq]; exact set_eq (by show 0 < (gA s3 112).length; omega)) fun s4 I4 k2 k3 k4 => ?_
    have f59 : gF s3 98 59 = m := (hs2.gf h3 rfl rfl).trans h59
    have f60 : gF s3 98 60 = a.2.1 := (hs2.gf h3 rfl rfl).trans h60
    have f61 : gF s3 98 61 = a.2.2 := (hs2.gf h3 rfl rfl).trans h61
    refine m_h128 (x := lcgI seed (m * h)) hm (by omega) (by omega) I4 ((k2 29 (by decide)).trans q2) ((k2 27 (by decide)).trans q3) ((k2 60 (by decide)).trans f60) ((k2 61 (by decide)).trans f61) k4 fun s5 a5 I5 g2 g3 g4 g5 g6 => ?_
    refine hT (s5, a5) ⟨I5, by rw [hdN, ← ha]; exact g3, ?_, (g2 59 (by decide) (by decide)).trans ((k2 59 (by decide)).trans f59), g4, g5, fun _ => g6⟩
    show gF s5 98 62 = _
    rw [g2 62 (by decide) (by decide), k3, Nat.mul_succ, lcgI_add]
  · intro ⟨s2, a⟩ ⟨I2, ha, h62, h59, h60, h61, h125⟩
    dsimp only at I2 ha h62 h59 h60 h61 ⊢
    have hs2 := I2.1
    rw [e_X12_hands_63, if_neg (by omega)]
    simp (disch := ((try simp only [kd_sF, kd_sA, gA_sF, gA_sA, gF_sF, gF_sA, List.length_set, reduceIte, and_true, and_false, true_and, false_and, Nat.reduceEqDiff, Int.reduceEq, hs2.kd, hs2.ln, hs2.fs, kMs, lMs]); first | done | omega)) only [rF_ok, wF_ok, oK_ok, lA_ok, rA_ok, wA_ok, cI_ok, cV_ok, cL_ok, cR_ok, kd_sF, kd_sA, gA_sF, gF_sA, gF_sF, gA_sA, bk_0, bk_1, List.length_set, reduceIte, and_true, and_false, true_and, false_and, ne_eq, not_true_eq_false, not_false_eq_true, Int.toNat_natCast, Int.reduceToNat, Nat.reduceEqDiff, Int.reduceEq, Int.reduceLT, Int.reduceLE, Int.reduceAdd, Int.reduceSub, Int.reduceMul, Int.reduceNeg, hs2.kd, hs2.ln, hs2.fs, kMs, lMs, e_X12_good]
    refine reI ⟨I2.2.1, by rw [ha], rfl, h59, by rw [← ha]; exact h60, by rw [← ha]; exact h61, h125 (by omega)⟩
end MH
