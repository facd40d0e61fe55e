/-! ===== the class's paper: all proper words of a length, kept in their order ===== -/
def SLn (n : Nat) : Nat := 2 ^ (n - 2) - 2
theorem SLn_bd : ∀ n, n < 13 → 3 ≤ n → 2 ≤ 2 ^ (n - 2) ∧ SLn n + 2 ^ (n - 2) ≤ 2046 := by decide +kernel
section CX
variable {cls : List Cl} {mood th : Int} {n : Nat} {s0 s : St} {d : Nat}
theorem c_firstSlot (hn : 3 ≤ n ∧ n ≤ 12) : X4_firstSlot d s n = some ([(0, (SLn n : Int))], s) := by
  have hb := SLn_bd n (by omega) hn.1
  rw [e_X4_firstSlot, wi_sm (x := (n : Int) - 2) (by omega) (by omega), show (n : Int) - 2 = ((n - 2 : Nat) : Int) by omega, show (1 : Int) = ((1 : Nat) : Int) from rfl, shl_n (by omega) (by omega), Nat.one_mul, wi_sm (by omega) (by omega)]
  unfold SLn
  rw [show ((2 ^ (n - 2) : Nat) : Int) - 2 = ((2 ^ (n - 2) - 2 : Nat) : Int) by omega]
/-- the words L of n moves stand in their slots; all else of the paper as in s0 -/
def EI (cls : List Cl) (mood th : Int) (s0 : St) (n : Nat) (L : List Nat) (s : St) : Prop := ShC s ∧ FrX [83, 84, 85, 86] s0 s ∧ (∀ j, j ≠ n → (gA s 83).getD j 0 = (gA s0 83).getD j 0) ∧ (gA s 83).getD n 0 = L.length ∧ (∀ i, i < SLn n ∨ SLn n + 2 ^ (n - 2) ≤ i → (gA s 84).getD i 0 = (gA s0 84).getD i 0 ∧ (gA s 85).getD i 0 = (gA s0 85).getD i 0 ∧ (gA s 86).getD i 0 = (gA s0 86).getD i 0) ∧ ∀ i, i < L.length → (gA s 84).getD (SLn n + i) 0 = w4p (plN n (L.getD i 0)) n ∧ (gA s 85).getD (SLn n + i) 0 = tkS cls mood th n (L.getD i 0) ∧ (gA s 86).getD (SLn n + i) 0 = gpS cls mood th n (L.getD i 0)
theorem c_keep {L : List Nat} {u : Nat} (hn : 3 ≤ n ∧ n ≤ 12) (I : EI cls mood th s0 n L s) (hL : L.length < 2 ^ (n - 2)) : Gl (GV fun s' => EI cls mood th s0 n (L ++ [u]) s') (X4_keep (d + 1) s 78 n (w4p (plN n u) n) (tkS cls mood th n u) (gpS cls mood th n u)) := by
  obtain ⟨hs, i2, i3, i4, i5, i6⟩ := I
  have hb := SLn_bd n (by omega) hn.1
  have l83 : (gA s 83).length = 13 := hs.2.1 83 (by decide) (by decide)
  have l84 : (gA s 84).length = 2046 := hs.2.1 84 (by decide) (by decide)
  have l85 : (gA s 85).length = 2046 := hs.2.1 85 (by decide) (by decide)
  have l86 : (gA s 86).length = 2046 := hs.2.1 86 (by decide) (by decide)
  have e1 : ((SLn n : Int) + L.length).toNat = SLn n + L.length := by omega
  rw [e_X4_keep]
  simp (disch := ((try simp only [kd_sF, kd_sA, gA_sF, gA_sA, gF_sF, gF_sA, List.length_set, reduceIte, and_true, and_false, true_and, false_and, Nat.reduceEqDiff, Int.reduceEq, hs.o78]); first | done | omega)) only [rF_ok, wF_ok, oK_ok, lA_ok, rA_ok, wA_ok, cI_ok, cV_ok, cL_ok, cR_ok, kd_sF, kd_sA, gA_sF, gF_sA, gF_sF, gA_sA, bk_0, bk_1, List.length_set, reduceIte, and_true, and_false, true_and, false_and, ne_eq, not_true_eq_false, not_false_eq_true, Int.toNat_natCast, Int.reduceToNat, Nat.reduceEqDiff, Int.reduceEq, Int.reduceLT, Int.reduceLE, Int.reduceAdd, Int.reduceSub, Int.reduceMul, Int.reduceNeg, hs.o78, c_firstSlot hn, i4, wi_sm, if_pos (show (SLn n : Int) + L.length < 2046 by omega), e1]
  have k84 : kd s 84 = 20 := hs.1 84 (by decide) (by decide)
  have k85 : kd s 85 = 20 := hs.1 85 (by decide) (by decide)
  have k86 : kd s 86 = 20 := hs.1 86 (by decide) (by decide)
  have k83 : kd s 83 = 20 := hs.1 83 (by decide) (by decide)
  refine reV ⟨?_, ?_, ?_, ?_, ?_, ?_⟩
  · refine (((hs.sA (by rw [List.length_set]) (by rw [k84]; decide)).sA (by rw [List.length_set]; rfl) (by show kd s 85 ≠ 24; rw [k85]; decide)).sA (by rw [List.length_set]; rfl) (by show kd s 86 ≠ 24; rw [k86]; decide)).sA (by rw [List.length_set]; rfl) (by show kd s 83 ≠ 24; rw [k83]; decide)
  · exact i2.tr ((((FrX.sA _ (by decide)).tr (FrX.sA _ (by decide))).tr (FrX.sA _ (by decide))).tr (FrX.sA _ (by decide)))
  · intro j hj
    simp only [gA_sA, reduceIte, Int.reduceEq]
    rw [set_ne (by omega)]
    exact i3 j hj
  · simp only [gA_sA, reduceIte, Int.reduceEq]
    rw [set_eq (by omega), List.length_append, List.length_singleton]
    omega
  · intro i hi
    simp only [gA_sA, reduceIte, Int.reduceEq]
    rw [set_ne (by omega), set_ne (by omega), set_ne (by omega)]
    exact i5 i hi
  · intro i hi
    rw [List.length_append, List.length_singleton] at hi
    simp only [gA_sA, reduceIte, Int.reduceEq]
    rw [setD_getD (by omega), setD_getD (by omega), setD_getD (by omega)]
    by_cases e : i = L.length
    · rw [if_pos (by omega), if_pos (by omega), if_pos (by omega)]
      have : (L ++ [u]).getD i 0 = u := by
        have := gd_r (x := L) (y := [u]) (i := 0) (a := 0)
        rw [Nat.add_zero] at this
        rw [e, this]
        rfl
      rw [this]
      exact ⟨rfl, rfl, rfl⟩
    · rw [if_neg (by omega), if_neg (by omega), if_neg (by omega), gd_l (by omega)]
      exact i6 i (by omega)
theorem c_mayStand {a m : Nat} {p : Int} (ha : a + m + 1 = n) (hn : n ≤ 12) : X4_mayStand d s n a p = some ([(0, if okP m p then 1 else 0)], s) := by
  rw [e_X4_mayStand, wi_sm (x := (n : Int) - 1) (by omega) (by omega), wi_sm (x := (n : Int) - 3) (by omega) (by omega)]
  unfold okP
  by_cases h0 : m = 0
  · rw [if_pos (by omega), if_pos h0]
    by_cases hp : p = 2
    · rw [if_pos hp, decide_eq_true hp]; rfl
    · rw [if_neg hp, decide_eq_false hp]; rfl
  · rw [if_neg (by omega), if_neg h0]
    by_cases h2 : m ≤ 2
    · rw [if_neg (by omega), if_pos h2]
      by_cases hp : p = 2
      · rw [if_pos hp, decide_eq_false (by simp [hp])]; rfl
      · rw [if_neg hp, decide_eq_true hp]; rfl
    · rw [if_pos (by omega), if_neg h2]; rfl
/-- all moves of the prefix can be -/
def GdP (cls : List Cl) (mood th : Int) (n a : Nat) (f : Nat → Int) : Prop := ∀ k, k < a → okP (n - 1 - k) (f k) = true ∧ brW cls mood th (((n : Int) - 1) % 2) f k = 0
set_option maxHeartbeats 4000000 in
/-- one more place: a child u1 of the prefix, whose place there is p -/
theorem c_extb {a m u1 : Nat} {p bef word tk gp : Int} {L : List Nat} (hn : 3 ≤ n ∧ n ≤ 12) (ha : a + m + 1 = n) (hth : 0 ≤ th ∧ th ≤ 9) (hu : u1 < WN (a + 1)) (hp : plN (a + 1) u1 a = p) (hbef : bef = if a = 0 then -1 else plN (a + 1) u1 (a - 1)) (hbw : (if (a : Int) = 0 then -1 else andI word 3) = bef) (hne : p ≠ bef) (hG : GdP cls mood th n a (plN (a + 1) u1)) (hw : word = w4p (plN (a + 1) u1) a) (htk : tk = sumN (tkW cls mood th (((n : Int) - 1) % 2) (plN (a + 1) u1)) a) (hgp : gp = sumN (gpW cls mood th (((n : Int) - 1) % 2) (plN (a + 1) u1)) a)
    (hR : RtC cls mood th ((n - 1) % 2) 144 s0) (I : EI cls mood th s0 n L s) (hL : L.length + (if okP m p = true then gN m p else 0) ≤ 2 ^ (n - 2))
    (hIH : GdP cls mood th n (a + 1) (plN (a + 1) u1) → L.length + gN m p ≤ 2 ^ (n - 2) → Gl (GV fun s' => EI cls mood th s0 n (L ++ prR cls mood th n u1 m) s' ∧ (prR cls mood th n u1 m).length ≤ gN m p) (X4_extend (d + 2 * m + 2) s 78 n (a + 1 : Nat) (w4p (plN (a + 1) u1) (a + 1)) (sumN (tkW cls mood th (((n : Int) - 1) % 2) (plN (a + 1) u1)) (a + 1)) (sumN (gpW cls mood th (((n : Int) - 1) % 2) (plN (a + 1) u1)) (a + 1)))) : Gl (GV fun s' => EI cls mood th s0 n (L ++ prR cls mood th n u1 m) s' ∧ (prR cls mood th n u1 m).length ≤ (if okP m p = true then gN m p else 0)) (X4_extendBy (d + 2 * m + 3) s 78 p n a word tk gp) := by
  have I' := I
  obtain ⟨hs, i2, i3, i4, i5, i6⟩ := I
  have pp := plN_pl hu a
  rw [hp] at pp
  have ppb : a ≠ 0 → pl3 (plN (a + 1) u1 (a - 1)) := fun _ => plN_pl hu (a - 1)
  have hpb : 0 ≤ p ∧ p ≤ 2 := by unfold pl3 at pp; omega
  have hbb : -1 ≤ bef ∧ bef ≤ 2 ∧ (a = 0 ↔ bef = -1) := by
    rw [hbef]
    by_cases e : a = 0
    · rw [if_pos e]; omega
    · rw [if_neg e]
      have := ppb e
      unfold pl3 at this
      omega
  -- the cell
  have he : ∃ e : Nat, e < 144 ∧ (e : Int) = 12 * a + 3 * (bef + 1) + p := ⟨(12 * a + 3 * (bef + 1) + p).toNat, by omega, by omega⟩
  obtain ⟨e, he1, he2⟩ := he
  have hst : ((n : Int) - 1) % 2 = (((n - 1) % 2 : Nat) : Int) := by omega
  have hR2 := hR e he1 (by omega) (by omega)
  generalize hE : 144 * ((n - 1) % 2) + e = E at hR2
  have dE : E / 144 = (n - 1) % 2 ∧ E / 12 % 12 = a ∧ ((E / 3 % 4 : Nat) : Int) - 1 = bef ∧ ((E % 3 : Nat) : Int) = p := by omega
  have dS : (((n : Int) - 1) % 2 + a) % 2 = (((E / 144 + E / 12 % 12) % 2 : Nat) : Int) := by omega
  have x1 : tkE cls mood th E = tkW cls mood th (((n : Int) - 1) % 2) (plN (a + 1) u1) a := by unfold tkE tkW; rw [← hbef, hp, dS, dE.2.1, dE.2.2.1, dE.2.2.2]
  have x2 : gpE cls mood th E = gpW cls mood th (((n : Int) - 1) % 2) (plN (a + 1) u1) a := by unfold gpE gpW; rw [← hbef, hp, dS, dE.2.1, dE.2.2.1, dE.2.2.2]
  have x3 : brE cls mood th E = brW cls mood th (((n : Int) - 1) % 2) (plN (a + 1) u1) a := by unfold brE brW; rw [← hbef, hp, dS, dE.2.1, dE.2.2.1, dE.2.2.2]
  rw [x1, x2, x3] at hR2
  have c79 : gA s 79 = gA s0 79 := i2.2.2 79 (by decide)
  have c80 : gA s 80 = gA s0 80 := i2.2.2 80 (by decide)
  have c81 : gA s 81 = gA s0 81 := i2.2.2 81 (by decide)
  have e1 : (((((n : Int) - 1) % 2) * 12 + a) * 4 + bef + 1) * 3 + p = E := by omega
  have hE2 : E < 288 := by omega
  clear dE dS hE he1 he2 hR x1 x2 x3 hst
  have none : (okP m p = false ∨ brW cls mood th (((n : Int) - 1) % 2) (plN (a + 1) u1) a ≠ 0) → prR cls mood th n u1 m = [] := by
    intro h
    refine prR_no (a := a + 1) (k := a) (by omega) (by omega) (by omega) (fun j hj w hw => ?_) ?_
    · refine plN_pl ?_ j
      have hd := prR_mem hw
      have hpos : 0 < 2 ^ m := Nat.two_pow_pos m
      have h3 : w < (u1 + 1) * 2 ^ m := by
        rw [List.mem_range'_1] at hw
        rw [Nat.add_mul, Nat.one_mul]
        exact hw.2
      have h4 : (u1 + 1) * 2 ^ m ≤ WN (a + 1) * 2 ^ m := Nat.mul_le_mul_right _ hu
      have h5 : WN (a + 1) * 2 ^ m = 3 * 2 ^ (n - 1) := by
        unfold WN
        rw [Nat.mul_assoc, ← Nat.pow_add, show a + 1 - 1 + m = n - 1 by omega]
      omega
    · rw [show n - 1 - a = m by omega, hp]
      exact h
  have stop : ∀ N : Nat, (okP m p = false ∨ brW cls mood th (((n : Int) - 1) % 2) (plN (a + 1) u1) a ≠ 0) → Gl (GV fun s' => EI cls mood th s0 n (L ++ prR cls mood th n u1 m) s' ∧ (prR cls mood th n u1 m).length ≤ N) (some ([], s)) := by
    intro N h
    have hz := none h
    refine reV ⟨?_, ?_⟩
    · rw [hz, List.append_nil]; exact I'
    · rw [hz]; simp
  have e0 : X4_extendBy (d + 2 * m + 3) s 78 p n a word tk gp = X4_extendBy_12 (d + 2 * m + 3) s 78 p n a word tk gp bef := by
    rw [e_X4_extendBy, ← hbw]
    by_cases h : (a : Int) = 0
    · simp only [if_pos h]
    · simp only [if_neg h]
  rw [e0, e_X4_extendBy_12]
  simp (disch := ((try simp only [kd_sF, kd_sA, gA_sF, gA_sA, gF_sF, gF_sA, List.length_set, reduceIte, and_true, and_false, true_and, false_and, Nat.reduceEqDiff, Int.reduceEq, hs.o78]); first | done | omega)) only [rF_ok, wF_ok, oK_ok, lA_ok, rA_ok, wA_ok, cI_ok, cV_ok, cL_ok, cR_ok, kd_sF, kd_sA, gA_sF, gF_sA, gF_sF, gA_sA, bk_0, bk_1, List.length_set, reduceIte, and_true, and_false, true_and, false_and, ne_eq, not_true_eq_false, not_false_eq_true, Int.toNat_natCast, Int.reduceToNat, Nat.reduceEqDiff, Int.reduceEq, Int.reduceLT, Int.reduceLE, Int.reduceAdd, Int.reduceSub, Int.reduceMul, Int.reduceNeg, hs.o78, e_X11_startOfWord, e_X4_cell, wi_sm, and1, e1, if_neg hne, c_mayStand ha hn.2]
  cases hok : okP m p with
  | false =>
    simp only [Bool.false_eq_true, reduceIte]
    exact stop _ (Or.inl hok)
  | true =>
    simp only [reduceIte, Int.reduceEq]
    have c79' : (gA s 79).getD E 0 = tkW cls mood th (((n : Int) - 1) % 2) (plN (a + 1) u1) a := by rw [c79]; exact hR2.1
    have c80' : (gA s 80).getD E 0 = gpW cls mood th (((n : Int) - 1) % 2) (plN (a + 1) u1) a := by rw [c80]; exact hR2.2.1
    have c81' : (gA s 81).getD E 0 = brW cls mood th (((n : Int) - 1) % 2) (plN (a + 1) u1) a := by rw [c81]; exact hR2.2.2
    simp (disch := ((try simp only [kd_sF, kd_sA, gA_sF, gA_sA, gF_sF, gF_sA, List.length_set, reduceIte, and_true, and_false, true_and, false_and, Nat.reduceEqDiff, Int.reduceEq, hs.o78]); first | done | omega)) only [rF_ok, wF_ok, oK_ok, lA_ok, rA_ok, wA_ok, cI_ok, cV_ok, cL_ok, cR_ok, kd_sF, kd_sA, gA_sF, gF_sA, gF_sF, gA_sA, bk_0, bk_1, List.length_set, reduceIte, and_true, and_false, true_and, false_and, ne_eq, not_true_eq_false, not_false_eq_true, Int.toNat_natCast, Int.reduceToNat, Nat.reduceEqDiff, Int.reduceEq, Int.reduceLT, Int.reduceLE, Int.reduceAdd, Int.reduceSub, Int.reduceMul, Int.reduceNeg, hs.o78, c81']
    by_cases hbr : brW cls mood th (((n : Int) - 1) % 2) (plN (a + 1) u1) a = 0
    · rw [if_pos hbr]
      have b1 := sumN_bd (f := tkW cls mood th (((n : Int) - 1) % 2) (plN (a + 1) u1)) (a := 0) (b := 20) (n := a) (fun j _ => tkQ_bd hth)
      have b2 := sumN_bd (f := gpW cls mood th (((n : Int) - 1) % 2) (plN (a + 1) u1)) (a := -9) (b := 9) (n := a) (fun j _ => gpA_bd)
      have b3 : 0 ≤ tkW cls mood th (((n : Int) - 1) % 2) (plN (a + 1) u1) a ∧ tkW cls mood th (((n : Int) - 1) % 2) (plN (a + 1) u1) a ≤ 20 := tkQ_bd hth
      have b4 : -9 ≤ gpW cls mood th (((n : Int) - 1) % 2) (plN (a + 1) u1) a ∧ gpW cls mood th (((n : Int) - 1) % 2) (plN (a + 1) u1) a ≤ 9 := gpA_bd
      have b5 := w4p_bd (f := plN (a + 1) u1) (k := a) (fun j _ => plN_pl hu j)
      have b6 : (4 : Int) ^ a ≤ 4 ^ 12 := by
        have := Nat.pow_le_pow_right (show 0 < 4 by decide) (show a ≤ 12 by omega)
        exact_mod_cast this
      have b7 : (4 : Int) ^ 12 = 16777216 := by decide
      rw [← htk] at b1
      rw [← hgp] at b2
      rw [← hw] at b5
      simp (disch := ((try simp only [kd_sF, kd_sA, gA_sF, gA_sA, gF_sF, gF_sA, List.length_set, reduceIte, and_true, and_false, true_and, false_and, Nat.reduceEqDiff, Int.reduceEq, hs.o78]); first | done | omega)) only [rF_ok, wF_ok, oK_ok, lA_ok, rA_ok, wA_ok, cI_ok, cV_ok, cL_ok, cR_ok, kd_sF, kd_sA, gA_sF, gF_sA, gF_sF, gA_sA, bk_0, bk_1, List.length_set, reduceIte, and_true, and_false, true_and, false_and, ne_eq, not_true_eq_false, not_false_eq_true, Int.toNat_natCast, Int.reduceToNat, Nat.reduceEqDiff, Int.reduceEq, Int.reduceLT, Int.reduceLE, Int.reduceAdd, Int.reduceSub, Int.reduceMul, Int.reduceNeg, hs.o78, c79', c80', wi_sm]
      have g1 : GdP cls mood th n (a + 1) (plN (a + 1) u1) := by
        intro k hk
        by_cases ek : k = a
        · rw [ek, show n - 1 - a = m by omega, hp]; exact ⟨hok, hbr⟩
        · exact hG k (by omega)
      rw [hok, if_pos rfl] at hL
      have h1 := hIH g1 hL
      rw [w4p, sumN, sumN, ← hw, ← htk, ← hgp, hp] at h1
      refine biV h1 fun s' _ ⟨q1, q2⟩ => ?_
      exact reV ⟨q1, q2⟩
    · rw [if_neg hbr]
      exact stop _ (Or.inr hbr)
/-- one more place in the loop -/
theorem c_extc {T : Res → Prop} {a m u1 : Nat} {p bef word tk gp : Int} {L : List Nat} (hn : 3 ≤ n ∧ n ≤ 12) (ha : a + m + 1 = n) (hth : 0 ≤ th ∧ th ≤ 9) (hu : u1 < WN (a + 1)) (hp : plN (a + 1) u1 a = p) (hbef : bef = if a = 0 then -1 else plN (a + 1) u1 (a - 1)) (hbw : (if (a : Int) = 0 then -1 else andI word 3) = bef) (hne : p ≠ bef) (hG : GdP cls mood th n a (plN (a + 1) u1)) (hw : word = w4p (plN (a + 1) u1) a) (htk : tk = sumN (tkW cls mood th (((n : Int) - 1) % 2) (plN (a + 1) u1)) a) (hgp : gp = sumN (gpW cls mood th (((n : Int) - 1) % 2) (plN (a + 1) u1)) a)
    (hR : RtC cls mood th ((n - 1) % 2) 144 s0) (I : EI cls mood th s0 n L s) (hL : L.length + (if okP m p = true then gN m p else 0) ≤ 2 ^ (n - 2))
    (hIH : GdP cls mood th n (a + 1) (plN (a + 1) u1) → L.length + gN m p ≤ 2 ^ (n - 2) → Gl (GV fun s' => EI cls mood th s0 n (L ++ prR cls mood th n u1 m) s' ∧ (prR cls mood th n u1 m).length ≤ gN m p) (X4_extend (d + 2 * m + 2) s 78 n (a + 1 : Nat) (w4p (plN (a + 1) u1) (a + 1)) (sumN (tkW cls mood th (((n : Int) - 1) % 2) (plN (a + 1) u1)) (a + 1)) (sumN (gpW cls mood th (((n : Int) - 1) % 2) (plN (a + 1) u1)) (a + 1))))
    (hT : ∀ s', EI cls mood th s0 n (L ++ prR cls mood th n u1 m) s' → (prR cls mood th n u1 m).length ≤ (if okP m p = true then gN m p else 0) → Gl T (X4_extend_19 (d + 2 * m + 4) s' 78 n a word tk gp (p + 1))) : Gl T (X4_extend_19 (d + 2 * m + 4) s 78 n a word tk gp p) := by
  have hs := I.1
  have pp := plN_pl hu a
  rw [hp] at pp
  have hpb : 0 ≤ p ∧ p ≤ 2 := by unfold pl3 at pp; omega
  have wp : wi (p + 1) = p + 1 := wi_sm (by omega) (by omega)
  rw [e_X4_extend_19, if_pos (by omega), oK_ok hs.o78.1, wp]
  exact biV (c_extb hn ha hth hu hp hbef hbw hne hG hw htk hgp hR I hL hIH) fun s' _ ⟨q1, q2⟩ => hT s' q1 q2
end CX
