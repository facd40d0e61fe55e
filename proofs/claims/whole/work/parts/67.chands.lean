/-! ===== the class: hands ===== -/
def aHands (a : Ab) (seed n m : Int) : Int × Ab := if (0 ≤ seed ∧ seed ≤ 1000000) ∧ (1 ≤ n ∧ n ≤ 100) ∧ (3 ≤ m ∧ m ≤ 12) then ((hdN (clsD a.1) (moodD a.1) (thickD a.1) (needD a.1) m.toNat seed n.toNat).1, a.1, a.2.1, a.2.2.1, a.2.2.2.1, (0, a.2.2.2.2.1.2), a.2.2.2.2.2.1, some ((hdN (clsD a.1) (moodD a.1) (thickD a.1) (needD a.1) m.toNat seed n.toNat).2.1, (hdN (clsD a.1) (moodD a.1) (thickD a.1) (needD a.1) m.toNat seed n.toNat).2.2, (List.range m.toNat).map (dealF (lcgI seed (m.toNat * (n.toNat - 1)))))) else refu a (-1)
section CHD
variable {s : St} {a : Ab} {d : Nat} {cls : List Cl} {mood th need : Int}
theorem c_next {x k : Int} (k89 : kd s 89 = 5) (hx : gF s 89 0 = x) (hb : 0 ≤ x ∧ x < 1000003) (hk : k = 2 ∨ k = 3) : X1_next d s 89 k = some ([(0, lcg x % k)], sF s 89 0 (lcg x)) := by
  have hl := lcg_bd x
  have e1 : Int.tmod (x * 1103 + 12345) 1000003 = lcg x := by rw [Int.mul_comm]; exact tmn (by omega)
  have e2 : Int.tmod (lcg x) k = lcg x % k := tmn hl.1
  rw [e_X1_next]
  simp (disch := ((try simp only [kd_sF, kd_sA, gA_sF, gA_sA, gF_sF, gF_sA, List.length_set, reduceIte, and_true, and_false, true_and, false_and, Nat.reduceEqDiff, Int.reduceEq, k89]); first | done | omega)) only [rF_ok, wF_ok, oK_ok, lA_ok, rA_ok, wA_ok, cI_ok, cV_ok, cL_ok, cR_ok, kd_sF, kd_sA, gA_sF, gF_sA, gF_sF, gA_sA, bk_0, bk_1, List.length_set, reduceIte, and_true, and_false, true_and, false_and, ne_eq, not_true_eq_false, not_false_eq_true, Int.toNat_natCast, Int.reduceToNat, Nat.reduceEqDiff, Int.reduceEq, Int.reduceLT, Int.reduceLE, Int.reduceAdd, Int.reduceSub, Int.reduceMul, Int.reduceNeg, k89, hx, wi_sm, e1, if_neg (show ¬ (k = 0) by omega), if_pos (show 0 < k by omega), e2]
theorem c_dw13 {m : Nat} {x : Int} (hs : ShC s) (hm : 3 ≤ m ∧ m ≤ 12) (hx : 0 ≤ x ∧ x < 1000003) (f1 : gF s 89 1 = m) (f0 : gF s 89 0 = lcgI x 1) (h0 : af s 90 0 = dealF x 0) : Gl (GV fun s' => ShC s' ∧ FrK [] [89] [90] s s' ∧ (∀ k, k ≠ 0 → gF s' 89 k = gF s 89 k) ∧ gF s' 89 0 = lcgI x m ∧ ∀ k, k < m → af s' 90 k = dealF x k) (X1_dealWord_13 (d + 1) s 89 1) := by
  refine lpG (fun k s1 => X1_dealWord_13 (d + 1) s1 89 k) (fun k s1 => 1 ≤ k ∧ ShC s1 ∧ FrK [] [89] [90] s s1 ∧ (∀ j, j ≠ 0 → gF s1 89 j = gF s 89 j) ∧ gF s1 89 0 = lcgI x k ∧ ∀ i, i < k → af s1 90 i = dealF x i) m ?_ ?_ 1 s (by omega) ⟨by omega, hs, FrK.rf _ _ _ _, fun _ _ => rfl, f0, fun i hi => by rw [show i = 0 by omega]; exact h0⟩
  · intro T k s1 hk ⟨i0, i1, i2, i3, i4, i5⟩ hT
    have l90 : (gA s1 90).length = 12 := i1.2.1 90 (by decide) (by decide)
    have k89 : kd s1 89 = 5 := i1.o89.1
    have k90 : kd s1 90 = 20 := i1.1 90 (by decide) (by decide)
    obtain ⟨p, rfl⟩ : ∃ p, k = p + 1 := ⟨k - 1, by omega⟩
    have e1 : (((p + 1 : Nat) : Int) - 1).toNat = p := by omega
    have e2 : (gA s1 90).getD p 0 = dealF x p := i5 p (by omega)
    have e3 : gF s1 89 1 = m := (i3 1 (by decide)).trans f1
    have en := c_next (d := d) (k := 2) k89 i4 (lcgI_bd hx (p + 1)) (Or.inl rfl)
    have hsN : ShC (sF s1 89 0 (lcg (lcgI x (p + 1)))) := i1.sF (by rw [k89]; decide)
    have hp := dealF_pl x p
    have h2 : lcg (lcgI x (p + 1)) % 2 = 0 ∨ lcg (lcgI x (p + 1)) % 2 = 1 := by omega
    have ed : dealF x (p + 1) = fol (dealF x p) (lcg (lcgI x (p + 1)) % 2) := rfl
    -- the end of the round
    have fin : ∀ lo up : Int, lo = (if dealF x p = 0 then 1 else 0) → up = (if dealF x p = 2 then 1 else 2) → Gl T (X1_dealWord_57 (d + 1) (sF s1 89 0 (lcg (lcgI x (p + 1)))) 89 ((p + 1 : Nat) : Int) (lcg (lcgI x (p + 1)) % 2) lo up) := by
      intro lo up hlo hup
      have st : ∀ v : Int, v = dealF x (p + 1) → Gl T (X1_dealWord_13 (d + 1) (sA (sF s1 89 0 (lcg (lcgI x (p + 1)))) 90 ((gA s1 90).set (p + 1) v)) 89 (wi (((p + 1 : Nat) : Int) + 1))) := by
        intro v hv
        rw [wi_sm (by omega) (by omega)]
        refine hT _ ⟨by omega, hsN.sA (by rw [List.length_set]; rfl) (by rw [kd_sF, k90]; decide), i2.tr ((FrK.sF (by decide)).tr (FrK.sA _ (by decide))), fun j hj => by rw [gF_sA, gF_nk hj]; exact i3 j hj, by rw [gF_sA, gF_eq]; rfl, fun i hi => ?_⟩
        unfold af
        rw [gA_eq, setD_getD (by omega)]
        by_cases e : p + 1 = i
        · rw [if_pos e, hv, e]
        · rw [if_neg e]; exact i5 i (by omega)
      rw [e_X1_dealWord_57]
      have t1 : ((p + 1 : Nat) : Int).toNat = p + 1 := by omega
      rcases h2 with h2 | h2
      · simp (disch := ((try simp only [kd_sF, kd_sA, gA_sF, gA_sA, gF_sF, gF_sA, List.length_set, reduceIte, and_true, and_false, true_and, false_and, Nat.reduceEqDiff, Int.reduceEq, i1.o89]); first | done | omega)) only [rF_ok, wF_ok, oK_ok, lA_ok, rA_ok, wA_ok, cI_ok, cV_ok, cL_ok, cR_ok, kd_sF, kd_sA, gA_sF, gF_sA, gF_sF, gA_sA, bk_0, bk_1, List.length_set, reduceIte, and_true, and_false, true_and, false_and, ne_eq, not_true_eq_false, not_false_eq_true, Int.toNat_natCast, Int.reduceToNat, Nat.reduceEqDiff, Int.reduceEq, Int.reduceLT, Int.reduceLE, Int.reduceAdd, Int.reduceSub, Int.reduceMul, Int.reduceNeg, i1.o89, h2, t1]
        exact st lo (by rw [ed, h2, hlo]; rfl)
      · simp (disch := ((try simp only [kd_sF, kd_sA, gA_sF, gA_sA, gF_sF, gF_sA, List.length_set, reduceIte, and_true, and_false, true_and, false_and, Nat.reduceEqDiff, Int.reduceEq, i1.o89]); first | done | omega)) only [rF_ok, wF_ok, oK_ok, lA_ok, rA_ok, wA_ok, cI_ok, cV_ok, cL_ok, cR_ok, kd_sF, kd_sA, gA_sF, gF_sA, gF_sF, gA_sA, bk_0, bk_1, List.length_set, reduceIte, and_true, and_false, true_and, false_and, ne_eq, not_true_eq_false, not_false_eq_true, Int.toNat_natCast, Int.reduceToNat, Nat.reduceEqDiff, Int.reduceEq, Int.reduceLT, Int.reduceLE, Int.reduceAdd, Int.reduceSub, Int.reduceMul, Int.reduceNeg, i1.o89, h2, t1]
        exact st up (by rw [ed, h2, hup]; rfl)
    rw [e_X1_dealWord_13]
    simp (disch := ((try simp only [kd_sF, kd_sA, gA_sF, gA_sA, gF_sF, gF_sA, List.length_set, reduceIte, and_true, and_false, true_and, false_and, Nat.reduceEqDiff, Int.reduceEq, k89]); first | done | omega)) only [rF_ok, wF_ok, oK_ok, lA_ok, rA_ok, wA_ok, cI_ok, cV_ok, cL_ok, cR_ok, kd_sF, kd_sA, gA_sF, gF_sA, gF_sF, gA_sA, bk_0, bk_1, List.length_set, reduceIte, and_true, and_false, true_and, false_and, ne_eq, not_true_eq_false, not_false_eq_true, Int.toNat_natCast, Int.reduceToNat, Nat.reduceEqDiff, Int.reduceEq, Int.reduceLT, Int.reduceLE, Int.reduceAdd, Int.reduceSub, Int.reduceMul, Int.reduceNeg, k89, e3, if_pos (show ((p + 1 : Nat) : Int) < (m : Int) by omega), en]
    simp (disch := ((try simp only [kd_sF, kd_sA, gA_sF, gA_sA, gF_sF, gF_sA, List.length_set, reduceIte, and_true, and_false, true_and, false_and, Nat.reduceEqDiff, Int.reduceEq, i1.o89]); first | done | omega)) only [rF_ok, wF_ok, oK_ok, lA_ok, rA_ok, wA_ok, cI_ok, cV_ok, cL_ok, cR_ok, kd_sF, kd_sA, gA_sF, gF_sA, gF_sF, gA_sA, bk_0, bk_1, List.length_set, reduceIte, and_true, and_false, true_and, false_and, ne_eq, not_true_eq_false, not_false_eq_true, Int.toNat_natCast, Int.reduceToNat, Nat.reduceEqDiff, Int.reduceEq, Int.reduceLT, Int.reduceLE, Int.reduceAdd, Int.reduceSub, Int.reduceMul, Int.reduceNeg, i1.o89, wi_sm, e1, e2]
    rcases hp with hp | hp | hp
    · rw [hp]
      exact fin 1 2 (by rw [hp]; rfl) (by rw [hp]; rfl)
    · rw [hp]
      exact fin 0 2 (by rw [hp]; rfl) (by rw [hp]; rfl)
    · rw [hp]
      exact fin 0 1 (by rw [hp]; rfl) (by rw [hp]; rfl)
  · intro s1 ⟨i0, i1, i2, i3, i4, i5⟩
    have k89 : kd s1 89 = 5 := i1.o89.1
    have e3 : gF s1 89 1 = m := (i3 1 (by decide)).trans f1
    rw [e_X1_dealWord_13]
    simp (disch := ((try simp only [kd_sF, kd_sA, gA_sF, gA_sA, gF_sF, gF_sA, List.length_set, reduceIte, and_true, and_false, true_and, false_and, Nat.reduceEqDiff, Int.reduceEq, k89]); first | done | omega)) only [rF_ok, wF_ok, oK_ok, lA_ok, rA_ok, wA_ok, cI_ok, cV_ok, cL_ok, cR_ok, kd_sF, kd_sA, gA_sF, gF_sA, gF_sF, gA_sA, bk_0, bk_1, List.length_set, reduceIte, and_true, and_false, true_and, false_and, ne_eq, not_true_eq_false, not_false_eq_true, Int.toNat_natCast, Int.reduceToNat, Nat.reduceEqDiff, Int.reduceEq, Int.reduceLT, Int.reduceLE, Int.reduceAdd, Int.reduceSub, Int.reduceMul, Int.reduceNeg, k89, e3, Int.lt_irrefl]
    exact reV ⟨i1, i2, i3, i4, i5⟩
theorem c_dealWord {m : Nat} {x : Int} (hs : ShC s) (hm : 3 ≤ m ∧ m ≤ 12) (hx : 0 ≤ x ∧ x < 1000003) (f1 : gF s 89 1 = m) (f0 : gF s 89 0 = x) : Gl (GV fun s' => ShC s' ∧ FrK [] [89] [90] s s' ∧ (∀ k, k ≠ 0 → gF s' 89 k = gF s 89 k) ∧ gF s' 89 0 = lcgI x m ∧ ∀ k, k < m → af s' 90 k = dealF x k) (X1_dealWord (d + 1) s 89) := by
  have k89 : kd s 89 = 5 := hs.o89.1
  have k90 : kd s 90 = 20 := hs.1 90 (by decide) (by decide)
  have l90 : (gA s 90).length = 12 := hs.2.1 90 (by decide) (by decide)
  have hsN : ShC (sF s 89 0 (lcg x)) := hs.sF (by rw [k89]; decide)
  rw [e_X1_dealWord]
  simp (disch := ((try simp only [kd_sF, kd_sA, gA_sF, gA_sA, gF_sF, gF_sA, List.length_set, reduceIte, and_true, and_false, true_and, false_and, Nat.reduceEqDiff, Int.reduceEq, hs.o89]); first | done | omega)) only [rF_ok, wF_ok, oK_ok, lA_ok, rA_ok, wA_ok, cI_ok, cV_ok, cL_ok, cR_ok, kd_sF, kd_sA, gA_sF, gF_sA, gF_sF, gA_sA, bk_0, bk_1, List.length_set, reduceIte, and_true, and_false, true_and, false_and, ne_eq, not_true_eq_false, not_false_eq_true, Int.toNat_natCast, Int.reduceToNat, Nat.reduceEqDiff, Int.reduceEq, Int.reduceLT, Int.reduceLE, Int.reduceAdd, Int.reduceSub, Int.reduceMul, Int.reduceNeg, hs.o89, c_next (d := d) (k := 3) k89 f0 hx (Or.inr rfl)]
  have hsM : ShC (sA (sF s 89 0 (lcg x)) 90 ((gA s 90).set 0 (lcg x % 3))) := hsN.sA (by rw [List.length_set]; rfl) (by rw [kd_sF, k90]; decide)
  have hF : FrK [] [89] [90] s (sA (sF s 89 0 (lcg x)) 90 ((gA s 90).set 0 (lcg x % 3))) := (FrK.sF (by decide)).tr (FrK.sA _ (by decide))
  have g0 : ∀ k, k ≠ 0 → gF (sA (sF s 89 0 (lcg x)) 90 ((gA s 90).set 0 (lcg x % 3))) 89 k = gF s 89 k := fun k hk => by rw [gF_sA, gF_nk hk]
  have g1 : gF (sA (sF s 89 0 (lcg x)) 90 ((gA s 90).set 0 (lcg x % 3))) 89 0 = lcgI x 1 := by rw [gF_sA, gF_eq]; rfl
  have g2 : af (sA (sF s 89 0 (lcg x)) 90 ((gA s 90).set 0 (lcg x % 3))) 90 0 = dealF x 0 := by
    unfold af
    rw [gA_eq, set_eq (by omega)]
    rfl
  refine wkV (c_dw13 (d := d) hsM hm hx ((g0 1 (by decide)).trans f1) g1 g2) fun s' _ ⟨q1, q2, q3, q4, q5⟩ => ⟨q1, hF.tr q2, fun k hk => (q3 k hk).trans (g0 k hk), q4, q5⟩
/-- the hands after h of them -/
def HdR (cls : List Cl) (mood th need : Int) (m : Nat) (seed : Int) (s0 : St) (h : Nat) (s : St) : Prop := ShC s ∧ FrK [6] [89] [87, 90] s0 s ∧ gF s 89 0 = lcgI seed (m * h) ∧ gF s 89 1 = m ∧ gF s 89 2 = (hdN cls mood th need m seed h).1 ∧ gF s 89 3 = (hdN cls mood th need m seed h).2.1 ∧ gF s 89 4 = (hdN cls mood th need m seed h).2.2 ∧ (0 < h → ∀ k, k < m → af s 90 k = dealF (lcgI seed (m * (h - 1))) k)
theorem c_deal28 {m n h : Nat} {seed : Int} {s0 : St} {T : Res → Prop} (hm : 3 ≤ m ∧ m ≤ 12) (hn : n ≤ 100) (hh : h < n) (hsd : 0 ≤ seed ∧ seed < 1000003) (Wd : WdC cls mood th m s0) (I : HdR cls mood th need m seed s0 h s) (hT : ∀ s', HdR cls mood th need m seed s0 (h + 1) s' → Gl T (X1_deal_28 (d + 4) s' 89 n m 78 need (h + 1 : Nat))) : Gl T (X1_deal_28 (d + 4) s 89 n m 78 need h) := by
  obtain ⟨i1, i2, i3, i4, i5, i6, i7, i8⟩ := I
  have k89 : kd s 89 = 5 := i1.o89.1
  have hbd := hdN_bd (cls := cls) (mood := mood) (th := th) (need := need) (m := m) (seed := seed) h
  rw [e_X1_deal_28, if_pos (by omega), wi_sm (by omega) (by omega), show ((h : Int) + 1) = ((h + 1 : Nat) : Int) by omega]
  simp (disch := ((try simp only [kd_sF, kd_sA, gA_sF, gA_sA, gF_sF, gF_sA, List.length_set, reduceIte, and_true, and_false, true_and, false_and, Nat.reduceEqDiff, Int.reduceEq, k89]); first | done | omega)) only [rF_ok, wF_ok, oK_ok, lA_ok, rA_ok, wA_ok, cI_ok, cV_ok, cL_ok, cR_ok, kd_sF, kd_sA, gA_sF, gF_sA, gF_sF, gA_sA, bk_0, bk_1, List.length_set, reduceIte, and_true, and_false, true_and, false_and, ne_eq, not_true_eq_false, not_false_eq_true, Int.toNat_natCast, Int.reduceToNat, Nat.reduceEqDiff, Int.reduceEq, Int.reduceLT, Int.reduceLE, Int.reduceAdd, Int.reduceSub, Int.reduceMul, Int.reduceNeg, k89]
  refine biV (c_dealWord (d := d + 2) i1 hm (lcgI_bd hsd (m * h)) i4 i3) fun s1 _ ⟨q1, q2, q3, q4, q5⟩ => ?_
  have hx := lcgI_bd hsd (m * h)
  have e0 : lcgI (lcgI seed (m * h)) m = lcgI seed (m * (h + 1)) := by rw [← lcgI_add, Nat.mul_succ]
  have es : hdN cls mood th need m seed (h + 1) = hstep cls mood th need m (hdN cls mood th need m seed h) (lcgI seed (m * h)) := rfl
  generalize hxe : lcgI seed (m * h) = x at hx e0 es q4 q5
  rw [e0] at q4
  have F1 : FrK [6] [89] [87, 90] s0 s1 := i2.tr (q2.mono (by decide) (by decide) (by decide))
  have W1 : WdC cls mood th m s1 := Wd.fx F1.2.2 (by decide)
  have k90 : kd s1 90 = 20 := q1.1 90 (by decide) (by decide)
  have l90 : (gA s1 90).length = 12 := q1.2.1 90 (by decide) (by decide)
  have k89' : kd s1 89 = 5 := q1.o89.1
  have ef := c_find (d := d + 2) (q := 90) q1 hm W1 k90 (by omega) (fun k hk => by rw [q5 k hk]; exact dealF_pl x k)
  rw [rankL_cg q5] at ef
  simp (disch := ((try simp only [kd_sF, kd_sA, gA_sF, gA_sA, gF_sF, gF_sA, List.length_set, reduceIte, and_true, and_false, true_and, false_and, Nat.reduceEqDiff, Int.reduceEq, q1.o89, q1.o78]); first | done | omega)) only [rF_ok, wF_ok, oK_ok, lA_ok, rA_ok, wA_ok, cI_ok, cV_ok, cL_ok, cR_ok, kd_sF, kd_sA, gA_sF, gF_sA, gF_sF, gA_sA, bk_0, bk_1, List.length_set, reduceIte, and_true, and_false, true_and, false_and, ne_eq, not_true_eq_false, not_false_eq_true, Int.toNat_natCast, Int.reduceToNat, Nat.reduceEqDiff, Int.reduceEq, Int.reduceLT, Int.reduceLE, Int.reduceAdd, Int.reduceSub, Int.reduceMul, Int.reduceNeg, q1.o89, q1.o78, ef]
  have p8 : ∀ s', gA s' 90 = gA s1 90 → (0 < h + 1 → ∀ k, k < m → af s' 90 k = dealF (lcgI seed (m * (h + 1 - 1))) k) := by
    intro s' e _ k hk
    unfold af
    rw [e, Nat.add_sub_cancel, hxe]
    exact q5 k hk
  unfold hstep at es
  rcases deal_rank (cls := cls) (mood := mood) (th := th) x hm with ⟨r1, r2⟩ | ⟨i, hi, r1, r2, r3⟩
  · rw [if_pos r1]
    rw [r2, if_neg (by decide)] at es
    refine hT s1 ⟨q1, F1, q4, (q3 1 (by decide)).trans i4, by rw [es]; exact (q3 2 (by decide)).trans i5, by rw [es]; exact (q3 3 (by decide)).trans i6, by rw [es]; exact (q3 4 (by decide)).trans i7, p8 s1 rfl⟩
  · rw [if_neg (by omega), r1]
    rw [r2, if_pos rfl] at es
    have e2 : gF s1 89 2 = (hdN cls mood th need m seed h).1 := (q3 2 (by decide)).trans i5
    have hs2 : ShC (sF s1 89 2 (wi ((hdN cls mood th need m seed h).1 + 1))) := q1.sF (by rw [k89']; decide)
    have F2 : FrK [6] [89] [87, 90] s1 (sF s1 89 2 (wi ((hdN cls mood th need m seed h).1 + 1))) := FrK.sF (by decide)
    have e3 : gF (sF s1 89 2 (wi ((hdN cls mood th need m seed h).1 + 1))) 89 3 = (hdN cls mood th need m seed h).2.1 := (gF_nk (by decide)).trans ((q3 3 (by decide)).trans i6)
    have eg := c_gripsIn (d := d + 2) hs2 hm (W1.fx F2.2.2 (by decide)) hi
    have eg2 : gpS cls mood th m ((prW cls mood th m).getD i 0) = sumN (gpW cls mood th (((m : Int) - 1) % 2) (dealF x)) m := by
      unfold gpS
      exact sumN_congr fun k hk => by
        unfold gpW
        rw [r3 k hk]
        by_cases e : k = 0
        · rw [if_pos e, if_pos e]
        · rw [if_neg e, if_neg e, r3 (k - 1) (by omega)]
    rw [eg2] at eg
    have e3' : gF s1 89 3 = (hdN cls mood th need m seed h).2.1 := (q3 3 (by decide)).trans i6
    simp (disch := ((try simp only [kd_sF, kd_sA, gA_sF, gA_sA, gF_sF, gF_sA, List.length_set, reduceIte, and_true, and_false, true_and, false_and, Nat.reduceEqDiff, Int.reduceEq, k89']); first | done | omega)) only [rF_ok, wF_ok, oK_ok, lA_ok, rA_ok, wA_ok, cI_ok, cV_ok, cL_ok, cR_ok, kd_sF, kd_sA, gA_sF, gF_sA, gF_sF, gA_sA, bk_0, bk_1, List.length_set, reduceIte, and_true, and_false, true_and, false_and, ne_eq, not_true_eq_false, not_false_eq_true, Int.toNat_natCast, Int.reduceToNat, Nat.reduceEqDiff, Int.reduceEq, Int.reduceLT, Int.reduceLE, Int.reduceAdd, Int.reduceSub, Int.reduceMul, Int.reduceNeg, k89', e2, e3']
    generalize hS2 : sF s1 89 2 (wi ((hdN cls mood th need m seed h).1 + 1)) = S2 at *
    have k89S : kd S2 89 = 5 := hs2.o89.1
    simp (disch := ((try simp only [kd_sF, kd_sA, gA_sF, gA_sA, gF_sF, gF_sA, List.length_set, reduceIte, and_true, and_false, true_and, false_and, Nat.reduceEqDiff, Int.reduceEq, hs2.o78, k89S]); first | done | omega)) only [rF_ok, wF_ok, oK_ok, lA_ok, rA_ok, wA_ok, cI_ok, cV_ok, cL_ok, cR_ok, kd_sF, kd_sA, gA_sF, gF_sA, gF_sF, gA_sA, bk_0, bk_1, List.length_set, reduceIte, and_true, and_false, true_and, false_and, ne_eq, not_true_eq_false, not_false_eq_true, Int.toNat_natCast, Int.reduceToNat, Nat.reduceEqDiff, Int.reduceEq, Int.reduceLT, Int.reduceLE, Int.reduceAdd, Int.reduceSub, Int.reduceMul, Int.reduceNeg, hs2.o78, k89S, e3, eg]
    have fin : ∀ w : Int, (w = if sumN (gpW cls mood th (((m : Int) - 1) % 2) (dealF x)) m < need then 0 else 1) → Gl T (X1_deal_89 (d + 4) S2 89 n m 78 need h i 89 (hdN cls mood th need m seed h).2.1 w) := by
      intro w hw
      have hw2 : w = 0 ∨ w = 1 := by rw [hw]; split <;> simp
      rw [e_X1_deal_89]
      have j4' : gF S2 89 4 = (hdN cls mood th need m seed h).2.2 := by rw [← hS2, gF_nk (by decide)]; exact (q3 4 (by decide)).trans i7
      simp (disch := ((try simp only [kd_sF, kd_sA, gA_sF, gA_sA, gF_sF, gF_sA, List.length_set, reduceIte, and_true, and_false, true_and, false_and, Nat.reduceEqDiff, Int.reduceEq, k89S]); first | done | omega)) only [rF_ok, wF_ok, oK_ok, lA_ok, rA_ok, wA_ok, cI_ok, cV_ok, cL_ok, cR_ok, kd_sF, kd_sA, gA_sF, gF_sA, gF_sF, gA_sA, bk_0, bk_1, List.length_set, reduceIte, and_true, and_false, true_and, false_and, ne_eq, not_true_eq_false, not_false_eq_true, Int.toNat_natCast, Int.reduceToNat, Nat.reduceEqDiff, Int.reduceEq, Int.reduceLT, Int.reduceLE, Int.reduceAdd, Int.reduceSub, Int.reduceMul, Int.reduceNeg, k89S, wi_sm, j4']
      have hs3 : ShC (sF S2 89 3 ((hdN cls mood th need m seed h).2.1 + w)) := hs2.sF (by rw [k89S]; decide)
      have F3 : FrK [6] [89] [87, 90] S2 (sF S2 89 3 ((hdN cls mood th need m seed h).2.1 + w)) := FrK.sF (by decide)
      have W3 : WdC cls mood th m (sF S2 89 3 ((hdN cls mood th need m seed h).2.1 + w)) := W1.fx (F2.tr F3).2.2 (by decide)
      have j0 : gF (sF S2 89 3 ((hdN cls mood th need m seed h).2.1 + w)) 89 0 = lcgI seed (m * (h + 1)) := (gF_nk (by decide)).trans (by rw [← hS2, gF_nk (by decide)]; exact q4)
      have j1 : gF (sF S2 89 3 ((hdN cls mood th need m seed h).2.1 + w)) 89 1 = m := (gF_nk (by decide)).trans (by rw [← hS2, gF_nk (by decide)]; exact (q3 1 (by decide)).trans i4)
      have j2 : gF (sF S2 89 3 ((hdN cls mood th need m seed h).2.1 + w)) 89 2 = (hdN cls mood th need m seed h).1 + 1 := (gF_nk (by decide)).trans (by rw [← hS2, gF_eq, wi_sm (by omega) (by omega)])
      have j3 : gF (sF S2 89 3 ((hdN cls mood th need m seed h).2.1 + w)) 89 3 = (hdN cls mood th need m seed h).2.1 + w := gF_eq _ _ _ _
      have j4 : gF (sF S2 89 3 ((hdN cls mood th need m seed h).2.1 + w)) 89 4 = (hdN cls mood th need m seed h).2.2 := (gF_nk (by decide)).trans (by rw [← hS2, gF_nk (by decide)]; exact (q3 4 (by decide)).trans i7)
      have j9 : gA (sF S2 89 3 ((hdN cls mood th need m seed h).2.1 + w)) 90 = gA s1 90 := by rw [gA_sF, ← hS2]; rfl
      generalize sF S2 89 3 ((hdN cls mood th need m seed h).2.1 + w) = S3 at *
      have k89T : kd S3 89 = 5 := hs3.o89.1
      simp (disch := ((try simp only [kd_sF, kd_sA, gA_sF, gA_sA, gF_sF, gF_sA, List.length_set, reduceIte, and_true, and_false, true_and, false_and, Nat.reduceEqDiff, Int.reduceEq, hs3.o78, k89T]); first | done | omega)) only [rF_ok, wF_ok, oK_ok, lA_ok, rA_ok, wA_ok, cI_ok, cV_ok, cL_ok, cR_ok, kd_sF, kd_sA, gA_sF, gF_sA, gF_sF, gA_sA, bk_0, bk_1, List.length_set, reduceIte, and_true, and_false, true_and, false_and, ne_eq, not_true_eq_false, not_false_eq_true, Int.toNat_natCast, Int.reduceToNat, Nat.reduceEqDiff, Int.reduceEq, Int.reduceLT, Int.reduceLE, Int.reduceAdd, Int.reduceSub, Int.reduceMul, Int.reduceNeg, hs3.o78, k89T, j4]
      refine biI (c_leanIn (d := d + 1) hs3 hm W3 hi) fun y s4 _ ⟨y1, y2, y3⟩ => ?_
      have k89U : kd s4 89 = 5 := y2.o89.1
      rw [leanN_congr r3] at y1
      simp (disch := ((try simp only [kd_sF, kd_sA, gA_sF, gA_sA, gF_sF, gF_sA, List.length_set, reduceIte, and_true, and_false, true_and, false_and, Nat.reduceEqDiff, Int.reduceEq, k89U]); first | done | omega)) only [rF_ok, wF_ok, oK_ok, lA_ok, rA_ok, wA_ok, cI_ok, cV_ok, cL_ok, cR_ok, kd_sF, kd_sA, gA_sF, gF_sA, gF_sF, gA_sA, bk_0, bk_1, List.length_set, reduceIte, and_true, and_false, true_and, false_and, ne_eq, not_true_eq_false, not_false_eq_true, Int.toNat_natCast, Int.reduceToNat, Nat.reduceEqDiff, Int.reduceEq, Int.reduceLT, Int.reduceLE, Int.reduceAdd, Int.reduceSub, Int.reduceMul, Int.reduceNeg, k89U]
      have g : ∀ k, k < 100 → gF s4 89 k = gF S3 89 k := fun k hk => y3.2.1 89 k (by rw [k89T]; decide) hk
      refine hT _ ⟨y2.sF (by rw [k89U]; decide), (((F1.tr F2).tr F3).tr (y3.k.mono (by decide) (by decide) (by decide))).tr (FrK.sF (by decide)), (gF_nk (by decide)).trans ((g 0 (by decide)).trans j0), (gF_nk (by decide)).trans ((g 1 (by decide)).trans j1), (gF_nk (by decide)).trans ((g 2 (by decide)).trans (by rw [j2, es])), (gF_nk (by decide)).trans ((g 3 (by decide)).trans (by rw [j3, es, hw])), ?_, p8 _ ?_⟩
      · rw [gF_eq, es, y1]
        dsimp only
        unfold maxI gtr
        by_cases e : (hdN cls mood th need m seed h).2.2 < absI (leanN (dealF x) m)
        · rw [if_pos e]; split <;> omega
        · rw [if_neg e]; split <;> omega
      · rw [gA_sF, y3.2.2 90 (by decide), j9]
    by_cases e : sumN (gpW cls mood th (((m : Int) - 1) % 2) (dealF x)) m < need
    · rw [if_pos e]; exact fin 0 (by rw [if_pos e])
    · rw [if_neg e]; exact fin 1 (by rw [if_neg e])
end CHD
