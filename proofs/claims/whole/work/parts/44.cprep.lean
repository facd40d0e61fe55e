/-! ===== the class's paper: the whole length, and what is kept of it ===== -/
section CP
variable {cls : List Cl} {mood th : Int} {n : Nat} {s0 : St}
theorem c_exts {T : Res → Prop} {d a : Nat} {p : Int} {word tk gp bef : Int} {s : St} (hs : ShC s) (hbw : (if (a : Int) = 0 then -1 else andI word 3) = bef) (h : p = bef) (hb : p < 3) (hp : 0 ≤ p) (hT : Gl T (X4_extend_19 (d + 2) s 78 n a word tk gp (p + 1))) : Gl T (X4_extend_19 (d + 2) s 78 n a word tk gp p) := by
  have e0 : X4_extendBy (d + 1) s 78 p n a word tk gp = X4_extendBy_12 (d + 1) s 78 p n a word tk gp bef := by
    rw [e_X4_extendBy, ← hbw]
    by_cases h : (a : Int) = 0
    · simp only [if_pos h]
    · simp only [if_neg h]
  rw [e_X4_extend_19, if_pos hb, oK_ok hs.o78.1, e0, e_X4_extendBy_12, e_X11_startOfWord, cI_ok, e_X4_cell, cI_ok, if_pos h, cV_ok, wi_sm (by omega) (by omega)]
  exact hT
theorem c_ext (hn : 3 ≤ n ∧ n ≤ 12) (hth : 0 ≤ th ∧ th ≤ 9) (hR : RtC cls mood th ((n - 1) % 2) 144 s0) : ∀ (m a u d : Nat) (L : List Nat) (s : St), a + m = n → 1 ≤ a → u < WN a → GdP cls mood th n a (plN a u) → EI cls mood th s0 n L s → L.length + gN m (plN a u (a - 1)) ≤ 2 ^ (n - 2) →
    Gl (GV fun s' => EI cls mood th s0 n (L ++ prR cls mood th n u m) s' ∧ (prR cls mood th n u m).length ≤ gN m (plN a u (a - 1))) (X4_extend (d + 2 * m + 2) s 78 n a (w4p (plN a u) a) (sumN (tkW cls mood th (((n : Int) - 1) % 2) (plN a u)) a) (sumN (gpW cls mood th (((n : Int) - 1) % 2) (plN a u)) a))
  | 0, a, u, d, L, s, ha, h1, hu, hG, I, hL => by
    have : a = n := by omega
    subst this
    have hs := I.1
    rw [show d + 2 * 0 + 2 = d + 2 from rfl, e_X4_extend, if_neg (by omega)]
    simp (disch := ((try simp only [kd_sF, kd_sA, gA_sF, gA_sA, gF_sF, gF_sA, List.length_set, reduceIte, and_true, and_false, true_and, false_and, Nat.reduceEqDiff, Int.reduceEq, hs.o78]); first | done | omega)) only [rF_ok, wF_ok, oK_ok, lA_ok, rA_ok, wA_ok, cI_ok, cV_ok, cL_ok, cR_ok, kd_sF, kd_sA, gA_sF, gF_sA, gF_sF, gA_sA, bk_0, bk_1, List.length_set, reduceIte, and_true, and_false, true_and, false_and, ne_eq, not_true_eq_false, not_false_eq_true, Int.toNat_natCast, Int.reduceToNat, Nat.reduceEqDiff, Int.reduceEq, Int.reduceLT, Int.reduceLE, Int.reduceAdd, Int.reduceSub, Int.reduceMul, Int.reduceNeg, hs.o78]
    have hy := prR_yes (cls := cls) (mood := mood) (th := th) hn.1 hu hG
    refine biV (c_keep (d := d) (u := u) hn I (by have : gN 0 (plN a u (a - 1)) = 1 := rfl; omega)) fun s' _ q => reV ⟨by rw [hy]; exact q, by rw [hy]; exact Nat.le_refl _⟩
  | m + 1, a, u, d, L, s, ha, h1, hu, hG, I, hL => by
    have hpl := plN_pl hu (a - 1)
    have k0 := plN_step (a := a) (u := u) (b := 0) h1 (by decide)
    have k1 := plN_step (a := a) (u := u) (b := 1) h1 (by decide)
    rw [Nat.add_zero] at k0
    have WNs : WN (a + 1) = 2 * WN a := by
      unfold WN
      obtain ⟨c, rfl⟩ : ∃ c, a = c + 1 := ⟨a - 1, by omega⟩
      rw [show c + 1 + 1 - 1 = c + 1 by omega, show c + 1 - 1 = c by omega, Nat.pow_succ]
      omega
    have hand : andI (w4p (plN a u) a) 3 = plN a u (a - 1) := by
      have b5 := w4p_bd (f := plN a u) (k := a) (fun j _ => plN_pl hu j)
      have b6 : (4 : Int) ^ a ≤ 4 ^ 12 := by
        have := Nat.pow_le_pow_right (show 0 < 4 by decide) (show a ≤ 12 by omega)
        exact_mod_cast this
      have b7 : (4 : Int) ^ 12 = 16777216 := by decide
      rw [and3 (by omega) (by omega)]
      obtain ⟨c, hc⟩ : ∃ c, a = c + 1 := ⟨a - 1, by omega⟩
      have e : w4p (plN a u) a = w4p (plN a u) c * 4 + plN a u c := by rw [hc, w4p, ← hc]
      rw [e, show a - 1 = c by omega]
      have := plN_pl hu c
      unfold pl3 at this
      omega
    have hbw : (if (a : Int) = 0 then -1 else andI (w4p (plN a u) a) 3) = plN a u (a - 1) := by rw [if_neg (by omega), hand]
    -- the two children
    have child : ∀ (u1 : Nat) (p : Int) (T : Res → Prop) (L1 : List Nat) (s1 : St), (u1 = 2 * u ∧ p = fol (plN a u (a - 1)) 0 ∨ u1 = 2 * u + 1 ∧ p = fol (plN a u (a - 1)) 1) → EI cls mood th s0 n L1 s1 → L1.length + (if okP m p = true then gN m p else 0) ≤ 2 ^ (n - 2) →
        (∀ s', EI cls mood th s0 n (L1 ++ prR cls mood th n u1 m) s' → (prR cls mood th n u1 m).length ≤ (if okP m p = true then gN m p else 0) → Gl T (X4_extend_19 (d + 2 * m + 4) s' 78 n a (w4p (plN a u) a) (sumN (tkW cls mood th (((n : Int) - 1) % 2) (plN a u)) a) (sumN (gpW cls mood th (((n : Int) - 1) % 2) (plN a u)) a) (p + 1))) →
        Gl T (X4_extend_19 (d + 2 * m + 4) s1 78 n a (w4p (plN a u) a) (sumN (tkW cls mood th (((n : Int) - 1) % 2) (plN a u)) a) (sumN (gpW cls mood th (((n : Int) - 1) % 2) (plN a u)) a) p) := by
      intro u1 p T L1 s1 hu1 I1 hL1 hT
      have hpre : (∀ k, k < a → plN (a + 1) u1 k = plN a u k) ∧ plN (a + 1) u1 a = p ∧ u1 < WN (a + 1) := by
        rcases hu1 with ⟨rfl, rfl⟩ | ⟨rfl, rfl⟩
        · exact ⟨k0.1, k0.2, by omega⟩
        · exact ⟨k1.1, k1.2, by omega⟩
      obtain ⟨g1, g2, g3⟩ := hpre
      have hne : p ≠ plN a u (a - 1) := by
        rcases hu1 with ⟨-, rfl⟩ | ⟨-, rfl⟩ <;> exact fol_ne _
      refine c_extc (d := d) (m := m) (u1 := u1) hn (by omega) hth g3 g2 (by rw [if_neg (by omega), g1 (a - 1) (by omega)]) hbw hne ?_ (w4p_congr fun j hj => (g1 j hj).symm) (sumN_congr fun k hk => tkW_congr fun j hj => (g1 j (by omega)).symm) (sumN_congr fun k hk => gpW_congr fun j hj => (g1 j (by omega)).symm) hR I1 hL1 (fun gG gL => ?_) hT
      · intro k hk
        rw [g1 k hk, brW_congr (g := plN a u) (fun j hj => g1 j (by omega))]
        exact hG k hk
      · have := c_ext hn hth hR m (a + 1) u1 d L1 s1 (by omega) (by omega) g3 gG I1 (by rw [show a + 1 - 1 = a by omega, g2]; exact gL)
        rw [show a + 1 - 1 = a by omega, g2] at this
        exact this
    rw [show d + 2 * (m + 1) + 2 = d + 2 * m + 4 by omega, e_X4_extend, if_pos (by omega)]
    have hgN : gN (m + 1) (plN a u (a - 1)) = (if plN a u (a - 1) ≠ 0 ∧ okP m 0 = true then gN m 0 else 0) + (if plN a u (a - 1) ≠ 1 ∧ okP m 1 = true then gN m 1 else 0) + (if plN a u (a - 1) ≠ 2 ∧ okP m 2 = true then gN m 2 else 0) := rfl
    have fin : ∀ (L1 : List Nat) (s1 : St), EI cls mood th s0 n (L ++ prR cls mood th n (2 * u) m ++ prR cls mood th n (2 * u + 1) m) s1 → (prR cls mood th n (2 * u) m).length + (prR cls mood th n (2 * u + 1) m).length ≤ gN (m + 1) (plN a u (a - 1)) → Gl (GV fun s' => EI cls mood th s0 n (L ++ prR cls mood th n u (m + 1)) s' ∧ (prR cls mood th n u (m + 1)).length ≤ gN (m + 1) (plN a u (a - 1))) (X4_extend_19 (d + 2 * m + 4) s1 78 n a (w4p (plN a u) a) (sumN (tkW cls mood th (((n : Int) - 1) % 2) (plN a u)) a) (sumN (gpW cls mood th (((n : Int) - 1) % 2) (plN a u)) a) 3) := by
      intro L1 s1 I1 hl
      rw [e_X4_extend_19, if_neg (by decide), prR_s]
      exact reV ⟨by rw [← List.append_assoc]; exact I1, by rw [List.length_append]; exact hl⟩
    rcases hpl with hq | hq | hq
    · rw [hq] at hgN hL child fin hbw ⊢
      simp only [ne_eq, not_true_eq_false, false_and, reduceIte, Int.reduceEq, not_false_eq_true, true_and, Nat.zero_add] at hgN
      refine c_exts (d := d + 2 * m + 2) I.1 hbw rfl (by decide) (by decide) ?_
      refine child (2 * u) 1 _ L s (Or.inl ⟨rfl, rfl⟩) I (by omega) (fun s1 I1 l1 => ?_)
      refine child (2 * u + 1) 2 _ _ s1 (Or.inr ⟨rfl, rfl⟩) I1 (by rw [List.length_append]; omega) (fun s2 I2 l2 => ?_)
      exact fin L s2 I2 (by omega)
    · rw [hq] at hgN hL child fin hbw ⊢
      simp only [ne_eq, not_true_eq_false, false_and, reduceIte, Int.reduceEq, not_false_eq_true, true_and, Nat.add_zero] at hgN
      refine child (2 * u) 0 _ L s (Or.inl ⟨rfl, rfl⟩) I (by omega) (fun s1 I1 l1 => ?_)
      refine c_exts (d := d + 2 * m + 2) I1.1 hbw rfl (by decide) (by decide) ?_
      refine child (2 * u + 1) 2 _ _ s1 (Or.inr ⟨rfl, rfl⟩) I1 (by rw [List.length_append]; omega) (fun s2 I2 l2 => ?_)
      exact fin L s2 I2 (by omega)
    · rw [hq] at hgN hL child fin hbw ⊢
      simp only [ne_eq, not_true_eq_false, false_and, reduceIte, Int.reduceEq, not_false_eq_true, true_and, Nat.add_zero] at hgN
      refine child (2 * u) 0 _ L s (Or.inl ⟨rfl, rfl⟩) I (by omega) (fun s1 I1 l1 => ?_)
      refine child (2 * u + 1) 1 _ _ s1 (Or.inr ⟨rfl, rfl⟩) I1 (by rw [List.length_append]; omega) (fun s2 I2 l2 => ?_)
      refine c_exts (d := d + 2 * m + 2) I2.1 hbw rfl (by decide) (by decide) ?_
      exact fin L s2 I2 (by omega)
theorem c_extend {d : Nat} {s : St} (hn : 3 ≤ n ∧ n ≤ 12) (hth : 0 ≤ th ∧ th ≤ 9) (hR : RtC cls mood th ((n - 1) % 2) 144 s0) (I : EI cls mood th s0 n [] s) : Gl (GV fun s' => EI cls mood th s0 n (prW cls mood th n) s' ∧ (prW cls mood th n).length ≤ 2 ^ (n - 2)) (X4_extend (d + 2 * n + 2) s 78 n 0 0 0 0) := by
  obtain ⟨m, hm⟩ : ∃ m, n = m + 1 := ⟨n - 1, by omega⟩
  have htop := gN_top n (by omega) hn.1
  have hgN : gN n (-1) = (if okP m ((0 : Nat) : Int) = true then gN m ((0 : Nat) : Int) else 0) + (if okP m ((1 : Nat) : Int) = true then gN m ((1 : Nat) : Int) else 0) + (if okP m ((2 : Nat) : Int) = true then gN m ((2 : Nat) : Int) else 0) := by
    rw [hm, gN]
    simp
  have pl1 : ∀ p : Nat, plN 1 p 0 = (p : Int) := fun p => by unfold plN; simp
  have child : ∀ (p : Nat) (T : Res → Prop) (L1 : List Nat) (s1 : St), p < 3 → EI cls mood th s0 n L1 s1 → L1.length + (if okP m (p : Int) = true then gN m (p : Int) else 0) ≤ 2 ^ (n - 2) →
      (∀ s', EI cls mood th s0 n (L1 ++ prR cls mood th n p m) s' → (prR cls mood th n p m).length ≤ (if okP m (p : Int) = true then gN m (p : Int) else 0) → Gl T (X4_extend_19 (d + 2 * n + 2) s' 78 n (0 : Nat) 0 0 0 ((p : Int) + 1))) →
      Gl T (X4_extend_19 (d + 2 * n + 2) s1 78 n (0 : Nat) 0 0 0 p) := by
    intro p T L1 s1 hp I1 hL1 hT
    have hT' : ∀ s', EI cls mood th s0 n (L1 ++ prR cls mood th n p m) s' → (prR cls mood th n p m).length ≤ (if okP m (p : Int) = true then gN m (p : Int) else 0) → Gl T (X4_extend_19 (d + 2 * m + 4) s' 78 n (0 : Nat) 0 0 0 ((p : Int) + 1)) := by
      intro s' q1 q2
      have := hT s' q1 q2
      rw [show d + 2 * n + 2 = d + 2 * m + 4 by omega] at this
      exact this
    rw [show d + 2 * n + 2 = d + 2 * m + 4 by omega]
    refine c_extc (d := d) (a := 0) (m := m) (u1 := p) hn (by omega) hth (by unfold WN; omega) (pl1 p) rfl (if_pos rfl) (by omega) (fun k hk => by omega) rfl rfl rfl hR I1 hL1 (fun gG gL => ?_) hT'
    have := c_ext hn hth hR m 1 p d L1 s1 (by omega) (by omega) (by unfold WN; omega) gG I1 (by show L1.length + gN m (plN 1 p 0) ≤ _; rw [pl1]; exact gL)
    rw [show (1 : Nat) - 1 = 0 from rfl, pl1] at this
    exact this
  have htop2 := prR_top (cls := cls) (mood := mood) (th := th) (n := n) (by omega)
  rw [show n - 1 = m by omega] at htop2
  rw [e_X4_extend, if_pos (by omega)]
  refine child 0 _ [] s (by decide) I (by simp only [List.length_nil]; omega) (fun s1 I1 l1 => ?_)
  refine child 1 _ _ s1 (by decide) I1 (by rw [List.length_append]; simp only [List.length_nil]; omega) (fun s2 I2 l2 => ?_)
  refine child 2 _ _ s2 (by decide) I2 (by rw [List.length_append, List.length_append]; simp only [List.length_nil]; omega) (fun s3 I3 l3 => ?_)
  rw [e_X4_extend_19, if_neg (by decide)]
  refine reV ⟨?_, ?_⟩
  · rw [htop2]
    rw [List.nil_append, List.append_assoc] at I3
    exact I3
  · rw [htop2, List.length_append, List.length_append]
    omega
end CP
