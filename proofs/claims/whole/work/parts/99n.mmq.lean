/-! ===== the reference answers the questions as the abstract state tells ===== -/
section MMQ
variable {s s' : St} {a : Ab} {d : Nat}
theorem lies_if {v lo hi : Int} : X12_lies d s v lo hi = some ([(0, if lo ≤ v ∧ v ≤ hi then 1 else 0)], s) := by
  by_cases h : lo ≤ v ∧ v ≤ hi
  · rw [if_pos h, m_lies1 h.1 h.2]
  · rw [if_neg h, m_lies0 (by omega)]
theorem long_if {n : Int} : X12_isLong (d + 1) s n = some ([(0, if 3 ≤ n ∧ n ≤ 12 then 1 else 0)], s) := by
  by_cases h : 3 ≤ n ∧ n ≤ 12
  · rw [if_pos h, m_isLong1 h]
  · rw [if_neg h, m_isLong0 (by omega)]
theorem RepM.isKn {q : Int} (R : RepM a s) (W : wfA a) : X12_isKnot (d + 1) s 98 q = some ([(0, if 0 ≤ q ∧ q < (a.1.1.length : Int) then 1 else 0)], s) := by
  have h8 := W.1.1.1
  by_cases h : 0 ≤ q ∧ q < (a.1.1.length : Int)
  · rw [if_pos h, m_isKnot1 R.1 (by rw [R.cnt]; omega) (by rw [R.cnt]; exact h)]
  · rw [if_neg h, m_isKnot0 R.1 (by rw [R.cnt]; omega) (by rw [R.cnt]; omega)]
theorem mm_ways {n c : Int} (R : RepM a s) (W : wfA a) : Gl (GI fun x s' => x = aWays a.1 n c ∧ RepM a s') (X12_ways (d + 48) s 98 n c) := by
  unfold aWays
  by_cases h : 3 ≤ n ∧ n ≤ 12
  · obtain ⟨m, rfl⟩ := Int.eq_ofNat_of_zero_le (show 0 ≤ n by omega)
    rw [if_pos h, Int.toNat_natCast, ← R.pr W]
    exact wkI (m_ways (d := d) (n := m) R.1 (R.bk W).1 (by omega)) fun x s' hev ⟨h1, h2⟩ => ⟨h1, R.ev hev rfl rfl h2⟩
  · rw [if_neg h, e_X12_ways, long_if, if_neg h, cI_ok, if_pos rfl]
    exact reI ⟨rfl, R⟩
theorem mm_word {n i k : Int} (R : RepM a s) (W : wfA a) (hk2 : rg n) : Gl (GI fun x s' => x = aWord a.1 n i k ∧ RepM a s') (X12_word (d + 48) s 98 n i k) := by
  unfold aWord
  by_cases h : (3 ≤ n ∧ n ≤ 12) ∧ 0 ≤ i ∧ (0 ≤ k ∧ k < n)
  · obtain ⟨m, rfl⟩ := Int.eq_ofNat_of_zero_le (show 0 ≤ n by omega)
    rw [if_pos h, Int.toNat_natCast, ← R.pr W]
    exact wkI (m_word (d := d) (n := m) R.1 (R.bk W).1 (by omega) h.2.1 h.2.2) fun x s' hev ⟨h1, h2⟩ => ⟨h1, R.ev hev rfl rfl h2⟩
  · rw [if_neg h, e_X12_word, long_if, cI_ok]
    by_cases e1 : 3 ≤ n ∧ n ≤ 12
    · rw [if_pos e1, if_neg (show ¬ ((1 : Int) = 0) by decide)]
      by_cases e2 : i < 0
      · rw [if_pos e2]; exact reI ⟨rfl, R⟩
      · rw [if_neg e2, wi_sm (by omega) (by omega), lies_if, if_neg (by omega), cI_ok, if_pos rfl]
        exact reI ⟨rfl, R⟩
    · rw [if_neg e1, if_pos rfl]
      exact reI ⟨rfl, R⟩
theorem mm_rank {q : Int} (R : RepM a s) (W : wfA a) : Gl (GI fun x s' => x = aRank a.1 q ∧ RepM a s') (X12_rank (d + 48) s 98 q) := by
  unfold aRank
  have h8 := W.1.1.1
  by_cases h : (0 ≤ q ∧ q < (a.1.1.length : Int)) ∧ (3 ≤ kLen (knQ a.1 q) ∧ kLen (knQ a.1 q) ≤ 12)
  · rw [if_pos h, ← R.pr W]
    refine wkI (m_rank (d := d) (n := kLen (knQ a.1 q)) R.1 (R.bk W).1 (by rw [R.cnt]; omega) (by rw [R.cnt]; exact h.1) (R.mv h.1) h.2) fun x s' hev ⟨h1, h2⟩ => ⟨?_, R.ev hev rfl rfl h2⟩
    rw [h1]
    exact rank_cg fun k hk => R.kpl h.1 hk
  · rw [if_neg h, e_X12_rank, oK_ok (R.1.k98), R.isKn W, cI_ok]
    by_cases e1 : 0 ≤ q ∧ q < (a.1.1.length : Int)
    · rw [if_pos e1, if_neg (show ¬ ((1 : Int) = 0) by decide), oK_ok (R.1.k98), m_fact R.1 (by omega) (by decide), cI_ok, R.mv e1, long_if, if_neg (by omega), cI_ok, if_pos rfl]
      exact reI ⟨rfl, R⟩
    · rw [if_neg e1, if_pos rfl]
      exact reI ⟨rfl, R⟩
theorem mm_best {c w : Int} (R : RepM a s) (W : wfA a) (hw : rg w) : Gl (GI fun x s' => x = aBest a.1 c w ∧ RepM a s') (X12_best (d + 48) s 98 c w) := by
  unfold aBest
  by_cases h : (1 ≤ c ∧ c ≤ 200) ∧ 0 ≤ w
  · rw [if_pos h]
    obtain ⟨b0, b1, b2, b3, b4⟩ := R.bk W
    refine wkI (m_best (d := d) R.1 b0 h.1 h.2 hw.2) fun x s' hev ⟨h1, h2⟩ => ⟨?_, R.ev hev rfl rfl h2⟩
    rw [h1, b1, b2, b3, b4]
  · rw [if_neg h, e_X12_best, lies_if, cI_ok]
    by_cases e1 : 1 ≤ c ∧ c ≤ 200
    · rw [if_pos e1, if_neg (show ¬ ((1 : Int) = 0) by decide), if_pos (by omega)]
      exact reI ⟨rfl, R⟩
    · rw [if_neg e1, if_pos rfl]
      exact reI ⟨rfl, R⟩
theorem mm_change {q w : Int} (R : RepM a s) (W : wfA a) : Gl (GI fun x s' => x = aChange a.1 q w ∧ RepM a s') (X12_change (d + 48) s 98 q w) := by
  unfold aChange
  have h8 := W.1.1.1
  by_cases h : (0 ≤ q ∧ q < (a.1.1.length : Int)) ∧ (3 ≤ kLen (knQ a.1 q) ∧ kLen (knQ a.1 q) ≤ 12) ∧ (0 ≤ w ∧ w ≤ (kLen (knQ a.1 q) : Int))
  · rw [if_pos h, ← R.pr W]
    refine wkI (m_change (d := d) (n := kLen (knQ a.1 q)) R.1 (R.bk W).1 (by rw [R.cnt]; omega) (by rw [R.cnt]; exact h.1) (R.mv h.1) h.2.1 h.2.2) fun x s' hev ⟨h1, h2⟩ => ⟨?_, R.ev hev rfl rfl h2⟩
    rw [h1, ch_cg fun k hk => R.kpl h.1 hk]
  · rw [if_neg h, e_X12_change, oK_ok (R.1.k98), R.isKn W, cI_ok]
    by_cases e1 : 0 ≤ q ∧ q < (a.1.1.length : Int)
    · rw [if_pos e1, if_neg (show ¬ ((1 : Int) = 0) by decide), oK_ok (R.1.k98), m_fact R.1 (by omega) (by decide), cI_ok, R.mv e1, long_if, cI_ok]
      by_cases e2 : 3 ≤ (kLen (knQ a.1 q) : Int) ∧ (kLen (knQ a.1 q) : Int) ≤ 12
      · rw [if_pos e2, if_neg (show ¬ ((1 : Int) = 0) by decide), oK_ok (R.1.k98), m_fact R.1 (by omega) (by decide), cI_ok, R.mv e1, lies_if, if_neg (by omega), cI_ok, if_pos rfl]
        exact reI ⟨rfl, R⟩
      · rw [if_neg e2, if_pos rfl]
        exact reI ⟨rfl, R⟩
    · rw [if_neg e1, if_pos rfl]
      exact reI ⟨rfl, R⟩
theorem mm_alike {n w : Int} (R : RepM a s) (W : wfA a) : Gl (GI fun x s' => x = aAlike a.1 n w ∧ RepM a s') (X12_alike (d + 48) s 98 n w) := by
  unfold aAlike
  by_cases h : (3 ≤ n ∧ n ≤ 12) ∧ (0 ≤ w ∧ w ≤ 1)
  · obtain ⟨m, rfl⟩ := Int.eq_ofNat_of_zero_le (show 0 ≤ n by omega)
    rw [if_pos h, Int.toNat_natCast, ← R.pr W]
    exact wkI (m_alike (d := d) (n := m) R.1 (R.bk W).1 (by omega) h.2) fun x s' hev ⟨h1, h2⟩ => ⟨h1, R.ev hev rfl rfl h2⟩
  · rw [if_neg h, e_X12_alike, long_if, cI_ok]
    by_cases e1 : 3 ≤ n ∧ n ≤ 12
    · rw [if_pos e1, if_neg (show ¬ ((1 : Int) = 0) by decide), lies_if, if_neg (by omega), cI_ok, if_pos rfl]
      exact reI ⟨rfl, R⟩
    · rw [if_neg e1, if_pos rfl]
      exact reI ⟨rfl, R⟩
theorem fit_cg {f f' g g' : Nat → Int} {c n : Nat} {mi : Int} {p : Nat → Int} (h : ∀ i, i < c → f i = f' i ∧ g i = g' i) : fitB f g c mi n p = fitB f' g' c mi n p := by
  unfold fitB
  induction c with
  | zero => rfl
  | succ c ih =>
    unfold allN
    rw [ih fun i hi => h i (by omega), (h c (by omega)).1, (h c (by omega)).2]
theorem RepM.sg (R : RepM a s) (W : wfA a) : SgK (gA s 100) a.1.2.2.1.length ∧ ∀ mi n, ftL (gA s 100) mi n = ftD a.1 mi n := by
  obtain ⟨s1, s2⟩ := R.2.1.2.2.1
  have w := W.1.2.2.1
  have s1' : (gA s 100).getD 171 0 = (a.1.2.2.1.length : Int) := s1
  refine ⟨⟨s1', w.1, fun i hi => ?_⟩, fun mi n => ?_⟩
  · have e1 : sMk (gA s 100) i = smD a.1 i := (s2 i hi).1
    have e2 : sPk (gA s 100) i = spD a.1 i := (s2 i hi).2
    rw [e1, e2]
    exact w.2 _ (gdMem (a := (0, 0)) hi)
  · unfold ftL ftD
    rw [R.pr W, s1', Int.toNat_natCast]
    congr 1
    funext u
    exact fit_cg fun i hi => s2 i hi
theorem mm_fits {n mi i k : Int} (R : RepM a s) (W : wfA a) : Gl (GI fun x s' => x = aFits a.1 n mi i k ∧ RepM a s') (X12_fits (d + 48) s 98 n mi i k) := by
  unfold aFits
  obtain ⟨g1, g2⟩ := R.sg W
  by_cases h : (3 ≤ n ∧ n ≤ 12) ∧ (0 ≤ mi ∧ mi ≤ 1) ∧ -1 ≤ i ∧ (i = -1 ∨ (0 ≤ k ∧ k < n))
  · obtain ⟨m, rfl⟩ := Int.eq_ofNat_of_zero_le (show 0 ≤ n by omega)
    rw [if_pos h, Int.toNat_natCast, ← g2]
    exact wkI (m_fits (d := d) (n := m) R.1 (R.bk W).1 g1 (by omega) h.2.1 h.2.2.1 h.2.2.2) fun x s' hev ⟨h1, h2⟩ => ⟨h1, R.ev hev rfl rfl h2⟩
  · rw [if_neg h, e_X12_fits, long_if, cI_ok]
    by_cases e1 : 3 ≤ n ∧ n ≤ 12
    · rw [if_pos e1, if_neg (show ¬ ((1 : Int) = 0) by decide), lies_if, cI_ok]
      by_cases e2 : 0 ≤ mi ∧ mi ≤ 1
      · rw [if_pos e2, if_neg (show ¬ ((1 : Int) = 0) by decide)]
        by_cases e3 : i < -1
        · rw [if_pos e3]; exact reI ⟨rfl, R⟩
        · rw [if_neg e3, if_pos (show -1 < i by omega), wi_sm (by omega) (by omega), lies_if, if_neg (by omega), cI_ok, if_pos rfl]
          exact reI ⟨rfl, R⟩
      · rw [if_neg e2, if_pos rfl]
        exact reI ⟨rfl, R⟩
    · rw [if_neg e1, if_pos rfl]
      exact reI ⟨rfl, R⟩
theorem mm_look {n mi : Int} (R : RepM a s) (W : wfA a) : Gl (GI fun x s' => x = aLook a.1 n mi ∧ RepM a s') (X12_look (d + 48) s 98 n mi) := by
  unfold aLook
  obtain ⟨g1, g2⟩ := R.sg W
  by_cases h : (3 ≤ n ∧ n ≤ 12) ∧ (0 ≤ mi ∧ mi ≤ 1)
  · obtain ⟨m, rfl⟩ := Int.eq_ofNat_of_zero_le (show 0 ≤ n by omega)
    rw [if_pos h, Int.toNat_natCast, ← g2]
    exact wkI (m_look (d := d) (n := m) R.1 (R.bk W).1 g1 (by omega) h.2) fun x s' hev ⟨h1, h2⟩ => ⟨h1, R.ev hev rfl rfl h2⟩
  · rw [if_neg h, e_X12_look, long_if, cI_ok]
    by_cases e1 : 3 ≤ n ∧ n ≤ 12
    · rw [if_pos e1, if_neg (show ¬ ((1 : Int) = 0) by decide), lies_if, if_neg (by omega), cI_ok, if_pos rfl]
      exact reI ⟨rfl, R⟩
    · rw [if_neg e1, if_pos rfl]
      exact reI ⟨rfl, R⟩
end MMQ
