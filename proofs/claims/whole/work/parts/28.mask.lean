/-! ===== the reference: what is asked of moves, of knots, of words ===== -/
def tkQ (cls : List Cl) (mood th side k bef pl : Int) : Int := selL 1 0 20 (2 + th) (env6 pl side k bef th mood) cls
def gpA (cls : List Cl) (mood th side k bef pl : Int) : Int := selL 2 (-9) 9 1 (env6 pl side k bef th mood) cls
def brA (cls : List Cl) (mood th side k bef pl : Int) : Int := selL 3 0 1 0 (env6 pl side k bef th mood) cls
def tkW (cls : List Cl) (mood th st : Int) (f : Nat → Int) (k : Nat) : Int := tkQ cls mood th ((st + k) % 2) k (if k = 0 then -1 else f (k - 1)) (f k)
def gpW (cls : List Cl) (mood th st : Int) (f : Nat → Int) (k : Nat) : Int := gpA cls mood th ((st + k) % 2) k (if k = 0 then -1 else f (k - 1)) (f k)
def brW (cls : List Cl) (mood th st : Int) (f : Nat → Int) (k : Nat) : Int := brA cls mood th ((st + k) % 2) k (if k = 0 then -1 else f (k - 1)) (f k)
theorem tkQ_bd {cls : List Cl} {mood th side k bef pl : Int} (h : 0 ≤ th ∧ th ≤ 9) : 0 ≤ tkQ cls mood th side k bef pl ∧ tkQ cls mood th side k bef pl ≤ 20 := selL_bd (wo := 0) (by decide) (by decide) (by decide) cls _ (by omega) (by omega)
theorem gpA_bd {cls : List Cl} {mood th side k bef pl : Int} : -9 ≤ gpA cls mood th side k bef pl ∧ gpA cls mood th side k bef pl ≤ 9 := selL_bd (wo := 0) (by decide) (by decide) (by decide) cls _ (by decide) (by decide)
theorem brA_bd {cls : List Cl} {mood th side k bef pl : Int} : 0 ≤ brA cls mood th side k bef pl ∧ brA cls mood th side k bef pl ≤ 1 := selL_bd (wo := 0) (by decide) (by decide) (by decide) cls _ (by decide) (by decide)
theorem tkW_congr {cls : List Cl} {mood th st : Int} {f g : Nat → Int} {k : Nat} (h : ∀ j, j ≤ k → f j = g j) : tkW cls mood th st f k = tkW cls mood th st g k := by unfold tkW; rw [h k (Nat.le_refl _), h (k - 1) (by omega)]
theorem gpW_congr {cls : List Cl} {mood th st : Int} {f g : Nat → Int} {k : Nat} (h : ∀ j, j ≤ k → f j = g j) : gpW cls mood th st f k = gpW cls mood th st g k := by unfold gpW; rw [h k (Nat.le_refl _), h (k - 1) (by omega)]
theorem brW_congr {cls : List Cl} {mood th st : Int} {f g : Nat → Int} {k : Nat} (h : ∀ j, j ≤ k → f j = g j) : brW cls mood th st f k = brW cls mood th st g k := by unfold brW; rw [h k (Nat.le_refl _), h (k - 1) (by omega)]
theorem pf_fa {P : List Int} {s s' : St} (h : Fa P s s') (hp : (112 : Int) ∉ P) : pf s' = pf s := by
  funext k
  unfold pf
  rw [h 112 hp]
/-- what is looked at: start, thickness; the law and the mood -/
def LkM (s : St) (st th : Int) : Prop := ShM s ∧ LawK (gA s 100) ∧ (st = 0 ∨ st = 1) ∧ (0 ≤ th ∧ th ≤ 9) ∧ gF s 98 27 = st ∧ gF s 98 28 = th ∧ (0 ≤ (gA s 100).getD 167 0 ∧ (gA s 100).getD 167 0 ≤ 9)
section MASK
variable {s : St} {st th : Int}
theorem m_sets {d k : Nat} (L : LkM s st th) (hk : k < 13) : ∃ s', X12_sets (d + 1) s 98 k = some ([], s') ∧ ShM s' ∧ (∀ j, gF s' 98 j = gF s 98 j) ∧ Fa [110] s s' ∧ ∀ i, i < 6 → (gA s' 110).getD i 0 = env6 (pf s k) ((st + k) % 2) k (if k = 0 then -1 else pf s (k - 1)) th ((gA s 100).getD 167 0) i := by
  obtain ⟨hs, hK, hst, hth, h27, h28, hm⟩ := L
  have e : ∃ w, (w = if k = 0 then -1 else pf s (k - 1)) ∧ X12_sets (d + 1) s 98 k = X12_sets_51 (d + 1) (sA (sA (sA s 110 ((gA s 110).set 0 (pf s k))) 110 (((gA s 110).set 0 (pf s k)).set 1 ((st + k) % 2))) 110 ((((gA s 110).set 0 (pf s k)).set 1 ((st + k) % 2)).set 2 k)) 98 110 3 w := by
    rw [e_X12_sets]
    by_cases h0 : k = 0
    · subst h0
      refine ⟨-1, rfl, ?_⟩
      simp (disch := ((try simp only [kd_sF, kd_sA, gA_sF, gA_sA, gF_sF, gF_sA, List.length_set, reduceIte, and_true, and_false, true_and, false_and, Nat.reduceEqDiff, Int.reduceEq, hs.kd, hs.ln, hs.fs, kMs, lMs]); first | done | omega)) only [rF_ok, wF_ok, oK_ok, lA_ok, rA_ok, wA_ok, cI_ok, cV_ok, cL_ok, cR_ok, kd_sF, kd_sA, gA_sF, gF_sA, gF_sF, gA_sA, bk_0, bk_1, List.length_set, reduceIte, and_true, and_false, true_and, false_and, ne_eq, not_true_eq_false, not_false_eq_true, Int.toNat_natCast, Int.reduceToNat, Nat.reduceEqDiff, Int.reduceEq, Int.reduceLT, Int.reduceLE, Int.reduceAdd, Int.reduceSub, Int.reduceMul, Int.reduceNeg, hs.kd, hs.ln, hs.fs, kMs, lMs, e_X12_sideOf, h27, wi_sm, tm2]
      rfl
    · have e1 : ((k : Int) - 1).toNat = k - 1 := by omega
      refine ⟨pf s (k - 1), (if_neg h0).symm, ?_⟩
      simp (disch := ((try simp only [kd_sF, kd_sA, gA_sF, gA_sA, gF_sF, gF_sA, List.length_set, reduceIte, and_true, and_false, true_and, false_and, Nat.reduceEqDiff, Int.reduceEq, hs.kd, hs.ln, hs.fs, kMs, lMs]); first | done | omega)) only [rF_ok, wF_ok, oK_ok, lA_ok, rA_ok, wA_ok, cI_ok, cV_ok, cL_ok, cR_ok, kd_sF, kd_sA, gA_sF, gF_sA, gF_sF, gA_sA, bk_0, bk_1, List.length_set, reduceIte, and_true, and_false, true_and, false_and, ne_eq, not_true_eq_false, not_false_eq_true, Int.toNat_natCast, Int.reduceToNat, Nat.reduceEqDiff, Int.reduceEq, Int.reduceLT, Int.reduceLE, Int.reduceAdd, Int.reduceSub, Int.reduceMul, Int.reduceNeg, hs.kd, hs.ln, hs.fs, kMs, lMs, e_X12_sideOf, h27, wi_sm, tm2, e1, if_neg (show ¬ ((k : Int) = 0) by omega)]
      rfl
  obtain ⟨w, hw, e⟩ := e
  rw [e, e_X12_sets_51]
  simp (disch := ((try simp only [kd_sF, kd_sA, gA_sF, gA_sA, gF_sF, gF_sA, List.length_set, reduceIte, and_true, and_false, true_and, false_and, Nat.reduceEqDiff, Int.reduceEq, hs.kd, hs.ln, hs.fs, kMs, lMs]); first | done | omega)) only [rF_ok, wF_ok, oK_ok, lA_ok, rA_ok, wA_ok, cI_ok, cV_ok, cL_ok, cR_ok, kd_sF, kd_sA, gA_sF, gF_sA, gF_sF, gA_sA, bk_0, bk_1, List.length_set, reduceIte, and_true, and_false, true_and, false_and, ne_eq, not_true_eq_false, not_false_eq_true, Int.toNat_natCast, Int.reduceToNat, Nat.reduceEqDiff, Int.reduceEq, Int.reduceLT, Int.reduceLE, Int.reduceAdd, Int.reduceSub, Int.reduceMul, Int.reduceNeg, hs.kd, hs.ln, hs.fs, kMs, lMs, h28]
  have l6 : (gA s 110).length = 6 := hs.ln 110
  refine ⟨_, rfl, ?_, fun j => rfl, ?_, ?_⟩
  · (repeat first | exact hs | (refine ShM.sF ?_ (by decide)) | (refine ShM.sA ?_ (by simp only [List.length_set, gA_sA, gA_sF, reduceIte])))
  · intro p hp
    simp only [List.mem_singleton] at hp
    simp only [gA_sA, hp, reduceIte]
  · intro i hi
    rw [gA_eq]
    generalize gA s 110 = l at *
    match l, l6 with
    | [a0, a1, a2, a3, a4, a5], _ =>
      rw [← hw]
      match i, hi with
      | 0, _ => rfl
      | 1, _ => rfl
      | 2, _ => rfl
      | 3, _ => rfl
      | 4, _ => rfl
      | 5, _ => rfl
theorem env6_bd {a b c d e f : Int} (h : ∀ x ∈ [a, b, c, d, e, f], -1000000000 ≤ x ∧ x ≤ 1000000000) (k : Nat) : -1000000000 ≤ env6 a b c d e f k ∧ env6 a b c d e f k ≤ 1000000000 := by
  unfold env6
  rw [List.getD_eq_getElem?_getD]
  cases e : [a, b, c, d, e, f][k]? with
  | none => simp
  | some x => exact h x (List.mem_of_getElem? e)
theorem m_by {d k : Nat} {hd lo hi wo : Int} (L : LkM s st th) (hk : k < 13) (hp : pl3 (pf s k) ∧ pl3 (pf s (k - 1))) (hlo : -1000 ≤ lo ∧ lo ≤ hi ∧ hi ≤ 1000 ∧ -1000 ≤ wo ∧ wo ≤ 1000) {s1 : St} (h1 : X12_sets (d + 45) s 98 k = some ([], s1)) (h2 : ShM s1) (h3 : Fa [110] s s1) (h4 : ∀ i, i < 6 → (gA s1 110).getD i 0 = env6 (pf s k) ((st + k) % 2) k (if k = 0 then -1 else pf s (k - 1)) th ((gA s 100).getD 167 0) i) :
    Gl (GI fun x s' => x = selL hd lo hi wo (env6 (pf s k) ((st + k) % 2) k (if k = 0 then -1 else pf s (k - 1)) th ((gA s 100).getD 167 0)) (clsK (gA s 100)) ∧ Fa [110] s s') (X12_tells (d + 45) s1 98 hd lo hi wo) := by
  obtain ⟨hs, hK, hst, hth, h27, h28, hm⟩ := L
  have e100 : gA s1 100 = gA s 100 := h3 100 (by decide)
  refine wkI (m_tells h2 (by rw [e100]; exact hK) (fun k hk => (h4 k hk).symm) (env6_bd ?_) hlo) fun x s' _ ⟨q1, q2⟩ => ⟨by rw [q1, e100], h3.tr (q2.mono (by decide))⟩
  intro x hx
  have pk := hp.1
  have pk1 := hp.2
  unfold pl3 at pk pk1
  simp only [List.mem_cons, List.not_mem_nil, or_false] at hx
  rcases hx with rfl | rfl | rfl | rfl | rfl | rfl
  · omega
  · omega
  · omega
  · split <;> omega
  · omega
  · omega
theorem m_takesBy {d k : Nat} (L : LkM s st th) (hk : k < 13) (hp : pl3 (pf s k) ∧ pl3 (pf s (k - 1))) : Gl (GI fun x s' => x = tkW (clsK (gA s 100)) ((gA s 100).getD 167 0) th st (pf s) k ∧ Fa [110] s s') (X12_takesBy (d + 46) s 98 k) := by
  obtain ⟨s1, h1, h2, h3, h4, h5⟩ := m_sets (d := d + 44) L hk
  have hs := L.1
  have h28 : gF s1 98 28 = th := by rw [h3, L.2.2.2.2.2.1]
  have hth := L.2.2.2.1
  rw [e_X12_takesBy]
  simp (disch := ((try simp only [kd_sF, kd_sA, gA_sF, gA_sA, gF_sF, gF_sA, List.length_set, reduceIte, and_true, and_false, true_and, false_and, Nat.reduceEqDiff, Int.reduceEq, hs.kd, hs.ln, hs.fs, kMs, lMs, h2.kd, h2.ln, h2.fs]); first | done | omega)) only [rF_ok, wF_ok, oK_ok, lA_ok, rA_ok, wA_ok, cI_ok, cV_ok, cL_ok, cR_ok, kd_sF, kd_sA, gA_sF, gF_sA, gF_sF, gA_sA, bk_0, bk_1, List.length_set, reduceIte, and_true, and_false, true_and, false_and, ne_eq, not_true_eq_false, not_false_eq_true, Int.toNat_natCast, Int.reduceToNat, Nat.reduceEqDiff, Int.reduceEq, Int.reduceLT, Int.reduceLE, Int.reduceAdd, Int.reduceSub, Int.reduceMul, Int.reduceNeg, hs.kd, hs.ln, hs.fs, kMs, lMs, h2.kd, h2.ln, h2.fs, h1, h28, wi_sm]
  refine biI (m_by (d := d) (hd := 1) (lo := 0) (hi := 20) (wo := 2 + th) L hk hp (by omega) h1 h2 h4 h5) fun x s' _ ⟨q1, q2⟩ => reI ⟨q1, q2⟩
theorem m_gripsBy {d k : Nat} (L : LkM s st th) (hk : k < 13) (hp : pl3 (pf s k) ∧ pl3 (pf s (k - 1))) : Gl (GI fun x s' => x = gpW (clsK (gA s 100)) ((gA s 100).getD 167 0) th st (pf s) k ∧ Fa [110] s s') (X12_gripsBy (d + 46) s 98 k) := by
  obtain ⟨s1, h1, h2, h3, h4, h5⟩ := m_sets (d := d + 44) L hk
  have hs := L.1
  rw [e_X12_gripsBy]
  simp (disch := ((try simp only [kd_sF, kd_sA, gA_sF, gA_sA, gF_sF, gF_sA, List.length_set, reduceIte, and_true, and_false, true_and, false_and, Nat.reduceEqDiff, Int.reduceEq, hs.kd, hs.ln, hs.fs, kMs, lMs, h2.kd, h2.ln, h2.fs]); first | done | omega)) only [rF_ok, wF_ok, oK_ok, lA_ok, rA_ok, wA_ok, cI_ok, cV_ok, cL_ok, cR_ok, kd_sF, kd_sA, gA_sF, gF_sA, gF_sF, gA_sA, bk_0, bk_1, List.length_set, reduceIte, and_true, and_false, true_and, false_and, ne_eq, not_true_eq_false, not_false_eq_true, Int.toNat_natCast, Int.reduceToNat, Nat.reduceEqDiff, Int.reduceEq, Int.reduceLT, Int.reduceLE, Int.reduceAdd, Int.reduceSub, Int.reduceMul, Int.reduceNeg, hs.kd, hs.ln, hs.fs, kMs, lMs, h2.kd, h2.ln, h2.fs, h1]
  refine biI (m_by (d := d) (hd := 2) (lo := -9) (hi := 9) (wo := 1) L hk hp (by omega) h1 h2 h4 h5) fun x s' _ ⟨q1, q2⟩ => reI ⟨q1, q2⟩
theorem m_isBarred {d k : Nat} (L : LkM s st th) (hk : k < 13) (hp : pl3 (pf s k) ∧ pl3 (pf s (k - 1))) : Gl (GI fun x s' => x = brW (clsK (gA s 100)) ((gA s 100).getD 167 0) th st (pf s) k ∧ Fa [110] s s') (X12_isBarred (d + 46) s 98 k) := by
  obtain ⟨s1, h1, h2, h3, h4, h5⟩ := m_sets (d := d + 44) L hk
  have hs := L.1
  rw [e_X12_isBarred]
  simp (disch := ((try simp only [kd_sF, kd_sA, gA_sF, gA_sA, gF_sF, gF_sA, List.length_set, reduceIte, and_true, and_false, true_and, false_and, Nat.reduceEqDiff, Int.reduceEq, hs.kd, hs.ln, hs.fs, kMs, lMs, h2.kd, h2.ln, h2.fs]); first | done | omega)) only [rF_ok, wF_ok, oK_ok, lA_ok, rA_ok, wA_ok, cI_ok, cV_ok, cL_ok, cR_ok, kd_sF, kd_sA, gA_sF, gF_sA, gF_sF, gA_sA, bk_0, bk_1, List.length_set, reduceIte, and_true, and_false, true_and, false_and, ne_eq, not_true_eq_false, not_false_eq_true, Int.toNat_natCast, Int.reduceToNat, Nat.reduceEqDiff, Int.reduceEq, Int.reduceLT, Int.reduceLE, Int.reduceAdd, Int.reduceSub, Int.reduceMul, Int.reduceNeg, hs.kd, hs.ln, hs.fs, kMs, lMs, h2.kd, h2.ln, h2.fs, h1]
  refine biI (m_by (d := d) (hd := 3) (lo := 0) (hi := 1) (wo := 0) L hk hp (by omega) h1 h2 h4 h5) fun x s' _ ⟨q1, q2⟩ => ?_
  have hb := brA_bd (cls := clsK (gA s 100)) (mood := (gA s 100).getD 167 0) (th := th) (side := (st + k) % 2) (k := k) (bef := if k = 0 then -1 else pf s (k - 1)) (pl := pf s k)
  have q3 : x = brW (clsK (gA s 100)) ((gA s 100).getD 167 0) th st (pf s) k := q1
  have q4 : 0 ≤ x ∧ x ≤ 1 := by rw [q3]; exact hb
  by_cases e : x = 1
  · rw [if_pos e]; exact reI ⟨by rw [← q3, e], q2⟩
  · rw [if_neg e]; exact reI ⟨by rw [← q3]; omega, q2⟩
/-- after a run of the asking methods the looked-at word is the same -/
theorem LkM.kept {d j i : Nat} {L0 : Lc} {st0 : List V} {s' : St} {r : List V} {P : List Int} (L : LkM s st th) (h : EV d j i L0 st0 s = some (r, s')) (hj : okM j = true) (hw : (wsB j 16 27 || wsB j 16 28 || wsB j 16 29) = false) (hF : Fa P s s') (hP : (100 : Int) ∉ P) : LkM s' st th ∧ gF s' 98 29 = gF s 98 29 := by
  obtain ⟨hs, hK, hst, hth, h27, h28, hm⟩ := L
  simp only [Bool.or_eq_false_iff] at hw
  have hj2 : okB j = true := (Bool.and_eq_true_iff.mp hj).1
  have e := hF 100 hP
  refine ⟨⟨hs.ev h hj, by rw [e]; exact hK, hst, hth, (hs.gf h hj2 hw.1.1).trans h27, (hs.gf h hj2 hw.1.2).trans h28, by rw [e]; exact hm⟩, hs.gf h hj2 hw.2⟩
theorem m_takesAll {d n : Nat} (L : LkM s st th) (hn : gF s 98 29 = n) (hn2 : n ≤ 13) (hp : ∀ j, j < n → pl3 (pf s j)) : Gl (GI fun x s' => x = sumN (tkW (clsK (gA s 100)) ((gA s 100).getD 167 0) th st (pf s)) n ∧ Fa [110] s s') (X12_takesAll (d + 47) s 98) := by
  rw [e_X12_takesAll]
  refine lpG (fun k (a : St × Int) => X12_takesAll_4 (d + 47) a.1 98 a.2 k) (fun k a => LkM a.1 st th ∧ gF a.1 98 29 = n ∧ Fa [110] s a.1 ∧ a.2 = sumN (tkW (clsK (gA s 100)) ((gA s 100).getD 167 0) th st (pf s)) k) n ?_ ?_ 0 (s, 0) (by omega) ⟨L, hn, Fa.rf _ _, rfl⟩
  · intro T k ⟨s1, a⟩ hk ⟨i1, i2, i3, i4⟩ hT
    dsimp only at i1 i2 i3 i4 ⊢
    have hs1 := i1.1
    have hb := sumN_bd (f := tkW (clsK (gA s 100)) ((gA s 100).getD 167 0) th st (pf s)) (a := 0) (b := 20) (n := k) (fun j _ => tkQ_bd L.2.2.2.1)
    have ep := pf_fa i3 (by decide)
    have e100 : gA s1 100 = gA s 100 := i3 100 (by decide)
    rw [e_X12_takesAll_4]
    simp (disch := ((try simp only [kd_sF, kd_sA, gA_sF, gA_sA, gF_sF, gF_sA, List.length_set, reduceIte, and_true, and_false, true_and, false_and, Nat.reduceEqDiff, Int.reduceEq, hs1.kd, hs1.ln, hs1.fs, kMs, lMs]); first | done | omega)) only [rF_ok, wF_ok, oK_ok, lA_ok, rA_ok, wA_ok, cI_ok, cV_ok, cL_ok, cR_ok, kd_sF, kd_sA, gA_sF, gF_sA, gF_sF, gA_sA, bk_0, bk_1, List.length_set, reduceIte, and_true, and_false, true_and, false_and, ne_eq, not_true_eq_false, not_false_eq_true, Int.toNat_natCast, Int.reduceToNat, Nat.reduceEqDiff, Int.reduceEq, Int.reduceLT, Int.reduceLE, Int.reduceAdd, Int.reduceSub, Int.reduceMul, Int.reduceNeg, hs1.kd, hs1.ln, hs1.fs, kMs, lMs, i2, Int.ofNat_lt, hk]
    refine biI (m_takesBy i1 (by omega) (by rw [ep]; exact ⟨hp k (by omega), hp (k - 1) (by omega)⟩)) fun x s2 h2 ⟨q1, q2⟩ => ?_
    rw [ep, e100] at q1
    obtain ⟨g1, g2⟩ := i1.kept h2 rfl rfl q2 (by decide)
    have hx := tkQ_bd (cls := clsK (gA s 100)) (mood := (gA s 100).getD 167 0) (side := (st + k) % 2) (k := k) (bef := if k = 0 then -1 else pf s (k - 1)) (pl := pf s k) L.2.2.2.1
    have hx2 : 0 ≤ x ∧ x ≤ 20 := by rw [q1]; exact hx
    rw [wi_sm (by omega) (by omega), wi_sc (by omega)]
    exact hT (s2, a + x) ⟨g1, g2.trans i2, i3.tr q2, by show a + x = _; rw [sumN, i4, q1]⟩
  · intro ⟨s1, a⟩ ⟨i1, i2, i3, i4⟩
    dsimp only at i1 i2 i3 i4 ⊢
    have hs1 := i1.1
    rw [e_X12_takesAll_4]
    simp (disch := ((try simp only [kd_sF, kd_sA, gA_sF, gA_sA, gF_sF, gF_sA, List.length_set, reduceIte, and_true, and_false, true_and, false_and, Nat.reduceEqDiff, Int.reduceEq, hs1.kd, hs1.ln, hs1.fs, kMs, lMs]); first | done | omega)) only [rF_ok, wF_ok, oK_ok, lA_ok, rA_ok, wA_ok, cI_ok, cV_ok, cL_ok, cR_ok, kd_sF, kd_sA, gA_sF, gF_sA, gF_sF, gA_sA, bk_0, bk_1, List.length_set, reduceIte, and_true, and_false, true_and, false_and, ne_eq, not_true_eq_false, not_false_eq_true, Int.toNat_natCast, Int.reduceToNat, Nat.reduceEqDiff, Int.reduceEq, Int.reduceLT, Int.reduceLE, Int.reduceAdd, Int.reduceSub, Int.reduceMul, Int.reduceNeg, hs1.kd, hs1.ln, hs1.fs, kMs, lMs, i2, Int.lt_irrefl]
    exact reI ⟨i4, i3⟩
theorem m_gripsAll {d n : Nat} (L : LkM s st th) (hn : gF s 98 29 = n) (hn2 : n ≤ 13) (hp : ∀ j, j < n → pl3 (pf s j)) : Gl (GI fun x s' => x = sumN (gpW (clsK (gA s 100)) ((gA s 100).getD 167 0) th st (pf s)) n ∧ Fa [110] s s') (X12_gripsAll (d + 47) s 98) := by
  rw [e_X12_gripsAll]
  refine lpG (fun k (a : St × Int) => X12_gripsAll_4 (d + 47) a.1 98 a.2 k) (fun k a => LkM a.1 st th ∧ gF a.1 98 29 = n ∧ Fa [110] s a.1 ∧ a.2 = sumN (gpW (clsK (gA s 100)) ((gA s 100).getD 167 0) th st (pf s)) k) n ?_ ?_ 0 (s, 0) (by omega) ⟨L, hn, Fa.rf _ _, rfl⟩
  · intro T k ⟨s1, a⟩ hk ⟨i1, i2, i3, i4⟩ hT
    dsimp only at i1 i2 i3 i4 ⊢
    have hs1 := i1.1
    have hb := sumN_bd (f := gpW (clsK (gA s 100)) ((gA s 100).getD 167 0) th st (pf s)) (a := -9) (b := 9) (n := k) (fun j _ => gpA_bd)
    have ep := pf_fa i3 (by decide)
    have e100 : gA s1 100 = gA s 100 := i3 100 (by decide)
    rw [e_X12_gripsAll_4]
    simp (disch := ((try simp only [kd_sF, kd_sA, gA_sF, gA_sA, gF_sF, gF_sA, List.length_set, reduceIte, and_true, and_false, true_and, false_and, Nat.reduceEqDiff, Int.reduceEq, hs1.kd, hs1.ln, hs1.fs, kMs, lMs]); first | done | omega)) only [rF_ok, wF_ok, oK_ok, lA_ok, rA_ok, wA_ok, cI_ok, cV_ok, cL_ok, cR_ok, kd_sF, kd_sA, gA_sF, gF_sA, gF_sF, gA_sA, bk_0, bk_1, List.length_set, reduceIte, and_true, and_false, true_and, false_and, ne_eq, not_true_eq_false, not_false_eq_true, Int.toNat_natCast, Int.reduceToNat, Nat.reduceEqDiff, Int.reduceEq, Int.reduceLT, Int.reduceLE, Int.reduceAdd, Int.reduceSub, Int.reduceMul, Int.reduceNeg, hs1.kd, hs1.ln, hs1.fs, kMs, lMs, i2, Int.ofNat_lt, hk]
    refine biI (m_gripsBy i1 (by omega) (by rw [ep]; exact ⟨hp k (by omega), hp (k - 1) (by omega)⟩)) fun x s2 h2 ⟨q1, q2⟩ => ?_
    rw [ep, e100] at q1
    obtain ⟨g1, g2⟩ := i1.kept h2 rfl rfl q2 (by decide)
    have hx := gpA_bd (cls := clsK (gA s 100)) (mood := (gA s 100).getD 167 0) (th := th) (side := (st + k) % 2) (k := k) (bef := if k = 0 then -1 else pf s (k - 1)) (pl := pf s k)
    have hx2 : -9 ≤ x ∧ x ≤ 9 := by rw [q1]; exact hx
    rw [wi_sm (by omega) (by omega), wi_sc (by omega)]
    exact hT (s2, a + x) ⟨g1, g2.trans i2, i3.tr q2, by show a + x = _; rw [sumN, i4, q1]⟩
  · intro ⟨s1, a⟩ ⟨i1, i2, i3, i4⟩
    dsimp only at i1 i2 i3 i4 ⊢
    have hs1 := i1.1
    rw [e_X12_gripsAll_4]
    simp (disch := ((try simp only [kd_sF, kd_sA, gA_sF, gA_sA, gF_sF, gF_sA, List.length_set, reduceIte, and_true, and_false, true_and, false_and, Nat.reduceEqDiff, Int.reduceEq, hs1.kd, hs1.ln, hs1.fs, kMs, lMs]); first | done | omega)) only [rF_ok, wF_ok, oK_ok, lA_ok, rA_ok, wA_ok, cI_ok, cV_ok, cL_ok, cR_ok, kd_sF, kd_sA, gA_sF, gF_sA, gF_sF, gA_sA, bk_0, bk_1, List.length_set, reduceIte, and_true, and_false, true_and, false_and, ne_eq, not_true_eq_false, not_false_eq_true, Int.toNat_natCast, Int.reduceToNat, Nat.reduceEqDiff, Int.reduceEq, Int.reduceLT, Int.reduceLE, Int.reduceAdd, Int.reduceSub, Int.reduceMul, Int.reduceNeg, hs1.kd, hs1.ln, hs1.fs, kMs, lMs, i2, Int.lt_irrefl]
    exact reI ⟨i4, i3⟩
end MASK
