/-! ===== the reference: one move more; its small calls that change something ===== -/
/-- a knot is looked at, and a place more -/
def LkB (a : Ab) (k : Kn) (pl : Int) (s : St) : Prop := RepM a s ∧ LkM s k.1 k.2.1 ∧ gF s 98 29 = kLen k ∧ ∀ j, j < kLen k + 1 → pf s j = pF (knPush k pl) j
section MSM
variable {s s' : St} {a : Ab} {d : Nat} {k : Kn} {pl : Int}
theorem push_lt {j : Nat} (h : j < kLen k) : pF (knPush k pl) j = pF k j := by rw [pF_push (by omega), if_neg (by omega)]
theorem push_at : pF (knPush k pl) (kLen k) = pl := by rw [pF_push (Nat.le_refl _), if_pos rfl]
theorem push_last : (if kLen k = 0 then -1 else pF (knPush k pl) (kLen k - 1)) = lastP k := by
  unfold lastP
  by_cases e : kLen k = 0
  · rw [if_pos e, if_pos e]
  · rw [if_neg e, if_neg e, push_lt (by omega)]
theorem pl_of (h : 0 ≤ pl ∧ pl ≤ 2) : pl3 pl := by unfold pl3; omega
theorem push_pl (wk : wfKn k) (hp : 0 ≤ pl ∧ pl ≤ 2) : ∀ j, j < kLen k + 1 → pl3 (pF (knPush k pl) j) := fun j hj => by
  by_cases e : j = kLen k
  · rw [e, push_at]
    exact pl_of hp
  · rw [push_lt (by omega)]
    exact wk.2.2.2.2.2.1 j (by omega)
theorem LkA.next (L : LkA a k s) (hl : kLen k < 12) : LkB a k pl (sA s 112 ((gA s 112).set (kLen k) pl)) := by
  obtain ⟨l1, ⟨m1, m2, m3, m4, m5, m6, m7⟩, l3, l4⟩ := L
  have e : ∀ p : Int, p ≠ 112 → gA (sA s 112 ((gA s 112).set (kLen k) pl)) p = gA s p := fun p hp => gA_ne hp
  have hs' : ShM (sA s 112 ((gA s 112).set (kLen k) pl)) := m1.sA (by rw [List.length_set])
  have e100 := e 100 (by decide)
  refine ⟨l1.fr hs' (fun p hp => e p (by revert p; decide)) (fun _ _ => rfl), ⟨hs', by rw [e100]; exact m2, m3, m4, m5, m6, by rw [e100]; exact m7⟩, l3, fun j hj => ?_⟩
  unfold pf
  rw [gA_eq, setD_getD (by rw [m1.ln 112]; show kLen k < 13; omega), pF_push (by omega)]
  by_cases e2 : j = kLen k
  · rw [if_pos e2.symm, if_pos e2]
  · rw [if_neg (fun h => e2 h.symm), if_neg e2]
    exact l4 j (by omega)
theorem LkB.ev {j i : Nat} {L : Lc} {st r : List V} (K : LkB a k pl s) (h : EV d j i L st s = some (r, s')) (hj : okM j = true) (hw : mFs.all (fun k => !wsB j 16 k) = true) (hw2 : [27, 28, 29].all (fun k => !wsB j 16 k) = true) (F : Fa [110] s s') : LkB a k pl s' := by
  have hj' : okB j = true := by
    unfold okM at hj
    rw [Bool.and_eq_true] at hj
    exact hj.1
  have hf : ∀ x ∈ [27, 28, 29], gF s' 98 x = gF s 98 x := fun x hx => by
    have := List.all_eq_true.mp hw2 x hx
    exact K.1.1.gf h hj' (by simpa using this)
  have R : RepM a s' := K.1.ev h hj hw (F.mono (by decide))
  obtain ⟨l1, ⟨m1, m2, m3, m4, m5, m6, m7⟩, l3, l4⟩ := K
  have e := F 100 (by decide)
  refine ⟨R, ⟨R.1, by rw [e]; exact m2, m3, m4, (hf 27 (by decide)).trans m5, (hf 28 (by decide)).trans m6, by rw [e]; exact m7⟩, (hf 29 (by decide)).trans l3, fun j hj => ?_⟩
  unfold pf
  rw [F 112 (by decide)]
  exact l4 j hj
theorem LkB.pp (K : LkB a k pl s) (wk : wfKn k) (hp : 0 ≤ pl ∧ pl ≤ 2) : pl3 (pf s (kLen k)) ∧ pl3 (pf s (kLen k - 1)) := by
  rw [K.2.2.2 (kLen k) (by omega), K.2.2.2 (kLen k - 1) (by omega)]
  exact ⟨push_pl wk hp _ (by omega), push_pl wk hp _ (by omega)⟩
theorem LkB.bef (K : LkB a k pl s) : (if kLen k = 0 then -1 else pf s (kLen k - 1)) = lastP k := by
  rw [K.2.2.2 (kLen k - 1) (by omega)]
  exact push_last
theorem LkB.at (K : LkB a k pl s) : pf s (kLen k) = pl := by
  rw [K.2.2.2 (kLen k) (by omega)]
  exact push_at
theorem mm_takesBy (K : LkB a k pl s) (W : wfA a) (wk : wfKn k) (hl : kLen k < 12) (hp : 0 ≤ pl ∧ pl ≤ 2) : Gl (GI fun x s' => x = tkQ (clsD a.1) (moodD a.1) k.2.1 ((k.1 + kLen k) % 2) (kLen k) (lastP k) pl ∧ LkB a k pl s' ∧ Fa [110] s s') (X12_takesBy (d + 46) s 98 (kLen k)) := by
  have hb := K.1.bk W
  refine wkI (m_takesBy (d := d) (k := kLen k) K.2.1 (by omega) (K.pp wk hp)) fun x s' hev ⟨h1, h2⟩ => ⟨?_, K.ev hev rfl rfl rfl h2, h2⟩
  rw [h1, hb.2.1, hb.2.2.1]
  unfold tkW
  rw [K.bef, K.at]
theorem mm_gripsBy (K : LkB a k pl s) (W : wfA a) (wk : wfKn k) (hl : kLen k < 12) (hp : 0 ≤ pl ∧ pl ≤ 2) : Gl (GI fun x s' => x = gpA (clsD a.1) (moodD a.1) k.2.1 ((k.1 + kLen k) % 2) (kLen k) (lastP k) pl ∧ LkB a k pl s' ∧ Fa [110] s s') (X12_gripsBy (d + 46) s 98 (kLen k)) := by
  have hb := K.1.bk W
  refine wkI (m_gripsBy (d := d) (k := kLen k) K.2.1 (by omega) (K.pp wk hp)) fun x s' hev ⟨h1, h2⟩ => ⟨?_, K.ev hev rfl rfl rfl h2, h2⟩
  rw [h1, hb.2.1, hb.2.2.1]
  unfold gpW
  rw [K.bef, K.at]
theorem mm_isBarred (K : LkB a k pl s) (W : wfA a) (wk : wfKn k) (hl : kLen k < 12) (hp : 0 ≤ pl ∧ pl ≤ 2) : Gl (GI fun x s' => x = brA (clsD a.1) (moodD a.1) k.2.1 ((k.1 + kLen k) % 2) (kLen k) (lastP k) pl ∧ LkB a k pl s' ∧ Fa [110] s s') (X12_isBarred (d + 46) s 98 (kLen k)) := by
  have hb := K.1.bk W
  refine wkI (m_isBarred (d := d) (k := kLen k) K.2.1 (by omega) (K.pp wk hp)) fun x s' hev ⟨h1, h2⟩ => ⟨?_, K.ev hev rfl rfl rfl h2, h2⟩
  rw [h1, hb.2.1, hb.2.2.1]
  unfold brW
  rw [K.bef, K.at]
theorem mm_asks {q what : Int} (R : RepM a s) (W : wfA a) : Gl (GI fun x s' => x = aAsks a.1 q pl what ∧ RepM a s') (X12_asks (d + 47) s 98 q pl what) := by
  unfold aAsks
  rw [e_X12_asks, oK_ok (R.1.k98), R.isKn W, cI_ok]
  by_cases hq : isKn a.1 q
  · have hq' := hq
    unfold isKn at hq'
    have h8 := W.1.1.1
    have wk := wfKn_q W.1 hq
    have w12 := wk.2.2.2.2.1
    rw [if_pos hq', if_neg (show ¬ ((1 : Int) = 0) by decide), lies_if, cI_ok]
    by_cases hp : 0 ≤ pl ∧ pl ≤ 2
    · rw [if_pos hp, if_neg (show ¬ ((1 : Int) = 0) by decide), lies_if, cI_ok]
      by_cases hw : 0 ≤ what ∧ what ≤ 2
      · rw [if_pos hw, if_neg (show ¬ ((1 : Int) = 0) by decide), oK_ok (R.1.k98), m_fact R.1 (by omega) (by decide), cI_ok, R.mv hq']
        by_cases hl : kLen (knQ a.1 q) < 12
        · rw [if_pos ⟨hq', hp, hl⟩, if_neg (show ¬ ((kLen (knQ a.1 q) : Int) = 12) by omega), oK_ok (R.1.k98)]
          refine biV (mm_takesKnot (d := d + 45) R W hq) fun s1 _ ⟨L, F1⟩ => ?_
          have hs1 := L.1.1
          simp (disch := ((try simp only [kd_sF, kd_sA, gA_sF, gA_sA, gF_sF, gF_sA, List.length_set, reduceIte, and_true, and_false, true_and, false_and, Nat.reduceEqDiff, Int.reduceEq, hs1.kd, hs1.ln, hs1.fs, kMs, lMs]); first | done | omega)) only [rF_ok, wF_ok, oK_ok, lA_ok, rA_ok, wA_ok, cI_ok, cV_ok, cL_ok, cR_ok, kd_sF, kd_sA, gA_sF, gF_sA, gF_sF, gA_sA, bk_0, bk_1, List.length_set, reduceIte, and_true, and_false, true_and, false_and, ne_eq, not_true_eq_false, not_false_eq_true, Int.toNat_natCast, Int.reduceToNat, Nat.reduceEqDiff, Int.reduceEq, Int.reduceLT, Int.reduceLE, Int.reduceAdd, Int.reduceSub, Int.reduceMul, Int.reduceNeg, hs1.kd, hs1.ln, hs1.fs, kMs, lMs, L.2.2.1]
          have K := L.next (pl := pl) hl
          generalize sA s1 112 ((gA s1 112).set (kLen (knQ a.1 q)) pl) = s2 at K ⊢
          by_cases w0 : what = 0
          · rw [if_pos w0, if_pos w0]
            exact biI (mm_takesBy (d := d) K W wk hl hp) fun x s3 _ ⟨h1, K2, F2⟩ => reI ⟨h1, K2.1⟩
          rw [if_neg w0, if_neg w0]
          by_cases w1 : what = 1
          · rw [if_pos w1, if_pos w1]
            exact biI (mm_gripsBy (d := d) K W wk hl hp) fun x s3 _ ⟨h1, K2, F2⟩ => reI ⟨h1, K2.1⟩
          rw [if_neg w1, if_neg w1, if_pos (show what = 2 by omega)]
          refine biI (mm_isBarred (d := d) K W wk hl hp) fun x s3 _ ⟨h1, K2, F2⟩ => ?_
          have hb := brA_bd (cls := clsD a.1) (mood := moodD a.1) (th := (knQ a.1 q).2.1) (side := ((knQ a.1 q).1 + kLen (knQ a.1 q)) % 2) (k := kLen (knQ a.1 q)) (bef := lastP (knQ a.1 q)) (pl := pl)
          rw [← h1] at hb ⊢
          split
          · rename_i e
            exact reI ⟨e.symm, K2.1⟩
          · exact reI ⟨by omega, K2.1⟩
        · rw [if_neg (fun e => hl e.2.2), if_pos (by omega)]
          exact reI ⟨rfl, R⟩
      · rw [if_neg hw, if_pos rfl]
        by_cases hc : (0 ≤ q ∧ q < (a.1.1.length : Int)) ∧ (0 ≤ pl ∧ pl ≤ 2) ∧ kLen (knQ a.1 q) < 12
        · rw [if_pos hc, if_neg (show ¬ (what = 0) by omega), if_neg (show ¬ (what = 1) by omega), if_neg (show ¬ (what = 2) by omega)]
          exact reI ⟨rfl, R⟩
        · rw [if_neg hc]
          exact reI ⟨rfl, R⟩
    · rw [if_neg hp, if_pos rfl, if_neg (fun e => hp e.2.1)]
      exact reI ⟨rfl, R⟩
  · have hq' : ¬ (0 ≤ q ∧ q < (a.1.1.length : Int)) := hq
    rw [if_neg hq', if_neg (fun e => hq' e.1), if_pos rfl]
    exact reI ⟨rfl, R⟩
/-! boys, sights, force, terms, end -/
theorem mm_force {l : Int} (R : RepM a s) (W : wfA a) : Gl (GI fun x s' => x = (aForce a l).1 ∧ RepM (aForce a l).2 s') (X12_force (d + 1) s 98 l) := by
  have hs := R.1
  have n0 : (gA s 100).getD 172 0 = (a.1.2.2.2.2.1.length : Int) := R.2.1.2.2.2.2.1.1
  have f0 : (gA s 100).getD 173 0 = a.1.2.2.2.2.2 := R.2.1.2.2.2.2.2
  have h6 := W.1.2.2.2.2.1.1
  rw [e_X12_force]
  unfold aForce
  simp (disch := ((try simp only [kd_sF, kd_sA, gA_sF, gA_sA, gF_sF, gF_sA, List.length_set, reduceIte, and_true, and_false, true_and, false_and, Nat.reduceEqDiff, Int.reduceEq, hs.kd, hs.ln, hs.fs, kMs, lMs]); first | done | omega)) only [rF_ok, wF_ok, oK_ok, lA_ok, rA_ok, wA_ok, cI_ok, cV_ok, cL_ok, cR_ok, kd_sF, kd_sA, gA_sF, gF_sA, gF_sF, gA_sA, bk_0, bk_1, List.length_set, reduceIte, and_true, and_false, true_and, false_and, ne_eq, not_true_eq_false, not_false_eq_true, Int.toNat_natCast, Int.reduceToNat, Nat.reduceEqDiff, Int.reduceEq, Int.reduceLT, Int.reduceLE, Int.reduceAdd, Int.reduceSub, Int.reduceMul, Int.reduceNeg, hs.kd, hs.ln, hs.fs, kMs, lMs, n0, wi_sm, lies_if]
  by_cases h : -1 ≤ l ∧ l < (a.1.2.2.2.2.1.length : Int)
  · rw [if_pos (show -1 ≤ l ∧ l ≤ (a.1.2.2.2.2.1.length : Int) - 1 by omega), if_pos h, if_neg (show ¬ ((1 : Int) = 0) by decide)]
    simp (disch := ((try simp only [kd_sF, kd_sA, gA_sF, gA_sA, gF_sF, gF_sA, List.length_set, reduceIte, and_true, and_false, true_and, false_and, Nat.reduceEqDiff, Int.reduceEq, hs.kd, hs.ln, hs.fs, kMs, lMs]); first | done | omega)) only [rF_ok, wF_ok, oK_ok, lA_ok, rA_ok, wA_ok, cI_ok, cV_ok, cL_ok, cR_ok, kd_sF, kd_sA, gA_sF, gF_sA, gF_sF, gA_sA, bk_0, bk_1, List.length_set, reduceIte, and_true, and_false, true_and, false_and, ne_eq, not_true_eq_false, not_false_eq_true, Int.toNat_natCast, Int.reduceToNat, Nat.reduceEqDiff, Int.reduceEq, Int.reduceLT, Int.reduceLE, Int.reduceAdd, Int.reduceSub, Int.reduceMul, Int.reduceNeg, hs.kd, hs.ln, hs.fs, kMs, lMs, f0]
    have D' : DrR (kA (sA s 100 ((gA s 100).set 173 l))) (a.1.1, a.1.2.1, a.1.2.2.1, a.1.2.2.2.1, a.1.2.2.2.2.1, l) := by
      have e : ∀ j, kA (sA s 100 ((gA s 100).set 173 l)) j = if 173 = j then l else kA s j := fun j => kA_set hs (by decide)
      obtain ⟨d1, d2, d3, d4, d5, -⟩ := R.2.1
      exact ⟨d1.cg (wK_ok W.1.1) fun j hj => by rw [e, if_neg (by omega)], d2.cg W.1.2.1.1 fun j hj => by rw [e, if_neg (by omega)], d3.cg W.1.2.2.1.1 fun j hj => by rw [e, if_neg (by omega)], d4.cg fun j hj => by rw [e, if_neg (by omega)], d5.cg (wL_ok W.1) fun j hj => by rw [e, if_neg (by omega)], by rw [e, if_pos rfl]⟩
    have R1 := R.kept (by rw [List.length_set]) D'
    have g := mm_grant (d := d) (v := a.1.2.2.2.2.2) (K := fun x s' => some ([(0, x)], s')) R1 (fun _ _ => rfl)
    rw [oK_ok (R1.1.k98)] at g
    exact g
  · rw [if_neg (show ¬ (-1 ≤ l ∧ l ≤ (a.1.2.2.2.2.1.length : Int) - 1) by omega), if_neg h, if_pos rfl]
    have g := mm_ref (d := d) (v := -2) (K := fun x s' => some ([(0, x)], s')) (by decide) R (fun _ _ => rfl)
    rw [oK_ok (R.1.k98)] at g
    exact g
theorem mm_forget (R : RepM a s) (W : wfA a) : Gl (GI fun x s' => x = (aForget a).1 ∧ RepM (aForget a).2 s') (X12_forget d s 98) := by
  have hs := R.1
  have n0 : (gA s 100).getD 171 0 = (a.1.2.2.1.length : Int) := R.2.1.2.2.1.1
  rw [e_X12_forget]
  unfold aForget
  simp (disch := ((try simp only [kd_sF, kd_sA, gA_sF, gA_sA, gF_sF, gF_sA, List.length_set, reduceIte, and_true, and_false, true_and, false_and, Nat.reduceEqDiff, Int.reduceEq, hs.kd, hs.ln, hs.fs, kMs, lMs]); first | done | omega)) only [rF_ok, wF_ok, oK_ok, lA_ok, rA_ok, wA_ok, cI_ok, cV_ok, cL_ok, cR_ok, kd_sF, kd_sA, gA_sF, gF_sA, gF_sF, gA_sA, bk_0, bk_1, List.length_set, reduceIte, and_true, and_false, true_and, false_and, ne_eq, not_true_eq_false, not_false_eq_true, Int.toNat_natCast, Int.reduceToNat, Nat.reduceEqDiff, Int.reduceEq, Int.reduceLT, Int.reduceLE, Int.reduceAdd, Int.reduceSub, Int.reduceMul, Int.reduceNeg, hs.kd, hs.ln, hs.fs, kMs, lMs, n0]
  have e : ∀ j, kA (sA s 100 ((gA s 100).set 171 0)) j = if 171 = j then 0 else kA s j := fun j => kA_set hs (by decide)
  obtain ⟨d1, d2, d3, d4, d5, d6⟩ := R.2.1
  exact reI ⟨rfl, R.kept (by rw [List.length_set]) ⟨d1.cg (wK_ok W.1.1) fun j hj => by rw [e, if_neg (by omega)], d2.cg W.1.2.1.1 fun j hj => by rw [e, if_neg (by omega)], ⟨by rw [e, if_pos rfl]; rfl, fun i hi => absurd hi (by simp)⟩, d4.cg fun j hj => by rw [e, if_neg (by omega)], d5.cg (wL_ok W.1) fun j hj => by rw [e, if_neg (by omega)], by rw [e, if_neg (by omega)]; exact d6⟩⟩
theorem mm_home (R : RepM a s) (W : wfA a) : Gl (GI fun x s' => x = (aHome a).1 ∧ RepM (aHome a).2 s') (X12_home d s 98) := by
  have hs := R.1
  have n0 : (gA s 100).getD 170 0 = (a.1.2.1.length : Int) := R.2.1.2.1.1
  rw [e_X12_home]
  unfold aHome
  simp (disch := ((try simp only [kd_sF, kd_sA, gA_sF, gA_sA, gF_sF, gF_sA, List.length_set, reduceIte, and_true, and_false, true_and, false_and, Nat.reduceEqDiff, Int.reduceEq, hs.kd, hs.ln, hs.fs, kMs, lMs]); first | done | omega)) only [rF_ok, wF_ok, oK_ok, lA_ok, rA_ok, wA_ok, cI_ok, cV_ok, cL_ok, cR_ok, kd_sF, kd_sA, gA_sF, gF_sA, gF_sF, gA_sA, bk_0, bk_1, List.length_set, reduceIte, and_true, and_false, true_and, false_and, ne_eq, not_true_eq_false, not_false_eq_true, Int.toNat_natCast, Int.reduceToNat, Nat.reduceEqDiff, Int.reduceEq, Int.reduceLT, Int.reduceLE, Int.reduceAdd, Int.reduceSub, Int.reduceMul, Int.reduceNeg, hs.kd, hs.ln, hs.fs, kMs, lMs, n0]
  have e : ∀ j, kA (sA s 100 ((gA s 100).set 170 0)) j = if 170 = j then 0 else kA s j := fun j => kA_set hs (by decide)
  obtain ⟨d1, d2, d3, d4, d5, d6⟩ := R.2.1
  exact reI ⟨rfl, R.kept (by rw [List.length_set]) ⟨d1.cg (wK_ok W.1.1) fun j hj => by rw [e, if_neg (by omega)], ⟨by rw [e, if_pos rfl]; rfl, fun i hi => absurd hi (by simp)⟩, d3.cg W.1.2.2.1.1 fun j hj => by rw [e, if_neg (by omega)], d4.cg fun j hj => by rw [e, if_neg (by omega)], d5.cg (wL_ok W.1) fun j hj => by rw [e, if_neg (by omega)], by rw [e, if_neg (by omega)]; exact d6⟩⟩
theorem gd_app {α : Type} {l : List α} {x y : α} {i : Nat} (h : i ≤ l.length) : (l ++ [x]).getD i y = if i = l.length then x else l.getD i y := by
  rw [List.getD_eq_getElem?_getD, List.getD_eq_getElem?_getD]
  by_cases e : i = l.length
  · rw [if_pos e, e, List.getElem?_append_right (Nat.le_refl _)]
    simp
  · rw [if_neg e, List.getElem?_append_left (by omega)]
theorem mm_boy {c : Int} (R : RepM a s) (W : wfA a) : Gl (GI fun x s' => x = (aBoy a c).1 ∧ RepM (aBoy a c).2 s') (X12_boy (d + 1) s 98 c) := by
  have hs := R.1
  have n0 : (gA s 100).getD 170 0 = (a.1.2.1.length : Int) := R.2.1.2.1.1
  have h6 := W.1.2.1.1
  rw [e_X12_boy, lies_if, cI_ok]
  unfold aBoy
  by_cases h : 1 ≤ c ∧ c ≤ 200
  · rw [if_pos h, if_pos h, if_neg (show ¬ ((1 : Int) = 0) by decide)]
    simp (disch := ((try simp only [kd_sF, kd_sA, gA_sF, gA_sA, gF_sF, gF_sA, List.length_set, reduceIte, and_true, and_false, true_and, false_and, Nat.reduceEqDiff, Int.reduceEq, hs.kd, hs.ln, hs.fs, kMs, lMs]); first | done | omega)) only [rF_ok, wF_ok, oK_ok, lA_ok, rA_ok, wA_ok, cI_ok, cV_ok, cL_ok, cR_ok, kd_sF, kd_sA, gA_sF, gF_sA, gF_sF, gA_sA, bk_0, bk_1, List.length_set, reduceIte, and_true, and_false, true_and, false_and, ne_eq, not_true_eq_false, not_false_eq_true, Int.toNat_natCast, Int.reduceToNat, Nat.reduceEqDiff, Int.reduceEq, Int.reduceLT, Int.reduceLE, Int.reduceAdd, Int.reduceSub, Int.reduceMul, Int.reduceNeg, hs.kd, hs.ln, hs.fs, kMs, lMs, n0]
    by_cases h2 : a.1.2.1.length < 6
    · have et : ((137 : Int) + (a.1.2.1.length : Int)).toNat = 137 + a.1.2.1.length := by omega
      have es : ((gA s 100).set (137 + a.1.2.1.length) c).getD 170 0 = (a.1.2.1.length : Int) := by rw [set_ne (by omega), n0]
      rw [if_pos h2, if_neg (show ¬ ((a.1.2.1.length : Int) = 6) by omega)]
      simp (disch := ((try simp only [kd_sF, kd_sA, gA_sF, gA_sA, gF_sF, gF_sA, List.length_set, reduceIte, and_true, and_false, true_and, false_and, Nat.reduceEqDiff, Int.reduceEq, hs.kd, hs.ln, hs.fs, kMs, lMs]); first | done | omega)) only [rF_ok, wF_ok, oK_ok, lA_ok, rA_ok, wA_ok, cI_ok, cV_ok, cL_ok, cR_ok, kd_sF, kd_sA, gA_sF, gF_sA, gF_sF, gA_sA, bk_0, bk_1, List.length_set, reduceIte, and_true, and_false, true_and, false_and, ne_eq, not_true_eq_false, not_false_eq_true, Int.toNat_natCast, Int.reduceToNat, Nat.reduceEqDiff, Int.reduceEq, Int.reduceLT, Int.reduceLE, Int.reduceAdd, Int.reduceSub, Int.reduceMul, Int.reduceNeg, hs.kd, hs.ln, hs.fs, kMs, lMs, wi_sm, et, es]
      have e : ∀ j, kA (sA (sA s 100 ((gA s 100).set (137 + a.1.2.1.length) c)) 100 (((gA s 100).set (137 + a.1.2.1.length) c).set 170 ((a.1.2.1.length : Int) + 1))) j = if 170 = j then (a.1.2.1.length : Int) + 1 else if 137 + a.1.2.1.length = j then c else kA s j := fun j => by
        unfold kA
        rw [gA_eq, setD_getD (by rw [List.length_set, hs.ln 100]; decide), setD_getD (by rw [hs.ln 100]; show _ < 5781; omega)]
      obtain ⟨d1, d2, d3, d4, d5, d6⟩ := R.2.1
      have D' : DrR (kA (sA (sA s 100 ((gA s 100).set (137 + a.1.2.1.length) c)) 100 (((gA s 100).set (137 + a.1.2.1.length) c).set 170 ((a.1.2.1.length : Int) + 1)))) (a.1.1, a.1.2.1 ++ [c], a.1.2.2) := by
        refine ⟨d1.cg (wK_ok W.1.1) fun j hj => by rw [e, if_neg (by omega), if_neg (by omega)], ⟨by rw [e, if_pos rfl, List.length_append]; rfl, fun i hi => ?_⟩, d3.cg W.1.2.2.1.1 fun j hj => by rw [e, if_neg (by omega), if_neg (by omega)], d4.cg fun j hj => by rw [e, if_neg (by omega), if_neg (by omega)], d5.cg (wL_ok W.1) fun j hj => by rw [e, if_neg (by omega), if_neg (by omega)], by rw [e, if_neg (by omega), if_neg (by omega)]; exact d6⟩
        rw [List.length_append] at hi
        rw [e, if_neg (by simp at hi; omega), gd_app (by simp at hi; omega)]
        by_cases ei : i = a.1.2.1.length
        · rw [if_pos (by omega), if_pos ei]
        · rw [if_neg (by omega), if_neg ei]
          exact d2.2 i (by simp at hi; omega)
      have R0 : RepM (setDr a (a.1.1, a.1.2.1 ++ [c], a.1.2.2)) (sA (sA s 100 ((gA s 100).set (137 + a.1.2.1.length) c)) 100 (((gA s 100).set (137 + a.1.2.1.length) c).set 170 ((a.1.2.1.length : Int) + 1))) := by
        rw [sA_ov] at D' ⊢
        exact R.kept (by rw [List.length_set, List.length_set]) D'
      have g := mm_grant (d := d) (v := (a.1.2.1.length : Int)) (K := fun x s' => some ([(0, x)], s')) R0 (fun _ _ => rfl)
      rw [oK_ok (R0.1.k98)] at g
      exact g
    · rw [if_neg h2, if_pos (by omega)]
      have g := mm_ref (d := d) (v := -5) (K := fun x s' => some ([(0, x)], s')) (by decide) R (fun _ _ => rfl)
      rw [oK_ok (R.1.k98)] at g
      exact g
  · rw [if_neg h, if_neg h, if_pos rfl]
    exact mm_ref (d := d) (v := -1) (by decide) R (fun _ _ => rfl)
end MSM
