/-! ===== the reference runs orders, wholly or not at all ===== -/
def smV (x : Int) : Int := if 0 ≤ x ∧ x ≤ 1000000 then x else -1
/-- what running may change -/
def RnF (s0 s : St) : Prop := Fa [100, 110, 111, 112, 113, 124] s0 s ∧ ∀ j, 137 ≤ j → kA s j = kA s0 j
def RnI (s0 : St) (a0 : Ab) (i : Nat) (σ : OS) (s : St) : Prop := RepM σ.1 s ∧ JO a0 σ ∧ gF s 98 50 = σ.2.1 ∧ gF s 98 51 = σ.2.2 ∧ gF s 98 52 = 2400 + (i : Int) ∧ RnF s0 s
def RnE (s0 : St) (a0 : Ab) (s : St) : Prop := ∃ b : Ab, (b.2.1 = a0.2.1 ∧ b.2.2.2 = a0.2.2.2) ∧ RepM b s ∧ RnF s0 s
section MOD
variable {s s' s0 : St} {a a0 : Ab} {d : Nat} {dn lt : Int} {c v : Nat → Int} {nt : Nat} {i l : Nat} {σ τ : OS}
theorem RnF.rf (s : St) : RnF s s := ⟨Fa.rf _ _, fun _ _ => rfl⟩
theorem RnF.act (h : RnF s0 s) (g : ActF s s') : RnF s0 s' := ⟨h.1.tr (g.1.mono (by decide)), fun j hj => (g.2 j hj).trans (h.2 j hj)⟩
theorem RnF.ga (h : RnF s0 s) (g : Fa [110, 111, 112, 124] s s') : RnF s0 s' := ⟨h.1.tr (g.mono (by decide)), fun j hj => by rw [kA_fr (g 100 (by decide))]; exact h.2 j hj⟩
theorem m_small {x : Int} (hx : -1000000000 ≤ x ∧ x ≤ 1000000000) : X12_small d s x = some ([(0, smV x)], s) := by
  rw [e_X12_small]
  unfold smV lcm
  by_cases h1 : x < 0
  · rw [if_neg (show ¬ (0 < x) by omega), if_neg (show ¬ (x = 0) by omega), if_pos (by decide), if_neg (by omega)]
  · by_cases h0 : x = 0
    · subst h0
      rfl
    · rw [if_pos (show 0 < x by omega), if_neg (by decide)]
      by_cases h2 : 1000000 < x
      · rw [if_pos h2, if_pos (by decide), if_neg (by omega)]
      · rw [if_neg h2]
        by_cases h3 : x = 1000000
        · subst h3
          rfl
        · rw [if_neg h3, if_neg (by decide), if_pos (by omega), wi_sm (by omega) (by omega)]
theorem sm_pl {x : Int} : (0 ≤ smV x ∧ smV x ≤ 2) ↔ (0 ≤ x ∧ x ≤ 2) := by
  unfold smV
  split <;> omega
theorem sm_q {x : Int} {n : Nat} (hn : n ≤ 8) : (0 ≤ smV x ∧ smV x < (n : Int)) ↔ (0 ≤ x ∧ x < (n : Int)) := by
  unfold smV
  split <;> omega
theorem sm_e {x : Int} (h : 0 ≤ x ∧ x < 100) : smV x = x := if_pos (by omega)
theorem dLay_sm {x y : Int} (W : wfA a) : dLay a (smV y) (smV x) = dLay a y x := by
  have h8 := W.1.1.1
  unfold dLay
  by_cases hp : 0 ≤ x ∧ x ≤ 2
  · rw [sm_e (x := x) (by omega)]
    by_cases hq : 0 ≤ y ∧ y < (a.1.1.length : Int)
    · rw [sm_e (x := y) (by omega)]
    · rw [if_neg (fun h => h hp), if_pos (fun h => hq ((sm_q h8).mp h)), if_neg (fun h => h hp), if_pos hq]
  · rw [if_pos (fun h => hp (sm_pl.mp h)), if_pos hp]
theorem dThr_sm {x : Int} (W : wfA a) : dThr a (smV x) = dThr a x := by
  have h8 := W.1.1.1
  unfold dThr
  by_cases hq : 0 ≤ x ∧ x < (a.1.1.length : Int)
  · rw [sm_e (x := x) (by omega)]
  · rw [if_pos (fun h => hq ((sm_q h8).mp h)), if_pos hq]
theorem dDrw_sm {x : Int} (W : wfA a) : dDrw a (smV x) = dDrw a x := by
  have h8 := W.1.1.1
  unfold dDrw
  by_cases hq : 0 ≤ x ∧ x < (a.1.1.length : Int)
  · rw [sm_e (x := x) (by omega)]
  · rw [if_pos (fun h => hq ((sm_q h8).mp h)), if_pos hq]
theorem dMir_sm {x : Int} (W : wfA a) : dMir a (smV x) = dMir a x := by
  have h8 := W.1.1.1
  unfold dMir
  by_cases hq : 0 ≤ x ∧ x < (a.1.1.length : Int)
  · rw [sm_e (x := x) (by omega)]
  · rw [if_pos (fun h => hq ((sm_q h8).mp h)), if_pos hq]
theorem mm_obeys {h x y : Int} (R : RepM a s) (W : wfA a) (h54 : gF s 98 54 = h) (hh : h = 20 ∨ h = 22 ∨ h = 23 ∨ h = 24) (hx : (gA s 124).getD 0 0 = x ∧ (-1000000000 ≤ x ∧ x ≤ 1000000000)) (hy : h = 20 → (gA s 124).getD 1 0 = y ∧ (-1000000000 ≤ y ∧ y ≤ 1000000000)) : Gl (GI fun z s' => z = (actO h x y a).1 ∧ RepM (actO h x y a).2 s' ∧ ActF s s') (X12_obeys (d + 49) s 98) := by
  have hs := R.1
  have l124 : (gA s 124).length = 2 := hs.ln 124
  rw [e_X12_obeys]
  simp (disch := ((try simp only [kd_sF, kd_sA, gA_sF, gA_sA, gF_sF, gF_sA, List.length_set, reduceIte, and_true, and_false, true_and, false_and, Nat.reduceEqDiff, Int.reduceEq, hs.kd, hs.ln, hs.fs, kMs, lMs]); first | done | omega)) only [rF_ok, wF_ok, oK_ok, lA_ok, rA_ok, wA_ok, cI_ok, cV_ok, cL_ok, cR_ok, kd_sF, kd_sA, gA_sF, gF_sA, gF_sF, gA_sA, bk_0, bk_1, List.length_set, reduceIte, and_true, and_false, true_and, false_and, ne_eq, not_true_eq_false, not_false_eq_true, Int.toNat_natCast, Int.reduceToNat, Nat.reduceEqDiff, Int.reduceEq, Int.reduceLT, Int.reduceLE, Int.reduceAdd, Int.reduceSub, Int.reduceMul, Int.reduceNeg, hs.kd, hs.ln, hs.fs, kMs, lMs, hx.1, m_small hx.2, h54]
  unfold actO
  rcases hh with rfl | rfl | rfl | rfl
  · obtain ⟨y1, y2⟩ := hy rfl
    rw [if_pos rfl, if_pos rfl]
    simp (disch := ((try simp only [kd_sF, kd_sA, gA_sF, gA_sA, gF_sF, gF_sA, List.length_set, reduceIte, and_true, and_false, true_and, false_and, Nat.reduceEqDiff, Int.reduceEq, hs.kd, hs.ln, hs.fs, kMs, lMs]); first | done | omega)) only [rF_ok, wF_ok, oK_ok, lA_ok, rA_ok, wA_ok, cI_ok, cV_ok, cL_ok, cR_ok, kd_sF, kd_sA, gA_sF, gF_sA, gF_sF, gA_sA, bk_0, bk_1, List.length_set, reduceIte, and_true, and_false, true_and, false_and, ne_eq, not_true_eq_false, not_false_eq_true, Int.toNat_natCast, Int.reduceToNat, Nat.reduceEqDiff, Int.reduceEq, Int.reduceLT, Int.reduceLE, Int.reduceAdd, Int.reduceSub, Int.reduceMul, Int.reduceNeg, hs.kd, hs.ln, hs.fs, kMs, lMs, y1, m_small y2]
    rw [← dLay_sm W]
    exact biI (mm_laysKept (d := d) R W) fun z s1 _ h => reI h
  · rw [if_neg (by decide), if_pos rfl, if_neg (by decide), if_neg (by decide), if_pos rfl, ← dThr_sm W]
    exact biI (mm_throughsKept (d := d + 45) R W) fun z s1 _ h => reI h
  · rw [if_neg (by decide), if_neg (by decide), if_pos rfl, if_neg (by decide), if_neg (by decide), if_neg (by decide), if_pos rfl, ← dDrw_sm W]
    exact biI (mm_drawsKept (d := d + 46) R W) fun z s1 _ h => reI h
  · rw [if_neg (by decide), if_neg (by decide), if_neg (by decide), if_neg (by decide), if_neg (by decide), if_neg (by decide), if_neg (by decide), ← dMir_sm W]
    exact biI (mm_mirrorsKept (d := d + 46) R W) fun z s1 _ h => reI h
/-- one order, as often as is left -/
def RpR (s0 : St) (a0 : Ab) (i : Nat) (o : Option OS) (x : Int) (s' : St) : Prop := match o with
  | none => x = 0 ∧ RnE s0 a0 s'
  | some τ => x = 1 ∧ RnI s0 a0 i τ s'
theorem RnI.tx (I : RnI s0 a0 i σ s) (TX : TxO c v nt s0) : TxO c v nt s := by
  obtain ⟨t1, t2, t3⟩ := TX
  have e := I.2.2.2.2.2.2
  exact ⟨t1, (e 180 (by omega)).trans t2, fun i hi => ⟨(e _ (by omega)).trans (t3 i hi).1, (e _ (by omega)).trans (t3 i hi).2⟩⟩
theorem m_rep {r : Nat × Nat × Cl} {tm : Nat} (TX : TxO c v nt s0) (hc0 : ∀ i, nt ≤ i → c i = 0) (hv0 : ∀ i, 0 ≤ v i) (hi : i < nt) (hp : pClO c v i l = .ok r) (hh : r.2.2.1 = 20 ∨ r.2.2.1 = 22 ∨ r.2.2.1 = 23 ∨ r.2.2.1 = 24) (htm : tm ≤ 20) : ∀ (m k : Nat) (σ : OS) (s : St), k + m = tm → RnI s0 a0 i σ s → σ.2.1 + m ≤ 900 → Gl (GI fun x s' => RpR s0 a0 (r.1 + 1) (repO r.2.2 m σ) x s') (X12_runs_19 (d + 50) s 98 (2400 + (nt : Int)) tm (2400 + ((r.1 + 1 : Nat) : Int)) k) := by
  intro m
  induction m with
  | zero =>
    intro k σ s hk I hb
    obtain ⟨R, J, h50, h51, h52, F⟩ := id I
    have hs := R.1
    rw [e_X12_runs_19, if_neg (by omega), wF_ok hs.k98]
    refine reI ⟨rfl, R.fr (hs.sF (by decide)) (fun _ _ => rfl) (fun j hj => gF_nk (by revert j; decide)), J, (gF_nk (by decide)).trans h50, (gF_nk (by decide)).trans h51, gF_eq _ _ _ _, F⟩
  | succ m ih =>
    intro k σ s hk I hb
    obtain ⟨R, J, h50, h51, h52, F⟩ := id I
    have hs := R.1
    have hd3 := J.2.2.1
    have hl3 := J.2.2.2
    rw [e_X12_runs_19, if_pos (by omega), oK_ok hs.k98]
    refine biV (mm_goes (d := d) (dn := σ.2.1) (lt := σ.2.2) (live := 1) R J.1 h50 h51 (by omega) (by omega) (I.tx TX) hc0 hv0 h52 hi hp (Or.inr rfl)) fun s1 hev ⟨_, R1, F1, g54, g53, g22, g⟩ => ?_
    obtain ⟨g56, g55, gx, gy⟩ := g rfl
    have hs1 := R1.1
    have k50 : gF s1 98 50 = σ.2.1 := (hs.gf hev rfl rfl).trans h50
    have k51 : gF s1 98 51 = σ.2.2 := (hs.gf hev rfl rfl).trans h51
    have k52 : gF s1 98 52 = 2400 + (i : Int) := (hs.gf hev rfl rfl).trans h52
    have I1 : RnI s0 a0 i σ s1 := ⟨R1, J, k50, k51, k52, F.ga F1⟩
    rw [rF_ok hs1.k98, g56, repO, wi_sc (by omega)]
    by_cases e3 : r.2.2.2.2.2.2.2 (envO σ.1 σ.2.1 σ.2.2) = some 1
    · rw [if_pos e3, if_neg (show ¬ ((1 : Int) = 0) by decide), rF_ok hs1.k98, g55]
      by_cases e4 : r.2.2.2.2.1.2 (envO σ.1 σ.2.1 σ.2.2) = none ∨ r.2.2.2.2.2.1.2 (envO σ.1 σ.2.1 σ.2.2) = none
      · have eo : onceO r.2.2 σ = none := onceO_2 (a := σ.1) (dn := σ.2.1) (lt := σ.2.2) e3 e4
        rw [if_pos e4, if_pos rfl, e_X12_runs_56, if_pos (by decide), eo]
        exact reI ⟨rfl, σ.1, J.2.1, R1, F.ga F1⟩
      · have hxs : ∃ x, r.2.2.2.2.1.2 (envO σ.1 σ.2.1 σ.2.2) = some x := Option.ne_none_iff_exists'.mp (fun h => e4 (Or.inl h))
        have hys : ∃ y, r.2.2.2.2.2.1.2 (envO σ.1 σ.2.1 σ.2.2) = some y := Option.ne_none_iff_exists'.mp (fun h => e4 (Or.inr h))
        obtain ⟨x, ex⟩ := hxs
        obtain ⟨y, ey⟩ := hys
        have eo : onceO r.2.2 σ = if (actO r.2.2.1 x y σ.1).1 < 0 then none else some ((actO r.2.2.1 x y σ.1).2, σ.2.1 + 1, (actO r.2.2.1 x y σ.1).1) := onceO_1 (a := σ.1) (dn := σ.2.1) (lt := σ.2.2) e3 ex ey
        rw [if_neg e4, if_neg (show ¬ ((1 : Int) = 0) by decide), oK_ok hs1.k98]
        refine biI (mm_obeys (d := d) (y := y) R1 J.1 g54 hh (gx x ex) (fun h20 => gy h20 y ey)) fun z s2 hev2 ⟨hz, R2, A2⟩ => ?_
        have hs2 := R2.1
        have sm := act_same (a := σ.1) (h := r.2.2.1) (x := x) (y := y)
        rw [e_X12_runs_56, hz]
        by_cases en : (actO r.2.2.1 x y σ.1).1 < 0
        · rw [if_pos en, eo, if_pos en]
          exact reI ⟨rfl, _, ⟨sm.1.trans J.2.1.1, sm.2.trans J.2.1.2⟩, R2, (F.ga F1).act A2⟩
        · rw [if_neg en] at eo
          rw [if_neg en, eo]
          have Jτ := (J.once eo).1
          have q50 : gF s2 98 50 = σ.2.1 := (hs1.gf hev2 rfl rfl).trans k50
          have q52 : gF s2 98 52 = 2400 + (i : Int) := (hs1.gf hev2 rfl rfl).trans k52
          have hs3 : ShM (sF s2 98 51 (actO r.2.2.1 x y σ.1).1) := hs2.sF (by decide)
          have hs4 : ShM (sF (sF s2 98 51 (actO r.2.2.1 x y σ.1).1) 98 50 (σ.2.1 + 1)) := hs3.sF (by decide)
          rw [wF_ok hs2.k98, rF_ok hs3.k98, gF_nk (by decide), q50, wi_sm (by omega) (by omega), wF_ok hs3.k98, wi_sc (by omega)]
          refine ih (k + 1) ((actO r.2.2.1 x y σ.1).2, σ.2.1 + 1, (actO r.2.2.1 x y σ.1).1) _ (by omega) ⟨R2.fr hs4 (fun _ _ => rfl) (fun j hj => by rw [gF_nk (by revert j; decide), gF_nk (by revert j; decide)]), Jτ, gF_eq _ _ _ _, by rw [gF_nk (by decide), gF_eq], by rw [gF_nk (by decide), gF_nk (by decide)]; exact q52, (F.ga F1).act A2⟩ (by dsimp only; omega)
    · have eo : onceO r.2.2 σ = some σ := onceO_3 (a := σ.1) (dn := σ.2.1) (lt := σ.2.2) e3
      rw [if_neg e3, if_pos rfl, eo]
      exact ih (k + 1) σ s1 (by omega) I1 (by omega)
theorem mm_runs {r : Nat × Nat × Cl} (TX : TxO c v nt s0) (hc0 : ∀ i, nt ≤ i → c i = 0) (hv0 : ∀ i, 0 ≤ v i) (hi : i < nt) (hp : pClO c v i l = .ok r) (hh : r.2.2.1 = 20 ∨ r.2.2.1 = 22 ∨ r.2.2.1 = 23 ∨ r.2.2.1 = 24) (htm : 1 ≤ r.2.2.2.1 ∧ r.2.2.2.1 ≤ 20) (I : RnI s0 a0 i σ s) (hb : σ.2.1 ≤ 800) : Gl (GI fun x s' => (i < r.1 ∧ r.1 ≤ nt) ∧ RpR s0 a0 (r.1 + 1) (repO r.2.2 r.2.2.2.1.toNat σ) x s') (X12_runs (d + 50) s 98 (2400 + (nt : Int))) := by
  obtain ⟨R, J, h50, h51, h52, F⟩ := id I
  have hs := R.1
  have hd3 := J.2.2.1
  have hl3 := J.2.2.2
  rw [e_X12_runs, oK_ok hs.k98]
  refine biV (mm_goes (d := d) (dn := σ.2.1) (lt := σ.2.2) (live := 0) R J.1 h50 h51 (by omega) (by omega) (I.tx TX) hc0 hv0 h52 hi hp (Or.inl rfl)) fun s1 hev ⟨hr, R1, F1, g54, g53, g22, _⟩ => ?_
  have hs1 := R1.1
  have k50 : gF s1 98 50 = σ.2.1 := (hs.gf hev rfl rfl).trans h50
  have k51 : gF s1 98 51 = σ.2.2 := (hs.gf hev rfl rfl).trans h51
  have k52 : gF s1 98 52 = 2400 + (i : Int) := (hs.gf hev rfl rfl).trans h52
  have I1 : RnI s0 a0 i σ s1 := ⟨R1, J, k50, k51, k52, F.ga F1⟩
  rw [rF_ok hs1.k98, g53, rF_ok hs1.k98, g22]
  obtain ⟨tm, ht⟩ := Int.eq_ofNat_of_zero_le (show 0 ≤ r.2.2.2.1 by omega)
  rw [ht, Int.toNat_natCast]
  exact wkI (m_rep (d := d) (tm := tm) TX hc0 hv0 hi hp hh (by omega) tm 0 σ s1 (by omega) I1 (by omega)) fun x s' _ h => ⟨hr, h⟩
end MOD
