/-! ===== the reference reads tests ===== -/
section MRT
variable {s : St} {c v st : Nat → Int} {nt : Nat} {fw lw : Int} {d i l : Nat} {b : Int}
theorem r_nots (X : RdX s c v st nt fw lw) {g : Int} {l : Int} : ∀ (f i : Nat) (n : Bool), i ≤ nt → nt ≤ i + f → X12_readPlain_2 (d + 2) (rd s i l (-1)) 98 g 1 = X12_readPlain_2 (d + 2) (rd s ((pNots c f i n).1 : Int) l (-1)) 98 g 0 ∧ i ≤ (pNots c f i n).1 ∧ (pNots c f i n).1 ≤ nt
  | 0, i, n, hi, hf => by
    have : i = nt := by omega
    have h0 : c i ≠ 7 := by rw [this, X.2.2.2.1]; decide
    rw [pNots]
    refine ⟨?_, Nat.le_refl _, hi⟩
    rw [e_X12_readPlain_2, if_neg (show ¬ ((1 : Int) = 0) by decide), oK_ok (X.sh _ _ _).k98, r_tk X hi, if_neg h0, cI_ok]
  | f + 1, i, n, hi, hf => by
    rw [pNots]
    by_cases e : c i = 7
    · have hlt := X.lt hi (by omega)
      rw [if_pos e, e_X12_readPlain_2, if_neg (show ¬ ((1 : Int) = 0) by decide), oK_ok (X.sh _ _ _).k98, r_tk X hi, if_pos e, cI_ok]
      obtain ⟨h1, h2, h3⟩ := r_nots X (g := g) (l := l) f (i + 1) (!n) hlt (by omega)
      exact ⟨h1, by omega, h3⟩
    · rw [if_neg e]
      refine ⟨?_, Nat.le_refl _, hi⟩
      rw [e_X12_readPlain_2, if_neg (show ¬ ((1 : Int) = 0) by decide), oK_ok (X.sh _ _ _).k98, r_tk X hi, if_neg e, cI_ok]
theorem cmO_z {x : Int} : cmO x = 0 ↔ x ≠ 160 ∧ x ≠ 162 ∧ x ≠ 161 := by
  unfold cmO
  constructor
  · intro h
    refine ⟨fun e => ?_, fun e => ?_, fun e => ?_⟩ <;> subst e <;> revert h <;> decide
  · rintro ⟨h1, h2, h3⟩
    rw [if_neg h1, if_neg h2, if_neg h3]
/-- what follows the first sum of a comparison -/
noncomputable def cmpG (d : Nat) (g : Int) (s3 : St) : Res := cI (X12_sign d s3 60) fun x6 s4 => oK s4 98 16 (cI (X12_takes0 d s4 98 x6) fun x7 s5 => if x7 = 0 then (cI (X12_sign d s5 62) fun x8 s7 => oK s7 98 16 (cI (X12_takes0 d s7 98 x8) fun x9 s8 => if x9 = 0 then (cI (X12_sign d s8 61) fun x10 s10 => oK s10 98 16 (cV (X12_must d s10 98 x10) fun s11 => oK s11 98 16 (cV (X12_readSum d s11 98 g) fun s12 => some ([], s12)))) else (oK s8 98 16 (cV (X12_readSum d s8 98 g) fun s9 => some ([], s9))))) else (oK s5 98 16 (cV (X12_readSum d s5 98 g) fun s6 => some ([], s6))))
theorem r_cmp0 (X : RdX s c v st nt fw lw) (hb : b ≠ -1) {i l g : Int} : cmpG (d + 3) g (rd s i l b) = some ([], rd s i l b) := by
  have hs := X.sh i l b
  unfold cmpG
  rw [r_sign (by decide), cI_ok, oK_ok hs.k98, r_tk0 X hb, cI_ok, if_pos rfl, r_sign (by decide), cI_ok, oK_ok hs.k98, r_tk0 X hb, cI_ok, if_pos rfl, r_sign (by decide), cI_ok, oK_ok hs.k98, r_must0 X hb, cV_ok, oK_ok hs.k98, b_sum X hb, cV_ok]
theorem RSp.idV {β : Type} {F : St → Res} {r : Except Nat (Nat × Nat × β)} (h : RSp s st nt F i l r) : RSp s st nt (fun t => cV (F t) fun s12 => some ([], s12)) i l r := by
  cases r with
  | error e =>
    obtain ⟨i', l', h⟩ := h
    exact ⟨i', l', by show cV (F _) _ = _; rw [h, cV_ok]⟩
  | ok a =>
    obtain ⟨h1, h2⟩ := h
    exact ⟨by show cV (F _) _ = _; rw [h1, cV_ok], h2⟩
theorem RSp.cgr {β : Type} {F G : St → Res} {i j : Nat} {r : Except Nat (Nat × Nat × β)} (h : RSp s st nt F j l r) (hij : i ≤ j) (e : G (rd s i l (-1)) = F (rd s j l (-1))) : RSp s st nt G i l r := by
  cases r with
  | error e' =>
    obtain ⟨i', l', h⟩ := h
    exact ⟨i', l', by rw [e, h]⟩
  | ok a =>
    obtain ⟨h1, h2, h3⟩ := h
    exact ⟨by rw [e, h1], by omega, h3⟩
theorem RSp.map {β γ : Type} {F : St → Res} {r : Except Nat (Nat × Nat × β)} (f : Nat × Nat × β → Nat × Nat × γ) (hf : ∀ a, (f a).1 = a.1 ∧ (f a).2.1 = a.2.1) (h : RSp s st nt F i l r) : RSp s st nt F i l (bnd r fun a => .ok (f a)) := by
  cases r with
  | error e => exact h
  | ok a =>
    obtain ⟨h1, h2, h3, h4⟩ := h
    obtain ⟨f1, f2⟩ := hf a
    show _ ∧ _
    rw [f1, f2]
    exact ⟨h1, h2, h3, h4⟩
theorem r_cmp (X : RdX s c v st nt fw lw) {sm : PP} {g : Int} {a : PV} (hsm : ∀ i l : Nat, i ≤ nt → l ≤ 50 → RSp s st nt (fun t => X12_readSum (d + 3) t 98 g) i l (sm i l)) (h1 : a.1 ≤ nt) (h2 : a.2.1 ≤ 50) : RSp s st nt (cmpG (d + 3) g) a.1 a.2.1 (if cmO (c a.1) = 0 then .error a.1 else bnd (sm (a.1 + 1) a.2.1) fun b => .ok (b.1, b.2.1, a.2.2.1 ++ b.2.2.1 ++ [(cmO (c a.1), 0)], jD (cmO (c a.1)) a.2.2.2 b.2.2.2)) := by
  have hs := X.sh a.1 a.2.1 (-1)
  have hs1 := X.sh ((a.1 + 1 : Nat) : Int) a.2.1 (-1)
  by_cases e : cmO (c a.1) = 0
  · obtain ⟨e1, e2, e3⟩ := cmO_z.mp e
    rw [if_pos e]
    refine ⟨a.1, a.2.1, ?_⟩
    unfold cmpG
    rw [r_sign (by decide), cI_ok, oK_ok hs.k98, r_tk X h1, if_neg (show ¬ (c a.1 = 100 + 60) from e1), cI_ok, if_pos rfl, r_sign (by decide), cI_ok, oK_ok hs.k98, r_tk X h1, if_neg (show ¬ (c a.1 = 100 + 62) from e2), cI_ok, if_pos rfl, r_sign (by decide), cI_ok, oK_ok hs.k98, r_must X h1, if_neg (show ¬ (c a.1 = 100 + 61) from e3), cV_ok, oK_ok (X.sh _ _ _).k98, b_sum X (X.stn _), cV_ok]
  · rw [if_neg e]
    have hlt : a.1 < nt := X.lt h1 (fun h => e (by rw [h]; rfl))
    have S := ((hsm (a.1 + 1) a.2.1 (by omega) h2).idV).map (fun b => (b.1, b.2.1, a.2.2.1 ++ b.2.2.1 ++ [(cmO (c a.1), 0)], jD (cmO (c a.1)) a.2.2.2 b.2.2.2)) (fun _ => ⟨rfl, rfl⟩)
    refine S.cgr (by omega) ?_
    show cmpG (d + 3) g (rd s a.1 a.2.1 (-1)) = cV (X12_readSum (d + 3) (rd s ((a.1 + 1 : Nat) : Int) a.2.1 (-1)) 98 g) fun s12 => some ([], s12)
    unfold cmpG
    rw [r_sign (by decide), cI_ok, oK_ok hs.k98, r_tk X h1]
    by_cases e1 : c a.1 = 160
    · rw [if_pos (show c a.1 = 100 + 60 from e1), cI_ok, if_neg (show ¬ ((1 : Int) = 0) by decide), oK_ok hs1.k98]
    rw [if_neg (show ¬ (c a.1 = 100 + 60) from e1), cI_ok, if_pos rfl, r_sign (by decide), cI_ok, oK_ok hs.k98, r_tk X h1]
    by_cases e2 : c a.1 = 162
    · rw [if_pos (show c a.1 = 100 + 62 from e2), cI_ok, if_neg (show ¬ ((1 : Int) = 0) by decide), oK_ok hs1.k98]
    have e3 : c a.1 = 161 := Classical.byContradiction fun h => e (cmO_z.mpr ⟨e1, e2, h⟩)
    rw [if_neg (show ¬ (c a.1 = 100 + 62) from e2), cI_ok, if_pos rfl, r_sign (by decide), cI_ok, oK_ok hs.k98, r_must X h1, if_pos (show c a.1 = 100 + 61 from e3), cV_ok, oK_ok hs1.k98]
/-- a plain test, behind its nots -/
theorem r_pos (X : RdX s c v st nt fw lw) {br sm : PP} {g : Int} (hbr : ∀ i l : Nat, i ≤ nt → l ≤ 50 → c i = 140 → RSp s st nt (fun t => X12_readPlain_2 (d + 4) t 98 g 0) i l (bnd (br i l) fun a => if c a.1 = 141 then .ok (a.1 + 1, a.2) else .error a.1)) (hsm : ∀ i l : Nat, i ≤ nt → l ≤ 50 → RSp s st nt (fun t => X12_readSum (d + 3) t 98 g) i l (sm i l)) (hi : i ≤ nt) (hl : l ≤ 50) : RSp s st nt (fun t => X12_readPlain_2 (d + 4) t 98 g 0) i l (pPos c br sm i l) := by
  unfold pPos
  by_cases e : c i = 140
  · rw [if_pos e]
    exact hbr i l hi hl e
  rw [if_neg e]
  have hs := X.sh i l (-1)
  refine RSp.seq (F := fun t => X12_readSum (d + 3) t 98 g) (G := cmpG (d + 3) g) X (hsm i l hi hl) ?_ (fun i l b hb => r_cmp0 X hb) fun a _ h1 h2 => r_cmp X hsm h1 h2
  show X12_readPlain_2 (d + 4) (rd s i l (-1)) 98 g 0 = cV (X12_readSum (d + 3) (rd s i l (-1)) 98 g) (cmpG (d + 3) g)
  rw [e_X12_readPlain_2, if_pos rfl, oK_ok hs.k98, r_fine1 X, cI_ok, if_neg (show ¬ ((1 : Int) = 0) by decide), X.cd hi, r_sign (by decide), cI_ok, if_neg (show ¬ (c i = 100 + 40) from e), oK_ok hs.k98]
  rfl
theorem r_plain (X : RdX s c v st nt fw lw) {br sm : PP} {g : Int} (hp : ∀ i l : Nat, i ≤ nt → l ≤ 50 → RSp s st nt (fun t => X12_readPlain_2 (d + 4) t 98 g 0) i l (pPos c br sm i l)) (hi : i ≤ nt) (hl : l ≤ 50) : RSp s st nt (fun t => X12_readPlain (d + 4) t 98 g) i l (pPlain c br sm i l) := by
  unfold pPlain
  have hn := X.2.1
  obtain ⟨h1, h2, h3⟩ := r_nots (d := d + 2) X (g := g) (l := (l : Int)) 401 i false hi (by omega)
  have S := (hp (pNots c 401 i false).1 l h3 hl).map (fun a => (a.1, a.2.1, if (pNots c 401 i false).2 then a.2.2.1 ++ [(2, 0)] else a.2.2.1, if (pNots c 401 i false).2 then negD a.2.2.2 else a.2.2.2)) (fun _ => ⟨rfl, rfl⟩)
  refine S.cgr h2 ?_
  show X12_readPlain (d + 4) (rd s i l (-1)) 98 g = _
  rw [e_X12_readPlain, h1]
theorem r_both (X : RdX s c v st nt fw lw) {br sm : PP} {g : Int} (hp : ∀ i l : Nat, i ≤ nt → l ≤ 50 → RSp s st nt (fun t => X12_readPlain (d + 4) t 98 g) i l (pPlain c br sm i l)) (hi : i ≤ nt) (hl : l ≤ 50) : RSp s st nt (fun t => X12_readBoth (d + 5) t 98 g) i l (pBoth c br sm i l) := by
  unfold pBoth
  refine RSp.seq (F := fun t => X12_readPlain (d + 4) t 98 g) (G := fun t => X12_readBoth_5 (d + 5) t 98 g) X (hp i l hi hl) ?_ (fun i l b hb => b_both5 X hb) fun a _ h1 h2 => ?_
  · show X12_readBoth (d + 5) (rd s i l (-1)) 98 g = _
    rw [e_X12_readBoth, oK_ok (X.sh _ _ _).k98]
  refine r_sk X (F := fun t => X12_readPlain (d + 4) t 98 g) (G := fun t => X12_readBoth_5 (d + 5) t 98 g) (by decide) ?_ (fun i l b hb => b_both5 X hb) ?_ hp 401 a (by have := X.2.1; omega) h1 h2
  · intro i l hi e
    show X12_readBoth_5 (d + 5) (rd s i l (-1)) 98 g = _
    rw [e_X12_readBoth_5, oK_ok (X.sh _ _ _).k98, r_tk X hi, if_neg e, cI_ok, if_pos rfl]
  · intro i l hi e
    show X12_readBoth_5 (d + 5) (rd s i l (-1)) 98 g = cV (X12_readPlain (d + 4) (rd s ((i + 1 : Nat) : Int) l (-1)) 98 g) fun t => X12_readBoth_5 (d + 5) t 98 g
    rw [e_X12_readBoth_5, oK_ok (X.sh _ _ _).k98, r_tk X (by omega), if_pos e, cI_ok, if_neg (show ¬ ((1 : Int) = 0) by decide), oK_ok (X.sh _ _ _).k98]
theorem r_testG (X : RdX s c v st nt fw lw) {br sm : PP} {g : Int} (hp : ∀ i l : Nat, i ≤ nt → l ≤ 50 → RSp s st nt (fun t => X12_readPlain_2 (d + 4) t 98 g 0) i l (pPos c br sm i l)) (hi : i ≤ nt) (hl : l ≤ 50) : RSp s st nt (fun t => X12_readTest (d + 6) t 98 g) i l (pTestG c br sm i l) := by
  unfold pTestG
  have hb : ∀ i l : Nat, i ≤ nt → l ≤ 50 → RSp s st nt (fun t => X12_readBoth (d + 5) t 98 g) i l (pBoth c br sm i l) := fun i l hi hl => r_both X (fun i l hi hl => r_plain X hp hi hl) hi hl
  refine RSp.seq (F := fun t => X12_readBoth (d + 5) t 98 g) (G := fun t => X12_readTest_5 (d + 6) t 98 g) X (hb i l hi hl) ?_ (fun i l b hb => b_test5 X hb) fun a _ h1 h2 => ?_
  · show X12_readTest (d + 6) (rd s i l (-1)) 98 g = _
    rw [e_X12_readTest, oK_ok (X.sh _ _ _).k98]
  refine r_sk X (F := fun t => X12_readBoth (d + 5) t 98 g) (G := fun t => X12_readTest_5 (d + 6) t 98 g) (by decide) ?_ (fun i l b hb => b_test5 X hb) ?_ hb 401 a (by have := X.2.1; omega) h1 h2
  · intro i l hi e
    show X12_readTest_5 (d + 6) (rd s i l (-1)) 98 g = _
    rw [e_X12_readTest_5, oK_ok (X.sh _ _ _).k98, r_tk X hi, if_neg e, cI_ok, if_pos rfl]
  · intro i l hi e
    show X12_readTest_5 (d + 6) (rd s i l (-1)) 98 g = cV (X12_readBoth (d + 5) (rd s ((i + 1 : Nat) : Int) l (-1)) 98 g) fun t => X12_readTest_5 (d + 6) t 98 g
    rw [e_X12_readTest_5, oK_ok (X.sh _ _ _).k98, r_tk X (by omega), if_pos e, cI_ok, if_neg (show ¬ ((1 : Int) = 0) by decide), oK_ok (X.sh _ _ _).k98]
theorem r_test (X : RdX s c v st nt fw lw) : ∀ (k : Nat), k ≤ 8 → ∀ (d i l : Nat), i ≤ nt → l ≤ 50 → RSp s st nt (fun t => X12_readTest (d + 4 * k + 12) t 98 (8 - k : Int)) i l (pTest c v fw lw k i l)
  | 0, _, d, i, l, hi, hl => by
    unfold pTest
    refine r_testG (d := d + 6) X (fun i l hi hl => r_pos (d := d + 6) X (fun i l hi hl e => ?_) (fun i l hi hl => ?_) hi hl) hi hl
    · have hs := X.sh i l (-1)
      refine ⟨i, l, ?_⟩
      show X12_readPlain_2 (d + 10) (rd s i l (-1)) 98 (8 - ((0 : Nat) : Int)) 0 = _
      rw [e_X12_readPlain_2, if_pos rfl, oK_ok hs.k98, r_fine1 X, cI_ok, if_neg (show ¬ ((1 : Int) = 0) by decide), X.cd hi, r_sign (by decide), cI_ok, if_pos (show c i = 100 + 40 from e), if_pos (by decide), oK_ok hs.k98, r_fault1 X hi, cV_ok, e_X12_readPlain_53, oK_ok (X.sh _ _ _).k98, r_fine0 X (X.stn i), cI_ok, if_pos rfl]
    · exact r_sum X 0 (by decide) (d + 3) i l hi hl
  | k + 1, hk, d, i, l, hi, hl => by
    unfold pTest
    rw [show d + 4 * (k + 1) + 12 = (d + 4 * k + 10) + 6 by omega]
    refine r_testG (d := d + 4 * k + 10) X (fun i l hi hl => r_pos (d := d + 4 * k + 10) X (fun i l hi hl e => ?_) (fun i l hi hl => ?_) hi hl) hi hl
    · have hs := X.sh i l (-1)
      have hlt : i < nt := X.lt hi (by omega)
      have hn := X.2.1
      have ih := r_test X k (by omega) (d + 1) (i + 1) l (by omega) hl
      rw [show d + 1 + 4 * k + 12 = d + 4 * k + 13 by omega] at ih
      have sq := RSp.seq (H := fun t => cV (X12_readTest (d + 4 * k + 13) t 98 (8 - k : Int)) (mstG (d + 4 * k + 13) 41)) (G := mstG (d + 4 * k + 13) 41) (k := fun a => if c a.1 = 141 then .ok (a.1 + 1, a.2) else .error a.1) X ih rfl (fun i l b hb => r_mstG0 (d := d + 4 * k + 11) X (by decide) hb) fun a _ h1 h2 => r_mstG (d := d + 4 * k + 11) X (by decide) rfl h1 h2
      refine sq.cgr (by omega) ?_
      have hs1 := X.sh ((i + 1 : Nat) : Int) l (-1)
      show X12_readPlain_2 (d + 4 * k + 14) (rd s i l (-1)) 98 (8 - ((k + 1 : Nat) : Int)) 0 = _
      rw [e_X12_readPlain_2, if_pos rfl, oK_ok hs.k98, r_fine1 X, cI_ok, if_neg (show ¬ ((1 : Int) = 0) by decide), X.cd hi, r_sign (by decide), cI_ok, if_pos (show c i = 100 + 40 from e), if_neg (by omega), e_X12_readPlain_53, oK_ok hs.k98, r_fine1 X, cI_ok, if_neg (show ¬ ((1 : Int) = 0) by decide), rF_ok hs.k98, rd_19, wF_ok hs.k98, rd_s19, wi_sc (by omega), oK_ok hs1.k98, wi_sm (by omega) (by omega), show (8 : Int) - ((k + 1 : Nat) : Int) + 1 = 8 - (k : Int) by omega]
      rfl
    · have := r_sum X (k + 1) hk (d + k + 4) i l hi hl
      rw [show d + k + 4 + 3 * (k + 1) + 6 = d + 4 * k + 10 + 3 by omega] at this
      exact this
end MRT
