/-! ===== the reference reads clauses and texts ===== -/
noncomputable def ifG (d : Nat) (t : St) : Res := oK t 98 16 (cI (X12_takes0 d t 98 4) fun x s => if x = 0 then some ([], s) else oK s 98 16 (cV (X12_readTest d s 98 0) fun s2 => some ([], s2)))
noncomputable def tmG (d : Nat) (t : St) : Res := oK t 98 16 (cI (X12_takes0 d t 98 25) fun x s => if x = 0 then ifG d s else oK s 98 16 (cV (X12_mustNumber d s 98 1 20) (ifG d)))
section MRC
variable {s : St} {c v st : Nat → Int} {nt : Nat} {fw lw : Int} {d i l : Nat} {b : Int}
theorem r_if0 (X : RdX s c v st nt fw lw) (hb : b ≠ -1) {i l : Int} : ifG (d + 1) (rd s i l b) = some ([], rd s i l b) := by
  unfold ifG
  rw [oK_ok (X.sh _ _ _).k98, r_tk0 X hb, cI_ok, if_pos rfl]
theorem r_tm0 (X : RdX s c v st nt fw lw) (hb : b ≠ -1) {i l : Int} : tmG (d + 1) (rd s i l b) = some ([], rd s i l b) := by
  unfold tmG
  rw [oK_ok (X.sh _ _ _).k98, r_tk0 X hb, cI_ok, if_pos rfl, r_if0 X hb]
theorem r_test8 (X : RdX s c v st nt fw lw) (hi : i ≤ nt) (hl : l ≤ 50) : RSp s st nt (fun t => X12_readTest (d + 44) t 98 0) i l (pTest c v fw lw 8 i l) := r_test X 8 (by decide) d i l hi hl
theorem r_sum8 (X : RdX s c v st nt fw lw) (hi : i ≤ nt) (hl : l ≤ 50) : RSp s st nt (fun t => X12_readSum (d + 44) t 98 0) i l (pSum c v fw lw 8 i l) := r_sum X 8 (by decide) (d + 14) i l hi hl
theorem r_if (X : RdX s c v st nt fw lw) {h t : Int} {x y : Cd × Dn} (hi : i ≤ nt) (hl : l ≤ 50) : RSp s st nt (ifG (d + 44)) i l (pIf c (pTest c v fw lw 8) i l h t x y) := by
  unfold pIf
  by_cases e : c i = 4
  · have hlt := X.lt hi (by omega)
    rw [if_pos e]
    refine (((r_test8 (d := d) X (show i + 1 ≤ nt by omega) hl).idV).map (fun b => (b.1, b.2.1, h, t, x, y, b.2.2)) (fun _ => ⟨rfl, rfl⟩)).cgr (by omega) ?_
    show ifG (d + 44) (rd s i l (-1)) = cV (X12_readTest (d + 44) (rd s ((i + 1 : Nat) : Int) l (-1)) 98 0) fun s12 => some ([], s12)
    unfold ifG
    rw [oK_ok (X.sh _ _ _).k98, r_tk X hi, if_pos e, cI_ok, if_neg (show ¬ ((1 : Int) = 0) by decide), oK_ok (X.sh _ _ _).k98]
  · rw [if_neg e]
    refine ⟨?_, Nat.le_refl _, hi, hl⟩
    unfold ifG
    rw [oK_ok (X.sh _ _ _).k98, r_tk X hi, if_neg e, cI_ok, if_pos rfl]
theorem r_tm (X : RdX s c v st nt fw lw) {h : Int} {x y : Cd × Dn} (hi : i ≤ nt) (hl : l ≤ 50) : RSp s st nt (tmG (d + 44)) i l (pTm c v (pTest c v fw lw 8) i l h x y) := by
  unfold pTm
  by_cases e : c i = 25
  · have hlt := X.lt hi (by omega)
    have beg : tmG (d + 44) (rd s i l (-1)) = cV (X12_mustNumber (d + 44) (rd s ((i + 1 : Nat) : Int) l (-1)) 98 1 20) (ifG (d + 44)) := by
      unfold tmG
      rw [oK_ok (X.sh _ _ _).k98, r_tk X hi, if_pos e, cI_ok, if_neg (show ¬ ((1 : Int) = 0) by decide), oK_ok (X.sh _ _ _).k98]
    rw [if_pos e]
    rw [r_num (d := d + 42) X (by omega)] at beg
    by_cases e2 : c (i + 1) = 50 ∧ 1 ≤ v (i + 1) ∧ v (i + 1) ≤ 20
    · have h2 : i + 1 < nt := X.lt (by omega) (by omega)
      rw [if_pos e2, cV_ok] at beg
      rw [if_pos e2]
      exact (r_if (d := d) X (show i + 2 ≤ nt by omega) hl).cgr (by omega) beg
    · rw [if_neg e2, cV_ok, r_if0 X (X.stn _)] at beg
      rw [if_neg e2]
      exact ⟨_, _, beg⟩
  · rw [if_neg e]
    refine (r_if (d := d) X hi hl).cgr (Nat.le_refl _) ?_
    unfold tmG
    rw [oK_ok (X.sh _ _ _).k98, r_tk X hi, if_neg e, cI_ok, if_pos rfl]
theorem r_clL (X : RdX s c v st nt 8 13) (hi : i ≤ nt) (hl : l ≤ 50) : RSp s st nt (fun t => X12_readClause (d + 45) t 98) i l (pClL c v i l) := by
  have hs := X.sh i l (-1)
  have hs1 := X.sh ((i + 1 : Nat) : Int) l (-1)
  unfold pClL
  by_cases e : c i = 1 ∨ c i = 2
  · have hlt := X.lt hi (by omega)
    rw [if_pos e]
    have S := RSp.seq (H := fun t => cV (X12_readSum (d + 44) t 98 0) (ifG (d + 44))) (G := ifG (d + 44)) (k := fun a => pIf c (pTest c v 8 13 8) a.1 a.2.1 (c i) 1 a.2.2 eDn) X (r_sum8 (d := d) X (show i + 1 ≤ nt by omega) hl) rfl (fun i l b hb => r_if0 X hb) fun a _ h1 h2 => r_if X h1 h2
    refine S.cgr (by omega) ?_
    show X12_readClause (d + 45) (rd s i l (-1)) 98 = cV (X12_readSum (d + 44) (rd s ((i + 1 : Nat) : Int) l (-1)) 98 0) (ifG (d + 44))
    rw [e_X12_readClause, oK_ok hs.k98, r_tk X hi]
    by_cases e1 : c i = 1
    · rw [if_pos e1, cI_ok, if_neg (show ¬ ((1 : Int) = 0) by decide), oK_ok hs1.k98]
      rfl
    · rw [if_neg e1, cI_ok, if_pos rfl, oK_ok hs.k98, r_tk X hi, if_pos (show c i = 2 by omega), cI_ok, if_neg (show ¬ ((1 : Int) = 0) by decide), oK_ok hs1.k98]
      rfl
  · rw [if_neg e]
    have beg : X12_readClause (d + 45) (rd s i l (-1)) 98 = cV (X12_must (d + 44) (rd s i l (-1)) 98 3) (ifG (d + 44)) := by
      rw [e_X12_readClause, oK_ok hs.k98, r_tk X hi, if_neg (fun h => e (Or.inl h)), cI_ok, if_pos rfl, oK_ok hs.k98, r_tk X hi, if_neg (fun h => e (Or.inr h)), cI_ok, if_pos rfl, oK_ok hs.k98]
      rfl
    rw [r_must (d := d + 42) X hi] at beg
    by_cases e3 : c i = 3
    · have hlt := X.lt hi (by omega)
      rw [if_pos e3, cV_ok] at beg
      rw [if_pos e3]
      exact (r_if (d := d) X (show i + 1 ≤ nt by omega) hl).cgr (by omega) beg
    · rw [if_neg e3, cV_ok, r_if0 X (X.stn _)] at beg
      rw [if_neg e3]
      exact ⟨_, _, beg⟩
theorem r_47 (X : RdX s c v st nt 14 19) {h : Int} {x : Nat × Nat × Cd × Dn → Cd × Dn} {y : Nat × Nat × Cd × Dn → Cd × Dn} (hi : i ≤ nt) (hl : l ≤ 50) : RSp s st nt (fun t => X12_readOrder_47 (d + 45) t 98) i l (bnd (pSum c v 14 19 8 i l) fun a => pTm c v (pTest c v 14 19 8) a.1 a.2.1 h (x a) (y a)) := by
  refine RSp.seq (F := fun t => X12_readSum (d + 44) t 98 0) (G := tmG (d + 44)) X (r_sum8 (d := d) X hi hl) ?_ (fun i l b hb => r_tm0 X hb) fun a _ h1 h2 => r_tm X h1 h2
  show X12_readOrder_47 (d + 45) (rd s i l (-1)) 98 = _
  rw [e_X12_readOrder_47, oK_ok (X.sh _ _ _).k98]
  rfl
theorem b_47 (X : RdX s c v st nt fw lw) (hb : b ≠ -1) {i l : Int} : X12_readOrder_47 (d + 5) (rd s i l b) 98 = some ([], rd s i l b) := by
  have hs := X.sh i l b
  rw [e_X12_readOrder_47, oK_ok hs.k98, b_sum X hb, cV_ok]
  exact r_tm0 (d := d + 3) X hb
theorem r_clO (X : RdX s c v st nt 14 19) (hi : i ≤ nt) (hl : l ≤ 50) : RSp s st nt (fun t => X12_readOrder (d + 45) t 98) i l (pClO c v i l) := by
  have hs := X.sh i l (-1)
  have hs1 := X.sh ((i + 1 : Nat) : Int) l (-1)
  unfold pClO
  by_cases e : c i = 20
  · have hlt := X.lt hi (by omega)
    rw [if_pos e]
    have S := RSp.seq (H := fun t => cV (X12_readSum (d + 44) t 98 0) fun s5 => oK s5 98 16 (cV (X12_must (d + 44) s5 98 21) fun s6 => X12_readOrder_47 (d + 45) s6 98)) (G := fun s5 => oK s5 98 16 (cV (X12_must (d + 44) s5 98 21) fun s6 => X12_readOrder_47 (d + 45) s6 98)) (k := fun a => if c a.1 = 21 then bnd (pSum c v 14 19 8 (a.1 + 1) a.2.1) fun b => pTm c v (pTest c v 14 19 8) b.1 b.2.1 20 a.2.2 b.2.2 else .error a.1) X (r_sum8 (d := d) X (show i + 1 ≤ nt by omega) hl) rfl (fun i l b hb => by
      show oK (rd s i l b) 98 16 _ = _
      rw [oK_ok (X.sh _ _ _).k98, r_must0 X hb, cV_ok, b_47 X hb]) fun a _ h1 h2 => by
      have beg : oK (rd s a.1 a.2.1 (-1)) 98 16 (cV (X12_must (d + 44) (rd s a.1 a.2.1 (-1)) 98 21) fun s6 => X12_readOrder_47 (d + 45) s6 98) = cV (X12_must (d + 44) (rd s a.1 a.2.1 (-1)) 98 21) fun s6 => X12_readOrder_47 (d + 45) s6 98 := oK_ok (X.sh _ _ _).k98
      rw [r_must (d := d + 42) X h1] at beg
      by_cases e3 : c a.1 = 21
      · have hlt2 := X.lt h1 (by omega)
        rw [if_pos e3, cV_ok] at beg
        rw [if_pos e3]
        refine (r_47 (d := d) X (h := 20) (x := fun _ => a.2.2) (y := fun b => b.2.2) (show a.1 + 1 ≤ nt by omega) h2).cgr (by omega) ?_
        show oK (rd s a.1 a.2.1 (-1)) 98 16 _ = _
        rw [oK_ok (X.sh _ _ _).k98, r_must (d := d + 42) X h1, if_pos e3, cV_ok]
      · rw [if_neg e3]
        refine ⟨a.1, a.2.1, ?_⟩
        show oK (rd s a.1 a.2.1 (-1)) 98 16 _ = _
        rw [oK_ok (X.sh _ _ _).k98, r_must (d := d + 42) X h1, if_neg e3, cV_ok, b_47 X (X.stn _)]
    refine S.cgr (by omega) ?_
    show X12_readOrder (d + 45) (rd s i l (-1)) 98 = cV (X12_readSum (d + 44) (rd s ((i + 1 : Nat) : Int) l (-1)) 98 0) fun s5 => oK s5 98 16 (cV (X12_must (d + 44) s5 98 21) fun s6 => X12_readOrder_47 (d + 45) s6 98)
    rw [e_X12_readOrder, oK_ok hs.k98, r_tk X hi, if_pos e, cI_ok, if_neg (show ¬ ((1 : Int) = 0) by decide), oK_ok hs1.k98]
  · rw [if_neg e]
    by_cases e2 : c i = 22 ∨ c i = 23 ∨ c i = 24
    · have hlt := X.lt hi (by omega)
      rw [if_pos e2]
      refine (r_47 (d := d) X (h := c i) (x := fun a => a.2.2) (y := fun _ => eDn) (show i + 1 ≤ nt by omega) hl).cgr (by omega) ?_
      show X12_readOrder (d + 45) (rd s i l (-1)) 98 = X12_readOrder_47 (d + 45) (rd s ((i + 1 : Nat) : Int) l (-1)) 98
      rw [e_X12_readOrder, oK_ok hs.k98, r_tk X hi, if_neg e, cI_ok, if_pos rfl, oK_ok hs.k98, r_tk X hi]
      by_cases f1 : c i = 22
      · rw [if_pos f1, cI_ok, if_neg (show ¬ ((1 : Int) = 0) by decide)]
      rw [if_neg f1, cI_ok, if_pos rfl, oK_ok hs.k98, r_tk X hi]
      by_cases f2 : c i = 23
      · rw [if_pos f2, cI_ok, if_neg (show ¬ ((1 : Int) = 0) by decide)]
      rw [if_neg f2, cI_ok, if_pos rfl, oK_ok hs.k98, r_must (d := d + 42) X hi, if_pos (show c i = 24 by omega), cV_ok]
    · rw [if_neg e2]
      refine ⟨i, l, ?_⟩
      show X12_readOrder (d + 45) (rd s i l (-1)) 98 = _
      rw [e_X12_readOrder, oK_ok hs.k98, r_tk X hi, if_neg e, cI_ok, if_pos rfl, oK_ok hs.k98, r_tk X hi, if_neg (fun h => e2 (Or.inl h)), cI_ok, if_pos rfl, oK_ok hs.k98, r_tk X hi, if_neg (fun h => e2 (Or.inr (Or.inl h))), cI_ok, if_pos rfl, oK_ok hs.k98, r_must (d := d + 42) X hi, if_neg (fun h => e2 (Or.inr (Or.inr h))), cV_ok, b_47 X (X.stn _)]
/-- which language: the field and its words -/
def LgM (s : St) (fw lw : Int) : Prop := (fw = 8 ∧ lw = 13 ∧ gF s 98 10 = 0) ∨ (fw = 14 ∧ lw = 19 ∧ gF s 98 10 = 1)
theorem r_one (X : RdX s c v st nt fw lw) (L : LgM s fw lw) (hi : i ≤ nt) (hl : l ≤ 50) : RSp s st nt (fun t => X12_readOne (d + 46) t 98) i l (pCl c v fw i l) := by
  have hs := X.sh i l (-1)
  unfold pCl
  rcases L with ⟨rfl, rfl, h10⟩ | ⟨rfl, rfl, h10⟩
  · rw [if_neg (by decide)]
    refine ((r_clL (d := d) X hi hl).idV).cgr (Nat.le_refl _) ?_
    show X12_readOne (d + 46) (rd s i l (-1)) 98 = _
    rw [e_X12_readOne, rF_ok hs.k98, rd_o _ _ _ _ (by decide), h10, if_pos rfl, oK_ok hs.k98]
  · rw [if_pos rfl]
    refine ((r_clO (d := d) X hi hl).idV).cgr (Nat.le_refl _) ?_
    show X12_readOne (d + 46) (rd s i l (-1)) 98 = _
    rw [e_X12_readOne, rF_ok hs.k98, rd_o _ _ _ _ (by decide), h10, if_neg (by decide), oK_ok hs.k98]
/-- what the reading of a text ends with -/
def RTx (s : St) (st : Nat → Int) (r : Except Nat (List Cl)) (o : Res) : Prop := match r with
  | .ok _ => ∃ i' l' : Int, o = some ([(0, 1)], sF (rd s i' l' (-1)) 98 14 (-1))
  | .error e => ∃ i' l' : Int, o = some ([(0, 0)], sF (rd s i' l' (st e)) 98 14 (st e))
theorem r_bad34 (X : RdX s c v st nt fw lw) (hb : b ≠ -1) {i l n : Int} : X12_reads_34 (d + 2) (rd s i l b) 98 n = some ([(0, 0)], sF (rd s i l b) 98 14 b) := by
  have hs := X.sh i l b
  have hs2 : ShM (sF (rd s i l b) 98 14 b) := hs.sF (by decide)
  rw [e_X12_reads_34, r_sign (by decide), cI_ok, oK_ok hs.k98, r_tk0 X hb, cI_ok, if_pos rfl, oK_ok hs.k98, r_fine0 X hb, cI_ok, if_pos rfl, rF_ok hs.k98, rd_21, wF_ok hs.k98, oK_ok hs2.k98, e_X12_fine, rF_ok hs2.k98, gF_nk (by decide), rd_21, if_neg hb, cI_ok, bk_0]
theorem r_tx (X : RdX s c v st nt fw lw) (L : LgM s fw lw) (h18 : gF s 98 18 = nt) : ∀ (r : Nat), r ≤ 11 → ∀ (i l : Nat) (acc : List Cl), i ≤ nt → l ≤ 50 → RTx s st (pTx (pCl c v fw) c nt r i l acc) (X12_reads_34 (d + 47) (rd s i l (-1)) 98 (12 - r : Int))
  | r, hr, i, l, acc, hi, hl => by
    have hs := X.sh i l (-1)
    have hs1 := X.sh ((i + 1 : Nat) : Int) l (-1)
    -- the end
    have fin : c i ≠ 159 → RTx s st (if i < nt then .error i else .ok acc) (X12_reads_34 (d + 47) (rd s i l (-1)) 98 (12 - r : Int)) := by
      intro e
      have beg : X12_reads_34 (d + 47) (rd s i l (-1)) 98 (12 - r : Int) = if (i : Int) < (nt : Int) then some ([(0, 0)], sF (rd s i l (st i)) 98 14 (st i)) else some ([(0, 1)], sF (rd s i l (-1)) 98 14 (-1)) := by
        rw [e_X12_reads_34, r_sign (by decide), cI_ok, oK_ok hs.k98, r_tk X hi, if_neg (show ¬ (c i = 100 + 59) from e), cI_ok, if_pos rfl, oK_ok hs.k98, r_fine1 X, cI_ok, if_neg (show ¬ ((1 : Int) = 0) by decide), rF_ok hs.k98, rF_ok hs.k98, rd_19, rd_o _ _ _ _ (by decide), h18]
        by_cases e2 : (i : Int) < (nt : Int)
        · have hs2 := X.sh i l (st i)
          have hs3 : ShM (sF (rd s i l (st i)) 98 14 (st i)) := hs2.sF (by decide)
          rw [if_pos e2, if_pos e2, oK_ok hs.k98, r_fault1 X hi, cV_ok, rF_ok hs2.k98, rd_21, wF_ok hs2.k98, oK_ok hs3.k98, e_X12_fine, rF_ok hs3.k98, gF_nk (by decide), rd_21, if_neg (X.stn i), cI_ok, bk_0]
        · have hs3 : ShM (sF (rd s i l (-1)) 98 14 (-1)) := hs.sF (by decide)
          rw [if_neg e2, if_neg e2, rF_ok hs.k98, rd_21, wF_ok hs.k98, oK_ok hs3.k98, e_X12_fine, rF_ok hs3.k98, gF_nk (by decide), rd_21, if_pos rfl, cI_ok, bk_1]
      by_cases e2 : i < nt
      · rw [if_pos (by omega)] at beg
        rw [if_pos e2]
        exact ⟨_, _, beg⟩
      · rw [if_neg (by omega)] at beg
        rw [if_neg e2]
        exact ⟨_, _, beg⟩
    match r, hr, fin with
    | 0, hr, fin =>
      rw [pTx]
      by_cases e : c i = 159
      · have hlt := X.lt hi (by omega)
        rw [if_pos e]
        refine ⟨((i + 1 : Nat) : Int), l, ?_⟩
        rw [e_X12_reads_34, r_sign (by decide), cI_ok, oK_ok hs.k98, r_tk X hi, if_pos (show c i = 100 + 59 from e), cI_ok, if_neg (show ¬ ((1 : Int) = 0) by decide), if_pos (by decide), oK_ok hs1.k98, r_fault1 X (by omega), cV_ok, oK_ok (X.sh _ _ _).k98, r_fine0 X (X.stn _), cI_ok, if_pos rfl, r_bad34 X (X.stn _)]
      · rw [if_neg e]
        exact fin e
    | r + 1, hr, fin =>
      rw [pTx]
      by_cases e : c i = 159
      · have hlt := X.lt hi (by omega)
        rw [if_pos e]
        have beg : X12_reads_34 (d + 47) (rd s i l (-1)) 98 (12 - ((r + 1 : Nat) : Int)) = cV (X12_readOne (d + 46) (rd s ((i + 1 : Nat) : Int) l (-1)) 98) fun s15 => X12_reads_34 (d + 47) s15 98 (12 - (r : Int)) := by
          rw [e_X12_reads_34, r_sign (by decide), cI_ok, oK_ok hs.k98, r_tk X hi, if_pos (show c i = 100 + 59 from e), cI_ok, if_neg (show ¬ ((1 : Int) = 0) by decide), if_neg (by omega), oK_ok hs1.k98, r_fine1 X, cI_ok, if_neg (show ¬ ((1 : Int) = 0) by decide), oK_ok hs1.k98, wi_sm (by omega) (by omega), show (12 : Int) - ((r + 1 : Nat) : Int) + 1 = 12 - (r : Int) by omega]
        rw [beg]
        have o := r_one (d := d) X L (show i + 1 ≤ nt by omega) hl
        cases ho : pCl c v fw (i + 1) l with
        | error e' =>
          rw [ho] at o
          obtain ⟨i', l', o⟩ := o
          refine ⟨i', l', ?_⟩
          rw [show X12_readOne (d + 46) (rd s ((i + 1 : Nat) : Int) l (-1)) 98 = _ from o, cV_ok, r_bad34 X (X.stn _)]
        | ok a =>
          rw [ho] at o
          obtain ⟨o1, o2, o3, o4⟩ := o
          rw [show X12_readOne (d + 46) (rd s ((i + 1 : Nat) : Int) l (-1)) 98 = _ from o1, cV_ok]
          exact r_tx X L h18 r (by omega) a.1 a.2.1 (acc ++ [a.2.2]) o3 o4
      · rw [if_neg e]
        exact fin e
theorem r_text (X : RdX s c v st nt fw lw) (L : LgM s fw lw) (h18 : gF s 98 18 = nt) : RTx s st (pText (pCl c v fw) c nt) (cV (X12_readOne (d + 46) (rd s 0 0 (-1)) 98) fun s6 => X12_reads_34 (d + 47) s6 98 1) := by
  unfold pText
  have o := r_one (d := d) X L (Nat.zero_le nt) (Nat.zero_le 50)
  cases ho : pCl c v fw 0 0 with
  | error e' =>
    rw [ho] at o
    obtain ⟨i', l', o⟩ := o
    refine ⟨i', l', ?_⟩
    rw [show X12_readOne (d + 46) (rd s 0 0 (-1)) 98 = _ from o, cV_ok, r_bad34 X (X.stn _)]
  | ok a =>
    rw [ho] at o
    obtain ⟨o1, o2, o3, o4⟩ := o
    rw [show X12_readOne (d + 46) (rd s 0 0 (-1)) 98 = _ from o1, cV_ok]
    exact r_tx X L h18 11 (by decide) a.1 a.2.1 [a.2.2] o3 o4
end MRC
