/-! ===== the reference reads sums and tests ===== -/
section MRE
variable {s : St} {c v st : Nat → Int} {nt : Nat} {fw lw : Int} {d i l : Nat} {b : Int}
/-! nothing is read any more after a fault -/
theorem b_part (X : RdX s c v st nt fw lw) (hb : b ≠ -1) {i l g : Int} : X12_readPart (d + 1) (rd s i l b) 98 g = some ([], rd s i l b) := by
  rw [e_X12_readPart, oK_ok (X.sh i l b).k98, r_fine0 X hb, cI_ok, if_pos rfl]
theorem b_term5 (X : RdX s c v st nt fw lw) (hb : b ≠ -1) {i l g : Int} : X12_readTerm_5 (d + 2) (rd s i l b) 98 g = some ([], rd s i l b) := by
  have hs := X.sh i l b
  rw [e_X12_readTerm_5, r_sign (by decide), cI_ok, oK_ok hs.k98, r_tk0 X hb, cI_ok, if_pos rfl, r_sign (by decide), cI_ok, oK_ok hs.k98, r_tk0 X hb, cI_ok, if_pos rfl, r_sign (by decide), cI_ok, oK_ok hs.k98, r_tk0 X hb, cI_ok, if_pos rfl]
theorem b_term (X : RdX s c v st nt fw lw) (hb : b ≠ -1) {i l g : Int} : X12_readTerm (d + 2) (rd s i l b) 98 g = some ([], rd s i l b) := by
  rw [e_X12_readTerm, oK_ok (X.sh i l b).k98, b_part X hb, cV_ok, b_term5 X hb]
theorem b_sum5 (X : RdX s c v st nt fw lw) (hb : b ≠ -1) {i l g : Int} : X12_readSum_5 (d + 2) (rd s i l b) 98 g = some ([], rd s i l b) := by
  have hs := X.sh i l b
  rw [e_X12_readSum_5, r_sign (by decide), cI_ok, oK_ok hs.k98, r_tk0 X hb, cI_ok, if_pos rfl, r_sign (by decide), cI_ok, oK_ok hs.k98, r_tk0 X hb, cI_ok, if_pos rfl]
theorem b_sum (X : RdX s c v st nt fw lw) (hb : b ≠ -1) {i l g : Int} : X12_readSum (d + 3) (rd s i l b) 98 g = some ([], rd s i l b) := by
  rw [e_X12_readSum, oK_ok (X.sh i l b).k98, b_term X hb, cV_ok, b_sum5 X hb]
theorem b_plain (X : RdX s c v st nt fw lw) (hb : b ≠ -1) {i l g : Int} : X12_readPlain (d + 2) (rd s i l b) 98 g = some ([], rd s i l b) := by
  have hs := X.sh i l b
  rw [e_X12_readPlain, e_X12_readPlain_2, if_neg (show ¬ ((1 : Int) = 0) by decide), oK_ok hs.k98, r_tk0 X hb, cI_ok, e_X12_readPlain_2, if_pos rfl, oK_ok hs.k98, r_fine0 X hb, cI_ok, if_pos rfl]
theorem b_both5 (X : RdX s c v st nt fw lw) (hb : b ≠ -1) {i l g : Int} : X12_readBoth_5 (d + 2) (rd s i l b) 98 g = some ([], rd s i l b) := by
  rw [e_X12_readBoth_5, oK_ok (X.sh i l b).k98, r_tk0 X hb, cI_ok, if_pos rfl]
theorem b_test5 (X : RdX s c v st nt fw lw) (hb : b ≠ -1) {i l g : Int} : X12_readTest_5 (d + 2) (rd s i l b) 98 g = some ([], rd s i l b) := by
  rw [e_X12_readTest_5, oK_ok (X.sh i l b).k98, r_tk0 X hb, cI_ok, if_pos rfl]
/-! parts -/
theorem r_part (X : RdX s c v st nt fw lw) {br : PP} {g : Int} (hbr : ∀ i l : Nat, i ≤ nt → l ≤ 50 → c i = 191 → RSp s st nt (fun t => X12_readPart (d + 3) t 98 g) i l (bnd (br i l) fun a => if c a.1 = 193 then .ok (a.1 + 1, a.2) else .error a.1)) (hi : i ≤ nt) (hl : l ≤ 50) : RSp s st nt (fun t => X12_readPart (d + 3) t 98 g) i l (pPart c v fw lw br i l) := by
  unfold pPart
  by_cases e : c i = 191
  · rw [if_pos e]
    exact hbr i l hi hl e
  rw [if_neg e]
  have hs := X.sh i l (-1)
  obtain ⟨hfw, hlw⟩ := X.2.2.2.2.2.2.2.2
  have h8 := X.2.2.2.2.2.2.1
  have h9 := X.2.2.2.2.2.2.2.1
  -- the beginning
  have beg : X12_readPart (d + 3) (rd s i l (-1)) 98 g = if c i = 50 then (if 1000 < v i then X12_readPart_95 (d + 3) (rd s i l (-1)) 98 (c i) else X12_readPart_111 (d + 3) (rd s i l (-1)) 98 (c i)) else X12_readPart_95 (d + 3) (rd s i l (-1)) 98 (c i) := by
    rw [e_X12_readPart, oK_ok hs.k98, r_fine1 X, cI_ok, if_neg (show ¬ ((1 : Int) = 0) by decide), X.cd hi, r_sign (by decide), cI_ok, if_neg (show ¬ (c i = 100 + 91) from e)]
    by_cases e5 : c i = 50
    · rw [if_pos e5, if_pos e5, X.vl hi]
    · rw [if_neg e5, if_neg e5]
  have h95 : X12_readPart_95 (d + 3) (rd s i l (-1)) 98 (c i) = if fw ≤ c i ∧ c i ≤ lw then X12_readPart_111 (d + 3) (rd s i l (-1)) 98 (c i) else some ([], rd s i l (st i)) := by
    rw [e_X12_readPart_95, rF_ok hs.k98, rd_o _ _ _ _ (by decide), h8]
    by_cases e1 : c i < fw
    · rw [if_pos e1, if_neg (by omega), oK_ok hs.k98, r_fault1 X hi, cV_ok]
    · rw [if_neg e1, rF_ok hs.k98, rd_o _ _ _ _ (by decide), h9]
      by_cases e2 : lw < c i
      · rw [if_pos e2, if_neg (by omega), oK_ok hs.k98, r_fault1 X hi, cV_ok]
      · rw [if_neg e2, if_pos (by omega)]
  by_cases eo : (c i = 50 ∧ v i ≤ 1000) ∨ (fw ≤ c i ∧ c i ≤ lw)
  · rw [if_pos eo]
    have hne : c i ≠ 0 ∨ (fw ≤ c i ∧ c i ≤ lw) := by
      rcases eo with h | h
      · exact Or.inl (by omega)
      · exact Or.inr h
    have at111 : X12_readPart (d + 3) (rd s i l (-1)) 98 g = X12_readPart_111 (d + 3) (rd s i l (-1)) 98 (c i) := by
      rw [beg]
      by_cases e5 : c i = 50
      · rw [if_pos e5, if_neg (by omega)]
      · rw [if_neg e5, h95, if_pos (by omega)]
    have hlt : i < nt := X.lt hi (by omega)
    have body : X12_readPart_111 (d + 3) (rd s i l (-1)) 98 (c i) = if l = 50 then some ([], rd s i 51 (st i)) else if 17 ≤ c i ∧ c i ≤ 19 then (if c (i + 1) = 50 ∧ 0 ≤ v (i + 1) ∧ v (i + 1) ≤ 7 then some ([], rd s ((i + 1 + 1 : Nat) : Int) ((l + 1 : Nat) : Int) (-1)) else some ([], rd s ((i + 1 : Nat) : Int) ((l + 1 : Nat) : Int) (st (i + 1)))) else some ([], rd s ((i + 1 : Nat) : Int) ((l + 1 : Nat) : Int) (-1)) := by
      rw [e_X12_readPart_111, oK_ok hs.k98, r_leaf X hlt hl]
      by_cases e50 : l = 50
      · rw [if_pos e50, if_pos e50, cV_ok]
        by_cases e1 : c i < 17
        · rw [if_pos e1]
        · rw [if_neg e1]
          by_cases e2 : 19 < c i
          · rw [if_pos e2]
          · rw [if_neg e2, oK_ok (X.sh _ _ _).k98, r_num0 X (X.stn i), cV_ok]
      · rw [if_neg e50, if_neg e50, cV_ok]
        by_cases e1 : c i < 17
        · rw [if_pos e1, if_neg (by omega)]
        · rw [if_neg e1]
          by_cases e2 : 19 < c i
          · rw [if_pos e2, if_neg (by omega)]
          · rw [if_neg e2, if_pos (by omega), oK_ok (X.sh _ _ _).k98, r_num X (by omega)]
            split <;> rfl
    have hv := X.2.2.2.2.1 (i + 1)
    by_cases e50 : l = 50
    · rw [if_pos e50]
      refine ⟨i, 51, ?_⟩
      show X12_readPart (d + 3) (rd s i l (-1)) 98 g = _
      rw [at111, body, if_pos e50]
    rw [if_neg e50]
    by_cases e5 : c i = 50
    · rw [if_pos e5]
      refine ⟨?_, by dsimp only; omega, by dsimp only; omega, by dsimp only; omega⟩
      show X12_readPart (d + 3) (rd s i l (-1)) 98 g = _
      rw [at111, body, if_neg e50, if_neg (by omega)]
    rw [if_neg e5]
    by_cases e7 : 17 ≤ c i ∧ c i ≤ 19
    · rw [if_pos e7]
      by_cases e8 : c (i + 1) = 50 ∧ v (i + 1) ≤ 7
      · have : i + 1 < nt := X.lt (by omega) (by omega)
        rw [if_pos e8]
        refine ⟨?_, by dsimp only; omega, by dsimp only; omega, by dsimp only; omega⟩
        show X12_readPart (d + 3) (rd s i l (-1)) 98 g = _
        rw [at111, body, if_neg e50, if_pos e7, if_pos ⟨e8.1, hv, e8.2⟩]
      · rw [if_neg e8]
        refine ⟨((i + 1 : Nat) : Int), ((l + 1 : Nat) : Int), ?_⟩
        show X12_readPart (d + 3) (rd s i l (-1)) 98 g = _
        rw [at111, body, if_neg e50, if_pos e7, if_neg (fun h => e8 ⟨h.1, h.2.2⟩)]
    · rw [if_neg e7]
      refine ⟨?_, by dsimp only; omega, by dsimp only; omega, by dsimp only; omega⟩
      show X12_readPart (d + 3) (rd s i l (-1)) 98 g = _
      rw [at111, body, if_neg e50, if_neg e7]
  · rw [if_neg eo]
    refine ⟨i, l, ?_⟩
    show X12_readPart (d + 3) (rd s i l (-1)) 98 g = _
    rw [beg]
    by_cases e5 : c i = 50
    · rw [if_pos e5, if_pos (by omega), h95, if_neg (by omega)]
    · rw [if_neg e5, h95, if_neg (by omega)]
/-- one reader after the other -/
theorem RSp.seq {β γ : Type} {F G H : St → Res} {r : Except Nat (Nat × Nat × β)} {k : Nat × Nat × β → Except Nat (Nat × Nat × γ)} (X : RdX s c v st nt fw lw) (hF : RSp s st nt F i l r) (hH : H (rd s i l (-1)) = cV (F (rd s i l (-1))) G) (hB : ∀ (i l b : Int), b ≠ -1 → G (rd s i l b) = some ([], rd s i l b)) (hk : ∀ a, r = .ok a → a.1 ≤ nt → a.2.1 ≤ 50 → RSp s st nt G a.1 a.2.1 (k a)) : RSp s st nt H i l (bnd r k) := by
  match r, hF, hk with
  | .error e, hF, _ =>
    obtain ⟨i', l', h⟩ := hF
    exact ⟨i', l', by rw [hH, h, cV_ok]; exact hB _ _ _ (X.stn _)⟩
  | .ok a, hF, hk =>
    obtain ⟨h1, h2, h3, h4⟩ := hF
    have g := hk a rfl h3 h4
    show RSp s st nt H i l (k a)
    cases hr : k a with
    | error e =>
      rw [hr] at g
      obtain ⟨i', l', g⟩ := g
      exact ⟨i', l', by rw [hH, h1, cV_ok]; exact g⟩
    | ok z =>
      rw [hr] at g
      obtain ⟨g1, g2, g3, g4⟩ := g
      exact ⟨by rw [hH, h1, cV_ok]; exact g1, by omega, g3, g4⟩
theorem opM_z {x : Int} : opM x = 0 ↔ x ≠ 142 ∧ x ≠ 147 ∧ x ≠ 137 := by
  unfold opM
  constructor
  · intro h
    refine ⟨fun e => ?_, fun e => ?_, fun e => ?_⟩ <;> subst e <;> revert h <;> decide
  · rintro ⟨h1, h2, h3⟩
    rw [if_neg h1, if_neg h2, if_neg h3]
theorem opA_z {x : Int} : opA x = 0 ↔ x ≠ 143 ∧ x ≠ 145 := by
  unfold opA
  constructor
  · intro h
    refine ⟨fun e => ?_, fun e => ?_⟩ <;> subst e <;> revert h <;> decide
  · rintro ⟨h1, h2⟩
    rw [if_neg h1, if_neg h2]
theorem r_term (X : RdX s c v st nt fw lw) {br : PP} {g : Int} (hp : ∀ i l : Nat, i ≤ nt → l ≤ 50 → RSp s st nt (fun t => X12_readPart (d + 3) t 98 g) i l (pPart c v fw lw br i l)) (hi : i ≤ nt) (hl : l ≤ 50) : RSp s st nt (fun t => X12_readTerm (d + 4) t 98 g) i l (pTerm c v fw lw br i l) := by
  unfold pTerm
  refine RSp.seq (F := fun t => X12_readPart (d + 3) t 98 g) (G := fun t => X12_readTerm_5 (d + 4) t 98 g) X (hp i l hi hl) ?_ (fun i l b hb => b_term5 X hb) fun a _ h1 h2 => ?_
  · show X12_readTerm (d + 4) (rd s i l (-1)) 98 g = _
    rw [e_X12_readTerm, oK_ok (X.sh _ _ _).k98]
  refine r_chn X (F := fun t => X12_readPart (d + 3) t 98 g) (G := fun t => X12_readTerm_5 (d + 4) t 98 g) rfl ?_ (fun i l b hb => b_term5 X hb) ?_ hp 401 a (by have := X.2.1; omega) h1 h2
  · intro i l hi e
    have hs := X.sh i l (-1)
    obtain ⟨e1, e2, e3⟩ := opM_z.mp e
    show X12_readTerm_5 (d + 4) (rd s i l (-1)) 98 g = _
    rw [e_X12_readTerm_5, r_sign (by decide), cI_ok, oK_ok hs.k98, r_tk X hi, if_neg (show ¬ (c i = 100 + 42) from e1), cI_ok, if_pos rfl, r_sign (by decide), cI_ok, oK_ok hs.k98, r_tk X hi, if_neg (show ¬ (c i = 100 + 47) from e2), cI_ok, if_pos rfl, r_sign (by decide), cI_ok, oK_ok hs.k98, r_tk X hi, if_neg (show ¬ (c i = 100 + 37) from e3), cI_ok, if_pos rfl]
  · intro i l hi e
    have hs := X.sh i l (-1)
    have hs1 := X.sh ((i + 1 : Nat) : Int) l (-1)
    show X12_readTerm_5 (d + 4) (rd s i l (-1)) 98 g = cV (X12_readPart (d + 3) (rd s ((i + 1 : Nat) : Int) l (-1)) 98 g) fun t => X12_readTerm_5 (d + 4) t 98 g
    rw [e_X12_readTerm_5, r_sign (by decide), cI_ok, oK_ok hs.k98, r_tk X (by omega)]
    by_cases e1 : c i = 142
    · rw [if_pos (show c i = 100 + 42 from e1), cI_ok, if_neg (show ¬ ((1 : Int) = 0) by decide), oK_ok hs1.k98]
    rw [if_neg (show ¬ (c i = 100 + 42) from e1), cI_ok, if_pos rfl, r_sign (by decide), cI_ok, oK_ok hs.k98, r_tk X (by omega)]
    by_cases e2 : c i = 147
    · rw [if_pos (show c i = 100 + 47 from e2), cI_ok, if_neg (show ¬ ((1 : Int) = 0) by decide), oK_ok hs1.k98]
    rw [if_neg (show ¬ (c i = 100 + 47) from e2), cI_ok, if_pos rfl, r_sign (by decide), cI_ok, oK_ok hs.k98, r_tk X (by omega)]
    have e3 : c i = 137 := Classical.byContradiction fun h => e (opM_z.mpr ⟨e1, e2, h⟩)
    rw [if_pos (show c i = 100 + 37 from e3), cI_ok, if_neg (show ¬ ((1 : Int) = 0) by decide), oK_ok hs1.k98]
theorem r_sumG (X : RdX s c v st nt fw lw) {br : PP} {g : Int} (hp : ∀ i l : Nat, i ≤ nt → l ≤ 50 → RSp s st nt (fun t => X12_readPart (d + 3) t 98 g) i l (pPart c v fw lw br i l)) (hi : i ≤ nt) (hl : l ≤ 50) : RSp s st nt (fun t => X12_readSum (d + 5) t 98 g) i l (pSumG c v fw lw br i l) := by
  unfold pSumG
  have ht : ∀ i l : Nat, i ≤ nt → l ≤ 50 → RSp s st nt (fun t => X12_readTerm (d + 4) t 98 g) i l (pTerm c v fw lw br i l) := fun i l hi hl => r_term X hp hi hl
  refine RSp.seq (F := fun t => X12_readTerm (d + 4) t 98 g) (G := fun t => X12_readSum_5 (d + 5) t 98 g) X (ht i l hi hl) ?_ (fun i l b hb => b_sum5 X hb) fun a _ h1 h2 => ?_
  · show X12_readSum (d + 5) (rd s i l (-1)) 98 g = _
    rw [e_X12_readSum, oK_ok (X.sh _ _ _).k98]
  refine r_chn X (F := fun t => X12_readTerm (d + 4) t 98 g) (G := fun t => X12_readSum_5 (d + 5) t 98 g) rfl ?_ (fun i l b hb => b_sum5 X hb) ?_ ht 401 a (by have := X.2.1; omega) h1 h2
  · intro i l hi e
    have hs := X.sh i l (-1)
    obtain ⟨e1, e2⟩ := opA_z.mp e
    show X12_readSum_5 (d + 5) (rd s i l (-1)) 98 g = _
    rw [e_X12_readSum_5, r_sign (by decide), cI_ok, oK_ok hs.k98, r_tk X hi, if_neg (show ¬ (c i = 100 + 43) from e1), cI_ok, if_pos rfl, r_sign (by decide), cI_ok, oK_ok hs.k98, r_tk X hi, if_neg (show ¬ (c i = 100 + 45) from e2), cI_ok, if_pos rfl]
  · intro i l hi e
    have hs := X.sh i l (-1)
    have hs1 := X.sh ((i + 1 : Nat) : Int) l (-1)
    show X12_readSum_5 (d + 5) (rd s i l (-1)) 98 g = cV (X12_readTerm (d + 4) (rd s ((i + 1 : Nat) : Int) l (-1)) 98 g) fun t => X12_readSum_5 (d + 5) t 98 g
    rw [e_X12_readSum_5, r_sign (by decide), cI_ok, oK_ok hs.k98, r_tk X (by omega)]
    by_cases e1 : c i = 143
    · rw [if_pos (show c i = 100 + 43 from e1), cI_ok, if_neg (show ¬ ((1 : Int) = 0) by decide), oK_ok hs1.k98]
    rw [if_neg (show ¬ (c i = 100 + 43) from e1), cI_ok, if_pos rfl, r_sign (by decide), cI_ok, oK_ok hs.k98, r_tk X (by omega)]
    have e3 : c i = 145 := Classical.byContradiction fun h => e (opA_z.mpr ⟨e1, h⟩)
    rw [if_pos (show c i = 100 + 45 from e3), cI_ok, if_neg (show ¬ ((1 : Int) = 0) by decide), oK_ok hs1.k98]
theorem r_must1 {β : Type} {w : Int} {a : Nat × Nat × β} (X : RdX s c v st nt fw lw) (hw : w ≠ 0) (h1 : a.1 ≤ nt) (h2 : a.2.1 ≤ 50) : RSp s st nt (fun t => X12_must (d + 2) t 98 w) a.1 a.2.1 (if c a.1 = w then .ok (a.1 + 1, a.2) else .error a.1) := by
  have e := r_must (d := d) (l := (a.2.1 : Int)) (w := w) X h1
  by_cases ew : c a.1 = w
  · rw [if_pos ew] at e ⊢
    exact ⟨e, by dsimp only; omega, X.lt h1 (by rw [ew]; exact hw), h2⟩
  · rw [if_neg ew] at e ⊢
    exact ⟨_, _, e⟩
noncomputable def mstG (d : Nat) (x : Int) (t : St) : Res := cI (X12_sign d t x) fun x3 s4 => oK s4 98 16 (cV (X12_must d s4 98 x3) fun s5 => some ([], s5))
theorem r_mstG0 (X : RdX s c v st nt fw lw) {x : Int} (hx : 0 ≤ x ∧ x < 1000) (hb : b ≠ -1) {i l : Int} : mstG (d + 2) x (rd s i l b) = some ([], rd s i l b) := by
  unfold mstG
  rw [r_sign hx, cI_ok, oK_ok (X.sh _ _ _).k98, r_must0 X hb, cV_ok]
theorem r_mstG {β : Type} {x w : Int} {a : Nat × Nat × β} (X : RdX s c v st nt fw lw) (hx : 0 ≤ x ∧ x < 1000) (hw : w = 100 + x) (h1 : a.1 ≤ nt) (h2 : a.2.1 ≤ 50) : RSp s st nt (mstG (d + 2) x) a.1 a.2.1 (if c a.1 = w then .ok (a.1 + 1, a.2) else .error a.1) := by
  have e : mstG (d + 2) x (rd s a.1 a.2.1 (-1)) = cV (if c a.1 = w then some ([], rd s ((a.1 + 1 : Nat) : Int) a.2.1 (-1)) else some ([], rd s a.1 a.2.1 (st a.1))) (fun s5 => some ([], s5)) := by
    unfold mstG
    rw [r_sign hx, cI_ok, oK_ok (X.sh _ _ _).k98, ← hw, r_must (d := d) (l := (a.2.1 : Int)) (w := w) X h1]
  by_cases ew : c a.1 = w
  · rw [if_pos ew, cV_ok] at e
    rw [if_pos ew]
    exact ⟨e, by dsimp only; omega, X.lt h1 (by omega), h2⟩
  · rw [if_neg ew, cV_ok] at e
    rw [if_neg ew]
    exact ⟨_, _, e⟩
theorem r_sum (X : RdX s c v st nt fw lw) : ∀ (k : Nat), k ≤ 8 → ∀ (d i l : Nat), i ≤ nt → l ≤ 50 → RSp s st nt (fun t => X12_readSum (d + 3 * k + 6) t 98 (8 - k : Int)) i l (pSum c v fw lw k i l)
  | 0, _, d, i, l, hi, hl => by
    unfold pSum
    refine r_sumG (d := d + 1) X (fun i l hi hl => r_part (d := d + 1) X (fun i l hi hl e => ?_) hi hl) hi hl
    have hs := X.sh i l (-1)
    refine ⟨i, l, ?_⟩
    show X12_readPart (d + 4) (rd s i l (-1)) 98 (8 - ((0 : Nat) : Int)) = _
    rw [e_X12_readPart, oK_ok hs.k98, r_fine1 X, cI_ok, if_neg (show ¬ ((1 : Int) = 0) by decide), X.cd hi, r_sign (by decide), cI_ok, if_pos (show c i = 100 + 91 from e), if_pos (by decide), oK_ok hs.k98, r_fault1 X hi, cV_ok, e_X12_readPart_37, oK_ok (X.sh _ _ _).k98, r_fine0 X (X.stn i), cI_ok, if_pos rfl]
  | k + 1, hk, d, i, l, hi, hl => by
    unfold pSum
    rw [show d + 3 * (k + 1) + 6 = (d + 3 * k + 4) + 5 by omega]
    refine r_sumG (d := d + 3 * k + 4) X (fun i l hi hl => r_part (d := d + 3 * k + 4) X (fun i l hi hl e => ?_) hi hl) hi hl
    have hs := X.sh i l (-1)
    have hlt : i < nt := X.lt hi (by omega)
    have hn := X.2.1
    have ih := r_sum X k (by omega) d (i + 1) l (by omega) hl
    have sq := RSp.seq (H := fun t => cV (X12_readSum (d + 3 * k + 6) t 98 (8 - k : Int)) (mstG (d + 3 * k + 6) 93)) (G := mstG (d + 3 * k + 6) 93) (k := fun a => if c a.1 = 193 then .ok (a.1 + 1, a.2) else .error a.1) X ih rfl (fun i l b hb => r_mstG0 (d := d + 3 * k + 4) X (by decide) hb) fun a _ h1 h2 => r_mstG (d := d + 3 * k + 4) X (by decide) rfl h1 h2
    have beg : X12_readPart (d + 3 * k + 4 + 3) (rd s i l (-1)) 98 (8 - ((k + 1 : Nat) : Int)) = cV (X12_readSum (d + 3 * k + 6) (rd s ((i + 1 : Nat) : Int) l (-1)) 98 (8 - k : Int)) (mstG (d + 3 * k + 6) 93) := by
      have hs1 := X.sh ((i + 1 : Nat) : Int) l (-1)
      rw [e_X12_readPart, oK_ok hs.k98, r_fine1 X, cI_ok, if_neg (show ¬ ((1 : Int) = 0) by decide), X.cd hi, r_sign (by decide), cI_ok, if_pos (show c i = 100 + 91 from e), if_neg (by omega), e_X12_readPart_37, oK_ok hs.k98, r_fine1 X, cI_ok, if_neg (show ¬ ((1 : Int) = 0) by decide), rF_ok hs.k98, rd_19, wF_ok hs.k98, rd_s19, wi_sc (by omega), oK_ok hs1.k98, wi_sm (by omega) (by omega), show (8 : Int) - ((k + 1 : Nat) : Int) + 1 = 8 - (k : Int) by omega]
      rfl
    cases hr : (bnd (pSum c v fw lw k (i + 1) l) fun a => if c a.1 = 193 then .ok (a.1 + 1, a.2) else .error a.1 : Except Nat PV) with
    | error e' =>
      rw [hr] at sq
      obtain ⟨i', l', q⟩ := sq
      exact ⟨i', l', beg.trans q⟩
    | ok z =>
      rw [hr] at sq
      obtain ⟨q1, q2, q3, q4⟩ := sq
      exact ⟨beg.trans q1, by omega, q3, q4⟩
end MRE
