/-! ===== the reference reads tokens ===== -/
def rd (s : St) (i l b : Int) : St := sF (sF (sF s 98 19 i) 98 20 l) 98 21 b
/-- what is there while tokens are read -/
def RdX (s : St) (c v st : Nat → Int) (nt : Nat) (fw lw : Int) : Prop := ShM s ∧ nt ≤ 400 ∧ (∀ i, i ≤ nt → (gA s 107).getD i 0 = c i ∧ (gA s 108).getD i 0 = v i ∧ (gA s 109).getD i 0 = st i) ∧ c nt = 0 ∧ (∀ i, 0 ≤ v i) ∧ (∀ i, 0 ≤ st i) ∧ gF s 98 8 = fw ∧ gF s 98 9 = lw ∧ (0 < fw ∧ lw < 50)
theorem rd_19 (s : St) (i l b : Int) : gF (rd s i l b) 98 19 = i := Eq.trans rfl rfl
theorem rd_20 (s : St) (i l b : Int) : gF (rd s i l b) 98 20 = l := Eq.trans rfl rfl
theorem rd_21 (s : St) (i l b : Int) : gF (rd s i l b) 98 21 = b := Eq.trans rfl rfl
theorem rd_o {k : Nat} (s : St) (i l b : Int) (h : k ≠ 19 ∧ k ≠ 20 ∧ k ≠ 21) : gF (rd s i l b) 98 k = gF s 98 k := by
  unfold rd
  rw [gF_nk h.2.2, gF_nk h.2.1, gF_nk h.1]
theorem rd_A (s : St) (i l b p : Int) : gA (rd s i l b) p = gA s p := Eq.trans rfl rfl
theorem rd_s19 (s : St) (i l b x : Int) : sF (rd s i l b) 98 19 x = rd s x l b := by
  unfold rd
  rw [sF_cm (by decide), sF_cm (j := 20) (by decide), sF_ov]
theorem rd_s20 (s : St) (i l b x : Int) : sF (rd s i l b) 98 20 x = rd s i x b := by
  unfold rd
  rw [sF_cm (by decide), sF_ov]
theorem rd_s21 (s : St) (i l b x : Int) : sF (rd s i l b) 98 21 x = rd s i l x := by
  unfold rd
  rw [sF_ov]
section MRD
variable {s : St} {c v st : Nat → Int} {nt : Nat} {fw lw : Int} {d i l : Nat} {b : Int}
theorem RdX.sh (X : RdX s c v st nt fw lw) (i l b : Int) : ShM (rd s i l b) := ((X.1.sF (by decide)).sF (by decide)).sF (by decide)
theorem RdX.lt (X : RdX s c v st nt fw lw) (hi : i ≤ nt) (h : c i ≠ 0) : i < nt := by
  have := X.2.2.2.1
  by_cases e : i = nt
  · rw [e] at h; exact absurd this h
  · omega
theorem RdX.cd (X : RdX s c v st nt fw lw) (hi : i ≤ nt) {K : Int → Res} {l b : Int} : (rF (rd s i l b) 98 16 15 fun x2 => rF (rd s i l b) 98 16 19 fun x3 => rA (rd s i l b) x2 20 x3 K) = K (c i) := by
  have hs := X.sh i l b
  have hn := X.2.1
  have l107 : (gA (rd s i l b) 107).length = 401 := hs.ln 107
  rw [rF_ok hs.k98, rF_ok hs.k98, rd_19, show gF (rd s i l b) 98 15 = 107 from hs.fs.2.2.2.2.2.2.2.2.1, rA_ok (show kd (rd s i l b) 107 = 20 from hs.kd 107) (by omega) (by omega), Int.toNat_natCast, rd_A, (X.2.2.1 i hi).1]
theorem RdX.vl (X : RdX s c v st nt fw lw) (hi : i ≤ nt) {K : Int → Res} {l b : Int} : (rF (rd s i l b) 98 16 16 fun x2 => rF (rd s i l b) 98 16 19 fun x3 => rA (rd s i l b) x2 20 x3 K) = K (v i) := by
  have hs := X.sh i l b
  have hn := X.2.1
  have l108 : (gA (rd s i l b) 108).length = 401 := hs.ln 108
  rw [rF_ok hs.k98, rF_ok hs.k98, rd_19, show gF (rd s i l b) 98 16 = 108 from hs.fs.2.2.2.2.2.2.2.2.2.1, rA_ok (show kd (rd s i l b) 108 = 20 from hs.kd 108) (by omega) (by omega), Int.toNat_natCast, rd_A, (X.2.2.1 i hi).2.1]
theorem r_fine1 (X : RdX s c v st nt fw lw) {i l : Int} : X12_fine d (rd s i l (-1)) 98 = some ([(0, 1)], rd s i l (-1)) := by
  rw [e_X12_fine, rF_ok (X.sh i l (-1)).k98, rd_21, if_pos rfl]
theorem r_fine0 (X : RdX s c v st nt fw lw) {i l : Int} (hb : b ≠ -1) : X12_fine d (rd s i l b) 98 = some ([(0, 0)], rd s i l b) := by
  rw [e_X12_fine, rF_ok (X.sh i l b).k98, rd_21, if_neg hb]
theorem RdX.stn (X : RdX s c v st nt fw lw) (i : Nat) : st i ≠ -1 := by
  have := X.2.2.2.2.2.1 i
  omega
theorem r_fault1 (X : RdX s c v st nt fw lw) (hi : i ≤ nt) {l : Int} : X12_faults (d + 1) (rd s i l (-1)) 98 = some ([], rd s i l (st i)) := by
  have hs := X.sh i l (-1)
  have hn := X.2.1
  have l109 : (gA (rd s i l (-1)) 109).length = 401 := hs.ln 109
  rw [e_X12_faults, oK_ok hs.k98, r_fine1 X, cI_ok, if_neg (show ¬ ((1 : Int) = 0) by decide), rF_ok hs.k98, rF_ok hs.k98, rd_19, show gF (rd s i l (-1)) 98 17 = 109 from hs.fs.2.2.2.2.2.2.2.2.2.2.1, rA_ok (show kd (rd s i l (-1)) 109 = 20 from hs.kd 109) (by omega) (by omega), Int.toNat_natCast, rd_A, (X.2.2.1 i hi).2.2, wF_ok hs.k98, rd_s21]
theorem r_fault0 (X : RdX s c v st nt fw lw) {i l : Int} (hb : b ≠ -1) : X12_faults (d + 1) (rd s i l b) 98 = some ([], rd s i l b) := by
  rw [e_X12_faults, oK_ok (X.sh i l b).k98, r_fine0 X hb, cI_ok, if_pos rfl]
theorem r_tk (X : RdX s c v st nt fw lw) (hi : i ≤ nt) {l w : Int} : X12_takes0 (d + 1) (rd s i l (-1)) 98 w = if c i = w then some ([(0, 1)], rd s ((i + 1 : Nat) : Int) l (-1)) else some ([(0, 0)], rd s i l (-1)) := by
  have hs := X.sh i l (-1)
  have hn := X.2.1
  rw [e_X12_takes0, oK_ok hs.k98, r_fine1 X, cI_ok, if_neg (show ¬ ((1 : Int) = 0) by decide), X.cd hi]
  by_cases e : c i = w
  · rw [if_pos e, if_pos e, if_neg (by decide), rF_ok hs.k98, rd_19, wF_ok hs.k98, rd_s19, wi_sc (by omega)]
  · rw [if_neg e, if_neg e, e_X12_takes0_24, if_pos rfl]
theorem r_tk0 (X : RdX s c v st nt fw lw) (hb : b ≠ -1) {i l w : Int} : X12_takes0 (d + 1) (rd s i l b) 98 w = some ([(0, 0)], rd s i l b) := by
  rw [e_X12_takes0, oK_ok (X.sh i l b).k98, r_fine0 X hb, cI_ok, if_pos rfl, e_X12_takes0_24, if_pos rfl]
theorem r_must (X : RdX s c v st nt fw lw) (hi : i ≤ nt) {l w : Int} : X12_must (d + 2) (rd s i l (-1)) 98 w = if c i = w then some ([], rd s ((i + 1 : Nat) : Int) l (-1)) else some ([], rd s i l (st i)) := by
  have hs := X.sh i l (-1)
  rw [e_X12_must, oK_ok hs.k98, r_tk X hi]
  by_cases e : c i = w
  · rw [if_pos e, if_pos e, cI_ok, if_neg (show ¬ ((1 : Int) = 0) by decide)]
  · rw [if_neg e, if_neg e, cI_ok, if_pos rfl, oK_ok hs.k98, r_fault1 X hi, cV_ok]
theorem r_must0 (X : RdX s c v st nt fw lw) (hb : b ≠ -1) {i l w : Int} : X12_must (d + 2) (rd s i l b) 98 w = some ([], rd s i l b) := by
  have hs := X.sh i l b
  rw [e_X12_must, oK_ok hs.k98, r_tk0 X hb, cI_ok, if_pos rfl, oK_ok hs.k98, r_fault0 X hb, cV_ok]
theorem r_leaf (X : RdX s c v st nt fw lw) (hi : i < nt) (hl : l ≤ 50) : X12_leaf (d + 2) (rd s i l (-1)) 98 = if l = 50 then some ([], rd s i 51 (st i)) else some ([], rd s ((i + 1 : Nat) : Int) ((l + 1 : Nat) : Int) (-1)) := by
  have hs := X.sh i l (-1)
  have hn := X.2.1
  rw [e_X12_leaf, rF_ok hs.k98, rd_20]
  by_cases e : l = 50
  · have hs2 := X.sh i l (st i)
    rw [if_pos (by omega), if_pos e, oK_ok hs.k98, r_fault1 X (by omega), cV_ok, e_X12_leaf_13, rF_ok hs2.k98, rd_20, wF_ok hs2.k98, rd_s20, e, oK_ok (X.sh _ _ _).k98, r_fine0 X (X.stn i), cI_ok, if_pos rfl]
    rfl
  · rw [if_neg (by omega), if_neg e, e_X12_leaf_13, rF_ok hs.k98, rd_20, wF_ok hs.k98, rd_s20, oK_ok (X.sh _ _ _).k98, r_fine1 X, cI_ok, if_neg (show ¬ ((1 : Int) = 0) by decide), rF_ok (X.sh _ _ _).k98, rd_19, wF_ok (X.sh _ _ _).k98, rd_s19, wi_sc (by omega), wi_sc (by omega)]
theorem r_num (X : RdX s c v st nt fw lw) (hi : i ≤ nt) {l lo up : Int} : X12_mustNumber (d + 2) (rd s i l (-1)) 98 lo up = if c i = 50 ∧ lo ≤ v i ∧ v i ≤ up then some ([], rd s ((i + 1 : Nat) : Int) l (-1)) else some ([], rd s i l (st i)) := by
  have hs := X.sh i l (-1)
  have hn := X.2.1
  have bad : X12_mustNumber_42 (d + 2) (rd s i l (st i)) 98 = some ([], rd s i l (st i)) := by
    rw [e_X12_mustNumber_42, oK_ok (X.sh _ _ _).k98, r_fine0 X (X.stn i), cI_ok, if_pos rfl]
  rw [e_X12_mustNumber, oK_ok hs.k98, r_fine1 X, cI_ok, if_neg (show ¬ ((1 : Int) = 0) by decide), X.cd hi]
  by_cases e : c i = 50
  · rw [if_pos e, X.vl hi, lies_if, cI_ok]
    by_cases e2 : lo ≤ v i ∧ v i ≤ up
    · rw [if_pos e2, if_neg (show ¬ ((1 : Int) = 0) by decide), if_pos ⟨e, e2⟩, e_X12_mustNumber_42, oK_ok hs.k98, r_fine1 X, cI_ok, if_neg (show ¬ ((1 : Int) = 0) by decide), rF_ok hs.k98, rd_19, wF_ok hs.k98, rd_s19, wi_sc (by omega)]
    · rw [if_neg e2, if_pos rfl, if_neg (fun h => e2 h.2), oK_ok hs.k98, r_fault1 X hi, cV_ok, bad]
  · rw [if_neg e, if_neg (fun h => e h.1), oK_ok hs.k98, r_fault1 X hi, cV_ok, bad]
theorem r_num0 (X : RdX s c v st nt fw lw) (hb : b ≠ -1) {i l lo hi : Int} : X12_mustNumber (d + 2) (rd s i l b) 98 lo hi = some ([], rd s i l b) := by
  have hs := X.sh i l b
  rw [e_X12_mustNumber, oK_ok hs.k98, r_fine0 X hb, cI_ok, if_pos rfl, e_X12_mustNumber_42, oK_ok hs.k98, r_fine0 X hb, cI_ok, if_pos rfl]
theorem r_sign {x : Int} {t : St} (h : 0 ≤ x ∧ x < 1000) : X12_sign d t x = some ([(0, 100 + x)], t) := by
  rw [e_X12_sign, wi_sm (by omega) (by omega)]
/-- what a reader of a piece does -/
def RSp {β : Type} (s : St) (st : Nat → Int) (nt : Nat) (F : St → Res) (i l : Nat) (r : Except Nat (Nat × Nat × β)) : Prop := match r with
  | .ok a => F (rd s i l (-1)) = some ([], rd s (a.1 : Int) (a.2.1 : Int) (-1)) ∧ i ≤ a.1 ∧ a.1 ≤ nt ∧ a.2.1 ≤ 50
  | .error e => ∃ i' l' : Int, F (rd s i l (-1)) = some ([], rd s i' l' (st e))
/-- the loops over what is joined by signs -/
theorem r_chn (X : RdX s c v st nt fw lw) {G F : St → Res} {opf : Int → Int} {one : PP} (h0 : opf 0 = 0)
    (hE : ∀ i l : Nat, i ≤ nt → opf (c i) = 0 → G (rd s i l (-1)) = some ([], rd s i l (-1)))
    (hB : ∀ (i l b : Int), b ≠ -1 → G (rd s i l b) = some ([], rd s i l b))
    (hS : ∀ i l : Nat, i < nt → opf (c i) ≠ 0 → G (rd s i l (-1)) = cV (F (rd s ((i + 1 : Nat) : Int) l (-1))) G)
    (hone : ∀ i l : Nat, i ≤ nt → l ≤ 50 → RSp s st nt F i l (one i l)) : ∀ (f : Nat) (a : PV), nt ≤ a.1 + f → a.1 ≤ nt → a.2.1 ≤ 50 → RSp s st nt G a.1 a.2.1 (pChn one c opf f a)
  | 0, a, hf, h1, h2 => by
    have : a.1 = nt := by omega
    refine ⟨hE a.1 a.2.1 h1 ?_, Nat.le_refl _, h1, h2⟩
    rw [this, X.2.2.2.1, h0]
  | f + 1, a, hf, h1, h2 => by
    rw [pChn]
    by_cases e : opf (c a.1) = 0
    · rw [if_pos e]
      exact ⟨hE _ _ h1 e, Nat.le_refl _, h1, h2⟩
    · rw [if_neg e]
      have hlt : a.1 < nt := X.lt h1 (fun h => e (by rw [h, h0]))
      have o := hone (a.1 + 1) a.2.1 (by omega) h2
      have S := hS a.1 a.2.1 hlt e
      cases hr : one (a.1 + 1) a.2.1 with
      | error e' =>
        rw [hr] at o
        obtain ⟨i', l', o⟩ := o
        show RSp s st nt G a.1 a.2.1 (.error e')
        refine ⟨i', l', ?_⟩
        rw [S, o, cV_ok]
        exact hB _ _ _ (X.stn _)
      | ok q =>
        rw [hr] at o
        obtain ⟨o1, o2, o3, o4⟩ := o
        have rec0 := r_chn X h0 hE hB hS hone f (q.1, q.2.1, a.2.2.1 ++ q.2.2.1 ++ [(opf (c a.1), 0)], jD (opf (c a.1)) a.2.2.2 q.2.2.2) (by dsimp only; omega) o3 o4
        show RSp s st nt G a.1 a.2.1 (pChn one c opf f (q.1, q.2.1, a.2.2.1 ++ q.2.2.1 ++ [(opf (c a.1), 0)], jD (opf (c a.1)) a.2.2.2 q.2.2.2))
        cases hq : pChn one c opf f (q.1, q.2.1, a.2.2.1 ++ q.2.2.1 ++ [(opf (c a.1), 0)], jD (opf (c a.1)) a.2.2.2 q.2.2.2) with
        | error e' =>
          rw [hq] at rec0
          obtain ⟨i', l', rec0⟩ := rec0
          exact ⟨i', l', by rw [S, o1, cV_ok]; exact rec0⟩
        | ok z =>
          rw [hq] at rec0
          obtain ⟨z1, z2, z3, z4⟩ := rec0
          exact ⟨by rw [S, o1, cV_ok]; exact z1, by dsimp only at z2; omega, z3, z4⟩
theorem r_sk (X : RdX s c v st nt fw lw) {G F : St → Res} {w op : Int} {jd : Dn → Dn → Dn} {one : PP} (h0 : w ≠ 0)
    (hE : ∀ i l : Nat, i ≤ nt → c i ≠ w → G (rd s i l (-1)) = some ([], rd s i l (-1)))
    (hB : ∀ (i l b : Int), b ≠ -1 → G (rd s i l b) = some ([], rd s i l b))
    (hS : ∀ i l : Nat, i < nt → c i = w → G (rd s i l (-1)) = cV (F (rd s ((i + 1 : Nat) : Int) l (-1))) G)
    (hone : ∀ i l : Nat, i ≤ nt → l ≤ 50 → RSp s st nt F i l (one i l)) : ∀ (f : Nat) (a : PV), nt ≤ a.1 + f → a.1 ≤ nt → a.2.1 ≤ 50 → RSp s st nt G a.1 a.2.1 (pSk one c w op jd f a)
  | 0, a, hf, h1, h2 => by
    have : a.1 = nt := by omega
    refine ⟨hE a.1 a.2.1 h1 ?_, Nat.le_refl _, h1, h2⟩
    rw [this, X.2.2.2.1]
    exact fun h => h0 h.symm
  | f + 1, a, hf, h1, h2 => by
    rw [pSk]
    by_cases e : c a.1 = w
    · rw [if_pos e]
      have hlt : a.1 < nt := X.lt h1 (fun h => h0 (by rw [← e, h]))
      have o := hone (a.1 + 1) a.2.1 (by omega) h2
      have S := hS a.1 a.2.1 hlt e
      cases hr : one (a.1 + 1) a.2.1 with
      | error e' =>
        rw [hr] at o
        obtain ⟨i', l', o⟩ := o
        show RSp s st nt G a.1 a.2.1 (.error e')
        refine ⟨i', l', ?_⟩
        rw [S, o, cV_ok]
        exact hB _ _ _ (X.stn _)
      | ok q =>
        rw [hr] at o
        obtain ⟨o1, o2, o3, o4⟩ := o
        have rec0 := r_sk X (op := op) (jd := jd) h0 hE hB hS hone f (q.1, q.2.1, a.2.2.1 ++ [(op, (q.2.2.1.length : Int))] ++ q.2.2.1, jd a.2.2.2 q.2.2.2) (by dsimp only; omega) o3 o4
        show RSp s st nt G a.1 a.2.1 (pSk one c w op jd f (q.1, q.2.1, a.2.2.1 ++ [(op, (q.2.2.1.length : Int))] ++ q.2.2.1, jd a.2.2.2 q.2.2.2))
        cases hq : pSk one c w op jd f (q.1, q.2.1, a.2.2.1 ++ [(op, (q.2.2.1.length : Int))] ++ q.2.2.1, jd a.2.2.2 q.2.2.2) with
        | error e' =>
          rw [hq] at rec0
          obtain ⟨i', l', rec0⟩ := rec0
          exact ⟨i', l', by rw [S, o1, cV_ok]; exact rec0⟩
        | ok z =>
          rw [hq] at rec0
          obtain ⟨z1, z2, z3, z4⟩ := rec0
          exact ⟨by rw [S, o1, cV_ok]; exact z1, by dsimp only at z2; omega, z3, z4⟩
    · rw [if_neg e]
      exact ⟨hE _ _ h1 e, Nat.le_refl _, h1, h2⟩
end MRD
