/-! ===== the class reckons code; the code of a text means what the text means ===== -/
theorem sA_ov {s : St} {p : Int} {l l' : List Int} : sA (sA s p l) p l' = sA s p l' := by
  unfold sA
  simp only [Prod.mk.injEq, true_and, and_true]
  funext q
  by_cases h : q = p
  · rw [if_pos h, if_pos h]
  · rw [if_neg h, if_neg h, if_neg h]
theorem sA_id {s : St} {p : Int} : sA s p (gA s p) = s := by
  unfold sA gA
  have : (fun q => if q = p then s.2.2.1 p else s.2.2.1 q) = s.2.2.1 := by
    funext q
    by_cases h : q = p
    · rw [if_pos h, h]
    · rw [if_neg h]
  rw [this]
/-- a script at v0 with its code rows po and pa, words at w, a stack at st -/
def RkX (s : St) (v0 po pa w st : Int) (ρ : Nat → Int) (wl : Nat) : Prop := kd s v0 = 11 ∧ gF s v0 0 = po ∧ gF s v0 1 = pa ∧ kd s po = 20 ∧ kd s pa = 20 ∧ kd s w = 20 ∧ kd s st = 20 ∧ po ≠ st ∧ pa ≠ st ∧ w ≠ st ∧ (gA s w).length = wl ∧ (gA s st).length = 64 ∧ (∀ k, k < wl → ρ k = (gA s w).getD k 0) ∧ (∀ k, -1000000000 ≤ ρ k ∧ ρ k ≤ 1000000000) ∧ (gA s po).length = (gA s pa).length ∧ (gA s po).length ≤ 1000
def seg (s : St) (po pa : Int) (at0 : Nat) (cd : Cd) : Prop := at0 + cd.length ≤ (gA s po).length ∧ ∀ i, i < cd.length → (gA s po).getD (at0 + i) 0 = (cd.getD i (0, 0)).1 ∧ (gA s pa).getD (at0 + i) 0 = (cd.getD i (0, 0)).2
theorem gd_l {α : Type} {x y : List α} {i : Nat} {a : α} (h : i < x.length) : (x ++ y).getD i a = x.getD i a := by
  rw [List.getD_eq_getElem?_getD, List.getElem?_append_left h, ← List.getD_eq_getElem?_getD]
theorem gd_r {α : Type} {x y : List α} {i : Nat} {a : α} : (x ++ y).getD (x.length + i) a = y.getD i a := by
  rw [List.getD_eq_getElem?_getD, List.getElem?_append_right (by omega), show x.length + i - x.length = i by omega, ← List.getD_eq_getElem?_getD]
theorem seg_l {s : St} {po pa : Int} {a : Nat} {x y : Cd} (h : seg s po pa a (x ++ y)) : seg s po pa a x := by
  obtain ⟨h1, h2⟩ := h
  rw [List.length_append] at h1
  refine ⟨by omega, fun i hi => ?_⟩
  have := h2 i (by rw [List.length_append]; omega)
  rw [gd_l hi] at this
  exact this
theorem seg_r {s : St} {po pa : Int} {a : Nat} {x y : Cd} (h : seg s po pa a (x ++ y)) : seg s po pa (a + x.length) y := by
  obtain ⟨h1, h2⟩ := h
  rw [List.length_append] at h1
  refine ⟨by omega, fun i hi => ?_⟩
  have := h2 (x.length + i) (by rw [List.length_append]; omega)
  rw [gd_r, ← Nat.add_assoc] at this
  exact this
theorem seg_1 {s : St} {po pa : Int} {a : Nat} {o x : Int} (h : seg s po pa a [(o, x)]) : a < (gA s po).length ∧ (gA s po).getD a 0 = o ∧ (gA s pa).getD a 0 = x := by
  have h2 := h.2 0 (by simp)
  have h1 := h.1
  simp at h1 h2
  exact ⟨by omega, h2.1, h2.2⟩
/-- code that leaves its meaning on the stack, with m pushes at most -/
def CdOk (s : St) (v0 po pa w st : Int) (ρ : Nat → Int) (m : Nat) (cd : Cd) (dn : Dn) : Prop := okV dn ρ ∧ 1 ≤ m ∧ 1 ≤ cd.length ∧ ∀ (d to at0 top : Nat) (l : List Int) (T : Res → Prop), seg s po pa at0 cd → at0 + cd.length ≤ to → top + m ≤ 64 → l.length = 64 →
  (∀ (x : Int) (l' : List Int), dn ρ = some x → l'.length = 64 → (∀ i, i < top → l'.getD i 0 = l.getD i 0) → l'.getD top 0 = x → Gl T (X7_reckon_13 (d + 1) (sA s st l') v0 to w st (top + 1 : Nat) (at0 + cd.length : Nat))) →
  (dn ρ = none → ∀ l' : List Int, l'.length = 64 → Gl T (some ([(0, -2147483648)], sA s st l'))) → Gl T (X7_reckon_13 (d + 1) (sA s st l) v0 to w st top at0)
theorem wi_a1 {q : Nat} (h : q < 100000) : wi ((q : Int) + 1) = (q : Int) + 1 := wi_sm (by omega) (by omega)
theorem wi_a2 {q y : Nat} (h : q + y < 100000) : wi (wi ((q : Int) + y) + 1) = (q : Int) + y + 1 := by
  rw [wi_sm (x := (q : Int) + y) (by omega) (by omega), wi_sm (by omega) (by omega)]
theorem wi_m1 {t : Nat} (h : t < 100000) : wi (((t + 1 : Nat) : Int) + -1) = (t : Nat) := by
  rw [show ((t + 1 : Nat) : Int) + -1 = (t : Nat) by omega, wi_sm (by omega) (by omega)]
theorem max_0 {n : Nat} : maxI (n : Int) 0 = n := by
  unfold maxI
  rw [if_neg (by omega)]
theorem wi_n {t : Nat} (h : t < 100000) : wi (t : Int) = t := wi_sm (by omega) (by omega)
section CR
variable {s : St} {v0 po pa w st : Int} {ρ : Nat → Int} {wl : Nat}
theorem ck_push (X : RkX s v0 po pa w st ρ wl) {x : Int} (hx : 0 ≤ x ∧ x ≤ 1000) : CdOk s v0 po pa w st ρ 1 [(0, x)] (fun _ => some x) := by
  obtain ⟨a1, a2, a3, a4, a5, a6, a7, a8, a9, a10, a11, a12, a13, a14, a15, a16⟩ := X
  refine ⟨fun y hy => by cases hy; omega, by omega, by simp, fun d to at0 top l T hsg hto htop hl hc hb => ?_⟩
  obtain ⟨b1, b2, b3⟩ := seg_1 hsg
  have n1 : gA (sA s st l) po = gA s po := gA_ne a8
  have n2 : gA (sA s st l) pa = gA s pa := gA_ne a9
  simp only [List.length_singleton] at hto
  rw [e_X7_reckon_13, if_pos (by omega)]
  simp (disch := ((try simp only [kd_sF, kd_sA, gA_sF, gA_sA, gF_sF, gF_sA, List.length_set, reduceIte, and_true, and_false, true_and, false_and, Nat.reduceEqDiff, Int.reduceEq, a1, a2, a3, a4, a5, a7, n1, n2]); first | done | omega)) only [rF_ok, wF_ok, oK_ok, lA_ok, rA_ok, wA_ok, cI_ok, cV_ok, cL_ok, cR_ok, kd_sF, kd_sA, gA_sF, gF_sA, gF_sF, gA_sA, bk_0, bk_1, List.length_set, reduceIte, and_true, and_false, true_and, false_and, ne_eq, not_true_eq_false, not_false_eq_true, Int.toNat_natCast, Int.reduceToNat, Nat.reduceEqDiff, Int.reduceEq, Int.reduceLT, Int.reduceLE, Int.reduceAdd, Int.reduceSub, Int.reduceMul, Int.reduceNeg, a1, a2, a3, a4, a5, a7, n1, n2, b2, b3]
  rw [e_X7_reckon_48]
  simp (disch := ((try simp only [kd_sF, kd_sA, gA_sF, gA_sA, gF_sF, gF_sA, List.length_set, reduceIte, and_true, and_false, true_and, false_and, Nat.reduceEqDiff, Int.reduceEq, a7]); first | done | omega)) only [rF_ok, wF_ok, oK_ok, lA_ok, rA_ok, wA_ok, cI_ok, cV_ok, cL_ok, cR_ok, kd_sF, kd_sA, gA_sF, gF_sA, gF_sF, gA_sA, bk_0, bk_1, List.length_set, reduceIte, and_true, and_false, true_and, false_and, ne_eq, not_true_eq_false, not_false_eq_true, Int.toNat_natCast, Int.reduceToNat, Nat.reduceEqDiff, Int.reduceEq, Int.reduceLT, Int.reduceLE, Int.reduceAdd, Int.reduceSub, Int.reduceMul, Int.reduceNeg, a7, hl, if_pos (show (top : Int) < ((64 : Nat) : Int) by omega)]
  rw [e_X7_reckon_77]
  simp (disch := ((try simp only [kd_sF, kd_sA, gA_sF, gA_sA, gF_sF, gF_sA, List.length_set, reduceIte, and_true, and_false, true_and, false_and, Nat.reduceEqDiff, Int.reduceEq, a7]); first | done | omega)) only [rF_ok, wF_ok, oK_ok, lA_ok, rA_ok, wA_ok, cI_ok, cV_ok, cL_ok, cR_ok, kd_sF, kd_sA, gA_sF, gF_sA, gF_sF, gA_sA, bk_0, bk_1, List.length_set, reduceIte, and_true, and_false, true_and, false_and, ne_eq, not_true_eq_false, not_false_eq_true, Int.toNat_natCast, Int.reduceToNat, Nat.reduceEqDiff, Int.reduceEq, Int.reduceLT, Int.reduceLE, Int.reduceAdd, Int.reduceSub, Int.reduceMul, Int.reduceNeg, a7, wi_sm, sA_ov]
  have := hc x (l.set top x) rfl (by rw [List.length_set]; exact hl) (fun i hi => set_ne (by omega)) (set_eq (by omega))
  exact this
theorem ck_word (X : RkX s v0 po pa w st ρ wl) {k : Nat} (hk : k < wl) : CdOk s v0 po pa w st ρ 1 [(1, (k : Int))] (fun ρ => some (ρ k)) := by
  obtain ⟨a1, a2, a3, a4, a5, a6, a7, a8, a9, a10, a11, a12, a13, a14, a15, a16⟩ := X
  refine ⟨fun y hy => by cases hy; exact a14 k, by omega, by simp, fun d to at0 top l T hsg hto htop hl hc hb => ?_⟩
  obtain ⟨b1, b2, b3⟩ := seg_1 hsg
  have n1 : gA (sA s st l) po = gA s po := gA_ne a8
  have n2 : gA (sA s st l) pa = gA s pa := gA_ne a9
  have n3 : gA (sA s st l) w = gA s w := gA_ne a10
  have n4 := (a13 k hk).symm
  simp only [List.length_singleton] at hto
  rw [e_X7_reckon_13, if_pos (by omega)]
  simp (disch := ((try simp only [kd_sF, kd_sA, gA_sF, gA_sA, gF_sF, gF_sA, List.length_set, reduceIte, and_true, and_false, true_and, false_and, Nat.reduceEqDiff, Int.reduceEq, a1, a2, a3, a4, a5, a6, a7, n1, n2, n3]); first | done | omega)) only [rF_ok, wF_ok, oK_ok, lA_ok, rA_ok, wA_ok, cI_ok, cV_ok, cL_ok, cR_ok, kd_sF, kd_sA, gA_sF, gF_sA, gF_sF, gA_sA, bk_0, bk_1, List.length_set, reduceIte, and_true, and_false, true_and, false_and, ne_eq, not_true_eq_false, not_false_eq_true, Int.toNat_natCast, Int.reduceToNat, Nat.reduceEqDiff, Int.reduceEq, Int.reduceLT, Int.reduceLE, Int.reduceAdd, Int.reduceSub, Int.reduceMul, Int.reduceNeg, a1, a2, a3, a4, a5, a6, a7, n1, n2, n3, b2, b3]
  rw [e_X7_reckon_48]
  simp (disch := ((try simp only [kd_sF, kd_sA, gA_sF, gA_sA, gF_sF, gF_sA, List.length_set, reduceIte, and_true, and_false, true_and, false_and, Nat.reduceEqDiff, Int.reduceEq, a6, a7, n3]); first | done | omega)) only [rF_ok, wF_ok, oK_ok, lA_ok, rA_ok, wA_ok, cI_ok, cV_ok, cL_ok, cR_ok, kd_sF, kd_sA, gA_sF, gF_sA, gF_sF, gA_sA, bk_0, bk_1, List.length_set, reduceIte, and_true, and_false, true_and, false_and, ne_eq, not_true_eq_false, not_false_eq_true, Int.toNat_natCast, Int.reduceToNat, Nat.reduceEqDiff, Int.reduceEq, Int.reduceLT, Int.reduceLE, Int.reduceAdd, Int.reduceSub, Int.reduceMul, Int.reduceNeg, a6, a7, n3, hl, a11, if_pos (show (top : Int) < ((64 : Nat) : Int) by omega), if_neg (show ¬ ((k : Int) < 0) by omega), if_pos (show (k : Int) < (wl : Int) by omega)]
  rw [e_X7_reckon_77]
  simp (disch := ((try simp only [kd_sF, kd_sA, gA_sF, gA_sA, gF_sF, gF_sA, List.length_set, reduceIte, and_true, and_false, true_and, false_and, Nat.reduceEqDiff, Int.reduceEq, a6, a7, n3]); first | done | omega)) only [rF_ok, wF_ok, oK_ok, lA_ok, rA_ok, wA_ok, cI_ok, cV_ok, cL_ok, cR_ok, kd_sF, kd_sA, gA_sF, gF_sA, gF_sF, gA_sA, bk_0, bk_1, List.length_set, reduceIte, and_true, and_false, true_and, false_and, ne_eq, not_true_eq_false, not_false_eq_true, Int.toNat_natCast, Int.reduceToNat, Nat.reduceEqDiff, Int.reduceEq, Int.reduceLT, Int.reduceLE, Int.reduceAdd, Int.reduceSub, Int.reduceMul, Int.reduceNeg, a6, a7, n3, n4, wi_sm, sA_ov]
  have := hc (ρ k) (l.set top (ρ k)) rfl (by rw [List.length_set]; exact hl) (fun i hi => set_ne (by omega)) (set_eq (by omega))
  exact this
theorem c_joined153 {d : Nat} {x : Int} : X7_joined_153 d s x = some ([(0, match lim x with | some y => y | none => -2147483648)], s) := by
  rw [e_X7_joined_153]
  simp only [lcm_lt, lcm_gt]
  unfold lim
  by_cases h1 : x < -1000000000
  · rw [if_pos h1, if_neg (by omega)]
  · rw [if_neg h1]
    by_cases h2 : 1000000000 < x
    · rw [if_pos h2, if_neg (by omega)]
    · rw [if_neg h2, if_pos (by omega), wi_sm (by omega) (by omega)]
def orB (o : Option Int) : Int := match o with
  | some y => y
  | none => -2147483648
theorem c_j153 {d : Nat} {x : Int} : X7_joined_153 d s x = some ([(0, orB (lim x))], s) := by rw [c_joined153]; rfl
theorem c_joined {d : Nat} {o a b : Int} (ho : 5 ≤ o ∧ o ≤ 12) (ha : -1000000000 ≤ a ∧ a ≤ 1000000000) (hb : -1000000000 ≤ b ∧ b ≤ 1000000000) : X7_joined d s o a b = some ([(0, orB (jnd o a b))], s) := by
  have m1 := mul_bd ha hb
  have m2 := tdiv_bd (b := b) ha
  rw [e_X7_joined]
  have e : o = 5 ∨ o = 6 ∨ o = 7 ∨ o = 8 ∨ o = 9 ∨ o = 10 ∨ o = 11 ∨ o = 12 := by omega
  have l1 : lim (-2147483648) = none := rfl
  rcases e with rfl | rfl | rfl | rfl | rfl | rfl | rfl | rfl
  · simp only [reduceIte, jnd]
    rw [c_j153, wl_sm (by omega) (by omega)]
  · simp only [reduceIte, Int.reduceEq, jnd]
    rw [c_j153, wl_sm (by omega) (by omega)]
  · simp only [reduceIte, Int.reduceEq, jnd]
    rw [c_j153, wl_sm (by omega) (by omega)]
  · simp only [reduceIte, Int.reduceEq, jnd, lcm_0]
    by_cases h : b = 0
    · rw [if_pos h, if_pos h, c_j153, l1]
    · rw [if_neg h, if_neg h, if_neg h, c_j153, wl_sm (by omega) (by omega)]
  · simp only [reduceIte, Int.reduceEq, jnd, lcm_0]
    by_cases h : b = 0
    · rw [if_pos h, if_pos h, c_j153, l1]
    · rw [if_neg h, if_neg h, if_neg h, c_j153]
  · simp only [reduceIte, Int.reduceEq, jnd, lcm_lt]
    by_cases h : a < b
    · rw [if_pos h, if_pos h, c_j153]; rfl
    · rw [if_neg h, if_neg h, c_j153]; rfl
  · simp only [reduceIte, Int.reduceEq, jnd, lcm_gt]
    by_cases h : b < a
    · rw [if_pos h, if_pos h, c_j153]; rfl
    · rw [if_neg h, if_neg h, c_j153]; rfl
  · simp only [reduceIte, Int.reduceEq, jnd, lcm_0]
    by_cases h : a = b
    · rw [if_pos h, if_pos h, c_j153]; rfl
    · rw [if_neg h, if_neg h, c_j153]; rfl
theorem ck_join (X : RkX s v0 po pa w st ρ wl) {m1 m2 : Nat} {x y : Cd} {f g : Dn} {o : Int} (ho : 5 ≤ o ∧ o ≤ 12) (hx : CdOk s v0 po pa w st ρ m1 x f) (hy : CdOk s v0 po pa w st ρ m2 y g) : CdOk s v0 po pa w st ρ (m1 + m2) (x ++ y ++ [(o, 0)]) (jD o f g) := by
  obtain ⟨x1, x2, x3, x4⟩ := hx
  obtain ⟨y1, y2, y3, y4⟩ := hy
  obtain ⟨a1, a2, a3, a4, a5, a6, a7, a8, a9, a10, a11, a12, a13, a14, a15, a16⟩ := X
  refine ⟨jD_ok, by omega, by simp <;> omega, fun d to at0 top l T hsg hto htop hl hc hb => ?_⟩
  have s12 := seg_l hsg
  have s3 := seg_r hsg
  rw [List.length_append, List.length_append, List.length_singleton] at hto
  rw [List.length_append] at s3
  refine x4 d to at0 top l T (seg_l s12) (by omega) (by omega) hl (fun u l1 hu l1l l1a l1b => ?_) (fun hn l' hl' => hb (by unfold jD; rw [hn]) l' hl')
  refine y4 d to (at0 + x.length) (top + 1) l1 T (seg_r s12) (by omega) (by omega) l1l (fun v l2 hv l2l l2a l2b => ?_) (fun hn l' hl' => hb (by unfold jD; rw [hu, hn]) l' hl')
  obtain ⟨b1, b2, b3⟩ := seg_1 s3
  have n1 : gA (sA s st l2) po = gA s po := gA_ne a8
  have n2 : gA (sA s st l2) pa = gA s pa := gA_ne a9
  have bu := x1 u hu
  have bv := y1 v hv
  have ej : jD o f g ρ = jnd o u v := by unfold jD; rw [hu, hv]
  have eu : l2.getD top 0 = u := by rw [l2a top (by omega), l1b]
  rw [Nat.add_assoc at0] at *
  rw [e_X7_reckon_13, if_pos (by omega)]
  simp (disch := ((try simp only [kd_sF, kd_sA, gA_sF, gA_sA, gF_sF, gF_sA, List.length_set, reduceIte, and_true, and_false, true_and, false_and, Nat.reduceEqDiff, Int.reduceEq, a1, a2, a3, a4, a5, n1, n2]); first | done | omega)) only [rF_ok, wF_ok, oK_ok, lA_ok, rA_ok, wA_ok, cI_ok, cV_ok, cL_ok, cR_ok, kd_sF, kd_sA, gA_sF, gF_sA, gF_sF, gA_sA, bk_0, bk_1, List.length_set, reduceIte, and_true, and_false, true_and, false_and, ne_eq, not_true_eq_false, not_false_eq_true, Int.toNat_natCast, Int.reduceToNat, Nat.reduceEqDiff, Int.reduceEq, Int.reduceLT, Int.reduceLE, Int.reduceAdd, Int.reduceSub, Int.reduceMul, Int.reduceNeg, a1, a2, a3, a4, a5, n1, n2, b2, b3, if_neg (show ¬ (o = 0) by omega), if_neg (show ¬ (o = 1) by omega), if_neg (show ¬ (((top + 1 + 1 : Nat) : Int) < 1) by omega), if_neg (show ¬ (o < 5) by omega), if_neg (show ¬ (((top + 1 + 1 : Nat) : Int) < 2) by omega)]
  rw [e_X7_reckon_123, if_neg (by omega), if_neg (by omega), if_neg (by omega)]
  have e1 : ((top + 1 + 1 : Nat) : Int) + -1 - 1 = (top : Nat) := by omega
  have e2 : ((top + 1 + 1 : Nat) : Int) + -1 = (top + 1 : Nat) := by omega
  have e3 : ((top + 1 : Nat) : Int) - 1 = (top : Nat) := by omega
  simp (disch := ((try simp only [kd_sF, kd_sA, gA_sF, gA_sA, gF_sF, gF_sA, List.length_set, reduceIte, and_true, and_false, true_and, false_and, Nat.reduceEqDiff, Int.reduceEq, a7]); first | done | omega)) only [rF_ok, wF_ok, oK_ok, lA_ok, rA_ok, wA_ok, cI_ok, cV_ok, cL_ok, cR_ok, kd_sF, kd_sA, gA_sF, gF_sA, gF_sF, gA_sA, bk_0, bk_1, List.length_set, reduceIte, and_true, and_false, true_and, false_and, ne_eq, not_true_eq_false, not_false_eq_true, Int.toNat_natCast, Int.reduceToNat, Nat.reduceEqDiff, Int.reduceEq, Int.reduceLT, Int.reduceLE, Int.reduceAdd, Int.reduceSub, Int.reduceMul, Int.reduceNeg, a7, wi_sm, e2, e3, l2b, eu, c_joined ho bu bv, sA_ov]
  rw [set_eq (by omega)]
  cases hj : jnd o u v with
  | none =>
    rw [if_pos (by rfl)]
    exact hb (by rw [ej, hj]) _ (by rw [List.length_set]; exact l2l)
  | some z =>
    have hz := jnd_bd hj
    rw [if_neg (by show ¬ (z = -2147483648); omega)]
    have := hc z (l2.set top z) (by rw [ej, hj]) (by rw [List.length_set]; exact l2l) (fun i hi => by rw [set_ne (by omega), l2a i (by omega), l1a i hi]) (set_eq (by omega))
    rw [List.length_append, List.length_append, List.length_singleton] at this
    exact this
theorem ck_not (X : RkX s v0 po pa w st ρ wl) {m : Nat} {x : Cd} {f : Dn} (hx : CdOk s v0 po pa w st ρ m x f) (h1 : okB1 f ρ) : CdOk s v0 po pa w st ρ m (x ++ [(2, 0)]) (negD f) := by
  obtain ⟨x1, x2, x3, x4⟩ := hx
  obtain ⟨a1, a2, a3, a4, a5, a6, a7, a8, a9, a10, a11, a12, a13, a14, a15, a16⟩ := X
  refine ⟨fun z hz => ?_, by omega, by simp, fun d to at0 top l T hsg hto htop hl hc hb => ?_⟩
  · unfold negD at hz
    cases e : f ρ with
    | none => rw [e] at hz; cases hz
    | some y => rw [e] at hz; cases hz; have := h1 y e; omega
  · rw [List.length_append, List.length_singleton] at hto
    refine x4 d to at0 top l T (seg_l hsg) (by omega) (by omega) hl (fun u l1 hu l1l l1a l1b => ?_) (fun hn l' hl' => hb (by unfold negD; rw [hn]) l' hl')
    obtain ⟨b1, b2, b3⟩ := seg_1 (seg_r hsg)
    have n1 : gA (sA s st l1) po = gA s po := gA_ne a8
    have n2 : gA (sA s st l1) pa = gA s pa := gA_ne a9
    have hu1 := h1 u hu
    rw [e_X7_reckon_13, if_pos (by omega)]
    have e1 : ((top + 1 : Nat) : Int) - 1 = (top : Nat) := by omega
    simp (disch := ((try simp only [kd_sF, kd_sA, gA_sF, gA_sA, gF_sF, gF_sA, List.length_set, reduceIte, and_true, and_false, true_and, false_and, Nat.reduceEqDiff, Int.reduceEq, a1, a2, a3, a4, a5, a7, n1, n2]); first | done | omega)) only [rF_ok, wF_ok, oK_ok, lA_ok, rA_ok, wA_ok, cI_ok, cV_ok, cL_ok, cR_ok, kd_sF, kd_sA, gA_sF, gF_sA, gF_sF, gA_sA, bk_0, bk_1, List.length_set, reduceIte, and_true, and_false, true_and, false_and, ne_eq, not_true_eq_false, not_false_eq_true, Int.toNat_natCast, Int.reduceToNat, Nat.reduceEqDiff, Int.reduceEq, Int.reduceLT, Int.reduceLE, Int.reduceAdd, Int.reduceSub, Int.reduceMul, Int.reduceNeg, a1, a2, a3, a4, a5, a7, n1, n2, b2, b3, if_neg (show ¬ (((top + 1 : Nat) : Int) < 1) by omega)]
    rw [e_X7_reckon_123, if_pos rfl]
    simp (disch := ((try simp only [kd_sF, kd_sA, gA_sF, gA_sA, gF_sF, gF_sA, List.length_set, reduceIte, and_true, and_false, true_and, false_and, Nat.reduceEqDiff, Int.reduceEq, a7]); first | done | omega)) only [rF_ok, wF_ok, oK_ok, lA_ok, rA_ok, wA_ok, cI_ok, cV_ok, cL_ok, cR_ok, kd_sF, kd_sA, gA_sF, gF_sA, gF_sF, gA_sA, bk_0, bk_1, List.length_set, reduceIte, and_true, and_false, true_and, false_and, ne_eq, not_true_eq_false, not_false_eq_true, Int.toNat_natCast, Int.reduceToNat, Nat.reduceEqDiff, Int.reduceEq, Int.reduceLT, Int.reduceLE, Int.reduceAdd, Int.reduceSub, Int.reduceMul, Int.reduceNeg, a7, wi_sm, e1, l1b, sA_ov]
    have := hc (1 - u) (l1.set top (1 - u)) (by unfold negD; rw [hu]) (by rw [List.length_set]; exact l1l) (fun i hi => by rw [set_ne (by omega), l1a i hi]) (set_eq (by omega))
    rw [List.length_append, List.length_singleton] at this
    exact this
theorem ck_skip (X : RkX s v0 po pa w st ρ wl) {m1 m2 : Nat} {x y : Cd} {f g : Dn} {op : Int} (hop : op = 3 ∨ op = 4) (hx : CdOk s v0 po pa w st ρ m1 x f) (h1 : okB1 f ρ) (hy : CdOk s v0 po pa w st ρ m2 y g) : CdOk s v0 po pa w st ρ (m1 + m2) (x ++ [(op, (y.length : Int))] ++ y) (if op = 4 then andD f g else orD f g) := by
  obtain ⟨x1, x2, x3, x4⟩ := hx
  obtain ⟨y1, y2, y3, y4⟩ := hy
  obtain ⟨a1, a2, a3, a4, a5, a6, a7, a8, a9, a10, a11, a12, a13, a14, a15, a16⟩ := X
  have ev : ∀ u, f ρ = some u → (if op = 4 then andD f g else orD f g) ρ = if (u = 1) = (op = 3) then some u else g ρ := by
    intro u hu
    rcases hop with rfl | rfl
    · simp only [Int.reduceEq, reduceIte, orD, hu]
      by_cases e : u = 1 <;> simp [e]
    · simp only [Int.reduceEq, reduceIte, andD, hu]
      by_cases e : u = 1 <;> simp [e]
  have en : f ρ = none → (if op = 4 then andD f g else orD f g) ρ = none := by
    intro hn
    rcases hop with rfl | rfl
    · simp [orD, hn]
    · simp [andD, hn]
  refine ⟨fun z hz => ?_, by omega, by simp <;> omega, fun d to at0 top l T hsg hto htop hl hc hb => ?_⟩
  · cases e : f ρ with
    | none => rw [en e] at hz; cases hz
    | some u =>
      rw [ev u e] at hz
      split at hz
      · cases hz; exact x1 _ e
      · exact y1 _ hz
  · have s12 := seg_l hsg
    have s3 := seg_r hsg
    rw [List.length_append, List.length_append, List.length_singleton] at hto
    rw [List.length_append, List.length_singleton] at s3
    refine x4 d to at0 top l T (seg_l s12) (by omega) (by omega) hl (fun u l1 hu l1l l1a l1b => ?_) (fun hn l' hl' => hb (en hn) l' hl')
    obtain ⟨b1, b2, b3⟩ := seg_1 (seg_r s12)
    have n1 : gA (sA s st l1) po = gA s po := gA_ne a8
    have n2 : gA (sA s st l1) pa = gA s pa := gA_ne a9
    have hlen := hsg.1
    rw [List.length_append, List.length_append, List.length_singleton] at hlen
    have e1 : ((top + 1 : Nat) : Int) - 1 = (top : Nat) := by omega
    have e2 : ((top + 1 : Nat) : Int) + -1 = (top : Nat) := by omega
    have jump : (u = 1) = (op = 3) → Gl T (X7_reckon_13 (d + 1) (sA s st l1) v0 to w st (top + 1 : Nat) (((at0 + x.length : Nat) : Int) + y.length + 1)) := by
      intro hj
      have := hc u l1 (by rw [ev u hu, if_pos hj]) l1l l1a l1b
      rw [List.length_append, List.length_append, List.length_singleton] at this
      rw [show ((at0 + x.length : Nat) : Int) + y.length + 1 = ((at0 + (x.length + 1 + y.length) : Nat) : Int) by omega]
      exact this
    have go : ¬ ((u = 1) = (op = 3)) → Gl T (X7_reckon_13 (d + 1) (sA s st l1) v0 to w st top (((at0 + x.length : Nat) : Int) + 1)) := by
      intro hj
      rw [show ((at0 + x.length : Nat) : Int) + 1 = ((at0 + (x.length + 1) : Nat) : Int) by omega]
      refine y4 d to (at0 + (x.length + 1)) top l1 T s3 (by omega) (by omega) l1l (fun v l2 hv l2l l2a l2b => ?_) (fun hn l' hl' => hb (by rw [ev u hu, if_neg hj, hn]) l' hl')
      have := hc v l2 (by rw [ev u hu, if_neg hj, hv]) l2l (fun i hi => by rw [l2a i hi, l1a i hi]) l2b
      rw [List.length_append, List.length_append, List.length_singleton] at this
      rw [show at0 + (x.length + 1) + y.length = at0 + (x.length + 1 + y.length) by omega]
      exact this
    rw [e_X7_reckon_13, if_pos (by omega)]
    rcases hop with rfl | rfl
    · simp (disch := ((try simp only [kd_sF, kd_sA, gA_sF, gA_sA, gF_sF, gF_sA, List.length_set, reduceIte, and_true, and_false, true_and, false_and, Nat.reduceEqDiff, Int.reduceEq, a1, a2, a3, a4, a5, a7, n1, n2]); first | done | omega)) only [rF_ok, wF_ok, oK_ok, lA_ok, rA_ok, wA_ok, cI_ok, cV_ok, cL_ok, cR_ok, kd_sF, kd_sA, gA_sF, gF_sA, gF_sF, gA_sA, bk_0, bk_1, List.length_set, reduceIte, and_true, and_false, true_and, false_and, ne_eq, not_true_eq_false, not_false_eq_true, Int.toNat_natCast, Int.reduceToNat, Nat.reduceEqDiff, Int.reduceEq, Int.reduceLT, Int.reduceLE, Int.reduceAdd, Int.reduceSub, Int.reduceMul, Int.reduceNeg, a1, a2, a3, a4, a5, a7, n1, n2, b2, b3, if_neg (show ¬ (((top + 1 : Nat) : Int) < 1) by omega)]
      simp only [e_X7_reckon_123, Int.reduceEq, reduceIte]
      rw [e_X7_reckon_160]
      simp (disch := ((try simp only [kd_sF, kd_sA, gA_sF, gA_sA, gF_sF, gF_sA, List.length_set, reduceIte, and_true, and_false, true_and, false_and, Nat.reduceEqDiff, Int.reduceEq, a7]); first | done | omega)) only [rF_ok, wF_ok, oK_ok, lA_ok, rA_ok, wA_ok, cI_ok, cV_ok, cL_ok, cR_ok, kd_sF, kd_sA, gA_sF, gF_sA, gF_sF, gA_sA, bk_0, bk_1, List.length_set, reduceIte, and_true, and_false, true_and, false_and, ne_eq, not_true_eq_false, not_false_eq_true, Int.toNat_natCast, Int.reduceToNat, Nat.reduceEqDiff, Int.reduceEq, Int.reduceLT, Int.reduceLE, Int.reduceAdd, Int.reduceSub, Int.reduceMul, Int.reduceNeg, a7, e1, wi_n (show top < 100000 by omega), l1b, e_X7_reckon_191, max_0, wi_a2 (show at0 + x.length + y.length < 100000 by omega), wi_a1 (show at0 + x.length < 100000 by omega), wi_m1 (show top < 100000 by omega)]
      by_cases hu1 : u = 1
      · rw [if_pos hu1]
        exact jump (by simp [hu1])
      · rw [if_neg hu1]
        exact go (by simp [hu1])
    · simp (disch := ((try simp only [kd_sF, kd_sA, gA_sF, gA_sA, gF_sF, gF_sA, List.length_set, reduceIte, and_true, and_false, true_and, false_and, Nat.reduceEqDiff, Int.reduceEq, a1, a2, a3, a4, a5, a7, n1, n2]); first | done | omega)) only [rF_ok, wF_ok, oK_ok, lA_ok, rA_ok, wA_ok, cI_ok, cV_ok, cL_ok, cR_ok, kd_sF, kd_sA, gA_sF, gF_sA, gF_sF, gA_sA, bk_0, bk_1, List.length_set, reduceIte, and_true, and_false, true_and, false_and, ne_eq, not_true_eq_false, not_false_eq_true, Int.toNat_natCast, Int.reduceToNat, Nat.reduceEqDiff, Int.reduceEq, Int.reduceLT, Int.reduceLE, Int.reduceAdd, Int.reduceSub, Int.reduceMul, Int.reduceNeg, a1, a2, a3, a4, a5, a7, n1, n2, b2, b3, if_neg (show ¬ (((top + 1 : Nat) : Int) < 1) by omega)]
      simp only [e_X7_reckon_123, Int.reduceEq, reduceIte]
      rw [e_X7_reckon_160]
      simp (disch := ((try simp only [kd_sF, kd_sA, gA_sF, gA_sA, gF_sF, gF_sA, List.length_set, reduceIte, and_true, and_false, true_and, false_and, Nat.reduceEqDiff, Int.reduceEq, a7]); first | done | omega)) only [rF_ok, wF_ok, oK_ok, lA_ok, rA_ok, wA_ok, cI_ok, cV_ok, cL_ok, cR_ok, kd_sF, kd_sA, gA_sF, gF_sA, gF_sF, gA_sA, bk_0, bk_1, List.length_set, reduceIte, and_true, and_false, true_and, false_and, ne_eq, not_true_eq_false, not_false_eq_true, Int.toNat_natCast, Int.reduceToNat, Nat.reduceEqDiff, Int.reduceEq, Int.reduceLT, Int.reduceLE, Int.reduceAdd, Int.reduceSub, Int.reduceMul, Int.reduceNeg, a7, e1, wi_n (show top < 100000 by omega), l1b, e_X7_reckon_191, max_0, wi_a2 (show at0 + x.length + y.length < 100000 by omega), wi_a1 (show at0 + x.length < 100000 by omega), wi_m1 (show top < 100000 by omega)]
      by_cases hu1 : u = 1
      · rw [if_pos hu1]
        exact go (by simp [hu1])
      · rw [if_neg hu1]
        exact jump (by simp [hu1])
end CR
