/-! ===== the class: who wears what ===== -/
section CWF
variable {s s' : St} {a : Ab} {d : Nat}
/-- the table from boy b on -/
def MoR (D : Dr) (b : Nat) (s : St) : Prop := ∀ i, b ≤ i → i ≤ D.2.1.length → ∀ t, t < 256 → (gA s 95).getD (i * 256 + t) 0 = moP D.1.length (wBt D) (wTk D) (D.2.1.drop i) t
theorem wBt_lt {D : Dr} {k : Nat} (W : wfDr D) (hk : k < D.1.length) : wBt D k < 256 := bt_lt (by have := W.1.1; omega)
theorem c_suits {k t : Nat} {c : Int} (R : RepC a s) (W : wfA a) (H : HgR a.1 a.1.1.length s) (hk : k < a.1.1.length) (ht : t < 256) : X10_suits d s 91 k c t = some ([(0, if suP (wBt a.1) (wTk a.1) c t k then 1 else 0)], s) := by
  have hs := R.1
  have h8 := W.1.1.1
  obtain ⟨k91, f0, k92, l92, f1, k93, l93, f2, k94, l94, -⟩ := hs.o91
  obtain ⟨g92, g93, g94⟩ := H k hk
  have hb := wBt_lt W.1 hk
  rw [e_X10_suits, rF_ok k91, f2, rA_ok k94 (by omega) (by rw [l94]; omega), Int.toNat_natCast, g94]
  unfold suP
  by_cases e : wBt a.1 k = 0
  · rw [if_pos (by omega)]
    simp [e]
  rw [if_neg (by omega), rF_ok k91, f2, rA_ok k94 (by omega) (by rw [l94]; omega), Int.toNat_natCast, g94, and_n hb ht]
  by_cases e2 : wBt a.1 k &&& t = 0
  · rw [if_pos (by omega), rF_ok k91, f0, rA_ok k92 (by omega) (by rw [l92]; omega), Int.toNat_natCast, g92]
    by_cases e3 : c < wTk a.1 k
    · rw [if_pos e3]
      have : ¬ (wTk a.1 k ≤ c) := by omega
      simp [this]
    · rw [if_neg e3]
      have : wTk a.1 k ≤ c := by omega
      simp [e, e2, this]
  · rw [if_neg (by omega)]
    simp [e2]
theorem mx_ix {b t : Nat} (hb : b < 7) (ht : t < 256) : wi (wi ((b : Int) * 256) + (t : Int)) = ((b * 256 + t : Nat) : Int) := by
  rw [wi_sm (x := (b : Int) * 256) (by omega) (by omega), wi_sm (by omega) (by omega)]
  omega
theorem mx_i1 {b t : Nat} (hb : b < 6) (ht : t < 256) : wi (wi (wi ((b : Int) + 1) * 256) + (t : Int)) = (((b + 1) * 256 + t : Nat) : Int) := by
  rw [wi_sc (by omega)]
  exact mx_ix (by omega) ht
theorem dropG {l : List Int} {n : Nat} (h : n < l.length) : l.drop n = l.getD n 0 :: l.drop (n + 1) := by
  rw [List.drop_eq_getElem_cons h, List.getD_eq_getElem?_getD, List.getElem?_eq_getElem h]
  rfl
theorem c_most {b t : Nat} (R : RepC a s) (W : wfA a) (H : HgR a.1 a.1.1.length s) (M : MoR a.1 (b + 1) s) (hb : b < a.1.2.1.length) (ht : t < 256) : X10_mostFrom (d + 1) s 91 3 b t = some ([(0, moP a.1.1.length (wBt a.1) (wTk a.1) (a.1.2.1.drop b) t)], s) := by
  have hs := R.1
  have h6 := W.1.2.1.1
  have h8 := W.1.1.1
  obtain ⟨k91, f0, k92, l92, f1, k93, l93, f2, k94, l94, f3, k95, l95, -⟩ := hs.o91
  have n1 : gF s 3 1 = (a.1.1.length : Int) := R.2.1.2.1.1
  have k5 : kd s 5 = 20 := hs.1 5 (by decide) (by decide)
  have l5 : (gA s 5).length = 6 := hs.2.1 5 (by decide) (by decide)
  have f32 : gF s 3 2 = 5 := hs.2.2.1 (3, 2, 5) (by decide)
  have b5 : (gA s 5).getD b 0 = a.1.2.1.getD b 0 := R.2.1.2.2.1.2 b hb
  have Mt := M (b + 1) (by omega) (by omega)
  rw [e_X10_mostFrom, rF_ok k91, f3, mx_i1 (by omega) ht, rA_ok k95 (by omega) (by rw [l95]; omega), Int.toNat_natCast, Mt t ht]
  have lp : ∀ m k : Nat, k + m = a.1.1.length → X10_mostFrom_19 (d + 1) s 91 3 b t (moF (wBt a.1) (wTk a.1) (moP a.1.1.length (wBt a.1) (wTk a.1) (a.1.2.1.drop (b + 1))) (a.1.2.1.getD b 0) t k) k = some ([(0, moF (wBt a.1) (wTk a.1) (moP a.1.1.length (wBt a.1) (wTk a.1) (a.1.2.1.drop (b + 1))) (a.1.2.1.getD b 0) t a.1.1.length)], s) := by
    intro m
    induction m with
    | zero =>
      intro k hk
      rw [e_X10_mostFrom_19, rF_ok hs.o3.1, n1, if_neg (by omega), show k = a.1.1.length by omega]
    | succ m ih =>
      intro k hk
      have hkk : k < a.1.1.length := by omega
      obtain ⟨-, -, g94⟩ := H k hkk
      have hbt := wBt_lt W.1 hkk
      have hor := or_n ht hbt
      have st : moF (wBt a.1) (wTk a.1) (moP a.1.1.length (wBt a.1) (wTk a.1) (a.1.2.1.drop (b + 1))) (a.1.2.1.getD b 0) t (k + 1) = if suP (wBt a.1) (wTk a.1) (a.1.2.1.getD b 0) t k then maxI (moF (wBt a.1) (wTk a.1) (moP a.1.1.length (wBt a.1) (wTk a.1) (a.1.2.1.drop (b + 1))) (a.1.2.1.getD b 0) t k) (1 + moP a.1.1.length (wBt a.1) (wTk a.1) (a.1.2.1.drop (b + 1)) (t ||| wBt a.1 k)) else moF (wBt a.1) (wTk a.1) (moP a.1.1.length (wBt a.1) (wTk a.1) (a.1.2.1.drop (b + 1))) (a.1.2.1.getD b 0) t k := rfl
      have nx := ih (k + 1) (by omega)
      rw [e_X10_mostFrom_19, rF_ok hs.o3.1, n1, if_pos (by omega), rF_ok hs.o3.1, f32, rA_ok k5 (by omega) (by rw [l5]; omega), Int.toNat_natCast, b5, oK_ok k91, c_suits R W H hkk ht, cI_ok, wi_sc (by omega)]
      by_cases hsu : suP (wBt a.1) (wTk a.1) (a.1.2.1.getD b 0) t k = true
      · rw [if_pos hsu] at st
        rw [if_pos hsu, if_neg (show ¬ ((1 : Int) = 0) by decide), rF_ok k91, f3, rF_ok k91, f2, rA_ok k94 (by omega) (by rw [l94]; omega), Int.toNat_natCast, g94, hor.1, mx_i1 (by omega) hor.2, rA_ok k95 (by omega) (by have := hor.2; rw [l95]; omega), Int.toNat_natCast, Mt _ hor.2]
        have bd := moP_nn (K := a.1.1.length) (bt := wBt a.1) (tk := wTk a.1) (a.1.2.1.drop (b + 1)) (t ||| wBt a.1 k)
        have := List.length_drop (i := b + 1) (l := a.1.2.1)
        rw [wi_sm (by omega) (by omega), ← st]
        exact nx
      · rw [if_neg hsu] at st
        rw [if_neg hsu, if_pos rfl, ← st]
        exact nx
  have := lp a.1.1.length 0 (by omega)
  rw [dropG hb]
  exact this
theorem c_first {b t : Nat} (R : RepC a s) (W : wfA a) (H : HgR a.1 a.1.1.length s) (M : MoR a.1 0 s) (hb : b < a.1.2.1.length) (ht : t < 256) : X10_firstFor (d + 1) s 91 3 b t = some ([(0, fiV (fiO a.1.1.length (wBt a.1) (wTk a.1) (moP a.1.1.length (wBt a.1) (wTk a.1) (a.1.2.1.drop (b + 1))) (a.1.2.1.getD b 0) t (moP a.1.1.length (wBt a.1) (wTk a.1) (a.1.2.1.drop b) t)))], s) := by
  have hs := R.1
  have h6 := W.1.2.1.1
  have h8 := W.1.1.1
  obtain ⟨k91, f0, k92, l92, f1, k93, l93, f2, k94, l94, f3, k95, l95, -⟩ := hs.o91
  have n1 : gF s 3 1 = (a.1.1.length : Int) := R.2.1.2.1.1
  have k5 : kd s 5 = 20 := hs.1 5 (by decide) (by decide)
  have l5 : (gA s 5).length = 6 := hs.2.1 5 (by decide) (by decide)
  have f32 : gF s 3 2 = 5 := hs.2.2.1 (3, 2, 5) (by decide)
  have b5 : (gA s 5).getD b 0 = a.1.2.1.getD b 0 := R.2.1.2.2.1.2 b hb
  have Mt := M (b + 1) (by omega) (by omega)
  have M0 := M b (by omega) (by omega) t ht
  rw [e_X10_firstFor]
  unfold fiO
  have lp : ∀ m k : Nat, k + m = a.1.1.length → X10_firstFor_3 (d + 1) s 91 3 b t k = some ([(0, fiV ((((List.range a.1.1.length).drop k)).find? fun k => suP (wBt a.1) (wTk a.1) (a.1.2.1.getD b 0) t k && decide (1 + moP a.1.1.length (wBt a.1) (wTk a.1) (a.1.2.1.drop (b + 1)) (t ||| wBt a.1 k) = moP a.1.1.length (wBt a.1) (wTk a.1) (a.1.2.1.drop b) t)))], s) := by
    intro m
    induction m with
    | zero =>
      intro k hk
      rw [e_X10_firstFor_3, rF_ok hs.o3.1, n1, if_neg (by omega), show (List.range a.1.1.length).drop k = [] from List.drop_eq_nil_of_le (by rw [List.length_range]; omega)]
      rfl
    | succ m ih =>
      intro k hk
      have hkk : k < a.1.1.length := by omega
      obtain ⟨-, -, g94⟩ := H k hkk
      have hbt := wBt_lt W.1 hkk
      have hor := or_n ht hbt
      have nx := ih (k + 1) (by omega)
      rw [e_X10_firstFor_3, rF_ok hs.o3.1, n1, if_pos (by omega), rF_ok hs.o3.1, f32, rA_ok k5 (by omega) (by rw [l5]; omega), Int.toNat_natCast, b5, oK_ok k91, c_suits R W H hkk ht, cI_ok, wi_sc (by omega)]
      rw [show (List.range a.1.1.length).drop k = k :: (List.range a.1.1.length).drop (k + 1) by rw [List.drop_eq_getElem_cons (by rw [List.length_range]; exact hkk), List.getElem_range]]
      by_cases hsu : suP (wBt a.1) (wTk a.1) (a.1.2.1.getD b 0) t k = true
      · rw [if_pos hsu, if_neg (show ¬ ((1 : Int) = 0) by decide), rF_ok k91, f3, rF_ok k91, f2, rA_ok k94 (by omega) (by rw [l94]; omega), Int.toNat_natCast, g94, hor.1, mx_i1 (by omega) hor.2, rA_ok k95 (by omega) (by have := hor.2; rw [l95]; omega), Int.toNat_natCast, Mt _ hor.2, rF_ok k91, f3, mx_ix (by omega) ht, rA_ok k95 (by omega) (by rw [l95]; omega), Int.toNat_natCast, M0]
        have bd := moP_nn (K := a.1.1.length) (bt := wBt a.1) (tk := wTk a.1) (a.1.2.1.drop (b + 1)) (t ||| wBt a.1 k)
        have := List.length_drop (i := b + 1) (l := a.1.2.1)
        rw [wi_sm (by omega) (by omega)]
        by_cases e : 1 + moP a.1.1.length (wBt a.1) (wTk a.1) (a.1.2.1.drop (b + 1)) (t ||| wBt a.1 k) = moP a.1.1.length (wBt a.1) (wTk a.1) (a.1.2.1.drop b) t
        · rw [if_pos e, List.find?_cons_of_pos (by rw [hsu, e]; simp)]
          rfl
        · rw [if_neg e, List.find?_cons_of_neg (by rw [hsu]; simpa using e)]
          exact nx
      · rw [if_neg hsu, if_pos rfl, List.find?_cons_of_neg (by rw [Bool.and_eq_true]; exact fun h => hsu h.1)]
        exact nx
  have := lp a.1.1.length 0 (by omega)
  rw [List.drop_zero] at this
  exact this
end CWF
