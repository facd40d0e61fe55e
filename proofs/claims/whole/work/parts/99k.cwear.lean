/-! ===== the class: wear ===== -/
section CWG
variable {s s' : St} {a : Ab} {d : Nat}
/-- the worn row for the first b boys, and what is taken then -/
def woT (D : Dr) : Nat → Nat
  | 0 => 0
  | b + 1 => fiT (wBt D) (fiO D.1.length (wBt D) (wTk D) (moP D.1.length (wBt D) (wTk D) (D.2.1.drop (b + 1))) (D.2.1.getD b 0) (woT D b) (moP D.1.length (wBt D) (wTk D) (D.2.1.drop b) (woT D b))) (woT D b)
def woV (D : Dr) (b : Nat) : Int := fiV (fiO D.1.length (wBt D) (wTk D) (moP D.1.length (wBt D) (wTk D) (D.2.1.drop (b + 1))) (D.2.1.getD b 0) (woT D b) (moP D.1.length (wBt D) (wTk D) (D.2.1.drop b) (woT D b)))
theorem woP_at {D : Dr} : ∀ (m b i : Nat), b + m = D.2.1.length → i < m → (woP D.1.length (wBt D) (wTk D) (D.2.1.drop b) (woT D b)).getD i 0 = woV D (b + i) := by
  intro m
  induction m with
  | zero => intro b i _ hi; omega
  | succ m ih =>
    intro b i hb hi
    have e := dropG (l := D.2.1) (n := b) (by omega)
    have e2 : woP D.1.length (wBt D) (wTk D) (D.2.1.drop b) (woT D b) = woV D b :: woP D.1.length (wBt D) (wTk D) (D.2.1.drop (b + 1)) (woT D (b + 1)) := by
      have w : woT D (b + 1) = fiT (wBt D) (fiO D.1.length (wBt D) (wTk D) (moP D.1.length (wBt D) (wTk D) (D.2.1.drop (b + 1))) (D.2.1.getD b 0) (woT D b) (moP D.1.length (wBt D) (wTk D) (D.2.1.drop b) (woT D b))) (woT D b) := rfl
      rw [w]
      unfold woV
      rw [e]
      rfl
    rw [e2]
    cases i with
    | zero => rfl
    | succ i =>
      show (woP D.1.length (wBt D) (wTk D) (D.2.1.drop (b + 1)) (woT D (b + 1))).getD i 0 = _
      rw [ih (b + 1) i (by omega) (by omega)]
      congr 1
      omega
theorem c_d25 {T : Res → Prop} (R : RepC a s) (W : wfA a) (H : HgR a.1 a.1.1.length s) (hT : ∀ s', RepC a s' → HgR a.1 a.1.1.length s' → MoR a.1 a.1.2.1.length s' → Gl T (X10_dress_61 d s' 91 3 ((a.1.2.1.length : Int) - 1))) : Gl T (X10_dress_25 d s 91 3 0) := by
  have h6 := W.1.2.1.1
  refine lpG (fun t s1 => X10_dress_25 d s1 91 3 ((t : Nat) : Int)) (fun t s1 => RepC a s1 ∧ HgR a.1 a.1.1.length s1 ∧ ∀ i, i < t → (gA s1 95).getD (a.1.2.1.length * 256 + i) 0 = 0) 256 ?_ ?_ 0 s (by omega) ⟨R, H, fun i hi => by omega⟩
  · intro T t s1 ht ⟨r, h, m⟩ hT
    have hs := r.1
    obtain ⟨k91, f0, k92, l92, f1, k93, l93, f2, k94, l94, f3, k95, l95, -⟩ := hs.o91
    have n3 : gF s1 3 3 = (a.1.2.1.length : Int) := r.2.1.2.2.1.1
    rw [e_X10_dress_25, if_pos (by omega), rF_ok k91, f3, rF_ok hs.o3.1, n3, mx_ix (by omega) ht, wA_ok k95 (by omega) (by rw [l95]; omega), Int.toNat_natCast, wi_sc (by omega)]
    refine hT _ ⟨wrR r W (by decide) (by rw [List.length_set]), ?_, fun i hi => ?_⟩
    · intro i hi
      rw [gA_ne (by decide), gA_ne (by decide), gA_ne (by decide)]
      exact h i hi
    · rw [gA_eq, setD_getD (by rw [l95]; omega)]
      split
      · rfl
      · exact m i (by omega)
  · intro s1 ⟨r, h, m⟩
    have hs := r.1
    have n3 : gF s1 3 3 = (a.1.2.1.length : Int) := r.2.1.2.2.1.1
    rw [e_X10_dress_25, if_neg (by decide), rF_ok hs.o3.1, n3, wi_sm (by omega) (by omega)]
    refine hT s1 r h fun i h1 h2 t ht => ?_
    rw [show i = a.1.2.1.length by omega, m t ht, List.drop_length]
    rfl
theorem c_d61 {T : Res → Prop} (W : wfA a) (hT : ∀ s', RepC a s' → HgR a.1 a.1.1.length s' → MoR a.1 0 s' → Gl T (X10_dress_114 (d + 2) s' 91 3 0 0)) : ∀ (b : Nat) (s : St), b ≤ a.1.2.1.length → RepC a s → HgR a.1 a.1.1.length s → MoR a.1 b s → Gl T (X10_dress_61 (d + 2) s 91 3 ((b : Int) - 1)) := by
  intro b
  have h6 := W.1.2.1.1
  induction b with
  | zero =>
    intro s hb R H M
    rw [e_X10_dress_61, if_pos (by omega)]
    exact hT s R H M
  | succ b ih =>
    intro s hb R H M
    rw [e_X10_dress_61, if_neg (by omega), show ((b + 1 : Nat) : Int) - 1 = (b : Int) by omega]
    refine lpG (fun t s1 => X10_dress_68 (d + 2) s1 91 3 b ((t : Nat) : Int)) (fun t s1 => RepC a s1 ∧ HgR a.1 a.1.1.length s1 ∧ MoR a.1 (b + 1) s1 ∧ ∀ i, i < t → (gA s1 95).getD (b * 256 + i) 0 = moP a.1.1.length (wBt a.1) (wTk a.1) (a.1.2.1.drop b) i) 256 ?_ ?_ 0 s (by omega) ⟨R, H, M, fun i hi => by omega⟩
    · intro T t s1 ht ⟨r, h, m, e⟩ hT
      have hs := r.1
      obtain ⟨k91, f0, k92, l92, f1, k93, l93, f2, k94, l94, f3, k95, l95, -⟩ := hs.o91
      rw [e_X10_dress_68, if_pos (by omega), rF_ok k91, f3, oK_ok k91, c_most r W h m (by omega) ht, cI_ok, mx_ix (by omega) ht, wA_ok k95 (by omega) (by rw [l95]; omega), Int.toNat_natCast, wi_sc (by omega)]
      refine hT _ ⟨wrR r W (by decide) (by rw [List.length_set]), ?_, fun i h1 h2 u hu => ?_, fun i hi => ?_⟩
      · intro i hi
        rw [gA_ne (by decide), gA_ne (by decide), gA_ne (by decide)]
        exact h i hi
      · rw [gA_eq, set_ne (by omega)]
        exact m i h1 h2 u hu
      · rw [gA_eq, setD_getD (by rw [l95]; omega)]
        by_cases e2 : b * 256 + t = b * 256 + i
        · rw [if_pos e2, show i = t by omega]
        · rw [if_neg e2]
          exact e i (by omega)
    · intro s1 ⟨r, h, m, e⟩
      rw [e_X10_dress_68, if_neg (by decide), wi_sm (x := (b : Int) + -1) (by omega) (by omega)]
      show Gl T (X10_dress_61 (d + 2) s1 91 3 ((b : Int) - 1))
      refine ih s1 (by omega) r h fun i h1 h2 t ht => ?_
      by_cases e2 : i = b
      · rw [e2]; exact e t ht
      · exact m i (by omega) h2 t ht
theorem fi_lt {K : Nat} {bt : Nat → Nat} {tk g : Nat → Int} {c M : Int} {t : Nat} (h8 : K ≤ 8) : fiV (fiO K bt tk g c t M) = 100 ∧ fiO K bt tk g c t M = none ∨ ∃ k, k < K ∧ fiO K bt tk g c t M = some k ∧ fiV (fiO K bt tk g c t M) = (k : Int) := by
  cases e : fiO K bt tk g c t M with
  | none => exact Or.inl ⟨rfl, rfl⟩
  | some k => exact Or.inr ⟨k, (fi_some e).1, rfl, rfl⟩
theorem woT_lt (W : wfA a) : ∀ b, woT a.1 b < 256
  | 0 => (by decide : 0 < 256)
  | b + 1 => by
    unfold woT
    rcases fi_lt (K := a.1.1.length) (bt := wBt a.1) (tk := wTk a.1) (g := moP a.1.1.length (wBt a.1) (wTk a.1) (a.1.2.1.drop (b + 1))) (c := a.1.2.1.getD b 0) (M := moP a.1.1.length (wBt a.1) (wTk a.1) (a.1.2.1.drop b) (woT a.1 b)) (t := woT a.1 b) W.1.1.1 with ⟨-, e⟩ | ⟨k, hk, e, -⟩
    · rw [e]; exact woT_lt W b
    · rw [e]; exact (or_n (woT_lt W b) (wBt_lt W.1 hk)).2
theorem c_d114 (W : wfA a) (R : RepC a s) (H : HgR a.1 a.1.1.length s) (M : MoR a.1 0 s) : Gl (GV fun s' => RepC a s' ∧ MoR a.1 0 s' ∧ ∀ i, i < a.1.2.1.length → (gA s' 96).getD i 0 = woV a.1 i) (X10_dress_114 (d + 2) s 91 3 0 0) := by
  have h6 := W.1.2.1.1
  have h8 := W.1.1.1
  refine lpG (fun b s1 => X10_dress_114 (d + 2) s1 91 3 ((woT a.1 b : Nat) : Int) ((b : Nat) : Int)) (fun b s1 => RepC a s1 ∧ HgR a.1 a.1.1.length s1 ∧ MoR a.1 0 s1 ∧ ∀ i, i < b → (gA s1 96).getD i 0 = woV a.1 i) a.1.2.1.length ?_ ?_ 0 s (by omega) ⟨R, H, M, fun i hi => by omega⟩
  · intro T b s1 hb ⟨r, h, m, e⟩ hT
    have hs := r.1
    obtain ⟨k91, f0, k92, l92, f1, k93, l93, f2, k94, l94, f3, k95, l95, f4, k96, l96⟩ := hs.o91
    have n3 : gF s1 3 3 = (a.1.2.1.length : Int) := r.2.1.2.2.1.1
    rw [e_X10_dress_114, rF_ok hs.o3.1, n3, if_pos (by omega), rF_ok k91, f4, oK_ok k91, c_first r W h m hb (woT_lt W b), cI_ok]
    show Gl T (wA s1 96 20 b (woV a.1 b) _)
    rw [wA_ok k96 (by omega) (by rw [l96]; omega), Int.toNat_natCast]
    have r2 : RepC a (sA s1 96 ((gA s1 96).set b (woV a.1 b))) := wrR r W (by decide) (by rw [List.length_set])
    have h2 : HgR a.1 a.1.1.length (sA s1 96 ((gA s1 96).set b (woV a.1 b))) := fun i hi => by
      rw [gA_ne (by decide), gA_ne (by decide), gA_ne (by decide)]
      exact h i hi
    have m2 : MoR a.1 0 (sA s1 96 ((gA s1 96).set b (woV a.1 b))) := fun i q1 q2 u hu => by
      rw [gA_ne (by decide)]
      exact m i q1 q2 u hu
    have e2 : ∀ i, i < b + 1 → (gA (sA s1 96 ((gA s1 96).set b (woV a.1 b))) 96).getD i 0 = woV a.1 i := fun i hi => by
      rw [gA_eq, setD_getD (by rw [l96]; omega)]
      by_cases q : b = i
      · rw [if_pos q, q]
      · rw [if_neg q]; exact e i (by omega)
    have nx := hT _ ⟨r2, h2, m2, e2⟩
    have v96 := e2 b (by omega)
    generalize sA s1 96 ((gA s1 96).set b (woV a.1 b)) = S at *
    have hsS := r2.1
    clear k91 f0 k92 l92 f1 k93 l93 f2 k94 l94 f3 k95 l95 f4 k96 l96
    obtain ⟨k91, f0, k92, l92, f1, k93, l93, f2, k94, l94, f3, k95, l95, f4, k96, l96⟩ := hsS.o91
    rw [rF_ok k91, f4, rA_ok k96 (by omega) (by rw [l96]; omega), Int.toNat_natCast, v96, wi_sc (by omega)]
    have o := fi_lt (K := a.1.1.length) (bt := wBt a.1) (tk := wTk a.1) (g := moP a.1.1.length (wBt a.1) (wTk a.1) (a.1.2.1.drop (b + 1))) (c := a.1.2.1.getD b 0) (M := moP a.1.1.length (wBt a.1) (wTk a.1) (a.1.2.1.drop b) (woT a.1 b)) (t := woT a.1 b) h8
    have w : woT a.1 (b + 1) = fiT (wBt a.1) (fiO a.1.1.length (wBt a.1) (wTk a.1) (moP a.1.1.length (wBt a.1) (wTk a.1) (a.1.2.1.drop (b + 1))) (a.1.2.1.getD b 0) (woT a.1 b) (moP a.1.1.length (wBt a.1) (wTk a.1) (a.1.2.1.drop b) (woT a.1 b))) (woT a.1 b) := rfl
    rcases o with ⟨o1, o2⟩ | ⟨k, hk, o2, o1⟩
    · have o1' : woV a.1 b = 100 := o1
      rw [o2] at w
      have w' : woT a.1 (b + 1) = woT a.1 b := w
      have := (or_n (y := 0) (woT_lt W b) (by decide)).1
      rw [Nat.or_zero] at this
      have this' : orI ((woT a.1 b : Nat) : Int) 0 = ((woT a.1 b : Nat) : Int) := this
      rw [if_pos o1', this', ← w']
      exact nx
    · have o1' : woV a.1 b = (k : Int) := o1
      rw [o2] at w
      have w' : woT a.1 (b + 1) = woT a.1 b ||| wBt a.1 k := w
      obtain ⟨-, -, g94⟩ := h2 k hk
      rw [if_neg (by omega), rF_ok k91, f2, rF_ok k91, f4, rA_ok k96 (by omega) (by rw [l96]; omega), Int.toNat_natCast, v96, o1', rA_ok k94 (by omega) (by rw [l94]; omega), Int.toNat_natCast, g94, (or_n (woT_lt W b) (wBt_lt W.1 hk)).1, ← w']
      exact nx
  · intro s1 ⟨r, h, m, e⟩
    have hs := r.1
    have n3 : gF s1 3 3 = (a.1.2.1.length : Int) := r.2.1.2.2.1.1
    rw [e_X10_dress_114, rF_ok hs.o3.1, n3, if_neg (by omega)]
    exact reV ⟨r, m, e⟩
theorem c_dress (R : RepC a s) (W : wfA a) : Gl (GV fun s' => RepC a s' ∧ MoR a.1 0 s' ∧ ∀ i, i < a.1.2.1.length → (gA s' 96).getD i 0 = woV a.1 i) (X10_dress (d + 5) s 91 3 31) := by
  have h8 := W.1.1.1
  rw [e_X10_dress]
  refine lpG (fun k s1 => X10_dress_2 (d + 5) s1 91 3 31 ((k : Nat) : Int)) (fun k s1 => RepC a s1 ∧ HgR a.1 k s1) a.1.1.length ?_ ?_ 0 s (by omega) ⟨R, fun i hi => by omega⟩
  · intro T k s1 hk ⟨r, h⟩ hT
    have hs := r.1
    have n1 : gF s1 3 1 = (a.1.1.length : Int) := r.2.1.2.1.1
    rw [e_X10_dress_2, rF_ok hs.o3.1, n1, if_pos (by omega), oK_ok hs.o91.1]
    refine biV (c_hang (d := d) r W hk h) fun s2 _ ⟨q1, q2, q3⟩ => ?_
    rw [wi_sc (by omega)]
    exact hT s2 ⟨q1, q3⟩
  · intro s1 ⟨r, h⟩
    have hs := r.1
    have n1 : gF s1 3 1 = (a.1.1.length : Int) := r.2.1.2.1.1
    rw [e_X10_dress_2, rF_ok hs.o3.1, n1, if_neg (by omega)]
    exact c_d25 r W h fun s2 r2 h2 m2 => c_d61 (d := d + 3) W (fun s3 r3 h3 m3 => c_d114 W r3 h3 m3) a.1.2.1.length s2 (Nat.le_refl _) r2 h2 m2
theorem cc_wear {what : Int} (R : RepC a s) (W : wfA a) : Gl (GI fun x s' => x = aWear a.1 what ∧ RepC a s') (X11_wear (d + 6) s 1 what) := by
  have hs := R.1
  have h6 := W.1.2.1.1
  have n3 : gF s 3 3 = (a.1.2.1.length : Int) := R.2.1.2.2.1.1
  have f12 : gF s 1 2 = 3 := hs.2.2.1 (1, 2, 3) (by decide)
  have f14 : gF s 1 4 = 31 := hs.2.2.1 (1, 4, 31) (by decide)
  have f110 : gF s 1 10 = 91 := hs.2.2.1 (1, 10, 91) (by decide)
  rw [e_X11_wear]
  unfold aWear
  by_cases h0 : what < 0
  · rw [if_pos h0, if_neg (by omega)]; exact reI ⟨rfl, R⟩
  rw [if_neg h0, rF_ok hs.o1.1, f12, rF_ok hs.o3.1, n3]
  by_cases h1 : (a.1.2.1.length : Int) < what
  · rw [if_pos h1, if_neg (by omega)]; exact reI ⟨rfl, R⟩
  rw [if_neg h1, if_pos (show 0 ≤ what ∧ what ≤ (a.1.2.1.length : Int) by omega), rF_ok hs.o1.1, f110, rF_ok hs.o1.1, f12, rF_ok hs.o1.1, f14, oK_ok hs.o91.1]
  refine biV (c_dress (d := d) R W) fun s2 _ ⟨r, m, e⟩ => ?_
  have hs2 := r.1
  obtain ⟨k91, f0, k92, l92, f1, k93, l93, f2, k94, l94, f3, k95, l95, f4, k96, l96⟩ := hs2.o91
  have f110 : gF s2 1 10 = 91 := hs2.2.2.1 (1, 10, 91) (by decide)
  by_cases hw : what = 0
  · rw [if_pos hw, if_pos hw, rF_ok hs2.o1.1, f110, oK_ok k91, e_X10_dressed, rF_ok k91, f3, rA_ok k95 (by decide) (by rw [l95]; decide), cI_ok]
    exact reI ⟨m 0 (by omega) (by omega) 0 (by decide), r⟩
  · rw [if_neg hw, if_neg hw, rF_ok hs2.o1.1, f110, rF_ok k91, f4, wi_sm (by omega) (by omega), rA_ok k96 (by omega) (by rw [l96]; omega)]
    refine reI ⟨?_, r⟩
    rw [e _ (by omega)]
    have := woP_at (D := a.1) a.1.2.1.length 0 (what - 1).toNat (by omega) (by omega)
    rw [List.drop_zero, Nat.zero_add] at this
    exact this.symm
end CWG
