/-! ===== the class keeps a script ===== -/
section CKP
variable {s S s' : St} {n : Int} {d : Nat} {T : List Nat} {L : List (List Int)} {F : Nat → Int} {c : Int}
theorem InD.kd (h : InD s S n T L F c) : kd S n = kd s n := by rw [h.2.2.1, if_neg (by omega)]
theorem c_scInit {a b : Nat} (hn : 0 < n) (hk : kd s n = 11) (hx : nx s = n + 1) (ha : a ≤ 1000) (hb : b ≤ 1000) : ∃ s', X7_init d s n a b = some ([], s') ∧ InD s s' n [20, 20, 20, 20, 20, 20, 20, 20] [List.replicate a 0, List.replicate a 0, List.replicate b 0, List.replicate b 0, List.replicate b 0, List.replicate b 0, List.replicate b 0, List.replicate b 0] (upF (upF (upF (upF (upF (upF (upF (upF (upF (upF (fun j => gF s n j) 2 0) 3 0) 0 (n + 1)) 1 (n + 2)) 4 (n + 3)) 5 (n + 4)) 6 (n + 5)) 7 (n + 6)) 8 (n + 7)) 9 (n + 8)) (2 * a + 6 * b) := by
  have I0 : InD s s n [] [] (fun j => gF s n j) 0 := ⟨by rw [hx]; simp, rfl, fun q => by rw [if_neg (by simp)], fun q => by rw [if_neg (by simp)], fun _ _ _ => rfl, fun _ => rfl, by omega⟩
  have J0 := (I0.f (f := 2) (v := 0)).f (f := 3) (v := 0)
  have J1 := J0.a (t := 20) (k := a) (f := 0)
  have J2 := J1.a (t := 20) (k := a) (f := 1)
  have J3 := J2.a (t := 20) (k := b) (f := 4)
  have J4 := J3.a (t := 20) (k := b) (f := 5)
  have J5 := J4.a (t := 20) (k := b) (f := 6)
  have J6 := J5.a (t := 20) (k := b) (f := 7)
  have J7 := J6.a (t := 20) (k := b) (f := 8)
  have J8 := J7.a (t := 20) (k := b) (f := 9)
  have ne : ∀ {S T L F c}, InD s S n T L F c → n ≠ nx S := fun h => by rw [h.1]; omega
  have kk : ∀ {S T L F c}, InD s S n T L F c → kd S n = 11 := fun h => h.kd.trans hk
  rw [e_X7_init, if_neg (by omega), wF_ok hk, wF_ok (kk (I0.f (f := 2) (v := 0)))]
  rw [al_ok (kk J0) (by omega) (by omega) (ne J0), Int.toNat_natCast, al_ok (kk J1) (by omega) (by omega) (ne J1), Int.toNat_natCast, al_ok (kk J2) (by omega) (by omega) (ne J2), Int.toNat_natCast, al_ok (kk J3) (by omega) (by omega) (ne J3), Int.toNat_natCast, al_ok (kk J4) (by omega) (by omega) (ne J4), Int.toNat_natCast, al_ok (kk J5) (by omega) (by omega) (ne J5), Int.toNat_natCast, al_ok (kk J6) (by omega) (by omega) (ne J6), Int.toNat_natCast, al_ok (kk J7) (by omega) (by omega) (ne J7), Int.toNat_natCast]
  refine ⟨_, rfl, ?_⟩
  have e : ∀ k : Nat, n + 1 + ((k : Nat) : Int) = n + ((k + 1 : Nat) : Int) := fun k => by omega
  obtain ⟨q1, q2, q3, q4, q5, q6, q7⟩ := J8
  refine ⟨q1, q2, q3, q4, q5, fun j => ?_, ?_⟩
  · rw [q6]
    have z1 : n + 1 + (([] : List Nat).length : Int) = n + 1 := by simp
    have z2 : n + 1 + ((([] : List Nat) ++ [20]).length : Int) = n + 2 := by simp; omega
    have z3 : n + 1 + ((([] : List Nat) ++ [20] ++ [20]).length : Int) = n + 3 := by simp; omega
    have z4 : n + 1 + ((([] : List Nat) ++ [20] ++ [20] ++ [20]).length : Int) = n + 4 := by simp; omega
    have z5 : n + 1 + ((([] : List Nat) ++ [20] ++ [20] ++ [20] ++ [20]).length : Int) = n + 5 := by simp; omega
    have z6 : n + 1 + ((([] : List Nat) ++ [20] ++ [20] ++ [20] ++ [20] ++ [20]).length : Int) = n + 6 := by simp; omega
    have z7 : n + 1 + ((([] : List Nat) ++ [20] ++ [20] ++ [20] ++ [20] ++ [20] ++ [20]).length : Int) = n + 7 := by simp; omega
    have z8 : n + 1 + ((([] : List Nat) ++ [20] ++ [20] ++ [20] ++ [20] ++ [20] ++ [20] ++ [20]).length : Int) = n + 8 := by simp; omega
    rw [z1, z2, z3, z4, z5, z6, z7, z8]
  · rw [q7]; omega
theorem cpL_take {f g : List Int} {k : Nat} (hf : k ≤ f.length) (hg : g.length = k) : cpL f 0 g 0 k = f.take k := by
  unfold cpL
  rw [List.take_zero, List.drop_zero, Nat.zero_add, List.nil_append, List.drop_eq_nil_of_le (by omega), List.append_nil]
theorem gd_take {f : List Int} {k j : Nat} (h : j < k) : (f.take k).getD j 0 = f.getD j 0 := by
  rw [List.getD_eq_getElem?_getD, List.getD_eq_getElem?_getD, List.getElem?_take, if_pos h]
/-- m rows of the draft at 63 are copied to the script at n -/
def CpI (S : St) (n : Int) (A B m : Nat) (Y : St) : Prop := (∀ p, kd Y p = kd S p) ∧ (∀ p k, p ≠ n → gF Y p k = gF S p k) ∧ (∀ k, k ≠ 2 → k ≠ 3 → gF Y n k = gF S n k) ∧ (∀ i : Nat, i < 8 → gA Y (n + 1 + (i : Int)) = if i < m then (gA S (64 + (i : Int))).take (if i < 2 then A else B) else gA S (n + 1 + (i : Int))) ∧ (∀ x, ¬ (n + 1 ≤ x ∧ x ≤ n + 8) → gA Y x = gA S x) ∧ nx Y = nx S ∧ sl Y = sl S
theorem CpI.st {A B m f g : Nat} {Y : St} (I : CpI S n A B m Y) (hm : m < 8) (n98 : 98 ≤ n) (k63 : kd S 63 = 11) (kn : kd S n = 11) (f63 : gF S 63 f = 64 + (m : Int)) (fn : gF S n f = n + 1 + (m : Int)) (ff : f ≠ 2 ∧ f ≠ 3) (fg : gF S 63 g = ((if m < 2 then A else B : Nat) : Int)) (ka : kd S (64 + (m : Int)) = 20) (kb : kd S (n + 1 + (m : Int)) = 20) (la : (if m < 2 then A else B) ≤ (gA S (64 + (m : Int))).length) (lb : (gA S (n + 1 + (m : Int))).length = (if m < 2 then A else B)) : ∃ Y', (∀ K : St → Res, (rF Y 63 11 f fun x => rF Y n 11 f fun y => rF Y 63 11 g fun z => aC Y x 0 y 0 z K) = K Y') ∧ CpI S n A B (m + 1) Y' ∧ ∀ k, gF Y' n k = gF Y n k := by
  obtain ⟨j1, j2, j3, j4, j5, j6, j7⟩ := I
  have ga : gA Y (64 + (m : Int)) = gA S (64 + (m : Int)) := j5 _ (by omega)
  have gb : gA Y (n + 1 + (m : Int)) = gA S (n + 1 + (m : Int)) := by rw [j4 m hm, if_neg (by omega)]
  generalize hz : (if m < 2 then A else B) = z at *
  refine ⟨sA Y (n + 1 + (m : Int)) ((gA S (64 + (m : Int))).take z), ?_, ⟨j1, j2, j3, fun i hi => ?_, fun x hx => ?_, j6, j7⟩, fun _ => rfl⟩
  · intro K
    rw [rF_ok ((j1 63).trans k63), j2 63 f (by omega), f63, rF_ok ((j1 n).trans kn), j3 f ff.1 ff.2, fn, rF_ok ((j1 63).trans k63), j2 63 g (by omega), fg, aC_ok ((j1 _).trans ka) ((j1 _).trans kb) (by decide) (by decide) (by omega) (by rw [ga]; omega) (by rw [gb, lb]; omega), ga, gb, Int.toNat_natCast]
    rw [show Int.toNat 0 = 0 from rfl, cpL_take la lb]
  · by_cases e : i = m
    · rw [e, gA_eq, if_pos (by omega), hz]
    · rw [gA_ne (by omega), j4 i hi]
      by_cases e2 : i < m
      · rw [if_pos e2, if_pos (show i < m + 1 by omega)]
      · rw [if_neg e2, if_neg (show ¬ (i < m + 1) by omega)]
  · rw [gA_ne (by omega)]; exact j5 x hx
theorem CpI.w {A B m k : Nat} {Y : St} {v : Int} (I : CpI S n A B m Y) (hk : k = 2 ∨ k = 3) : CpI S n A B m (sF Y n k v) := by
  obtain ⟨j1, j2, j3, j4, j5, j6, j7⟩ := I
  exact ⟨j1, fun p j hp => (gF_np hp).trans (j2 p j hp), fun j h2 h3 => (gF_nk (by omega)).trans (j3 j h2 h3), j4, j5, j6, j7⟩
set_option maxHeartbeats 4000000 in
theorem c_kept {cls : List Cl} (hs : ShC s) (R : ScR s 63 cls) (hn : n = nx s) : ∃ s', X7_kept (d + 1) s 63 = some ([(1, n)], s') ∧ ScR s' n cls ∧ nx s' = n + 9 ∧ sl s' = sl s + (10 + 2 * (call cls).length + 6 * cls.length) ∧ ∀ p, ¬ (n ≤ p ∧ p ≤ n + 8) → Sm s s' p := by
  have n98 : 98 ≤ n := by rw [hn]; exact hs.2.2.2.2
  obtain ⟨⟨n0, m0, -, -, hm0, hm1⟩, f3, f2, sg, en⟩ := id R
  have l64 : (gA s 64).length = 256 := hs.2.1 64 (by decide) (by decide)
  have hsz : (call cls).length ≤ 256 := by have := sg.1; rw [show (63 : Int) + 1 = 64 by decide, l64] at this; omega
  have hcl : cls.length ≤ 12 := by omega
  generalize hA : (call cls).length = A at *
  generalize hB : cls.length = B at *
  have kO : kd (nO s 7 10) n = 11 := by rw [kd_nO, if_pos hn]
  have xO : nx (nO s 7 10) = n + 1 := by rw [nx_nO, hn]
  obtain ⟨S, e1, I⟩ := c_scInit (d := d) (a := A) (b := B) (by omega) kO xO (by omega) (by omega)
  obtain ⟨i1, -, i3, i4, i5, i6, i7⟩ := I
  have hl8 : ((([20, 20, 20, 20, 20, 20, 20, 20] : List Nat).length : Nat) : Int) = 8 := rfl
  simp only [hl8] at i1 i3 i4
  -- the old cells
  have out : ∀ p, ¬ (n ≤ p ∧ p ≤ n + 8) → Sm s S p := fun p hp => by
    refine ⟨?_, fun k => ?_, ?_⟩
    · rw [i3, if_neg (by omega), kd_nO, if_neg (by omega)]
    · rw [i5 p k (by omega), gF_nO, if_neg (by omega)]
    · rw [i4, if_neg (by omega), gA_nO]
  have old : ∀ p, p < n → Sm s S p := fun p hp => out p (by omega)
  have kd63 : kd S 63 = 11 := (old 63 (by omega)).1.trans hs.o63.1
  have kdn : kd S n = 11 := by rw [i3, if_neg (by omega)]; exact kO
  have fo : ∀ k, gF S 63 k = gF s 63 k := (old 63 (by omega)).2.1
  have ko : ∀ x : Int, 64 ≤ x → x ≤ 71 → kd S x = 20 ∧ gA S x = gA s x := fun x h1 h2 => by
    have := old x (by omega)
    refine ⟨this.1.trans ?_, this.2.2⟩
    have hx : x = 64 ∨ x = 65 ∨ x = 66 ∨ x = 67 ∨ x = 68 ∨ x = 69 ∨ x = 70 ∨ x = 71 := by omega
    rcases hx with rfl | rfl | rfl | rfl | rfl | rfl | rfl | rfl <;> exact hs.1 _ (by decide) (by decide)
  have lo : ∀ x : Int, 66 ≤ x → x ≤ 71 → (gA S x).length = 12 := fun x h1 h2 => by
    rw [(ko x (by omega) h2).2]
    have hx : x = 66 ∨ x = 67 ∨ x = 68 ∨ x = 69 ∨ x = 70 ∨ x = 71 := by omega
    rcases hx with rfl | rfl | rfl | rfl | rfl | rfl <;> exact hs.2.1 _ (by decide) (by decide)
  have kn : ∀ (i : Nat) (x : Int), i < 8 → x = n + 1 + i → kd S x = 20 ∧ gA S x = ([List.replicate A 0, List.replicate A 0, List.replicate B 0, List.replicate B 0, List.replicate B 0, List.replicate B 0, List.replicate B 0, List.replicate B 0] : List (List Int)).getD i [] := fun i x hi hx => by
    rw [i3, i4, if_pos (by omega), if_pos (by omega), show (x - n - 1).toNat = i by omega]
    have : i = 0 ∨ i = 1 ∨ i = 2 ∨ i = 3 ∨ i = 4 ∨ i = 5 ∨ i = 6 ∨ i = 7 := by omega
    rcases this with rfl | rfl | rfl | rfl | rfl | rfl | rfl | rfl <;> exact ⟨rfl, rfl⟩
  have f63 : gF S 63 0 = 64 ∧ gF S 63 1 = 65 ∧ gF S 63 4 = 66 ∧ gF S 63 5 = 67 ∧ gF S 63 6 = 68 ∧ gF S 63 7 = 69 ∧ gF S 63 8 = 70 ∧ gF S 63 9 = 71 := ⟨(fo 0).trans (hs.2.2.1 (63, 0, 64) (by decide)), (fo 1).trans (hs.2.2.1 (63, 1, 65) (by decide)), (fo 4).trans (hs.2.2.1 (63, 4, 66) (by decide)), (fo 5).trans (hs.2.2.1 (63, 5, 67) (by decide)), (fo 6).trans (hs.2.2.1 (63, 6, 68) (by decide)), (fo 7).trans (hs.2.2.1 (63, 7, 69) (by decide)), (fo 8).trans (hs.2.2.1 (63, 8, 70) (by decide)), (fo 9).trans (hs.2.2.1 (63, 9, 71) (by decide))⟩
  have fn : gF S n 0 = n + 1 ∧ gF S n 1 = n + 2 ∧ gF S n 4 = n + 3 ∧ gF S n 5 = n + 4 ∧ gF S n 6 = n + 5 ∧ gF S n 7 = n + 6 ∧ gF S n 8 = n + 7 ∧ gF S n 9 = n + 8 := ⟨by rw [i6]; rfl, by rw [i6]; rfl, by rw [i6]; rfl, by rw [i6]; rfl, by rw [i6]; rfl, by rw [i6]; rfl, by rw [i6]; rfl, by rw [i6]; rfl⟩
  have f2S : gF S 63 2 = A := (fo 2).trans f2
  have f3S : gF S 63 3 = B := (fo 3).trans f3
  have f2O : gF (nO s 7 10) 63 2 = A := by rw [gF_nO, if_neg (by omega)]; exact f2
  have f3O : gF (nO s 7 10) 63 3 = B := by rw [gF_nO, if_neg (by omega)]; exact f3
  have k63O : kd (nO s 7 10) 63 = 11 := by rw [kd_nO, if_neg (by omega)]; exact hs.o63.1
  have lA : ∀ k : Nat, (List.replicate k (0 : Int)).length = k := fun k => List.length_replicate
  clear i3 i4 i5 i6 kO xO
  have C0 : CpI S n A B 0 S := ⟨fun _ => rfl, fun _ _ _ => rfl, fun _ _ _ => rfl, fun i hi => by rw [if_neg (by omega)], fun _ _ => rfl, rfl, rfl⟩
  have a64 : A ≤ (gA S 64).length := by rw [(ko 64 (by decide) (by decide)).2, l64]; exact hsz
  have l65 : (gA s 65).length = 256 := hs.2.1 65 (by decide) (by decide)
  have a65 : A ≤ (gA S 65).length := by rw [(ko 65 (by decide) (by decide)).2, l65]; exact hsz
  have bl : ∀ x : Int, 66 ≤ x → x ≤ 71 → B ≤ (gA S x).length := fun x h1 h2 => by rw [lo x h1 h2]; exact hcl
  have q0 := kn 0 (n + 1 + ((0 : Nat) : Int)) (by decide) rfl
  have q1 := kn 1 (n + 1 + ((1 : Nat) : Int)) (by decide) rfl
  have q2 := kn 2 (n + 1 + ((2 : Nat) : Int)) (by decide) rfl
  have q3 := kn 3 (n + 1 + ((3 : Nat) : Int)) (by decide) rfl
  have q4 := kn 4 (n + 1 + ((4 : Nat) : Int)) (by decide) rfl
  have q5 := kn 5 (n + 1 + ((5 : Nat) : Int)) (by decide) rfl
  have q6 := kn 6 (n + 1 + ((6 : Nat) : Int)) (by decide) rfl
  have q7 := kn 7 (n + 1 + ((7 : Nat) : Int)) (by decide) rfl
  have z : ∀ j k : Int, j + 1 = k → n + 1 + j = n + k := fun j k h => by omega
  rw [e_X7_kept]
  unfold mO
  dsimp only
  rw [← hn, rF_ok k63O, f2O, rF_ok k63O, f3O, oK_ok (by rw [kd_nO, if_pos hn]), e1, cV_ok]
  obtain ⟨Y1, w1, C1, v1⟩ := C0.st (f := 0) (g := 2) (by decide) n98 kd63 kdn f63.1 (fn.1.trans (z 0 1 (by decide)).symm) (by decide) f2S (ko 64 (by decide) (by decide)).1 q0.1 a64 (by rw [q0.2]; exact lA A)
  obtain ⟨Y2, w2, C2, v2⟩ := C1.st (f := 1) (g := 2) (by decide) n98 kd63 kdn f63.2.1 (fn.2.1.trans (z 1 2 (by decide)).symm) (by decide) f2S (ko 65 (by decide) (by decide)).1 q1.1 a65 (by rw [q1.2]; exact lA A)
  rw [w1, w2, rF_ok ((C2.1 63).trans kd63), C2.2.1 63 2 (by omega), f2S, wF_ok ((C2.1 n).trans kdn)]
  have C2' := C2.w (k := 2) (v := (A : Int)) (Or.inl rfl)
  have g2 : gF (sF Y2 n 2 (A : Int)) n 2 = A := gF_eq _ _ _ _
  generalize sF Y2 n 2 (A : Int) = Z at *
  obtain ⟨Y3, w3, C3, v3⟩ := C2'.st (f := 4) (g := 3) (by decide) n98 kd63 kdn f63.2.2.1 (fn.2.2.1.trans (z 2 3 (by decide)).symm) (by decide) f3S (ko 66 (by decide) (by decide)).1 q2.1 (bl 66 (by decide) (by decide)) (by rw [q2.2]; exact lA B)
  obtain ⟨Y4, w4, C4, v4⟩ := C3.st (f := 5) (g := 3) (by decide) n98 kd63 kdn f63.2.2.2.1 (fn.2.2.2.1.trans (z 3 4 (by decide)).symm) (by decide) f3S (ko 67 (by decide) (by decide)).1 q3.1 (bl 67 (by decide) (by decide)) (by rw [q3.2]; exact lA B)
  obtain ⟨Y5, w5, C5, v5⟩ := C4.st (f := 6) (g := 3) (by decide) n98 kd63 kdn f63.2.2.2.2.1 (fn.2.2.2.2.1.trans (z 4 5 (by decide)).symm) (by decide) f3S (ko 68 (by decide) (by decide)).1 q4.1 (bl 68 (by decide) (by decide)) (by rw [q4.2]; exact lA B)
  obtain ⟨Y6, w6, C6, v6⟩ := C5.st (f := 7) (g := 3) (by decide) n98 kd63 kdn f63.2.2.2.2.2.1 (fn.2.2.2.2.2.1.trans (z 5 6 (by decide)).symm) (by decide) f3S (ko 69 (by decide) (by decide)).1 q5.1 (bl 69 (by decide) (by decide)) (by rw [q5.2]; exact lA B)
  obtain ⟨Y7, w7, C7, v7⟩ := C6.st (f := 8) (g := 3) (by decide) n98 kd63 kdn f63.2.2.2.2.2.2.1 (fn.2.2.2.2.2.2.1.trans (z 6 7 (by decide)).symm) (by decide) f3S (ko 70 (by decide) (by decide)).1 q6.1 (bl 70 (by decide) (by decide)) (by rw [q6.2]; exact lA B)
  obtain ⟨Y8, w8, C8, v8⟩ := C7.st (f := 9) (g := 3) (by decide) n98 kd63 kdn f63.2.2.2.2.2.2.2 (fn.2.2.2.2.2.2.2.trans (z 7 8 (by decide)).symm) (by decide) f3S (ko 71 (by decide) (by decide)).1 q7.1 (bl 71 (by decide) (by decide)) (by rw [q7.2]; exact lA B)
  rw [w3, w4, w5, w6, w7, w8, rF_ok ((C8.1 63).trans kd63), C8.2.1 63 3 (by omega), f3S, wF_ok ((C8.1 n).trans kdn)]
  have pv2 : gF Y8 n 2 = gF Z n 2 := by rw [v8, v7, v6, v5, v4, v3]
  have C9 := C8.w (k := 3) (v := (B : Int)) (Or.inr rfl)
  have g3 : gF (sF Y8 n 3 (B : Int)) n 3 = B := gF_eq _ _ _ _
  have g2' : gF (sF Y8 n 3 (B : Int)) n 2 = A := (gF_nk (by decide)).trans (pv2.trans g2)
  have xW : nx (sF Y8 n 3 (B : Int)) = n + 9 := by rw [C9.2.2.2.2.2.1, i1]; omega
  have sW : sl (sF Y8 n 3 (B : Int)) = sl s + (10 + 2 * A + 6 * B) := by rw [C9.2.2.2.2.2.2, i7, sl_nO]; omega
  generalize sF Y8 n 3 (B : Int) = X at *
  clear w1 w2 w3 w4 w5 w6 w7 w8 v1 v2 v3 v4 v5 v6 v7 v8 C1 C2 C3 C4 C5 C6 C7 C8 C2' C0 pv2 g2 q0 q1 q2 q3 q4 q5 q6 q7 e1 i1 i7
  obtain ⟨c1, c2, c3, c4, c5, -, -⟩ := C9
  have arr : ∀ (i : Nat) (x y : Int), i < 8 → x = n + 1 + (i : Int) → y = 64 + (i : Int) → gA X x = (gA s y).take (if i < 2 then A else B) := fun i x y hi hx hy => by
    rw [hx, c4 i hi, if_pos hi, (ko (64 + (i : Int)) (by omega) (by omega)).2, hy]
  have r1 := arr 0 (n + 1) 64 (by decide) (by omega) (by decide)
  have r2 := arr 1 (n + 2) 65 (by decide) (by omega) (by decide)
  have r3 := arr 2 (n + 3) 66 (by decide) (by omega) (by decide)
  have r4 := arr 3 (n + 4) 67 (by decide) (by omega) (by decide)
  have r5 := arr 4 (n + 5) 68 (by decide) (by omega) (by decide)
  have r6 := arr 5 (n + 6) 69 (by decide) (by omega) (by decide)
  have r7 := arr 6 (n + 7) 70 (by decide) (by omega) (by decide)
  have r8 := arr 7 (n + 8) 71 (by decide) (by omega) (by decide)
  simp only [show (0 : Nat) < 2 from by decide, show (1 : Nat) < 2 from by decide, show ¬ ((2 : Nat) < 2) from by decide, show ¬ ((3 : Nat) < 2) from by decide, show ¬ ((4 : Nat) < 2) from by decide, show ¬ ((5 : Nat) < 2) from by decide, show ¬ ((6 : Nat) < 2) from by decide, show ¬ ((7 : Nat) < 2) from by decide, if_true, if_false] at r1 r2 r3 r4 r5 r6 r7 r8
  have lt : ∀ x : Int, 66 ≤ x → x ≤ 71 → ((gA s x).take B).length = B := fun x h1 h2 => by
    rw [List.length_take, ← (ko x (by omega) h2).2, lo x h1 h2]
    omega
  have la1 : ((gA s 64).take A).length = A := by rw [List.length_take, l64]; omega
  have la2 : ((gA s 65).take A).length = A := by rw [List.length_take, l65]; omega
  refine ⟨_, rfl, ⟨⟨A, B, ⟨(c1 n).trans kdn, ⟨(c3 0 (by decide) (by decide)).trans fn.1, (c3 1 (by decide) (by decide)).trans fn.2.1, (c3 4 (by decide) (by decide)).trans fn.2.2.1, (c3 5 (by decide) (by decide)).trans fn.2.2.2.1, (c3 6 (by decide) (by decide)).trans fn.2.2.2.2.1, (c3 7 (by decide) (by decide)).trans fn.2.2.2.2.2.1, (c3 8 (by decide) (by decide)).trans fn.2.2.2.2.2.2.1, (c3 9 (by decide) (by decide)).trans fn.2.2.2.2.2.2.2⟩, fun i h1 h2 => ?_, ⟨by rw [r1]; exact la1, by rw [r2]; exact la2⟩, fun i h1 h2 => ?_⟩, hsz, hcl, by omega⟩, by rw [g3, hB], by rw [g2', hA], ⟨?_, fun i hi => ?_⟩, fun i hi => ?_⟩, xW, sW, fun p hp => ?_⟩
  · have := (kn (i - 1).toNat (n + i) (by omega) (by omega)).1
    exact (c1 _).trans this
  · have hx : i = 3 ∨ i = 4 ∨ i = 5 ∨ i = 6 ∨ i = 7 ∨ i = 8 := by omega
    rcases hx with rfl | rfl | rfl | rfl | rfl | rfl
    · rw [r3]; exact lt 66 (by decide) (by decide)
    · rw [r4]; exact lt 67 (by decide) (by decide)
    · rw [r5]; exact lt 68 (by decide) (by decide)
    · rw [r6]; exact lt 69 (by decide) (by decide)
    · rw [r7]; exact lt 70 (by decide) (by decide)
    · rw [r8]; exact lt 71 (by decide) (by decide)
  · rw [r1, la1, hA]; omega
  · rw [hA] at hi
    have := sg.2 i (by rw [hA]; exact hi)
    rw [r1, r2, gd_take (by omega), gd_take (by omega)]
    exact this
  · rw [hB] at hi
    have := en i hi
    rw [r3, r4, r5, r6, r7, r8, gd_take hi, gd_take hi, gd_take hi, gd_take hi, gd_take hi, gd_take hi]
    exact this
  · obtain ⟨o1, o2, o3⟩ := out p hp
    exact ⟨(c1 p).trans o1, fun k => (c2 p k (by omega)).trans (o2 k), (c5 p (by omega)).trans o3⟩
end CKP
