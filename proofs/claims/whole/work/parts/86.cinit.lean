/-! ===== the class: a new drawer with its knots ===== -/
section CIK
variable {s S s' : St} {n : Int} {d : Nat}
def NkI (S : St) (n : Int) (i : Nat) (s : St) : Prop := nx s = n + 11 + 2 * i ∧ sl s = sl S + 18 * i ∧ (∀ p, ¬ (n + 11 ≤ p ∧ p < n + 11 + 2 * i) → kd s p = kd S p ∧ (∀ k, gF s p k = gF S p k) ∧ (p ≠ n + 1 → gA s p = gA S p)) ∧ ((gA s (n + 1)).length = 8 ∧ ∀ j, j < i → (gA s (n + 1)).getD j 0 = n + 11 + 2 * (j : Int)) ∧ ∀ j, j < i → kd s (n + 11 + 2 * (j : Int)) = 7 ∧ gF s (n + 11 + 2 * (j : Int)) 5 = n + 12 + 2 * (j : Int) ∧ kd s (n + 12 + 2 * (j : Int)) = 20 ∧ (gA s (n + 12 + 2 * (j : Int))).length = 12
theorem c_nk {T : Res → Prop} {i : Nat} (hn : 0 < n) (P : PrD s S n) (hi : i < 8) (I : NkI S n i s') (hT : ∀ s2, NkI S n (i + 1) s2 → Gl T (X0_init_91 (d + 1) s2 n (i + 1 : Nat))) : Gl T (X0_init_91 (d + 1) s' n i) := by
  obtain ⟨-, -, ⟨k0, k1, -⟩, ⟨f0, -⟩, -, -, -⟩ := P
  obtain ⟨i1, i2, i3, ⟨i4, i5⟩, i6⟩ := I
  have kn : kd s' n = 4 := ((i3 n (by omega)).1).trans k0
  have kn1 : kd s' (n + 1) = 24 := ((i3 (n + 1) (by omega)).1).trans k1
  have fn : gF s' n 0 = n + 1 := ((i3 n (by omega)).2.1 0).trans f0
  obtain ⟨p, hp⟩ : ∃ p : Int, p = n + 11 + 2 * (i : Int) := ⟨_, rfl⟩
  have kO : kd (nO s' 3 6) p = 7 := by rw [kd_nO, if_pos (by omega)]
  have xO : nx (nO s' 3 6) = p + 1 := by rw [nx_nO]; omega
  obtain ⟨s4, y1, y2, y3, y4, y5, y6, y7, -⟩ := c_kInit (d := d) (by omega) kO xO
  rw [e_X0_init_91, if_pos (by omega), rF_ok kn, fn]
  unfold mO
  dsimp only
  rw [i1, ← hp, oK_ok kO, y1, cV_ok]
  have k7 : kd s4 p = 7 := by rw [y4, if_neg (by omega)]; exact kO
  have k24 : kd s4 (n + 1) = 24 := by rw [y4, if_neg (by omega), kd_nO, if_neg (by omega)]; exact kn1
  have a1 : gA s4 (n + 1) = gA s' (n + 1) := by rw [y6, if_neg (by omega), gA_nO]
  rw [rk_ok k7, wA_ok k24 (by omega) (by rw [a1, i4]; omega), wi_sm (by omega) (by omega), show ((i : Int) + 1) = ((i + 1 : Nat) : Int) by omega, Int.toNat_natCast, a1]
  have o : ∀ q, q ≠ p → q ≠ p + 1 → kd s4 q = kd s' q ∧ (∀ k, gF s4 q k = gF s' q k) ∧ gA s4 q = gA s' q := by
    intro q h1 h2
    refine ⟨by rw [y4, if_neg h2, kd_nO, if_neg (by omega)], fun k => by rw [y5 q k h1, gF_nO, if_neg (by omega)], by rw [y6, if_neg h2, gA_nO]⟩
  refine hT _ ⟨?_, ?_, fun q hq => ⟨?_, fun k => ?_, fun h => ?_⟩, ⟨?_, fun j hj => ?_⟩, fun j hj => ?_⟩
  · rw [nx_sA, y2]; omega
  · rw [sl_sA, y3, sl_nO, i2]; omega
  · rw [kd_sA, (o q (by omega) (by omega)).1]; exact (i3 q (by omega)).1
  · rw [gF_sA, (o q (by omega) (by omega)).2.1]; exact (i3 q (by omega)).2.1 k
  · rw [gA_ne h, (o q (by omega) (by omega)).2.2]; exact (i3 q (by omega)).2.2 h
  · rw [gA_eq, List.length_set]; exact i4
  · rw [gA_eq, setD_getD (by omega)]
    by_cases e : i = j
    · rw [if_pos e, hp, e]
    · rw [if_neg e]; exact i5 j (by omega)
  · by_cases e : j = i
    · rw [e, show n + 12 + 2 * (i : Int) = p + 1 by omega, ← hp]
      refine ⟨k7, by rw [gF_sA]; exact y7, by rw [kd_sA, y4, if_pos rfl], ?_⟩
      rw [gA_ne (by omega), y6, if_pos rfl]
      simp
    · obtain ⟨g1, g2, g3, g4⟩ := i6 j (by omega)
      have o1 := o (n + 11 + 2 * (j : Int)) (by omega) (by omega)
      have o2 := o (n + 12 + 2 * (j : Int)) (by omega) (by omega)
      refine ⟨by rw [kd_sA, o1.1]; exact g1, by rw [gF_sA, o1.2.1]; exact g2, by rw [kd_sA, o2.1]; exact g3, ?_⟩
      rw [gA_ne (by omega), o2.2.2]; exact g4
/-- what a new drawer is -/
def NwD (s s' : St) (n : Int) : Prop := ShD s' n ∧ (gF s' n 1 = 0 ∧ gF s' n 3 = 0 ∧ gF s' n 6 = 0 ∧ gF s' n 9 = 0 ∧ gF s' n 10 = -1 ∧ gF s' (n + 7) 0 = 0 ∧ gA s' (n + 5) = [0, 3, 2]) ∧ nx s' = n + 27 ∧ sl s' = sl s + 243 ∧ ∀ p, ¬ (n ≤ p ∧ p ≤ n + 26) → kd s' p = kd s p ∧ (∀ k, gF s' p k = gF s p k) ∧ gA s' p = gA s p
theorem out10 {p : Int} (h : ¬ (n ≤ p ∧ p ≤ n + 26)) : ¬ (n ≤ p ∧ p ≤ n + 10) := by omega
theorem out8 {p : Int} (h : ¬ (n ≤ p ∧ p ≤ n + 26)) : ¬ (n + 11 ≤ p ∧ p < n + 11 + 2 * ((8 : Nat) : Int)) := by omega
theorem out1 {p : Int} (h : ¬ (n ≤ p ∧ p ≤ n + 26)) : p ≠ n + 1 ∧ p ≠ n + 5 := by omega
theorem ins8 {p : Int} (h1 : n ≤ p) (h2 : p ≤ n + 10) : ¬ (n + 11 ≤ p ∧ p < n + 11 + 2 * ((8 : Nat) : Int)) := by omega
theorem le_k (k : Nat) (hk : k ≤ 10) : n ≤ n + (k : Int) ∧ n + (k : Int) ≤ n + 10 := by omega
theorem ne_k (j k : Int) (h : j ≠ k) : n + j ≠ n + k := by omega
/-- cells of the drawer ahead of its knots stay -/
theorem NkI.in (I : NkI S n 8 s) (k : Nat) (hk : k ≤ 10) : kd s (n + (k : Int)) = kd S (n + (k : Int)) ∧ (∀ j, gF s (n + (k : Int)) j = gF S (n + (k : Int)) j) ∧ (k ≠ 1 → gA s (n + (k : Int)) = gA S (n + (k : Int))) := by
  obtain ⟨h1, h2⟩ := le_k (n := n) k hk
  have h := I.2.2.1 (n + (k : Int)) (ins8 h1 h2)
  exact ⟨h.1, h.2.1, fun e => h.2.2 (ne_k _ _ (by omega))⟩
theorem c_dInit (hn : 0 < n) (hk : kd s n = 4) (hx : nx s = n + 1) : Gl (GV fun s' => NwD s s' n) (X0_init (d + 1) s n) := by
  refine c_dInit1 hn hk hx fun S P => ?_
  have p1 := P.1
  have a1 := P.2.2.2.2.2.1.1
  refine lpG (fun i s1 => X0_init_91 (d + 1) s1 n i) (fun i s1 => NkI S n i s1) 8 ?_ ?_ 0 S (by omega) ⟨by rw [p1]; simp, by simp, fun p _ => ⟨rfl, fun _ => rfl, fun _ => rfl⟩, ⟨by rw [a1]; simp, fun j hj => by omega⟩, fun j hj => by omega⟩
  · intro T i s1 hi I hT
    exact c_nk hn P hi I hT
  · intro s1 I
    have out : ∀ p, ¬ (n ≤ p ∧ p ≤ n + 26) → kd s1 p = kd s p ∧ (∀ k, gF s1 p k = gF s p k) ∧ gA s1 p = gA s p := fun p hp =>
      ⟨(I.2.2.1 p (out8 hp)).1.trans (P.2.2.2.2.2.2 p (out10 hp)).1, fun k => ((I.2.2.1 p (out8 hp)).2.1 k).trans ((P.2.2.2.2.2.2 p (out10 hp)).2.1 k), ((I.2.2.1 p (out8 hp)).2.2 (out1 hp).1).trans (P.2.2.2.2.2.2 p (out10 hp)).2.2⟩
    have e1 : gA s1 (n + 1) = kRow n := by
      refine list_ext0 (by rw [I.2.2.2.1.1]; rfl) fun i hi => ?_
      rw [I.2.2.2.1.1] at hi
      rw [I.2.2.2.1.2 i hi]
      have : i = 0 ∨ i = 1 ∨ i = 2 ∨ i = 3 ∨ i = 4 ∨ i = 5 ∨ i = 6 ∨ i = 7 := by omega
      rcases this with rfl | rfl | rfl | rfl | rfl | rfl | rfl | rfl <;> (show _ = n + _; omega)
    have x1 : nx s1 = n + 27 := by rw [I.1]; omega
    have x2 : sl s1 = sl s + 243 := by rw [I.2.1, P.2.1]; omega
    have kns := I.2.2.2.2
    have at0 := I.in 0 (by decide)
    have at2 := I.in 2 (by decide)
    have at3 := I.in 3 (by decide)
    have at4 := I.in 4 (by decide)
    have at5 := I.in 5 (by decide)
    have at6 := I.in 6 (by decide)
    have at7 := I.in 7 (by decide)
    have at8 := I.in 8 (by decide)
    have at9 := I.in 9 (by decide)
    have at10 := I.in 10 (by decide)
    have kat1 := (I.in 1 (by decide)).1
    rw [show n + ((0 : Nat) : Int) = n from Int.add_zero n] at at0
    change _ ∧ _ ∧ (_ → gA s1 (n + 2) = gA S (n + 2)) at at2
    clear I
    obtain ⟨-, -, ⟨k0, k1, k2, k3, k4, k5, k6, k7, k8, k9, k10⟩, ⟨f0, f1, f2, f3, f4, f5, f6, f7, f8, f9, f10, f11⟩, ⟨g0, g1, g2, g3⟩, ⟨-, a2, a3, a4, a5, a6, a8, a9, a10⟩, -⟩ := P
    have kn : kd s1 n = 4 := at0.1.trans k0
    have kn5 : kd s1 (n + 5) = 20 := at5.1.trans k5
    have fn7 : gF s1 n 7 = n + 5 := (at0.2.1 7).trans f7
    have an5 : gA s1 (n + 5) = [0, 0, 0] := (at5.2.2 (by decide)).trans a5
    have l5 : (gA s1 (n + 5)).length = 3 := by rw [an5]; rfl
    rw [e_X0_init_91, if_neg (by decide), rF_ok kn, fn7, wA_ok kn5 (by decide) (by rw [l5]; decide), rF_ok (show kd (sA s1 (n + 5) ((gA s1 (n + 5)).set (Int.toNat 1) 3)) n = 4 from kn), gF_sA, fn7, wA_ok (show kd (sA s1 (n + 5) ((gA s1 (n + 5)).set (Int.toNat 1) 3)) (n + 5) = 20 from kn5) (by decide) (by rw [gA_eq, List.length_set, l5]; decide), gA_eq]
    have e5 : ((gA s1 (n + 5)).set (1 : Int).toNat 3).set (2 : Int).toNat 2 = [0, 3, 2] := by rw [an5]; rfl
    rw [e5]
    generalize hX : sA (sA s1 (n + 5) ((gA s1 (n + 5)).set (1 : Int).toNat 3)) (n + 5) [0, 3, 2] = X
    have kX : ∀ p, kd X p = kd s1 p := fun p => by rw [← hX]; rfl
    have fX : ∀ p k, gF X p k = gF s1 p k := fun p k => by rw [← hX]; rfl
    have aX : ∀ p, p ≠ n + 5 → gA X p = gA s1 p := fun p h => by rw [← hX, gA_ne h, gA_ne h]
    have a5X : gA X (n + 5) = [0, 3, 2] := by rw [← hX, gA_eq]
    have x1' : nx X = n + 27 := by rw [← hX]; exact x1
    have x2' : sl X = sl s + 243 := by rw [← hX]; exact x2
    clear hX
    refine reV ⟨⟨(kX n).trans kn, ⟨(fX _ _).trans ((at0.2.1 0).trans f0), (fX _ _).trans ((at0.2.1 2).trans f2), (fX _ _).trans ((at0.2.1 4).trans f4), (fX _ _).trans ((at0.2.1 5).trans f5), (fX _ _).trans ((at0.2.1 7).trans f7), (fX _ _).trans ((at0.2.1 8).trans f8), (fX _ _).trans ((at0.2.1 11).trans f11)⟩, ⟨(kX _).trans (kat1.trans k1), (aX _ (ne_k 1 5 (by decide))).trans e1⟩, ⟨(kX _).trans (at2.1.trans k2), ?_⟩, ⟨(kX _).trans (at3.1.trans k3), ?_⟩, ⟨(kX _).trans (at4.1.trans k4), ?_⟩, ⟨(kX _).trans kn5, by rw [a5X]; rfl⟩, ⟨(kX _).trans (at6.1.trans k6), ?_⟩, ⟨(kX _).trans (at7.1.trans k7), (fX _ _).trans ((at7.2.1 1).trans g1), (fX _ _).trans ((at7.2.1 2).trans g2), (fX _ _).trans ((at7.2.1 3).trans g3)⟩, fun i h1 h2 => ?_, fun i h1 h2 => ?_⟩, ⟨(fX _ _).trans ((at0.2.1 1).trans f1), (fX _ _).trans ((at0.2.1 3).trans f3), (fX _ _).trans ((at0.2.1 6).trans f6), (fX _ _).trans ((at0.2.1 9).trans f9), (fX _ _).trans ((at0.2.1 10).trans f10), (fX _ _).trans ((at7.2.1 0).trans g0), a5X⟩, x1', x2', fun p hp => ?_⟩
    · rw [aX _ (ne_k 2 5 (by decide)), show gA s1 (n + 2) = _ from (at2.2.2 (by decide)).trans a2]; rfl
    · rw [aX _ (ne_k 3 5 (by decide)), show gA s1 (n + 3) = _ from (at3.2.2 (by decide)).trans a3]; rfl
    · rw [aX _ (ne_k 4 5 (by decide)), show gA s1 (n + 4) = _ from (at4.2.2 (by decide)).trans a4]; rfl
    · rw [aX _ (ne_k 6 5 (by decide)), show gA s1 (n + 6) = _ from (at6.2.2 (by decide)).trans a6]; rfl
    · clear at0 at2 at3 at4 at5 at6 at7 f0 f1 f2 f3 f4 f5 f6 f7 f8 f9 f10 f11 g0 g1 g2 g3 fn7 kn kn5 k0 k1 k2 k3 k4 k5 k6 k7 x1 x2 x1' x2'
      have : i = 8 ∨ i = 9 ∨ i = 10 := by omega
      rcases this with rfl | rfl | rfl
      · exact ⟨(kX _).trans (at8.1.trans k8), by rw [aX _ (ne_k 8 5 (by decide)), show gA s1 (n + 8) = _ from (at8.2.2 (by decide)).trans a8]; rfl⟩
      · exact ⟨(kX _).trans (at9.1.trans k9), by rw [aX _ (ne_k 9 5 (by decide)), show gA s1 (n + 9) = _ from (at9.2.2 (by decide)).trans a9]; rfl⟩
      · exact ⟨(kX _).trans (at10.1.trans k10), by rw [aX _ (ne_k 10 5 (by decide)), show gA s1 (n + 10) = _ from (at10.2.2 (by decide)).trans a10]; rfl⟩
    · clear at0 at2 at3 at4 at5 at6 at7 at8 at9 at10 f0 f1 f2 f3 f4 f5 f6 f7 f8 f9 f10 f11 g0 g1 g2 g3 fn7 kn kn5 k0 k1 k2 k3 k4 k5 k6 k7 k8 k9 k10 x1 x2 x1' x2'
      obtain ⟨j, rfl⟩ := Int.eq_ofNat_of_zero_le h1
      obtain ⟨b1, b2, b3, b4⟩ := kns j (by omega)
      exact ⟨(kX _).trans b1, (fX _ _).trans b2, (kX _).trans b3, by rw [aX _ (by omega)]; exact b4⟩
    · exact ⟨(kX p).trans (out p hp).1, fun k => (fX p k).trans ((out p hp).2.1 k), (aX p (out1 hp).2).trans (out p hp).2.2⟩
end CIK
