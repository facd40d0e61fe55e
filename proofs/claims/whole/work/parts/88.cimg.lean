/-! ===== the class: image ===== -/
section CJG
variable {s s' : St} {a : Ab} {d : Nat} {dr : Dr} {D E : Int}
/-- the same at p -/
def Sm (s s' : St) (p : Int) : Prop := kd s' p = kd s p ∧ (∀ k, gF s' p k = gF s p k) ∧ gA s' p = gA s p
theorem DrC.gen (R : DrC s E dr) (W : wfDr dr) (o : ∀ p, E ≤ p → p ≤ E + 26 → Sm s s' p) (os : ∀ l cls, 98 ≤ l → ScR s l cls → ScR s' l cls) : DrC s' E dr := by
  obtain ⟨h1, ⟨k1, k2⟩, ⟨b1, b2⟩, ⟨s1, s2⟩, t1, ⟨l1, l2⟩, f1⟩ := R
  have h8 := W.1.1
  have oE := (o E (by omega) (by omega)).2.1
  refine ⟨h1.fr (fun p a b => (o p a b).1) (fun p j a b _ => (o p a b).2.1 j) (o _ (by omega) (by omega)).2.2 (fun p a b => by rw [(o p a b).2.2]), ⟨(oE 1).trans k1, fun i hi => ?_⟩, ⟨(oE 3).trans b1, fun i hi => ?_⟩, ⟨(oE 6).trans s1, fun i hi => ?_⟩, (o _ (by omega) (by omega)).2.2.trans t1, ⟨(oE 9).trans l1, fun t ht => ?_⟩, (oE 10).trans f1⟩
  · exact (k2 i hi).fr ⟨(o _ (by omega) (by omega)).1, (o _ (by omega) (by omega)).1⟩ (fun j _ => (o _ (by omega) (by omega)).2.1 j) (o _ (by omega) (by omega)).2.2
  · unfold af; rw [(o _ (by omega) (by omega)).2.2]; exact b2 i hi
  · unfold af; rw [(o (E + 3) (by omega) (by omega)).2.2, (o (E + 4) (by omega) (by omega)).2.2]; exact s2 i hi
  · have e : af s' (E + 6) t = af s (E + 6) t := by unfold af; rw [(o (E + 6) (by omega) (by omega)).2.2]
    rw [e]
    exact ⟨(l2 t ht).1, os _ _ (l2 t ht).1 (l2 t ht).2⟩
theorem LwP.gen {p : Int} {cls : List Cl} (h : LwP s p cls) (os : ∀ l cls, 98 ≤ l → ScR s l cls → ScR s' l cls) : LwP s' p cls := by
  rcases h with h | ⟨h1, h2, h3⟩
  · exact Or.inl h
  · exact Or.inr ⟨h1, os _ _ h1 h2, h3⟩
theorem PgC.gen (h : PgC s) (o : ∀ p, 78 ≤ p → p ≤ 86 → Sm s s' p) (os : ∀ l cls, 98 ≤ l → ScR s l cls → ScR s' l cls) : PgC s' := by
  have f := (o 78 (by decide) (by decide)).2.1
  have ar : ∀ p, 78 ≤ p → p ≤ 86 → gA s' p = gA s p := fun p a b => (o p a b).2.2
  rcases h with h | ⟨c, m, t, hm, ht, p1, p2, p3, p4, p5⟩
  · exact Or.inl ((f 2).trans h)
  · refine Or.inr ⟨c, m, t, hm, ht, (f 2).trans p1, (f 3).trans p2, by rw [f 1]; exact p3.gen os, fun st hst => ?_, fun n n1 n2 => ?_⟩
    · rw [ar 82 (by decide) (by decide)]
      rcases p4 st hst with g | ⟨g, g2⟩
      · exact Or.inl g
      · refine Or.inr ⟨g, fun x hx hv hne => ?_⟩
        rw [ar 79 (by decide) (by decide), ar 80 (by decide) (by decide), ar 81 (by decide) (by decide)]
        exact g2 x hx hv hne
    · rw [ar 83 (by decide) (by decide)]
      rcases p5 n n1 n2 with g | ⟨g1, g2, g3⟩
      · exact Or.inl g
      · refine Or.inr ⟨g1, by rw [ar 83 (by decide) (by decide)]; exact g2, fun i hi => ?_⟩
        rw [ar 84 (by decide) (by decide), ar 85 (by decide) (by decide), ar 86 (by decide) (by decide)]
        exact g3 i hi
theorem PgW.gen (h : PgW s) (o : ∀ p, 76 ≤ p → p ≤ 86 → Sm s s' p) (os : ∀ l cls, 98 ≤ l → ScR s l cls → ScR s' l cls) : PgW s' := ⟨h.1.gen (fun p a b => o p (by omega) b) os, by
  unfold WbC
  rw [(o 76 (by decide) (by decide)).2.2]
  exact h.2⟩
theorem LgC.gen {L : Int} {H : Hi} {K : List Kn} (h : LgC s L H K) (o : ∀ p, L ≤ p → p ≤ L + 3 → Sm s s' p) : LgC s' L H K := by
  refine ⟨((o L (by omega) (by omega)).2.1 0).trans h.1, fun i hi => ?_⟩
  unfold af
  rw [(o (L + 1) (by omega) (by omega)).2.2, (o (L + 2) (by omega) (by omega)).2.2, (o (L + 3) (by omega) (by omega)).2.2]
  exact h.2 i hi
theorem HdC.gen {o' : Option (Int × Int × List Int)} (h : HdC s o') (o : Sm s s' 89 ∧ Sm s s' 90) : HdC s' o' := by
  match o', h with
  | none, h => exact (o.1.2.1 1).trans h
  | some x, h =>
    refine ⟨(o.1.2.1 1).trans h.1, (o.1.2.1 3).trans h.2.1, (o.1.2.1 4).trans h.2.2.1, fun k hk => ?_⟩
    unfold af
    rw [o.2.2.2]
    exact h.2.2.2 k hk
/-- all below 98 but the row of images, and all scripts, are the same -/
theorem RepC.gen {o' : Option Dr × Option Dr} (R : RepC a s) (W : wfA a) (hs' : ShC s') (o : ∀ p, 0 < p → p < 98 → p ≠ 30 → Sm s s' p) (os : ∀ l cls, 98 ≤ l → ScR s l cls → ScR s' l cls) (hI : IsC s' o') : RepC (a.1, o', a.2.2) s' := by
  obtain ⟨r1, r2, r3, r4, ⟨t1, t2⟩, ⟨f1, f2, f3, f4⟩, r7, r8, r9⟩ := R
  refine ⟨hs', r2.gen W.1 (fun p a b => o p (by omega) (by omega) (by omega)) os, hI, r4.gen (fun p a b => o p (by omega) (by omega) (by omega)), ⟨((o 1 (by decide) (by decide) (by decide)).2.1 1).trans t1, fun i hi => ?_⟩, ⟨((o 1 (by decide) (by decide) (by decide)).2.1 12).trans f1, ((o 1 (by decide) (by decide) (by decide)).2.1 14).trans f2, ((o 1 (by decide) (by decide) (by decide)).2.1 13).trans f3, ((o 75 (by decide) (by decide) (by decide)).2.1 3).trans f4⟩, (o 97 (by decide) (by decide) (by decide)).2.2.trans r7, r8.gen ⟨o 89 (by decide) (by decide) (by decide), o 90 (by decide) (by decide) (by decide)⟩, r9.gen (fun p a b => o p (by omega) (by omega) (by omega)) os⟩
  unfold af
  rw [(o 2 (by decide) (by decide) (by decide)).2.2]
  exact t2 i hi
theorem ShD.dis (h : ShD s D) (g : ShD s E) (hne : D ≠ E) : D + 26 < E ∨ E + 26 < D := by
  have no : ∀ A B : Int, ShD s A → ShD s B → A < B → B ≤ A + 26 → False := by
    intro A B hA hB h1 h2
    have kB := hB.1
    obtain ⟨k0, -, ⟨k1, -⟩, ⟨k2, -⟩, ⟨k3, -⟩, ⟨k4, -⟩, ⟨k5, -⟩, ⟨k6, -⟩, ⟨k7, -⟩, hx, hy⟩ := hA
    by_cases e : B ≤ A + 10
    · have : B = A + 1 ∨ B = A + 2 ∨ B = A + 3 ∨ B = A + 4 ∨ B = A + 5 ∨ B = A + 6 ∨ B = A + 7 ∨ B = A + 8 ∨ B = A + 9 ∨ B = A + 10 := by omega
      rcases this with rfl | rfl | rfl | rfl | rfl | rfl | rfl | rfl | rfl | rfl
      · rw [k1] at kB; exact absurd kB (by decide)
      · rw [k2] at kB; exact absurd kB (by decide)
      · rw [k3] at kB; exact absurd kB (by decide)
      · rw [k4] at kB; exact absurd kB (by decide)
      · rw [k5] at kB; exact absurd kB (by decide)
      · rw [k6] at kB; exact absurd kB (by decide)
      · rw [k7] at kB; exact absurd kB (by decide)
      · rw [(hx 8 (by decide) (by decide)).1] at kB; exact absurd kB (by decide)
      · rw [(hx 9 (by decide) (by decide)).1] at kB; exact absurd kB (by decide)
      · rw [(hx 10 (by decide) (by decide)).1] at kB; exact absurd kB (by decide)
    · have hi := hy ((B - A - 11) / 2) (by omega) (by omega)
      by_cases e2 : (B - A - 11) % 2 = 0
      · have e3 : B = A + 11 + 2 * ((B - A - 11) / 2) := by omega
        rw [e3, hi.1] at kB; exact absurd kB (by decide)
      · have e3 : B = A + 12 + 2 * ((B - A - 11) / 2) := by omega
        rw [e3, hi.2.2.1] at kB; exact absurd kB (by decide)
  by_cases e : D < E
  · by_cases e2 : E ≤ D + 26
    · exact absurd (no D E h g e e2) id
    · omega
  · by_cases e2 : D ≤ E + 26
    · exact absurd (no E D g h (by omega) e2) id
    · omega
theorem c_img2 {k : Int} {p : Int} (R : RepC a s) (W : wfA a) (hk : 0 ≤ k ∧ k ≤ 1) (hp : (gA s 30).getD k.toNat 0 = p) (h0 : p ≠ 0) : Gl (GV fun s' => RepC (setIm a k) s' ∧ (∀ q, kd s' q = kd s q) ∧ nx s' = nx s ∧ sl s' = sl s) (X0_copyFrom (d + 1) s p 3) := by
  have hs := R.1
  obtain ⟨m1, m2, m3⟩ := R.2.2.1
  obtain ⟨n1, n2⟩ := W.2.1
  have im : ∃ Dp, DrC s p Dp ∧ 98 ≤ p := by
    have h : k = 0 ∨ k = 1 := by omega
    rcases h with rfl | rfl
    · rcases m1 with ⟨q1, -⟩ | ⟨q1, D, -, q3⟩
      · exact absurd (hp.symm.trans q1) h0
      · exact ⟨D, by rw [← hp]; exact q3, by rw [← hp]; exact q1⟩
    · rcases m2 with ⟨q1, -⟩ | ⟨q1, D, -, q3⟩
      · exact absurd (hp.symm.trans q1) h0
      · exact ⟨D, by rw [← hp]; exact q3, by rw [← hp]; exact q1⟩
  obtain ⟨Dp, d1, h98⟩ := im
  refine wkV (c_copyFrom (d := d) (D := p) (E := 3) d1.1 R.2.1 W.1 (Or.inr (by omega))) fun s1 hev ⟨e1, e2, e3⟩ => ?_
  have hs1 : ShC s1 := hs.ev hev rfl
  have pv := ev_pv hev rfl
  refine ⟨?_, e1.1, pv.2.1, pv.2.2.1⟩
  have os : ∀ l cls, 98 ≤ l → ScR s l cls → ScR s1 l cls := fun l cls _ h => h.cp d1.1 e1
  have sm : ∀ q, q < 98 → Sm s s1 q := fun q hq => ⟨e1.1 q, (e1.2 q (by omega)).1, (e1.2 q (by omega)).2⟩
  have a30 : gA s1 30 = gA s 30 := (sm 30 (by decide)).2.2
  -- the other image
  have ot : ∀ (p' : Int) (o : Option Dr), wfIm o → p' ≠ p → ImC s p' o → ImC s1 p' o := by
    intro p' o wo hne h
    rcases h with h | ⟨g1, D, g2, g3⟩
    · exact Or.inl h
    · refine Or.inr ⟨g1, D, g2, g3.cp (wo D g2) d1.1 e1 (d1.1.dis g3.1 (fun e => hne e.symm))⟩
  have me : ImC s1 p (some a.1) := Or.inr ⟨h98, a.1, rfl, e2⟩
  refine R.gen W hs1 (fun q _ hq _ => sm q hq) os ?_
  have h : k = 0 ∨ k = 1 := by omega
  have b0 : af s 30 0 = (gA s 30).getD 0 0 := rfl
  have b1 : af s 30 1 = (gA s 30).getD 1 0 := rfl
  unfold IsC af
  rw [a30]
  rcases h with rfl | rfl
  · have hp' : (gA s 30).getD 0 0 = p := hp
    rw [if_pos rfl, hp']
    rw [b0, b1, hp'] at m3
    exact ⟨me, ot _ _ n2 (by omega) m2, m3⟩
  · have hp' : (gA s 30).getD 1 0 = p := hp
    rw [if_neg (by decide), hp']
    rw [b0, b1, hp'] at m3
    refine ⟨?_, me, m3⟩
    rcases m3 with m3 | m3
    · rcases m1 with ⟨q1, q2⟩ | ⟨q1, -⟩
      · exact Or.inl ⟨q1, q2⟩
      · rw [b0] at q1; omega
    · exact ot _ _ n1 m3 m1
end CJG
