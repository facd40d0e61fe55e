/-! ===== all that the class keeps ===== -/
theorem ShD.kin {s : St} {D : Int} (h : ShD s D) (q : Int) (h1 : D ≤ q) (h2 : q ≤ D + 26) : kd s q ∈ [4, 24, 20, 26, 13, 7] := by
  obtain ⟨k0, -, ⟨k1, -⟩, ⟨k2, -⟩, ⟨k3, -⟩, ⟨k4, -⟩, ⟨k5, -⟩, ⟨k6, -⟩, ⟨k7, -⟩, hx, hy⟩ := h
  by_cases e : q ≤ D + 10
  · have : q = D ∨ q = D + 1 ∨ q = D + 2 ∨ q = D + 3 ∨ q = D + 4 ∨ q = D + 5 ∨ q = D + 6 ∨ q = D + 7 ∨ q = D + 8 ∨ q = D + 9 ∨ q = D + 10 := by omega
    rcases this with rfl | rfl | rfl | rfl | rfl | rfl | rfl | rfl | rfl | rfl | rfl
    · rw [k0]; decide
    · rw [k1]; decide
    · rw [k2]; decide
    · rw [k3]; decide
    · rw [k4]; decide
    · rw [k5]; decide
    · rw [k6]; decide
    · rw [k7]; decide
    · rw [(hx 8 (by decide) (by decide)).1]; decide
    · rw [(hx 9 (by decide) (by decide)).1]; decide
    · rw [(hx 10 (by decide) (by decide)).1]; decide
  · have hi := hy ((q - D - 11) / 2) (by omega) (by omega)
    by_cases e2 : (q - D - 11) % 2 = 0
    · have : q = D + 11 + 2 * ((q - D - 11) / 2) := by omega
      rw [this, hi.1]; decide
    · have : q = D + 12 + 2 * ((q - D - 11) / 2) := by omega
      rw [this, hi.2.2.1]; decide
/-- fields of kinds Ks, of P, and the rows A alone have changed -/
def FrK (Ks : List Nat) (P A : List Int) (s s' : St) : Prop := (∀ p, kd s' p = kd s p) ∧ (∀ p k, p ∉ P → kd s p ∉ Ks → k < 100 → gF s' p k = gF s p k) ∧ Fa A s s'
section FK
variable {Ks Ls : List Nat} {P Q A B : List Int} {s s' s'' : St}
theorem FrK.rf (Ks : List Nat) (P A : List Int) (s : St) : FrK Ks P A s s := ⟨fun _ => rfl, fun _ _ _ _ _ => rfl, Fa.rf _ _⟩
theorem FrK.tr (h : FrK Ks P A s s') (g : FrK Ks P A s' s'') : FrK Ks P A s s'' := ⟨fun p => (g.1 p).trans (h.1 p), fun p k hq hp hk => (g.2.1 p k hq (by rw [h.1]; exact hp) hk).trans (h.2.1 p k hq hp hk), h.2.2.tr g.2.2⟩
theorem all_in {α : Type} [BEq α] [LawfulBEq α] {l m : List α} (h : l.all (fun x => m.any fun y => y == x) = true) {x : α} (hx : x ∈ l) : x ∈ m := by
  obtain ⟨y, hy, e⟩ := List.any_eq_true.mp (List.all_eq_true.mp h _ hx)
  rw [beq_iff_eq] at e
  exact e ▸ hy
theorem FrK.mono (h : FrK Ks P A s s') (hk : Ks.all (fun x => Ls.any fun y => y == x) = true) (hq : P.all (fun x => Q.any fun y => y == x) = true) (ha : A.all (fun x => B.any fun y => y == x) = true) : FrK Ls Q B s s' := ⟨h.1, fun p k hp hl hr => h.2.1 p k (fun hm => hp (all_in hq hm)) (fun hm => hl (all_in hk hm)) hr, h.2.2.mono ha⟩
theorem FrP.k (h : FrP s s') : FrK [6, 8] [] [32, 33, 79, 80, 81, 82, 83, 84, 85, 86, 87, 88] s s' := ⟨h.1, fun p k _ hp hk => h.2.1 p k (fun e => hp (by rw [e]; decide)) (fun e => hp (by rw [e]; decide)) hk, h.2.2⟩
theorem FrX.k (h : FrX A s s') : FrK [6] [] A s s' := ⟨h.1, fun p k _ hp hk => h.2.1 p k (fun e => hp (by rw [e]; decide)) hk, h.2.2⟩
theorem JR.k (h : JR s s') : FrK [6] [] [32, 33] s s' := ⟨h.1, fun p k _ hp hk => h.2.1 p k (fun e => hp (by rw [e]; decide)) hk, h.2.2.1⟩
theorem FrW.k (h : FrW A s s') : FrK [6] [78] A s s' := ⟨h.1, fun p k hq hp hk => h.2.1 p k (fun e => hp (by rw [e]; decide)) hk (fun e => hq (by rw [e.1]; decide)), h.2.2⟩
theorem FrK.sF {p : Int} {k : Nat} {v : Int} (h : p ∈ P) : FrK Ks P A s (sF s p k v) := ⟨fun _ => rfl, fun q j hq _ _ => gF_np (fun e => hq (e ▸ h)), fun _ _ => rfl⟩
theorem FrK.sA {p : Int} (l : List Int) (h : p ∈ A) : FrK Ks P A s (sA s p l) := ⟨fun _ => rfl, fun _ _ _ _ _ => rfl, Fa.sA l h⟩
theorem ScR.k {l : Int} {cls : List Cl} (h : ScR s l cls) (F : FrK Ks P A s s') (hK : 11 ∉ Ks) (hl : 98 ≤ l) (hA : ∀ x ∈ P ++ A, x < 98) : ScR s' l cls := by
  have k11 : kd s l = 11 := by obtain ⟨⟨n, m, hsc, -⟩, -⟩ := h; exact hsc.1
  exact h.fr (fun p _ _ => F.1 p) (fun k hk => F.2.1 l k (fun hm => by have := hA l (List.mem_append_left _ hm); omega) (by rw [k11]; exact hK) hk) (fun p q1 _ => F.2.2 p fun hm => by have := hA p (List.mem_append_right _ hm); omega)
theorem LwP.k {p : Int} {cls : List Cl} (h : LwP s p cls) (F : FrK Ks P A s s') (hK : 11 ∉ Ks) (hA : ∀ x ∈ P ++ A, x < 98) : LwP s' p cls := by
  rcases h with h | ⟨h1, h2, h3⟩
  · exact Or.inl h
  · exact Or.inr ⟨h1, h2.k F hK h1 hA, h3⟩
theorem DrC.k {D : Int} {dr : Dr} (R : DrC s D dr) (W : wfDr dr) (F : FrK Ks P A s s') (hK : ∀ x ∈ [4, 24, 20, 26, 13, 7, 11], x ∉ Ks) (hA : ∀ x ∈ P ++ A, x < 98 ∧ (x < D ∨ D + 26 < x)) : DrC s' D dr := by
  refine R.fr W (fun q _ => F.1 q) (fun q k hq hk => F.2.1 q k (fun hm => ?_) ?_ hk) (fun q hq => F.2.2 q fun hm => ?_)
  · have := hA q (List.mem_append_left _ hm)
    omega
  · rcases hq with ⟨q1, q2⟩ | ⟨-, q2⟩
    · refine hK _ ?_
      have := R.1.kin q q1 q2
      simp only [List.mem_cons, List.not_mem_nil, or_false] at this ⊢
      omega
    · rw [q2]; exact hK 11 (by decide)
  · have := hA q (List.mem_append_right _ hm)
    omega
theorem RtC.ar {cls : List Cl} {mood th : Int} {st c : Nat} (h : RtC cls mood th st c s) (F : Fa A s s') (hA : (79 : Int) ∉ A ∧ (80 : Int) ∉ A ∧ (81 : Int) ∉ A) : RtC cls mood th st c s' := by
  intro x hx hv hne
  rw [F 79 hA.1, F 80 hA.2.1, F 81 hA.2.2]
  exact h x hx hv hne
theorem PgR.k {cls : List Cl} {mood th : Int} (h : PgR cls mood th s) (F : FrK Ks P A s s') (hf : ∀ k, 1 ≤ k → k ≤ 3 → gF s' 78 k = gF s 78 k) (hK : 11 ∉ Ks) (hP : ∀ x ∈ P, x < 98) (hA : ∀ x ∈ A, x < 98 ∧ (x < 79 ∨ 86 < x)) : PgR cls mood th s' := by
  obtain ⟨p1, p2, p3, p4, p5⟩ := h
  have no : ∀ x : Int, 79 ≤ x → x ≤ 86 → x ∉ A := fun x h1 h2 hm => by have := hA x hm; omega
  refine ⟨by rw [hf 2 (by decide) (by decide)]; exact p1, by rw [hf 3 (by decide) (by decide)]; exact p2, by rw [hf 1 (by decide) (by decide)]; exact p3.k F hK (fun x hx => (List.mem_append.mp hx).elim (hP x) (fun h => (hA x h).1)), fun st hst => ?_, fun m m1 m2 => ?_⟩
  · rw [F.2.2 82 (no 82 (by decide) (by decide))]
    rcases p4 st hst with g | ⟨g, g2⟩
    · exact Or.inl g
    · exact Or.inr ⟨g, g2.ar F.2.2 ⟨no 79 (by decide) (by decide), no 80 (by decide) (by decide), no 81 (by decide) (by decide)⟩⟩
  · rcases p5 m m1 m2 with g | g
    · exact Or.inl (by rw [F.2.2 83 (no 83 (by decide) (by decide))]; exact g)
    · exact Or.inr (g.fx F.2.2 ⟨no 83 (by decide) (by decide), no 84 (by decide) (by decide), no 85 (by decide) (by decide), no 86 (by decide) (by decide)⟩)
theorem PgC.k (h : PgC s) (F : FrK Ks P A s s') (hf : ∀ k, 1 ≤ k → k ≤ 3 → gF s' 78 k = gF s 78 k) (hK : 11 ∉ Ks) (hP : ∀ x ∈ P, x < 98) (hA : ∀ x ∈ A, x < 98 ∧ (x < 79 ∨ 86 < x)) : PgC s' := by
  rcases h with h | ⟨c, m, t, hm, ht, R⟩
  · exact Or.inl (by rw [hf 2 (by decide) (by decide)]; exact h)
  · exact Or.inr ⟨c, m, t, hm, ht, R.k F hf hK hP hA⟩
/-- the paper is untouched -/
theorem PgC.k2 (h : PgC s) (k78 : kd s 78 = 8) (F : FrK Ks P A s s') (hK : 11 ∉ Ks ∧ 8 ∉ Ks) (hP : ∀ x ∈ P, x < 98 ∧ x ≠ 78) (hA : ∀ x ∈ A, x < 98 ∧ (x < 79 ∨ 86 < x)) : PgC s' := h.k F (fun k _ h2 => F.2.1 78 k (fun hm => (hP 78 hm).2 rfl) (by rw [k78]; exact hK.2) (by omega)) hK.1 (fun x hx => (hP x hx).1) hA
end FK
/-! a knot one move on or back -/
def knPop (k : Kn) : Kn := (k.1, k.2.1, k.2.2.1, k.2.2.2.1, k.2.2.2.2.dropLast)
def knPush (k : Kn) (p : Int) : Kn := (k.1, k.2.1, k.2.2.1, k.2.2.2.1, k.2.2.2.2 ++ [p])
def knThr (k : Kn) (v : Int) : Kn := (k.1, k.2.1, k.2.2.1, v, k.2.2.2.2)
def knMir (k : Kn) : Kn := (k.1, k.2.1, k.2.2.1, k.2.2.2.1, k.2.2.2.2.map mir)
def unKn (kind pl : Int) (k : Kn) : Kn := if kind = 0 then knPop k else if kind = 1 then knThr k 0 else if kind = 3 then knMir k else if pl = -1 then knThr k 1 else knPush k pl
def unK (kind q pl : Int) (K : List Kn) : List Kn := K.set q.toNat (unKn kind pl (K.getD q.toNat k0))
/-- the knots as they were behind the act i -/
def nxK (H : Hi) (K : List Kn) (i : Nat) : List Kn := if i < H.length then (H.getD i (0, [])).2 else K
/-- the undo log at L tells H of the knots K -/
def LgC (s : St) (L : Int) (H : Hi) (K : List Kn) : Prop := gF s L 0 = H.length ∧ ∀ i, i < H.length → af s (L + 1) i = (H.getD i (0, [])).1 ∧ (0 ≤ af s (L + 2) i ∧ af s (L + 2) i < K.length) ∧ (H.getD i (0, [])).2 = unK (af s (L + 1) i) (af s (L + 2) i) (af s (L + 3) i) (nxK H K (i + 1))
def ImC (s : St) (p : Int) (o : Option Dr) : Prop := (p = 0 ∧ o = none) ∨ (98 ≤ p ∧ ∃ D, o = some D ∧ DrC s p D)
def HdC (s : St) (o : Option (Int × Int × List Int)) : Prop := match o with
  | none => gF s 89 1 = 0
  | some h => gF s 89 1 = h.2.2.length ∧ gF s 89 3 = h.1 ∧ gF s 89 4 = h.2.1 ∧ ∀ k, k < h.2.2.length → af s 90 k = h.2.2.getD k 0
def TpC (s : St) (t : List Int) : Prop := gF s 1 1 = t.length ∧ ∀ i, i < t.length → af s 2 i = t.getD i 0
def FlC (s : St) (f : Int × Int × Int × Int) : Prop := gF s 1 12 = f.1 ∧ gF s 1 14 = f.2.1 ∧ gF s 1 13 = f.2.2.1 ∧ gF s 75 3 = f.2.2.2
def RfC (s : St) (r : Int × Int × Int × Int × Int) : Prop := gA s 97 = [r.1, r.2.1, r.2.2.1, r.2.2.2.1, r.2.2.2.2]
def IsC (s : St) (o : Option Dr × Option Dr) : Prop := ImC s (af s 30 0) o.1 ∧ ImC s (af s 30 1) o.2 ∧ (af s 30 0 = 0 ∨ af s 30 0 ≠ af s 30 1)
/-- the words of orders stay small -/
def WbC (s : St) : Prop := ∀ k, k < 27 → -1000000000 ≤ (gA s 76).getD k 0 ∧ (gA s 76).getD k 0 ≤ 1000000000
def PgW (s : St) : Prop := PgC s ∧ WbC s
theorem PgW.k2 {Ks : List Nat} {P A : List Int} {s s' : St} (h : PgW s) (k78 : kd s 78 = 8) (F : FrK Ks P A s s') (hK : 11 ∉ Ks ∧ 8 ∉ Ks) (hP : ∀ x ∈ P, x < 98 ∧ x ≠ 78) (hA : ∀ x ∈ A, x < 98 ∧ (x < 79 ∨ 86 < x) ∧ x ≠ 76) : PgW s' := ⟨h.1.k2 k78 F hK hP (fun x hx => ⟨(hA x hx).1, (hA x hx).2.1⟩), by
  unfold WbC
  rw [F.2.2 76 (fun hm => (hA 76 hm).2.2 rfl)]
  exact h.2⟩
def RepC (a : Ab) (s : St) : Prop := ShC s ∧ DrC s 3 a.1 ∧ IsC s a.2.1 ∧ LgC s 10 a.2.2.1 a.1.1 ∧ TpC s a.2.2.2.1 ∧ FlC s a.2.2.2.2.1 ∧ RfC s a.2.2.2.2.2.1 ∧ HdC s a.2.2.2.2.2.2 ∧ PgW s
section RC
variable {Ks : List Nat} {P A : List Int} {s s' : St} {a : Ab}
theorem ImC.k {p : Int} {o : Option Dr} (h : ImC s p o) (W : wfIm o) (F : FrK Ks P A s s') (hK : ∀ x ∈ [4, 24, 20, 26, 13, 7, 11], x ∉ Ks) (hA : ∀ x ∈ P ++ A, x < 98) : ImC s' p o := by
  rcases h with h | ⟨h1, D, h2, h3⟩
  · exact Or.inl h
  · exact Or.inr ⟨h1, D, h2, h3.k (W D h2) F hK fun x hx => by have := hA x hx; omega⟩
theorem IsC.k {o : Option Dr × Option Dr} (h : IsC s o) (W : wfIm o.1 ∧ wfIm o.2) (F : FrK Ks P A s s') (hK : ∀ x ∈ [4, 24, 20, 26, 13, 7, 11], x ∉ Ks) (hA : ∀ x ∈ P ++ A, x < 98 ∧ x ≠ 30) : IsC s' o := by
  have e : ∀ i, af s' 30 i = af s 30 i := fun i => by unfold af; rw [F.2.2 30 fun hm => (hA 30 (List.mem_append_right _ hm)).2 rfl]
  unfold IsC
  rw [e, e]
  exact ⟨h.1.k W.1 F hK fun x hx => (hA x hx).1, h.2.1.k W.2 F hK fun x hx => (hA x hx).1, h.2.2⟩
theorem LgC.k {L : Int} {H : Hi} {K : List Kn} (h : LgC s L H K) (kL : kd s L = 13) (F : FrK Ks P A s s') (hK : 13 ∉ Ks) (hP : L ∉ P) (hA : ∀ x ∈ A, x < L ∨ L + 3 < x) : LgC s' L H K := by
  have e : ∀ j : Int, 0 ≤ j → j ≤ 3 → gA s' (L + j) = gA s (L + j) := fun j h1 h2 => F.2.2 _ fun hm => by have := hA _ hm; omega
  refine ⟨by rw [F.2.1 L 0 hP (by rw [kL]; exact hK) (by decide)]; exact h.1, fun i hi => ?_⟩
  unfold af
  rw [e 1 (by decide) (by decide), e 2 (by decide) (by decide), e 3 (by decide) (by decide)]
  exact h.2 i hi
theorem HdC.k {o : Option (Int × Int × List Int)} (h : HdC s o) (k89 : kd s 89 = 5) (F : FrK Ks P A s s') (hK : 5 ∉ Ks) (hP : (89 : Int) ∉ P) (hA : (90 : Int) ∉ A) : HdC s' o := by
  have f : ∀ k, k < 100 → gF s' 89 k = gF s 89 k := fun k hk => F.2.1 89 k hP (by rw [k89]; exact hK) hk
  match o, h with
  | none, h => exact (f 1 (by decide)).trans h
  | some x, h =>
    refine ⟨(f 1 (by decide)).trans h.1, (f 3 (by decide)).trans h.2.1, (f 4 (by decide)).trans h.2.2.1, fun k hk => ?_⟩
    unfold af
    rw [F.2.2 90 hA]
    exact h.2.2.2 k hk
theorem TpC.k {t : List Int} (h : TpC s t) (k1 : kd s 1 = 15) (F : FrK Ks P A s s') (hK : 15 ∉ Ks) (hP : (1 : Int) ∉ P) (hA : (2 : Int) ∉ A) : TpC s' t := by
  refine ⟨by rw [F.2.1 1 1 hP (by rw [k1]; exact hK) (by decide)]; exact h.1, fun i hi => ?_⟩
  unfold af
  rw [F.2.2 2 hA]
  exact h.2 i hi
theorem FlC.k {f : Int × Int × Int × Int} (h : FlC s f) (k1 : kd s 1 = 15) (k75 : kd s 75 = 10) (F : FrK Ks P A s s') (hK : 15 ∉ Ks ∧ 10 ∉ Ks) (hP : (1 : Int) ∉ P ∧ (75 : Int) ∉ P) : FlC s' f :=
  ⟨by rw [F.2.1 1 12 hP.1 (by rw [k1]; exact hK.1) (by decide)]; exact h.1, by rw [F.2.1 1 14 hP.1 (by rw [k1]; exact hK.1) (by decide)]; exact h.2.1, by rw [F.2.1 1 13 hP.1 (by rw [k1]; exact hK.1) (by decide)]; exact h.2.2.1, by rw [F.2.1 75 3 hP.2 (by rw [k75]; exact hK.2) (by decide)]; exact h.2.2.2⟩
/-- drawer, log, tape, flags and refusals anew, the rest as it was -/
theorem RepC.up {D : Dr} {H : Hi} {t : List Int} {f : Int × Int × Int × Int} {r : Int × Int × Int × Int × Int} (R : RepC a s) (W : wfA a) (F : FrK Ks P A s s') (hs : ShC s') (hK : ∀ x ∈ [4, 24, 20, 26, 13, 7, 11, 5], x ∉ Ks) (hA : ∀ x ∈ P ++ A, x < 98 ∧ x ≠ 30 ∧ x ≠ 89 ∧ x ≠ 90) (hp : PgW s') (hD : DrC s' 3 D) (hH : LgC s' 10 H D.1) (ht : TpC s' t) (hf : FlC s' f) (hr : RfC s' r) : RepC (D, a.2.1, H, t, f, r, a.2.2.2.2.2.2) s' := by
  obtain ⟨r1, r2, r3, r4, r5, r6, r7, r8, -⟩ := R
  have hK2 : ∀ x ∈ [4, 24, 20, 26, 13, 7, 11], x ∉ Ks := fun x hx => hK x (by simp only [List.mem_cons, List.not_mem_nil, or_false] at hx ⊢; omega)
  exact ⟨hs, hD, r3.k W.2.1 F hK2 (fun x hx => ⟨(hA x hx).1, (hA x hx).2.1⟩), hH, ht, hf, hr, r8.k r1.o89.1 F (hK 5 (by decide)) (fun hm => (hA 89 (List.mem_append_left _ hm)).2.2.1 rfl) (fun hm => (hA 90 (List.mem_append_right _ hm)).2.2.2 rfl), hp⟩
/-- what only looks keeps all -/
theorem RepC.k (R : RepC a s) (W : wfA a) (F : FrK Ks P A s s') (hs : ShC s') (hp : PgW s') (hK : ∀ x ∈ [4, 24, 20, 26, 13, 7, 11, 15, 10, 5], x ∉ Ks) (hA : ∀ x ∈ P ++ A, 30 < x ∧ x < 97 ∧ x ≠ 90 ∧ x ≠ 89 ∧ x ≠ 75) : RepC a s' := by
  have hK2 : ∀ x ∈ [4, 24, 20, 26, 13, 7, 11], x ∉ Ks := fun x hx => hK x (by simp only [List.mem_cons, List.not_mem_nil, or_false] at hx ⊢; omega)
  have nP : ∀ x : Int, (x ≤ 30 ∨ x = 75) → x ∉ P := fun x h hm => by have := hA x (List.mem_append_left _ hm); omega
  have nA : ∀ x : Int, (x ≤ 30 ∨ 97 ≤ x) → x ∉ A := fun x h hm => by have := hA x (List.mem_append_right _ hm); omega
  have R' := R
  obtain ⟨r1, r2, r3, r4, r5, r6, r7, r8, -⟩ := R'
  refine R.up W F hs (fun x hx => hK x (by simp only [List.mem_cons, List.not_mem_nil, or_false] at hx ⊢; omega)) (fun x hx => by have := hA x hx; omega) hp (r2.k W.1 F hK2 (fun x hx => by have := hA x hx; omega)) (r4.k r1.o10.1 F (hK 13 (by decide)) (nP 10 (by decide)) (fun x hx => by have := hA x (List.mem_append_right _ hx); omega)) (r5.k r1.o1.1 F (hK 15 (by decide)) (nP 1 (by decide)) (nA 2 (by decide))) (r6.k r1.o1.1 r1.o75.1 F ⟨hK 15 (by decide), hK 10 (by decide)⟩ ⟨nP 1 (by decide), nP 75 (by decide)⟩) ?_
  unfold RfC
  rw [F.2.2 97 (nA 97 (by decide))]
  exact r7
end RC
