/-! ===== the class runs an order once, whole ===== -/
section CRO
variable {s s' : St} {a : Ab} {d : Nat} {dn lt : Int} {c v : Nat → Int} {nt : Nat} {cls : List Cl} {q : Cl} {off : Nat}
theorem ScR.ro (h : ScR s 63 cls) (k63 : kd s 63 = 11) (F : FrK [6] kQs roA s s') : ScR s' 63 cls :=
  h.fr (fun p _ _ => F.1 p) (fun k hk => F.2.1 63 k (by decide) (by rw [k63]; decide) hk) (fun p h1 h2 => F.2.2 p (by
    have : p = 63 ∨ p = 64 ∨ p = 65 ∨ p = 66 ∨ p = 67 ∨ p = 68 ∨ p = 69 ∨ p = 70 ∨ p = 71 := by omega
    rcases this with rfl | rfl | rfl | rfl | rfl | rfl | rfl | rfl | rfl <;> decide))
/-- the clause n of the draft, where its code lies -/
def ClX (s : St) (n off : Nat) (q : Cl) : Prop := n < 12 ∧ OrC q ∧ ((gA s 66).getD n 0 = kdC q.1 ∧ (gA s 67).getD n 0 = q.2.1 ∧ (gA s 68).getD n 0 = (off : Nat) ∧ (gA s 69).getD n 0 = (off + q.2.2.1.1.length : Nat) ∧ (gA s 70).getD n 0 = (off + q.2.2.1.1.length + q.2.2.2.1.1.length : Nat) ∧ (gA s 71).getD n 0 = (off + (ccode q).length : Nat)) ∧ (seg s 64 65 off (ccode q) ∧ seg s 64 65 off q.2.2.1.1 ∧ seg s 64 65 (off + q.2.2.1.1.length) q.2.2.2.1.1 ∧ seg s 64 65 (off + q.2.2.1.1.length + q.2.2.2.1.1.length) q.2.2.2.2.1)
theorem cl_len : (ccode q).length = q.2.2.1.1.length + q.2.2.2.1.1.length + q.2.2.2.2.1.length := by
  unfold ccode
  rw [List.length_append, List.length_append]
theorem ClX.mk {n : Nat} (hS : ScR s 63 cls) (hp : pText (pClO c v) c nt = .ok cls) (hv : ∀ i, 0 ≤ v i) (hn : n < cls.length) : ClX s n (coff cls n) (cls.getD n q0c) := by
  have hc12 : cls.length ≤ 12 := (k_text (P := fun _ => True) (fun i l r hl h => ⟨trivial, by
    have := bc_cl (c := c) (v := v) (fw := 14) hl (show pCl c v 14 i l = .ok r from h)
    exact this.2.2.1⟩) hp).2
  have orc : ∀ q ∈ cls, OrC q := (k_text (P := OrC) (fun i l r hl h => ⟨or_cl hv h, by
    have := bc_cl (c := c) (v := v) (fw := 14) hl (show pCl c v 14 i l = .ok r from h)
    exact this.2.2.1⟩) hp).1
  obtain ⟨-, -, -, sg0, en⟩ := hS
  obtain ⟨e66, e67, e68, e69, e70, e71⟩ := en n hn
  obtain ⟨sg1, sg2, sg3, hoff⟩ := seg_cl sg0 hn
  refine ⟨by omega, orc _ (gdMem (a := q0c) hn), ⟨e66, e67, e68, e69, e70, ?_⟩, ?_, sg1, sg2, sg3⟩
  · show (gA s (63 + 8)).getD n 0 = _
    rw [e71, hoff, cl_len]
    congr 1
    omega
  · obtain ⟨A, B, hA, hB⟩ := call_cut cls n hn
    rw [hA] at sg0
    have := seg_l (seg_r sg0)
    rw [Nat.zero_add, hB] at this
    exact this
theorem ClX.fr {n : Nat} (h : ClX s n off q) (e : ∀ x : Int, 64 ≤ x → x ≤ 71 → gA s' x = gA s x) : ClX s' n off q := by
  unfold ClX seg at h ⊢
  rw [e 64 (by decide) (by decide), e 65 (by decide) (by decide), e 66 (by decide) (by decide), e 67 (by decide) (by decide), e 68 (by decide) (by decide), e 69 (by decide) (by decide), e 70 (by decide) (by decide), e 71 (by decide) (by decide)]
  exact h
theorem or_cc (hq : OrC q) : ∀ k : Int, (1, k) ∈ ccode q → 0 ≤ k ∧ k < 27 := by
  intro k hk
  unfold ccode at hk
  rcases List.mem_append.mp hk with hk | hk
  · rcases List.mem_append.mp hk with hk | hk
    · exact hq.1.2 k hk
    · exact hq.2.1.2 k hk
  · exact hq.2.2.1.2 k hk
theorem c_loadW {n : Nat} (R : RepC a s) (W : wfA a) (C : ClX s n off q) (hd : 0 ≤ dn ∧ dn ≤ 900) (hl : -1 ≤ lt ∧ lt ≤ 100) (h1 : (gA s 76).getD 1 0 = dn) (h2 : (gA s 76).getD 2 0 = lt) : Gl (GV fun s' => RepC a s' ∧ FrK [6] [] ldA s s' ∧ WrI a dn lt (ccode q) (ccode q).length s') (X6_loadWords (d + 4) s 75 63 n) := by
  have hs := R.1
  have l76 : (gA s 76).length = 27 := hs.2.1 76 (by decide) (by decide)
  have l68 : (gA s 68).length = 12 := hs.2.1 68 (by decide) (by decide)
  obtain ⟨hn, hq, ⟨-, -, e68, -, -, e71⟩, sgc, -⟩ := id C
  have f1 : gF s 3 1 = (a.1.1.length : Int) := R.2.1.2.1.1
  have h8 := W.1.1.1
  have Ra := R.w76 (k := 0) (x := (a.1.1.length : Int)) W (by decide) (by omega)
  have Fa0 : FrK [6] [] ldA s (sA s 76 ((gA s 76).set 0 (a.1.1.length : Int))) := FrK.sA _ (by decide)
  have W0 : WrI a dn lt (ccode q) 0 (sA s 76 ((gA s 76).set 0 (a.1.1.length : Int))) := by
    refine ⟨by rw [gA_eq, set_eq (by omega)], by rw [gA_eq, set_ne (by decide)]; exact h1, by rw [gA_eq, set_ne (by decide)]; exact h2, fun i hi => by omega⟩
  have sga : seg (sA s 76 ((gA s 76).set 0 (a.1.1.length : Int))) 64 65 off (ccode q) := by
    unfold seg
    rw [gA_ne (by decide), gA_ne (by decide)]
    exact sgc
  have ea : (gA (sA s 76 ((gA s 76).set 0 (a.1.1.length : Int))) 71).getD n 0 = (off + (ccode q).length : Nat) := by
    rw [gA_ne (by decide)]
    exact e71
  have k75 : kd s 75 = 10 := hs.1 75 (by decide) (by decide)
  have k34 : kd s 34 = 12 := hs.1 34 (by decide) (by decide)
  have k3 : kd s 3 = 4 := hs.o3.1
  have k63 : kd s 63 = 11 := hs.o63.1
  have k76 : kd s 76 = 20 := hs.1 76 (by decide) (by decide)
  have k68 : kd s 68 = 20 := hs.1 68 (by decide) (by decide)
  have f75 : gF s 75 1 = 76 := hs.2.2.1 (75, 1, 76) (by decide)
  have f750 : gF s 75 0 = 34 := hs.2.2.1 (75, 0, 34) (by decide)
  have f34 : gF s 34 0 = 3 := hs.2.2.1 (34, 0, 3) (by decide)
  have f63 : gF s 63 6 = 68 := hs.2.2.1 (63, 6, 68) (by decide)
  rw [e_X6_loadWords, rF_ok k75, f750, rF_ok k34, f34, rF_ok k75, f75, rF_ok k3, f1, wA_ok k76 (by decide) (by rw [l76]; decide), Int.toNat_zero, rF_ok (by rw [kd_sA]; exact k63), gF_sA, f63, rA_ok (by rw [kd_sA]; exact k68) (by omega) (by rw [gA_ne (by decide), l68]; omega), Int.toNat_natCast, gA_ne (by decide), e68]
  exact wkV (c_load26 Ra W (by omega) (by omega) sga hn ea W0 (or_cc hq)) fun s2 _ ⟨r1, r2, r3⟩ => ⟨r1, Fa0.tr r2, r3⟩
/-- what the loaded clause reckons -/
def RkO (d : Nat) (s2 : St) (off : Nat) (q : Cl) (ρ : Nat → Int) : Prop := (∀ l : List Int, l.length = 64 → ∃ l' : List Int, l'.length = 64 ∧ X7_reckon (d + 5) (sA s2 77 l) 63 ((off + q.2.2.1.1.length + q.2.2.2.1.1.length : Nat) : Int) ((off + (ccode q).length : Nat) : Int) 76 77 = some ([(0, orB (q.2.2.2.2.2 ρ))], sA s2 77 l')) ∧ (∀ l : List Int, l.length = 64 → ∃ l' : List Int, l'.length = 64 ∧ X7_reckon (d + 5) (sA s2 77 l) 63 ((off : Nat) : Int) ((off + q.2.2.1.1.length : Nat) : Int) 76 77 = some ([(0, orB (q.2.2.1.2 ρ))], sA s2 77 l')) ∧ (∀ l : List Int, l.length = 64 → ∃ l' : List Int, l'.length = 64 ∧ X7_reckon (d + 5) (sA s2 77 l) 63 ((off + q.2.2.1.1.length : Nat) : Int) ((off + q.2.2.1.1.length + q.2.2.2.1.1.length : Nat) : Int) 76 77 = some ([(0, orB (q.2.2.2.1.2 ρ))], sA s2 77 l')) ∧ (okV q.2.2.2.2.2 ρ ∧ okV q.2.2.1.2 ρ ∧ okV q.2.2.2.1.2 ρ)
theorem RkO.mk {n : Nat} {s2 : St} (r1 : RepC a s2) (r3 : WrI a dn lt (ccode q) (ccode q).length s2) (C : ClX s2 n off q) (hp : pText (pClO c v) c nt = .ok cls) (hv : ∀ i, 0 ≤ v i) (hqm : q ∈ cls) : RkO d s2 off q (envO a dn lt) := by
  have hs2 := r1.1
  obtain ⟨hn, hq, -, -, sg1, sg2, sg3⟩ := C
  have l77 : (gA s2 77).length = 64 := hs2.2.1 77 (by decide) (by decide)
  obtain ⟨ρ, hρ⟩ : ∃ ρ : Nat → Int, ρ = fun k => if k < 27 then (gA s2 76).getD k 0 else 0 := ⟨_, rfl⟩
  have agree : ∀ k : Int, (1, k) ∈ ccode q → ρ k.toNat = envO a dn lt k.toNat := by
    intro k hk
    obtain ⟨k0', k27⟩ := or_cc hq k hk
    obtain ⟨m, rfl⟩ := Int.eq_ofNat_of_zero_le k0'
    rw [hρ]
    dsimp only
    rw [Int.toNat_natCast, if_pos (by omega)]
    by_cases e3 : 3 ≤ m
    · obtain ⟨i, hi, ei⟩ := List.mem_iff_getElem.mp hk
      refine r3.2.2.2 i hi m ?_ e3 (by omega)
      rw [List.getD_eq_getElem?_getD, List.getElem?_eq_getElem hi]
      exact ei
    · have : m = 0 ∨ m = 1 ∨ m = 2 := by omega
      rcases this with rfl | rfl | rfl
      · exact r3.1
      · exact r3.2.1
      · exact r3.2.2.1
  have d1 : q.2.2.1.2 ρ = q.2.2.1.2 (envO a dn lt) := hq.1.1 _ _ fun k hk => agree k (by unfold ccode; simp [hk])
  have d2 : q.2.2.2.1.2 ρ = q.2.2.2.1.2 (envO a dn lt) := hq.2.1.1 _ _ fun k hk => agree k (by unfold ccode; simp [hk])
  have d3 : q.2.2.2.2.2 ρ = q.2.2.2.2.2 (envO a dn lt) := hq.2.2.1.1 _ _ fun k hk => agree k (by unfold ccode; simp [hk])
  have l64 : (gA s2 64).length = 256 := hs2.2.1 64 (by decide) (by decide)
  have l65 : (gA s2 65).length = 256 := hs2.2.1 65 (by decide) (by decide)
  have l76b : (gA s2 76).length = 27 := hs2.2.1 76 (by decide) (by decide)
  have X : ∀ l : List Int, l.length = 64 → RkX (sA s2 77 l) 63 64 65 76 77 ρ 27 := fun l hl' => ⟨hs2.o63.1, hs2.2.2.1 (63, 0, 64) (by decide), hs2.2.2.1 (63, 1, 65) (by decide), hs2.1 64 (by decide) (by decide), hs2.1 65 (by decide) (by decide), hs2.1 76 (by decide) (by decide), hs2.1 77 (by decide) (by decide), by decide, by decide, by decide, by rw [gA_ne (by decide)]; exact l76b, by rw [gA_eq]; exact hl', fun k hk => by rw [gA_ne (by decide), hρ]; dsimp only; rw [if_pos hk], fun k => by
    rw [hρ]
    dsimp only
    split
    · rename_i hk; exact r1.pg.2 k hk
    · decide, by rw [gA_ne (by decide), gA_ne (by decide), l64, l65], by rw [gA_ne (by decide), l64]; decide⟩
  have CK : ∀ l : List Int, l.length = 64 → ClOk (sA s2 77 l) 63 64 65 76 77 ρ q := fun l hl' => (k_text (P := ClOk (sA s2 77 l) 63 64 65 76 77 ρ) (fun i l' r hl'' h => k_clO (X l hl') hv hl'' h) hp).1 q hqm
  have sgl : ∀ (l : List Int) (o : Nat) (x : Cd), seg s2 64 65 o x → seg (sA s2 77 l) 64 65 o x := fun l o x h => by
    unfold seg
    rw [gA_ne (by decide), gA_ne (by decide)]
    exact h
  have hlen := cl_len (q := q)
  refine ⟨fun l hl' => ?_, fun l hl' => ?_, fun l hl' => ?_, ?_, ?_, ?_⟩
  · obtain ⟨l', g1, g2⟩ := c_reckon (d := d + 4) (X l hl') (CK l hl').2.2.1 (sgl l _ _ sg3) (to := off + (ccode q).length) (by rw [hlen]; omega)
    rw [sA_ov, d3] at g2
    exact ⟨l', g1, g2⟩
  · obtain ⟨l', g1, g2⟩ := c_reckon (d := d + 4) (X l hl') (CK l hl').1 (sgl l _ _ sg1) (to := off + q.2.2.1.1.length) rfl
    rw [sA_ov, d1] at g2
    exact ⟨l', g1, g2⟩
  · obtain ⟨l', g1, g2⟩ := c_reckon (d := d + 4) (X l hl') (CK l hl').2.1 (sgl l _ _ sg2) (to := off + q.2.2.1.1.length + q.2.2.2.1.1.length) rfl
    rw [sA_ov, d2] at g2
    exact ⟨l', g1, g2⟩
  · have := pc_ok (CK _ l77).2.2.1
    unfold okV at this ⊢
    rw [← d3]; exact this
  · have := pc_ok (CK _ l77).1
    unfold okV at this ⊢
    rw [← d1]; exact this
  · have := pc_ok (CK _ l77).2.1
    unfold okV at this ⊢
    rw [← d2]; exact this
end CRO
