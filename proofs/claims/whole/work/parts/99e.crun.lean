/-! ===== the class runs an order once: the acts ===== -/
section CRP
variable {s s' : St} {a : Ab} {d : Nat} {dn lt : Int} {c v : Nat → Int} {nt : Nat} {cls : List Cl} {q : Cl} {off : Nat}
theorem dLay_n {q pl : Int} : (dLay a q pl).1 < 0 → (dLay a q pl).2 = a := by
  unfold dLay
  repeat (split; · intro _; rfl)
  intro h
  dsimp only at h
  omega
theorem dThr_n {q : Int} : (dThr a q).1 < 0 → (dThr a q).2 = a := by
  unfold dThr
  repeat (split; · intro _; rfl)
  intro h
  dsimp only at h
  omega
theorem dDrw_n {q : Int} : (dDrw a q).1 < 0 → (dDrw a q).2 = a := by
  unfold dDrw
  repeat (split; · intro _; rfl)
  intro h
  split at h
  · dsimp only at h; omega
  · dsimp only at h; omega
theorem dMir_n {q : Int} : (dMir a q).1 < 0 → (dMir a q).2 = a := by
  unfold dMir
  repeat (split; · intro _; rfl)
  intro h
  dsimp only at h
  omega
def actR (s0 : St) (q : Cl) (x y dn : Int) (a : Ab) (z : Int) (s' : St) : Prop := OnR s0 z (if (actO q.1 x y a).1 < 0 then none else some ((actO q.1 x y a).2, dn + 1, (actO q.1 x y a).1)) a s'
theorem c_act {s0 : St} {x y : Int} (R : RepC a s) (W : wfA a) (F : FrK [6] kQs roA s0 s) (hd : 0 ≤ dn ∧ dn ≤ 900) (h1 : (gA s 76).getD 1 0 = dn) (hq : q.1 = 20 ∨ q.1 = 22 ∨ q.1 = 23 ∨ q.1 = 24) : Gl (GI fun z s' => actR s0 q x y dn a z s') (if kdC q.1 = 313 then (rF s 75 10 0 fun x24 => oK s x24 12 (cI (X8_layOn (d + 5) s x24 y x) fun x25 s5 => X6_runOnce_191 (d + 6) s5 75 x25)) else if kdC q.1 = 314 then (rF s 75 10 0 fun x26 => oK s x26 12 (cI (X8_turnOver (d + 5) s x26 x) fun x27 s6 => X6_runOnce_191 (d + 6) s6 75 x27)) else if kdC q.1 = 315 then (rF s 75 10 0 fun x28 => oK s x28 12 (cI (X8_putThrough (d + 5) s x28 x) fun x29 s7 => X6_runOnce_191 (d + 6) s7 75 x29)) else if kdC q.1 = 316 then (rF s 75 10 0 fun x30 => oK s x30 12 (cI (X8_drawBack (d + 5) s x30 x) fun x31 s8 => X6_runOnce_191 (d + 6) s8 75 x31)) else (rF s 75 10 0 fun x32 => oK s x32 12 (cI (X8_turnOver (d + 5) s x32 x) fun x33 s9 => X6_runOnce_191 (d + 6) s9 75 x33))) := by
  have hs := R.1
  have k75 : kd s 75 = 10 := hs.1 75 (by decide) (by decide)
  have k34 : kd s 34 = 12 := hs.1 34 (by decide) (by decide)
  have f750 : gF s 75 0 = 34 := hs.2.2.1 (75, 0, 34) (by decide)
  have hW := (wf_actO (h := q.1) (x := x) (y := y) W).1
  have hr := actO_r (h := q.1) (x := x) (y := y) W
  have hn : (actO q.1 x y a).1 < 0 → (actO q.1 x y a).2 = a := by
    unfold actO
    split
    · exact dLay_n
    split
    · exact dThr_n
    split
    · exact dDrw_n
    · exact dMir_n
  have go : ∀ (z : Int) (s5 : St), z = (actO q.1 x y a).1 ∧ RepC (actO q.1 x y a).2 s5 ∧ FrK [6] kQs aQs s s5 → Gl (GI fun z s' => actR s0 q x y dn a z s') (X6_runOnce_191 (d + 6) s5 75 z) := by
    intro z s5 ⟨e, r, f⟩
    subst e
    refine c_191 r hW (F.tr (f.mono (by decide) (by decide) (by decide))) hr hd ?_ hn
    rw [f.2.2 76 (by decide)]
    exact h1
  rcases hq with e | e | e | e
  · have e' : actO q.1 x y a = dLay a y x := by unfold actO; rw [e]; rfl
    rw [if_pos (show kdC q.1 = 313 by rw [e]; decide), rF_ok k75, f750, oK_ok k34]
    refine biI (c_layOn (d := d + 1) R W) fun z s5 _ h => go z s5 ?_
    rw [e']; exact h
  · have e' : actO q.1 x y a = dThr a x := by unfold actO; rw [e]; rfl
    rw [if_neg (show ¬ kdC q.1 = 313 by rw [e]; decide), if_neg (show ¬ kdC q.1 = 314 by rw [e]; decide), if_pos (show kdC q.1 = 315 by rw [e]; decide), rF_ok k75, f750, oK_ok k34]
    refine biI (c_putThrough (d := d + 2) R W) fun z s5 _ h => go z s5 ?_
    rw [e']; exact h
  · have e' : actO q.1 x y a = dDrw a x := by unfold actO; rw [e]; rfl
    rw [if_neg (show ¬ kdC q.1 = 313 by rw [e]; decide), if_neg (show ¬ kdC q.1 = 314 by rw [e]; decide), if_neg (show ¬ kdC q.1 = 315 by rw [e]; decide), if_pos (show kdC q.1 = 316 by rw [e]; decide), rF_ok k75, f750, oK_ok k34]
    refine biI (c_drawBack (d := d + 2) R W) fun z s5 _ h => go z s5 ?_
    rw [e']; exact h
  · have e' : actO q.1 x y a = dMir a x := by unfold actO; rw [e]; rfl
    rw [if_neg (show ¬ kdC q.1 = 313 by rw [e]; decide), if_neg (show ¬ kdC q.1 = 314 by rw [e]; decide), if_neg (show ¬ kdC q.1 = 315 by rw [e]; decide), if_neg (show ¬ kdC q.1 = 316 by rw [e]; decide), rF_ok k75, f750, oK_ok k34]
    refine biI (c_turnOver (d := d + 2) R W) fun z s5 _ h => go z s5 ?_
    rw [e']; exact h
theorem onceO_1 {x y : Int} (e3 : q.2.2.2.2.2 (envO a dn lt) = some 1) (ex : q.2.2.1.2 (envO a dn lt) = some x) (ey : q.2.2.2.1.2 (envO a dn lt) = some y) : onceO q (a, dn, lt) = if (actO q.1 x y a).1 < 0 then none else some ((actO q.1 x y a).2, dn + 1, (actO q.1 x y a).1) := by
  unfold onceO
  dsimp only
  rw [if_pos e3, ex, ey]
theorem onceO_2 (e3 : q.2.2.2.2.2 (envO a dn lt) = some 1) (ex : q.2.2.1.2 (envO a dn lt) = none ∨ q.2.2.2.1.2 (envO a dn lt) = none) : onceO q (a, dn, lt) = none := by
  unfold onceO
  dsimp only
  rw [if_pos e3]
  rcases ex with ex | ex
  · rw [ex]
  · rw [ex]
    split <;> rfl
theorem onceO_3 (e3 : ¬ q.2.2.2.2.2 (envO a dn lt) = some 1) : onceO q (a, dn, lt) = some (a, dn, lt) := by
  unfold onceO
  exact if_neg e3
theorem c_runOnce {n : Nat} (R : RepC a s) (W : wfA a) (C : ClX s n off q) (hp : pText (pClO c v) c nt = .ok cls) (hv : ∀ i, 0 ≤ v i) (hqm : q ∈ cls) (hd : 0 ≤ dn ∧ dn ≤ 900) (hl : -1 ≤ lt ∧ lt ≤ 100) (h1 : (gA s 76).getD 1 0 = dn) (h2 : (gA s 76).getD 2 0 = lt) : Gl (GI fun x s' => OnR s x (onceO q (a, dn, lt)) a s') (X6_runOnce (d + 6) s 75 63 n) := by
  have k75 : ∀ t, ShC t → kd t 75 = 10 := fun t h => h.1 75 (by decide) (by decide)
  have k63 : ∀ t, ShC t → kd t 63 = 11 := fun t h => h.o63.1
  have kk : ∀ (t : St) (p : Int), ShC t → 66 ≤ p → p ≤ 71 → kd t p = 20 ∧ (gA t p).length = 12 := fun t p h h1 h2 => by
    have : p = 66 ∨ p = 67 ∨ p = 68 ∨ p = 69 ∨ p = 70 ∨ p = 71 := by omega
    rcases this with rfl | rfl | rfl | rfl | rfl | rfl <;> exact ⟨h.1 _ (by decide) (by decide), h.2.1 _ (by decide) (by decide)⟩
  have ff : ∀ t, ShC t → gF t 75 1 = 76 ∧ gF t 75 2 = 77 ∧ gF t 63 4 = 66 ∧ gF t 63 6 = 68 ∧ gF t 63 7 = 69 ∧ gF t 63 8 = 70 ∧ gF t 63 9 = 71 := fun t h => ⟨h.2.2.1 (75, 1, 76) (by decide), h.2.2.1 (75, 2, 77) (by decide), h.2.2.1 (63, 4, 66) (by decide), h.2.2.1 (63, 6, 68) (by decide), h.2.2.1 (63, 7, 69) (by decide), h.2.2.1 (63, 8, 70) (by decide), h.2.2.1 (63, 9, 71) (by decide)⟩
  have hn : n < 12 := C.1
  rw [e_X6_runOnce, oK_ok (k75 s R.1)]
  refine biV (c_loadW (d := d + 1) R W C hd hl h1 h2) fun s2 _ ⟨r1, r2, r3⟩ => ?_
  have hs2 := r1.1
  have C2 : ClX s2 n off q := C.fr fun x x1 x2 => r2.2.2 x (by unfold ldA; simp; omega)
  have l77 : (gA s2 77).length = 64 := hs2.2.1 77 (by decide) (by decide)
  obtain ⟨rk1, rk2, rk3, ok1, ok2, ok3⟩ := RkO.mk (d := d) r1 r3 C2 hp hv hqm
  have RL : ∀ l : List Int, l.length = 64 → RepC a (sA s2 77 l) ∧ FrK [6] kQs roA s (sA s2 77 l) ∧ ClX (sA s2 77 l) n off q := fun l hl' => by
    have F : FrK [] [] [77] s2 (sA s2 77 l) := FrK.sA _ (by decide)
    have k77 := hs2.1 77 (by decide) (by decide)
    exact ⟨r1.k W F (hs2.sA (by rw [hl', l77]) (by rw [k77]; decide)) (r1.pg.k2 hs2.o78.1 F (by decide) (by decide) (by decide)) (by decide) (by decide), (r2.mono (by decide) (by decide) (by decide)).tr (F.mono (by decide) (by decide) (by decide)), C2.fr fun x x1 x2 => by rw [gA_ne (by omega)]⟩
  obtain ⟨la, ga, rka⟩ := rk1 (gA s2 77) l77
  rw [sA_id] at rka
  obtain ⟨Ra, Fa1, Ca⟩ := RL la ga
  obtain ⟨g1, g2, g66, g68, g69, g70, g71⟩ := ff s2 hs2
  obtain ⟨-, hq, ⟨b66, -, b68, b69, b70, b71⟩, -⟩ := id C2
  rw [rF_ok (k63 s2 hs2), g70, rA_ok (kk s2 70 hs2 (by decide) (by decide)).1 (by omega) (by rw [(kk s2 70 hs2 (by decide) (by decide)).2]; omega), Int.toNat_natCast, b70, rF_ok (k63 s2 hs2), g71, rA_ok (kk s2 71 hs2 (by decide) (by decide)).1 (by omega) (by rw [(kk s2 71 hs2 (by decide) (by decide)).2]; omega), Int.toNat_natCast, b71, rF_ok (k75 s2 hs2), g1, rF_ok (k75 s2 hs2), g2, oK_ok (k63 s2 hs2), rka, cI_ok]
  clear g1 g2 g66 g68 g69 g70 g71 b66 b68 b69 b70 b71
  have o3 := orB_1 ok1
  have o1 := orB_1 ok2
  have o2 := orB_1 ok3
  by_cases e3 : q.2.2.2.2.2 (envO a dn lt) = some 1
  · rw [if_pos (show orB (q.2.2.2.2.2 (envO a dn lt)) = 1 by rw [e3]; rfl)]
    have hsa := Ra.1
    obtain ⟨g1, g2, g66, g68, g69, g70, g71⟩ := ff _ hsa
    obtain ⟨-, -, ⟨b66, -, b68, b69, b70, b71⟩, -⟩ := id Ca
    obtain ⟨lb, gb, rkb⟩ := rk2 la ga
    rw [rF_ok (k63 _ hsa), g68, rA_ok (kk _ 68 hsa (by decide) (by decide)).1 (by omega) (by rw [(kk _ 68 hsa (by decide) (by decide)).2]; omega), Int.toNat_natCast, b68, rF_ok (k63 _ hsa), g69, rA_ok (kk _ 69 hsa (by decide) (by decide)).1 (by omega) (by rw [(kk _ 69 hsa (by decide) (by decide)).2]; omega), Int.toNat_natCast, b69, rF_ok (k75 _ hsa), g1, rF_ok (k75 _ hsa), g2, oK_ok (k63 _ hsa), rkb, cI_ok]
    clear g1 g2 g66 g68 g69 g70 g71 b66 b68 b69 b70 b71
    obtain ⟨Rb, Fb, Cb⟩ := RL lb gb
    have hsb := Rb.1
    obtain ⟨g1, g2, g66, g68, g69, g70, g71⟩ := ff _ hsb
    obtain ⟨-, -, ⟨b66, -, b68, b69, b70, b71⟩, -⟩ := id Cb
    obtain ⟨lc, gc, rkc⟩ := rk3 lb gb
    rw [rF_ok (k63 _ hsb), g69, rA_ok (kk _ 69 hsb (by decide) (by decide)).1 (by omega) (by rw [(kk _ 69 hsb (by decide) (by decide)).2]; omega), Int.toNat_natCast, b69, rF_ok (k63 _ hsb), g70, rA_ok (kk _ 70 hsb (by decide) (by decide)).1 (by omega) (by rw [(kk _ 70 hsb (by decide) (by decide)).2]; omega), Int.toNat_natCast, b70, rF_ok (k75 _ hsb), g1, rF_ok (k75 _ hsb), g2, oK_ok (k63 _ hsb), rkc, cI_ok]
    clear g1 g2 g66 g68 g69 g70 g71 b66 b68 b69 b70 b71
    obtain ⟨Rc, Fc, Cc⟩ := RL lc gc
    have hsc := Rc.1
    obtain ⟨-, -, g66, -⟩ := ff _ hsc
    obtain ⟨-, -, ⟨b66, -⟩, -⟩ := id Cc
    by_cases ex : q.2.2.1.2 (envO a dn lt) = none
    · rw [if_pos (o1.1.mpr ex), onceO_2 e3 (Or.inl ex)]
      exact reI ⟨Fc, rfl, Rc⟩
    rw [if_neg (fun h => ex (o1.1.mp h))]
    by_cases ey : q.2.2.2.1.2 (envO a dn lt) = none
    · rw [if_pos (o2.1.mpr ey), onceO_2 e3 (Or.inr ey)]
      exact reI ⟨Fc, rfl, Rc⟩
    obtain ⟨x, ex⟩ := Option.ne_none_iff_exists'.mp ex
    obtain ⟨y, ey⟩ := Option.ne_none_iff_exists'.mp ey
    rw [if_neg (fun h => by have := o2.1.mp h; rw [ey] at this; cases this), rF_ok (k63 _ hsc), g66, rA_ok (kk _ 66 hsc (by decide) (by decide)).1 (by omega) (by rw [(kk _ 66 hsc (by decide) (by decide)).2]; omega), Int.toNat_natCast, b66, o1.2 x ex, o2.2 y ey, onceO_1 e3 ex ey]
    exact c_act Rc W Fc hd (by rw [gA_ne (by decide)]; exact r3.2.1) hq.2.2.2.1
  · have e4 : ¬ orB (q.2.2.2.2.2 (envO a dn lt)) = 1 := by
      intro h
      cases e5 : q.2.2.2.2.2 (envO a dn lt) with
      | none => rw [e5] at h; exact absurd h (by decide)
      | some z => rw [e5] at h; exact e3 (by rw [e5]; exact congrArg some h)
    rw [if_neg e4, onceO_3 e3]
    exact reI ⟨Fa1, rfl, Ra, by rw [gA_ne (by decide)]; exact r3.2.1, by rw [gA_ne (by decide)]; exact r3.2.2.1⟩
end CRP
