/-! ===== the class: the words of orders are loaded ===== -/
/-- what the words of orders tell -/
def envO (a : Ab) (dn lt : Int) (k : Nat) : Int := if k = 0 then (a.1.1.length : Int) else if k = 1 then dn else if k = 2 then lt else if k < 27 then (if (k - 3) % 8 < a.1.1.length then (if (k - 3) / 8 = 0 then (kLen (a.1.1.getD ((k - 3) % 8) k0) : Int) else if (k - 3) / 8 = 1 then lastP (a.1.1.getD ((k - 3) % 8) k0) else (a.1.1.getD ((k - 3) % 8) k0).2.2.1 - tkK a.1 (a.1.1.getD ((k - 3) % 8) k0)) else -1) else 0
theorem tkK_bd {D : Dr} {k : Kn} (wk : wfKn k) : 0 ≤ tkK D k ∧ tkK D k ≤ 240 := by
  have := sumN_bd (f := tkW (clsD D) (moodD D) k.2.1 k.1 (pF k)) (a := 0) (b := 20) (n := kLen k) (fun j _ => tkQ_bd (by have := wk.2.1; omega))
  have h := wk.2.2.2.2.1
  unfold tkK
  omega
theorem lastP_bd {k : Kn} (wk : wfKn k) : -1 ≤ lastP k ∧ lastP k ≤ 2 := by
  unfold lastP
  split
  · decide
  · have := wk.2.2.2.2.2.1 (kLen k - 1) (by omega)
    unfold pl3 at this
    omega
theorem envO_bd {a : Ab} {dn lt : Int} (W : wfA a) (hd : -1000 ≤ dn ∧ dn ≤ 1000) (hl : -1000 ≤ lt ∧ lt ≤ 1000) (k : Nat) : -1000 ≤ envO a dn lt k ∧ envO a dn lt k ≤ 1000 := by
  unfold envO
  have h8 := W.1.1.1
  split
  · omega
  split
  · exact hd
  split
  · exact hl
  split
  · split
    · rename_i e
      have wk := W.1.1.2 _ (gdMem (a := k0) e)
      split
      · have := wk.2.2.2.2.1; omega
      split
      · have := lastP_bd wk; omega
      · have := tkK_bd (D := a.1) wk
        have := wk.2.2.1
        omega
    · decide
  · decide
/-- the words' row while it is loaded: the first j words of the code cc -/
def WrI (a : Ab) (dn lt : Int) (cc : Cd) (j : Nat) (s : St) : Prop := (gA s 76).getD 0 0 = (a.1.1.length : Int) ∧ (gA s 76).getD 1 0 = dn ∧ (gA s 76).getD 2 0 = lt ∧ ∀ i, i < j → ∀ k : Nat, cc.getD i (0, 0) = (1, (k : Int)) → 3 ≤ k → k < 27 → (gA s 76).getD k 0 = envO a dn lt k
section CLO
variable {s s' : St} {a : Ab} {d : Nat} {dn lt : Int}
theorem WrI.st {cc : Cd} {j k : Nat} {x : Int} (h : WrI a dn lt cc j s) (l76 : (gA s 76).length = 27) (h3 : 3 ≤ k) (hk : k < 27) (hc : cc.getD j (0, 0) = (1, (k : Int))) (hx : x = envO a dn lt k) : WrI a dn lt cc (j + 1) (sA s 76 ((gA s 76).set k x)) := by
  obtain ⟨h0, h1, h2, h4⟩ := h
  refine ⟨?_, ?_, ?_, fun i hi q hq q3 q27 => ?_⟩
  · rw [gA_eq, set_ne (by omega)]; exact h0
  · rw [gA_eq, set_ne (by omega)]; exact h1
  · rw [gA_eq, set_ne (by omega)]; exact h2
  · rw [gA_eq, setD_getD (by omega)]
    by_cases e : k = q
    · rw [if_pos e, hx, e]
    · rw [if_neg e]
      by_cases e2 : i < j
      · exact h4 i e2 q hq q3 q27
      · rw [show i = j by omega, hc] at hq
        have : (k : Int) = (q : Int) := congrArg Prod.snd hq
        omega
theorem WrI.sk {cc : Cd} {j : Nat} (h : WrI a dn lt cc j s) (hc : ∀ k : Nat, cc.getD j (0, 0) = (1, (k : Int)) → 3 ≤ k → k < 27 → False) : WrI a dn lt cc (j + 1) s := ⟨h.1, h.2.1, h.2.2.1, fun i hi k hk h3 h27 => by
  by_cases e : i < j
  · exact h.2.2.2 i e k hk h3 h27
  · rw [show i = j by omega] at hk
    exact absurd (hc k hk h3 h27) id⟩
theorem RepC.w76 {x : Int} {k : Nat} (R : RepC a s) (W : wfA a) (hk : k < 27) (hx : -1000000000 ≤ x ∧ x ≤ 1000000000) : RepC a (sA s 76 ((gA s 76).set k x)) := by
  have hs := R.1
  have l76 : (gA s 76).length = 27 := hs.2.1 76 (by decide) (by decide)
  have k76 := hs.1 76 (by decide) (by decide)
  have F : FrK [] [] [76] s (sA s 76 ((gA s 76).set k x)) := FrK.sA _ (by decide)
  refine R.k W F (hs.sA (by rw [List.length_set]) (by rw [k76]; decide)) ⟨R.pg.1.k2 hs.o78.1 F (by decide) (by decide) (by decide), fun j hj => ?_⟩ (by decide) (by decide)
  rw [gA_eq, setD_getD (by omega)]
  split
  · exact hx
  · exact R.pg.2 j hj
def ldA : List Int := [32, 33, 76]
theorem c_load26 {cc : Cd} {off n : Nat} (R : RepC a s) (W : wfA a) (hd : -1000 ≤ dn ∧ dn ≤ 1000) (hl : -1000 ≤ lt ∧ lt ≤ 1000) (hsg : seg s 64 65 off cc) (hn : n < 12) (he : (gA s 71).getD n 0 = (off + cc.length : Nat)) (h0 : WrI a dn lt cc 0 s) (hcc : ∀ k : Int, (1, k) ∈ cc → 0 ≤ k ∧ k < 27) : Gl (GV fun s' => RepC a s' ∧ FrK [6] [] ldA s s' ∧ WrI a dn lt cc cc.length s') (X6_loadWords_26 (d + 4) s 75 63 n 3 off) := by
  refine lpG (fun j s1 => X6_loadWords_26 (d + 4) s1 75 63 n 3 ((off + j : Nat) : Int)) (fun j s1 => RepC a s1 ∧ FrK [6] [] ldA s s1 ∧ WrI a dn lt cc j s1) cc.length ?_ ?_ 0 s (by omega) ⟨R, FrK.rf _ _ _ _, h0⟩
  · intro T j s1 hj ⟨i1, i2, i3⟩ hT
    have hs1 := i1.1
    have l64 : (gA s1 64).length = 256 := hs1.2.1 64 (by decide) (by decide)
    have l65 : (gA s1 65).length = 256 := hs1.2.1 65 (by decide) (by decide)
    have l71 : (gA s1 71).length = 12 := hs1.2.1 71 (by decide) (by decide)
    have l76 : (gA s1 76).length = 27 := hs1.2.1 76 (by decide) (by decide)
    have a64 : (gA s1 64).getD (off + j) 0 = (cc.getD j (0, 0)).1 := by rw [i2.2.2 64 (by decide)]; exact (hsg.2 j hj).1
    have a65 : (gA s1 65).getD (off + j) 0 = (cc.getD j (0, 0)).2 := by rw [i2.2.2 65 (by decide)]; exact (hsg.2 j hj).2
    have a71 : (gA s1 71).getD n 0 = (off + cc.length : Nat) := by rw [i2.2.2 71 (by decide)]; exact he
    have hb := hsg.1
    rw [show gA s 64 = gA s1 64 from (i2.2.2 64 (by decide)).symm, l64] at hb
    have hmem := gdMem (a := ((0 : Int), (0 : Int))) hj
    generalize hp : cc.getD j (0, 0) = p at *
    obtain ⟨o, g⟩ := p
    dsimp only at a64 a65
    have nxt : ∀ s2, RepC a s2 → FrK [6] [] ldA s1 s2 → WrI a dn lt cc (j + 1) s2 → Gl T (X6_loadWords_26 (d + 4) s2 75 63 n 3 (wi (((off + j : Nat) : Int) + 1))) := fun s2 r f w => by
      rw [wi_sc (by omega)]
      exact hT s2 ⟨r, i2.tr f, w⟩
    have k63 : kd s1 63 = 11 := hs1.o63.1
    have f9 : gF s1 63 9 = 71 := hs1.2.2.1 (63, 9, 71) (by decide)
    have f0 : gF s1 63 0 = 64 := hs1.2.2.1 (63, 0, 64) (by decide)
    have f1 : gF s1 63 1 = 65 := hs1.2.2.1 (63, 1, 65) (by decide)
    have k71 : kd s1 71 = 20 := hs1.1 71 (by decide) (by decide)
    have k64 : kd s1 64 = 20 := hs1.1 64 (by decide) (by decide)
    have k65 : kd s1 65 = 20 := hs1.1 65 (by decide) (by decide)
    have k75 : kd s1 75 = 10 := hs1.1 75 (by decide) (by decide)
    have k76 : kd s1 76 = 20 := hs1.1 76 (by decide) (by decide)
    have f75 : gF s1 75 1 = 76 := hs1.2.2.1 (75, 1, 76) (by decide)
    have f750 : gF s1 75 0 = 34 := hs1.2.2.1 (75, 0, 34) (by decide)
    have k34 : kd s1 34 = 12 := hs1.1 34 (by decide) (by decide)
    have k31 : kd s1 31 = 6 := hs1.1 31 (by decide) (by decide)
    have f341 : gF s1 34 1 = 31 := hs1.2.2.1 (34, 1, 31) (by decide)
    rw [e_X6_loadWords_26, rF_ok k63, f9, rA_ok k71 (by omega) (by rw [l71]; omega), Int.toNat_natCast, a71, if_pos (show ((off + j : Nat) : Int) < ((off + cc.length : Nat) : Int) by omega), rF_ok k63, f1, rA_ok k65 (by omega) (by rw [l65]; omega), Int.toNat_natCast, a65, rF_ok k63, f0, rA_ok k64 (by omega) (by rw [l64]; omega), Int.toNat_natCast, a64]
    by_cases e1 : o = 1
    · subst e1
      rw [if_pos rfl]
      obtain ⟨g0, g27⟩ := hcc g hmem
      obtain ⟨k, rfl⟩ := Int.eq_ofNat_of_zero_le g0
      by_cases e2 : (k : Int) < 3
      · rw [if_pos e2]
        exact nxt s1 i1 (FrK.rf _ _ _ _) (i3.sk fun q hq q3 _ => by rw [hp] at hq; have : (k : Int) = (q : Int) := congrArg Prod.snd hq; omega)
      rw [if_neg e2]
      have w1 : wi ((k : Int) - 3) = ((k - 3 : Nat) : Int) := by rw [wi_sm (by omega) (by omega)]; omega
      have w2 : Int.tmod ((k - 3 : Nat) : Int) 8 = (((k - 3) % 8 : Nat) : Int) := by rw [Int.tmod_eq_emod_of_nonneg (by omega)]; omega
      have w3 : wi (Int.tdiv ((k - 3 : Nat) : Int) 8) = (((k - 3) / 8 : Nat) : Int) := by
        rw [Int.tdiv_eq_ediv_of_nonneg (by omega), wi_sm (by omega) (by omega)]; omega
      have k3 : kd s1 3 = 4 := hs1.o3.1
      rw [rF_ok k75, f75, lA_ok k76, l76, if_pos (show (k : Int) < ((27 : Nat) : Int) by omega), if_neg (by decide), w1, w2, oK_ok k3]
      have ek : envO a dn lt k = (if (k - 3) % 8 < a.1.1.length then (if (k - 3) / 8 = 0 then (kLen (a.1.1.getD ((k - 3) % 8) k0) : Int) else if (k - 3) / 8 = 1 then lastP (a.1.1.getD ((k - 3) % 8) k0) else (a.1.1.getD ((k - 3) % 8) k0).2.2.1 - tkK a.1 (a.1.1.getD ((k - 3) % 8) k0)) else -1) := by
        unfold envO
        rw [if_neg (show ¬ (k = 0) by omega), if_neg (show ¬ (k = 1) by omega), if_neg (show ¬ (k = 2) by omega), if_pos (show k < 27 by omega)]
      have bd := envO_bd W hd hl k
      have wr : ∀ (s2 : St) (x : Int), RepC a s2 → FrK [6] [] ldA s1 s2 → WrI a dn lt cc j s2 → x = envO a dn lt k → Gl T (wA s2 76 20 k x fun s3 => X6_loadWords_26 (d + 4) s3 75 63 n 3 (wi (((off + j : Nat) : Int) + 1))) := by
        intro s2 x r f w hx
        have l76' : (gA s2 76).length = 27 := r.1.2.1 76 (by decide) (by decide)
        have k76' : kd s2 76 = 20 := r.1.1 76 (by decide) (by decide)
        rw [wA_ok k76' (by omega) (by rw [l76']; omega), Int.toNat_natCast]
        exact nxt _ (r.w76 W (by omega) (by omega)) (f.tr (FrK.sA _ (by decide))) (w.st l76' (by omega) (by omega) hp hx)
      by_cases e3 : (k - 3) % 8 < a.1.1.length
      · rw [if_pos e3] at ek
        have hqk : isKn a.1 (((k - 3) % 8 : Nat) : Int) := ⟨by omega, by omega⟩
        obtain ⟨pp, hpp⟩ : ∃ p : Int, p = 3 + 11 + 2 * (((k - 3) % 8 : Nat) : Int) := ⟨_, rfl⟩
        have KN : ∀ s', DrC s' 3 a.1 → KnC s' pp (a.1.1.getD ((k - 3) % 8) k0) := fun s' h => by rw [hpp]; exact h.kn hqk
        have wk := W.1.1.2 _ (gdMem (a := k0) e3)
        have KK := KN s1 i1.2.1
        obtain ⟨⟨p1, p2, p3, p4⟩, g0', g1', g2', g3', g4', g5'⟩ := id KK
        rw [c_knotAt1 i1.2.1 W.1 hqk, ← hpp, cR_ok, if_neg (by decide), if_neg (show ¬ (pp = 0) by omega), w3]
        clear w1 w2 w3
        generalize hz : (k - 3) / 8 = z at *
        have z3 : z = 0 ∨ z = 1 ∨ z = 2 := by omega
        rcases z3 with rfl | rfl | rfl
        · rw [if_pos rfl] at ek
          rw [if_pos (show ((0 : Nat) : Int) = 0 from rfl), rF_ok k75, f75, rF_ok p1, g3']
          exact wr s1 _ i1 (FrK.rf _ _ _ _) i3 ek.symm
        · rw [if_neg (show ¬ ((1 : Nat) = 0) by decide), if_pos rfl] at ek
          rw [if_neg (show ¬ (((1 : Nat) : Int) = 0) by decide), if_pos (show ((1 : Nat) : Int) = 1 from rfl), rF_ok k75, f75, oK_ok p1, c_lastPlace (d := d + 3) KK wk.2.2.2.2.1, cI_ok]
          exact wr s1 _ i1 (FrK.rf _ _ _ _) i3 ek.symm
        · rw [if_neg (show ¬ ((2 : Nat) = 0) by decide), if_neg (show ¬ ((2 : Nat) = 1) by decide)] at ek
          rw [if_neg (show ¬ (((2 : Nat) : Int) = 0) by decide), if_neg (show ¬ (((2 : Nat) : Int) = 1) by decide), rF_ok k75, f750, rF_ok k34, f341, oK_ok k31]
          have h8 := W.1.1.1
          refine biV (c_weigh (d := d) (p := pp) (D := 3) hs1.j i1.2.1 W.1 (by decide) KK wk (by omega)) fun s2 hev ⟨j1, j2, j3⟩ => ?_
          have hs2 : ShC s2 := hs1.ev hev rfl
          have R2 := i1.jr W j1 hs2
          have K2 := KN s2 R2.2.1
          have q1 := K2.1.1
          have q2 := K2.2.2.2.1
          have tb := tkK_bd (D := a.1) wk
          have cb := wk.2.2.1
          have m75 : kd s2 75 = 10 := hs2.1 75 (by decide) (by decide)
          have m34 : kd s2 34 = 12 := hs2.1 34 (by decide) (by decide)
          have m31 : kd s2 31 = 6 := hs2.1 31 (by decide) (by decide)
          have n75 : gF s2 75 1 = 76 := hs2.2.2.1 (75, 1, 76) (by decide)
          have n750 : gF s2 75 0 = 34 := hs2.2.2.1 (75, 0, 34) (by decide)
          have n34 : gF s2 34 1 = 31 := hs2.2.2.1 (34, 1, 31) (by decide)
          rw [rF_ok m75, n75, rF_ok q1, q2, rF_ok m75, n750, rF_ok m34, n34, rF_ok m31, j2, wi_sm (x := (a.1.1.getD ((k - 3) % 8) k0).2.2.1 - tkK a.1 (a.1.1.getD ((k - 3) % 8) k0)) (by omega) (by omega)]
          refine wr s2 _ R2 (j1.k.mono (by decide) (by decide) (by decide)) ?_ ek.symm
          have e76 : gA s2 76 = gA s1 76 := j1.2.2.1 76 (by decide)
          unfold WrI
          rw [e76]
          exact i3
      · rw [if_neg e3] at ek
        rw [c_knotAt0 i1.2.1 (fun x => e3 (by have := x.2; omega)), cR_ok, if_neg (by decide), if_pos rfl, rF_ok k75, f75]
        exact wr s1 _ i1 (FrK.rf _ _ _ _) i3 ek.symm
    · rw [if_neg e1]
      exact nxt s1 i1 (FrK.rf _ _ _ _) (i3.sk fun q hq _ _ => by rw [hp] at hq; exact e1 (congrArg Prod.fst hq))
  · intro s1 ⟨i1, i2, i3⟩
    have hs1 := i1.1
    have l71 : (gA s1 71).length = 12 := hs1.2.1 71 (by decide) (by decide)
    have a71 : (gA s1 71).getD n 0 = (off + cc.length : Nat) := by rw [i2.2.2 71 (by decide)]; exact he
    have f9 : gF s1 63 9 = 71 := hs1.2.2.1 (63, 9, 71) (by decide)
    have k71 : kd s1 71 = 20 := hs1.1 71 (by decide) (by decide)
    rw [e_X6_loadWords_26, rF_ok hs1.o63.1, f9, rA_ok k71 (by omega) (by rw [l71]; omega), Int.toNat_natCast, a71, if_neg (Int.lt_irrefl _)]
    exact reV ⟨i1, i2, i3⟩
end CLO
