/-! ===== the reference runs orders ===== -/
/-- the text of the orders lies in the seventh row -/
def TxO (c v : Nat → Int) (nt : Nat) (s : St) : Prop := nt ≤ 400 ∧ kA s 180 = nt ∧ ∀ i, i < nt → kA s (2581 + i) = c i ∧ kA s (5381 + i) = v i
/-- what going along an order leaves -/
def GaR (a : Ab) (dn lt : Int) (r : Nat × Nat × Cl) (live : Int) (s s' : St) : Prop := RepM a s' ∧ Fa [110, 111, 112, 124] s s' ∧ gF s' 98 54 = r.2.2.1 ∧ gF s' 98 53 = r.2.2.2.1 ∧ gF s' 98 22 = 2400 + ((r.1 + 1 : Nat) : Int) ∧ (live = 1 → gF s' 98 56 = (if r.2.2.2.2.2.2.2 (envO a dn lt) = some 1 then 1 else 0) ∧ gF s' 98 55 = (if r.2.2.2.2.1.2 (envO a dn lt) = none ∨ r.2.2.2.2.2.1.2 (envO a dn lt) = none then 0 else 1) ∧ (∀ x, r.2.2.2.2.1.2 (envO a dn lt) = some x → (gA s' 124).getD 0 0 = x ∧ (-1000000000 ≤ x ∧ x ≤ 1000000000)) ∧ (r.2.2.1 = 20 → ∀ y, r.2.2.2.2.2.1.2 (envO a dn lt) = some y → (gA s' 124).getD 1 0 = y ∧ (-1000000000 ≤ y ∧ y ≤ 1000000000)))
section MOC
variable {s s' : St} {a : Ab} {d : Nat} {dn lt : Int} {c v : Nat → Int} {nt : Nat} {i l : Nat} {live : Int}
theorem ev_n {f : Dn} {ρ : Nat → Int} : (evV f ρ 1 0).2 ≠ 0 ↔ f ρ = none := by
  unfold evV
  rw [if_neg (by decide)]
  cases f ρ with
  | none => simp [oV]
  | some x => simp [oV]
theorem ev_x {f : Dn} {ρ : Nat → Int} {x : Int} (h : f ρ = some x) : (evV f ρ 1 0).1 = x := by
  unfold evV
  rw [if_neg (by decide), h]
  rfl
theorem mm_goes {r : Nat × Nat × Cl} (R : RepM a s) (W : wfA a) (h50 : gF s 98 50 = dn) (h51 : gF s 98 51 = lt) (hd : -1000 ≤ dn ∧ dn ≤ 1000) (hl0 : -1000 ≤ lt ∧ lt ≤ 1000) (TX : TxO c v nt s) (hc0 : ∀ i, nt ≤ i → c i = 0) (hv0 : ∀ i, 0 ≤ v i) (h52 : gF s 98 52 = 2400 + (i : Int)) (hi : i < nt) (hp : pClO c v i l = .ok r) (hlv : live = 0 ∨ live = 1) : Gl (GV fun s' => (i < r.1 ∧ r.1 ≤ nt) ∧ GaR a dn lt r live s s') (X12_goesAlong (d + 49) s 98 (2400 + (nt : Int)) live) := by
  have hs := R.1
  obtain ⟨hnt, t180, tx⟩ := TX
  rw [e_X12_goesAlong, oK_ok hs.k98]
  refine biV (mm_looks (d := d) R W h50 h51) fun s1 hev1 ⟨R1, F1, v0, v1, v2, v3⟩ => ?_
  have hs1 := R1.1
  have k52 : gF s1 98 52 = 2400 + (i : Int) := (hs.gf hev1 rfl rfl).trans h52
  -- the base, with its words and its end
  have hsA : ShM (sF s1 98 8 14) := hs1.sF (by decide)
  have hsB : ShM (sF (sF s1 98 8 14) 98 23 (2400 + nt)) := hsA.sF (by decide)
  have hsC : ∀ z : Int, ShM (sF (sF (sF (sF s1 98 8 14) 98 23 (2400 + nt)) 98 54 z) 98 55 1) := fun z => (hsB.sF (by decide)).sF (by decide)
  have X : EvX (sF (sF (sF (sF s1 98 8 14) 98 23 (2400 + nt)) 98 54 (c i)) 98 55 1) 2400 nt c v 14 19 (envO a dn lt) := by
    refine ⟨hsC _, rfl, rfl, hnt, by decide, fun i => ?_, fun i hi => ?_, Or.inr ⟨rfl, rfl⟩, fun k hk h3 => ?_, fun _ k hk => ?_, fun k => ?_, fun i _ => hv0 i⟩
    · by_cases e : i < nt
      · rw [if_pos e, ← (tx i e).1]
        show kA s (2581 + i) = (gA s1 100).getD (181 + 2400 + i) 0
        rw [F1 100 (by decide)]
        rfl
      · rw [if_neg e]
        exact hc0 i (by omega)
    · rw [← (tx i hi).2]
      show kA s (5381 + i) = (gA s1 100).getD (2981 + 2400 + i) 0
      rw [F1 100 (by decide)]
      rfl
    · show envO a dn lt k = (gA s1 110).getD k 0
      have : k = 0 ∨ k = 1 ∨ k = 2 := by omega
      rcases this with rfl | rfl | rfl
      · rw [v0]; rfl
      · rw [v1]; rfl
      · rw [v2]; rfl
    · exact (v3 k hk).symm
    · have := envO_bd W hd hl0 k
      omega
  have XB : EvX (sF (sF s1 98 8 14) 98 23 (2400 + nt)) 2400 nt c v 14 19 (envO a dn lt) := by
    obtain ⟨x1, x2, x3, x4, x5, x6, x7, x8, x9, x10, x11, x12⟩ := X
    exact ⟨hsB, rfl, rfl, x4, x5, x6, x7, x8, x9, x10, x11, x12⟩
  have eB : sF (sF (sF s1 98 8 14) 98 23 (2400 + nt)) 98 22 (2400 + i) = ge (sF (sF s1 98 8 14) 98 23 (2400 + nt)) (2400 + i) (gF (sF (sF s1 98 8 14) 98 23 (2400 + nt)) 98 24) := by
    show _ = sF (sF (sF (sF s1 98 8 14) 98 23 (2400 + nt)) 98 22 (2400 + i)) 98 24 (gF (sF (sF s1 98 8 14) 98 23 (2400 + nt)) 98 24)
    rw [show gF (sF (sF s1 98 8 14) 98 23 (2400 + (nt : Int))) 98 24 = gF (sF (sF (sF s1 98 8 14) 98 23 (2400 + (nt : Int))) 98 22 (2400 + i)) 98 24 from rfl, sF_id]
  generalize hb0 : gF (sF (sF s1 98 8 14) 98 23 (2400 + nt)) 98 24 = b0 at eB
  have ca := m_codeAt (d := d + 48) (i := i) (b := b0) (g := 2400 + (i : Int)) XB (by omega)
  rw [wF_ok hs1.k98, wF_ok hsA.k98, rF_ok hsB.k98, gF_nk (by decide), gF_nk (by decide), k52, wF_ok hsB.k98, eB, rF_ok (ge_sh hsB).k98, ge_22, oK_ok (ge_sh hsB).k98, show X12_codeAt (d + 48) (ge (sF (sF s1 98 8 14) 98 23 (2400 + (nt : Int))) (2400 + (i : Int)) b0) 98 (2400 + (i : Int)) = _ from ca, cI_ok, wF_ok (ge_sh hsB).k98, ge_s (by decide), rF_ok (ge_sh (hsB.sF (by decide))).k98, ge_22, wF_ok (ge_sh (hsB.sF (by decide))).k98, ge_g, wi_sm (by omega) (by omega), wF_ok (ge_sh (hsB.sF (by decide))).k98, ge_s (by decide), rF_ok (ge_sh (hsC _)).k98, ge_o (by decide), gF_nk (by decide), gF_eq]
  -- what is left of the base
  have c1 : gF (sF (sF (sF (sF s1 98 8 14) 98 23 (2400 + nt)) 98 54 (c i)) 98 55 1) 98 55 = 1 := gF_eq _ _ _ _
  have c2 : gF (sF (sF (sF (sF s1 98 8 14) 98 23 (2400 + nt)) 98 54 (c i)) 98 55 1) 98 54 = c i := by rw [gF_nk (by decide), gF_eq]
  have c3 : ∀ j ∈ mFs, gF (sF (sF (sF (sF s1 98 8 14) 98 23 (2400 + nt)) 98 54 (c i)) 98 55 1) 98 j = gF s1 98 j := fun j hj => by
    rw [gF_nk (by revert j; decide), gF_nk (by revert j; decide), gF_nk (by revert j; decide), gF_nk (by revert j; decide)]
  have c4 : ∀ p, gA (sF (sF (sF (sF s1 98 8 14) 98 23 (2400 + nt)) 98 54 (c i)) 98 55 1) p = gA s1 p := fun _ => rfl
  clear XB eB ca
  generalize sF (sF (sF (sF s1 98 8 14) 98 23 (2400 + nt)) 98 54 (c i)) 98 55 1 = S at X c1 c2 c3 c4 ⊢
  have hS := X.1
  have l124 : (gA S 124).length = 2 := hS.ln 124
  -- the end
  have fin : ∀ (S' : St) (b' : Int), GB S S' → RepM a (ge S' (2400 + ((r.1 + 1 : Nat) : Int)) b') ∧ Fa [110, 111, 112, 124] s (ge S' (2400 + ((r.1 + 1 : Nat) : Int)) b') := by
    intro S' b' ⟨g1, g2, g3⟩
    refine ⟨R1.fr (ge_sh g1) (fun p hp => ?_) (fun k hk => ?_), ?_⟩
    · rw [ge_A, g2 p (by revert p; decide), c4]
    · rw [ge_o (by revert k; decide), g3 k (by revert k; decide), c3 k hk]
    · have : Fa [124] s1 (ge S' (2400 + ((r.1 + 1 : Nat) : Int)) b') := fun p hp => by rw [ge_A, g2 p hp, c4]
      exact (F1.mono (by decide)).tr (this.mono (by decide))
  unfold pClO at hp
  by_cases e20 : c i = 20
  · rw [if_pos e20] at hp
    obtain ⟨q0, hq0, hp⟩ := bnd_ok.mp hp
    have M0 := m_sum X 8 (d + 19) (i + 1) l q0 hq0
    split at hp
    · rename_i e21
      obtain ⟨q1, hq1, hp⟩ := bnd_ok.mp hp
      have M1 := m_sum X 8 (d + 19) (q0.1 + 1) q0.2.1 q1 hq1
      obtain ⟨⟨a1, a2⟩, a3, -⟩ := id M0
      obtain ⟨⟨b1, b2⟩, b3, -⟩ := id M1
      rw [if_pos e20, e_X12_goesAlong_68, if_pos (by decide), if_neg (by decide), show (2400 : Int) + (i : Int) + 1 = 2400 + ((i + 1 : Nat) : Int) by omega]
      refine m_ga89 (k := 0) hS M0 hlv (by decide) fun S1 G1 g55 g53 g124 => ?_
      have hS1 := G1.1
      have M1' : MSp S1 2400 nt (envO a dn lt) (fun t live => X12_sumOf (d + 48) t 98 live) (q0.1 + 1) q1 := m_sum (X.gb G1) 8 (d + 19) (q0.1 + 1) q0.2.1 q1 hq1
      rw [e_X12_goesAlong_68, if_pos (by decide), if_pos (by decide), rF_ok (ge_sh hS1).k98, ge_22, wF_ok (ge_sh hS1).k98, ge_g, wi_sm (by omega) (by omega), show (2400 : Int) + (q0.1 : Int) + 1 = 2400 + ((q0.1 + 1 : Nat) : Int) by omega]
      refine m_ga89 (k := 1) hS1 M1' hlv (by decide) fun S2 G2 h55 h53 h124 => ?_
      have hS2 := G2.1
      obtain ⟨⟨p1, p2, p3⟩, p4⟩ := m_gaTm (d := d) (n := 2) (b := (evV q1.2.2.2 (envO a dn lt) live 0).2) ((X.gb G1).gb G2) hlv b2 hp
      refine wkV p4 fun s' _ ⟨S', b', z1, z2, z3, z4, z5, z6⟩ => ?_
      subst z1
      obtain ⟨r1, r2⟩ := fin S' b' ((G1.tr G2).tr z2)
      refine ⟨⟨by omega, p2⟩, r1, r2, ?_, ?_, by rw [ge_22], fun hl => ?_⟩
      · rw [ge_o (by decide), z2.2.2 54 (by decide), G2.2.2 54 (by decide), G1.2.2 54 (by decide), c2, p3]
        exact e20
      · rw [ge_o (by decide), z3]
      · subst hl
        refine ⟨by rw [ge_o (by decide)]; exact z6 rfl, ?_, fun x hx => ?_, fun _ y hy => ?_⟩
        · rw [ge_o (by decide), z4, h55, g55, c1, p3]
          dsimp only
          by_cases n0 : q0.2.2.2 (envO a dn lt) = none
          · rw [if_pos (Or.inl (if_pos (Or.inr (ev_n.mpr n0)))), if_pos (Or.inl n0)]
          · by_cases n1 : q1.2.2.2 (envO a dn lt) = none
            · rw [if_pos (Or.inr (ev_n.mpr n1)), if_pos (Or.inr n1)]
            · rw [if_neg (fun h => h.elim (fun h => by rw [if_neg (fun h => h.elim (by decide) (fun h => n0 (ev_n.mp h)))] at h; exact absurd h (by decide)) (fun h => n1 (ev_n.mp h))), if_neg (fun h => h.elim n0 n1)]
        · rw [p3] at hx
          refine ⟨?_, a3 x hx⟩
          rw [ge_A, z5, h124, set_ne (by decide), g124, set_eq (by omega)]
          exact ev_x hx
        · rw [p3] at hy
          refine ⟨?_, b3 y hy⟩
          rw [ge_A, z5, h124, set_eq (by rw [g124, List.length_set]; omega)]
          exact ev_x hy
    · cases hp
  · rw [if_neg e20] at hp
    split at hp
    · rename_i e22
      obtain ⟨q0, hq0, hp⟩ := bnd_ok.mp hp
      have M0 := m_sum X 8 (d + 19) (i + 1) l q0 hq0
      obtain ⟨⟨a1, a2⟩, a3, -⟩ := id M0
      rw [if_neg e20, e_X12_goesAlong_68, if_pos (by decide), if_neg (by decide), show (2400 : Int) + (i : Int) + 1 = 2400 + ((i + 1 : Nat) : Int) by omega]
      refine m_ga89 (k := 0) hS M0 hlv (by decide) fun S1 G1 g55 g53 g124 => ?_
      have hS1 := G1.1
      obtain ⟨⟨p1, p2, p3⟩, p4⟩ := m_gaTm (d := d) (n := 1) (b := (evV q0.2.2.2 (envO a dn lt) live 0).2) (X.gb G1) hlv a2 hp
      refine wkV p4 fun s' _ ⟨S', b', z1, z2, z3, z4, z5, z6⟩ => ?_
      subst z1
      obtain ⟨r1, r2⟩ := fin S' b' (G1.tr z2)
      have ne20 : r.2.2.1 ≠ 20 := by
        rw [p3]
        exact e20
      refine ⟨⟨by omega, p2⟩, r1, r2, ?_, ?_, by rw [ge_22], fun hl => ?_⟩
      · rw [ge_o (by decide), z2.2.2 54 (by decide), G1.2.2 54 (by decide), c2, p3]
      · rw [ge_o (by decide), z3]
      · subst hl
        refine ⟨by rw [ge_o (by decide)]; exact z6 rfl, ?_, fun x hx => ?_, fun h _ _ => absurd h ne20⟩
        · rw [ge_o (by decide), z4, g55, c1, p3]
          dsimp only
          by_cases n0 : q0.2.2.2 (envO a dn lt) = none
          · rw [if_pos (Or.inr (ev_n.mpr n0)), if_pos (Or.inl n0)]
          · rw [if_neg (fun h => h.elim (by decide) (fun h => n0 (ev_n.mp h))), if_neg (fun h => h.elim n0 (fun h => by cases h))]
        · rw [p3] at hx
          refine ⟨?_, a3 x hx⟩
          rw [ge_A, z5, g124, set_eq (by omega)]
          exact ev_x hx
    · cases hp
end MOC
