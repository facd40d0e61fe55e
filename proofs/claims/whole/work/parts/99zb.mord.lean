/-! ===== the reference goes along an order ===== -/
/-- what going along may change besides where it stands -/
def GB (S0 S : St) : Prop := ShM S ∧ Fa [124] S0 S ∧ ∀ j, j ∉ [53, 55, 56] → gF S 98 j = gF S0 98 j
section MOB
variable {s S S' : St} {a : Ab} {d D : Nat} {dn lt : Int} {c v : Nat → Int} {nt : Nat} {ρ : Nat → Int} {i l : Nat} {live b : Int}
theorem GB.rf (h : ShM S) : GB S S := ⟨h, Fa.rf _ _, fun _ _ => rfl⟩
theorem GB.tr {S2 : St} (h : GB S S') (g : GB S' S2) : GB S S2 := ⟨g.1, h.2.1.tr g.2.1, fun j hj => (g.2.2 j hj).trans (h.2.2 j hj)⟩
theorem EvX.gb (X : EvX S 2400 nt c v 14 19 ρ) (G : GB S S') : EvX S' 2400 nt c v 14 19 ρ := by
  obtain ⟨x1, x2, x3, x4, x5, x6, x7, x8, x9, x10, x11, x12⟩ := X
  obtain ⟨g1, g2, g3⟩ := G
  exact ⟨g1, (g3 23 (by decide)).trans x2, (g3 8 (by decide)).trans x3, x4, x5, by rw [g2 100 (by decide)]; exact x6, by rw [g2 100 (by decide)]; exact x7, x8, by rw [g2 110 (by decide)]; exact x9, by rw [g2 111 (by decide)]; exact x10, x11, x12⟩
theorem ge_s {k : Nat} {g b x : Int} (h : k ≠ 22 ∧ k ≠ 24) : sF (ge S g b) 98 k x = ge (sF S 98 k x) g b := by
  unfold ge
  rw [sF_cm (fun e => h.2 e.symm), sF_cm (j := 22) (fun e => h.1 e.symm)]
theorem ge_a {g b p : Int} {L : List Int} : sA (ge S g b) p L = ge (sA S p L) g b := rfl
theorem ge_o {k : Nat} {g b : Int} (h : k ≠ 22 ∧ k ≠ 24) : gF (ge S g b) 98 k = gF S 98 k := by
  unfold ge
  rw [gF_nk h.2, gF_nk h.1]
theorem ge_sh {g b : Int} (h : ShM S) : ShM (ge S g b) := (h.sF (by decide)).sF (by decide)
theorem GB.f {k : Nat} {x : Int} (h : ShM S) (hk : k = 53 ∨ k = 55 ∨ k = 56) : GB S (sF S 98 k x) := by
  refine ⟨?_, fun _ _ => rfl, fun j hj => gF_nk (fun e => hj ?_)⟩
  · rcases hk with rfl | rfl | rfl
    · exact h.sF (by decide)
    · exact h.sF (by decide)
    · exact h.sF (by decide)
  · subst e
    rcases hk with rfl | rfl | rfl <;> decide
theorem GB.ar {L : List Int} (h : ShM S) (hl : L.length = (gA S 124).length) : GB S (sA S 124 L) := ⟨h.sA hl, Fa.sA _ (by decide), fun _ _ => rfl⟩
/-- one sum -/
theorem m_ga89 {T : Res → Prop} {r : PV} {n : Int} {k : Nat} (hS : ShM S) (M : MSp S 2400 nt ρ (fun t live => X12_sumOf D t 98 live) i r) (hlv : live = 0 ∨ live = 1) (hk : k < 2) (hT : ∀ S', GB S S' → gF S' 98 55 = (if gF S 98 55 = 0 ∨ (evV r.2.2.2 ρ live 0).2 ≠ 0 then 0 else 1) → gF S' 98 53 = gF S 98 53 → gA S' 124 = (gA S 124).set k (evV r.2.2.2 ρ live 0).1 → Gl T (X12_goesAlong_68 (D + 1) (ge S' (2400 + r.1) (evV r.2.2.2 ρ live 0).2) 98 live n ((k + 1 : Nat) : Int))) : Gl T (X12_goesAlong_89 (D + 1) (ge S (2400 + i) b) 98 live n k) := by
  obtain ⟨-, -, M⟩ := M
  have M := M live 0 hlv (Or.inl rfl)
  have l124 : (gA S 124).length = 2 := hS.ln 124
  have hg : ShM (ge S (2400 + i) 0) := ge_sh hS
  rw [e_X12_goesAlong_89, wF_ok (ge_sh hS).k98, ge_b, rF_ok hg.k98, oK_ok hg.k98, show X12_sumOf D (ge S (2400 + i) 0) 98 live = _ from M, cL_ok, show gF (ge S (2400 + (i : Int)) 0) 98 57 = 124 from hg.fs.2.2.2.2.2.2.2.2.2.2.2.2.2.2.2.2.2.2.2.2.2.2.2.2.2.1]
  generalize (evV r.2.2.2 ρ live 0).1 = x at hT ⊢
  generalize (evV r.2.2.2 ρ live 0).2 = b' at hT ⊢
  have hg2 : ShM (ge S (2400 + r.1) b') := ge_sh hS
  have GA := GB.ar (S := S) (L := (gA S 124).set k x) hS (by rw [List.length_set])
  rw [show ((2400 : Nat) : Int) = 2400 from rfl, wA_ok (show kd (ge S (2400 + r.1) b') 124 = 23 from hg2.kd 124) (by omega) (by rw [ge_A, l124]; omega), Int.toNat_natCast, ge_A, ge_a, rF_ok (ge_sh GA.1).k98, ge_o (by decide), gF_sA]
  by_cases e : gF S 98 55 = 0
  · rw [if_pos e, wF_ok (ge_sh GA.1).k98, ge_s (by decide), wi_sc (by omega)]
    exact hT _ (GA.tr (GB.f GA.1 (by decide))) (by rw [gF_eq, if_pos (Or.inl e)]) (gF_nk (by decide)) (by rw [gA_sF, gA_eq])
  · rw [if_neg e, rF_ok (ge_sh GA.1).k98, ge_24]
    by_cases e2 : b' = 0
    · rw [if_pos e2, wF_ok (ge_sh GA.1).k98, ge_s (by decide), wi_sc (by omega)]
      exact hT _ (GA.tr (GB.f GA.1 (by decide))) (by rw [gF_eq, if_neg (fun h => h.elim e (fun h => h e2))]) (gF_nk (by decide)) (by rw [gA_sF, gA_eq])
    · rw [if_neg e2, wF_ok (ge_sh GA.1).k98, ge_s (by decide), wi_sc (by omega)]
      exact hT _ (GA.tr (GB.f GA.1 (by decide))) (by rw [gF_eq, if_pos (Or.inr e2)]) (gF_nk (by decide)) (by rw [gA_sF, gA_eq])
theorem m_ga203 {g w : Int} (hS : ShM S) (hw : w = 0 ∨ w = 1) (hg : 0 ≤ g ∧ g < 100000) : X12_goesAlong_203 d (ge S g b) 98 98 w = some ([], ge (sF S 98 56 (if w = 0 ∨ b ≠ 0 then 0 else 1)) (g + 1) b) := by
  have h1 : ∀ x : Int, ShM (sF S 98 56 x) := fun x => hS.sF (by decide)
  rw [e_X12_goesAlong_203, bk_b hw, wF_ok (ge_sh hS).k98, ge_s (by decide), rF_ok (ge_sh (h1 w)).k98, ge_o (by decide), gF_eq]
  by_cases e : w = 0
  · rw [if_pos e, if_pos (Or.inl e), wF_ok (ge_sh (h1 w)).k98, ge_s (by decide), sF_ov, rF_ok (ge_sh (h1 0)).k98, ge_22, wF_ok (ge_sh (h1 0)).k98, ge_g, wi_sm (by omega) (by omega)]
  · rw [if_neg e, rF_ok (ge_sh (h1 w)).k98, ge_24]
    by_cases e2 : b = 0
    · rw [if_pos e2, if_neg (fun h => h.elim e (fun h => h e2)), wF_ok (ge_sh (h1 w)).k98, ge_s (by decide), sF_ov, rF_ok (ge_sh (h1 1)).k98, ge_22, wF_ok (ge_sh (h1 1)).k98, ge_g, wi_sm (by omega) (by omega)]
    · rw [if_neg e2, if_pos (Or.inr e2), wF_ok (ge_sh (h1 w)).k98, ge_s (by decide), sF_ov, rF_ok (ge_sh (h1 0)).k98, ge_22, wF_ok (ge_sh (h1 0)).k98, ge_g, wi_sm (by omega) (by omega)]
/-- the end of an order: its test -/
theorem m_ga176 {r : Nat × Nat × Cl} {h t : Int} {x y : Cd × Dn} (X : EvX S 2400 nt c v 14 19 ρ) (hlv : live = 0 ∨ live = 1) (hi : i ≤ nt) (hp : pIf c (pTest c v 14 19 8) i l h t x y = .ok r) : (i ≤ r.1 ∧ r.1 ≤ nt ∧ r.2.2 = (h, t, x, y, r.2.2.2.2.2.2)) ∧ Gl (GV fun s' => ∃ S' b', s' = ge S' (2400 + (r.1 + 1 : Nat)) b' ∧ GB S S' ∧ gF S' 98 53 = gF S 98 53 ∧ gF S' 98 55 = gF S 98 55 ∧ gA S' 124 = gA S 124 ∧ (live = 1 → gF S' 98 56 = if r.2.2.2.2.2.2.2 ρ = some 1 then 1 else 0)) (X12_goesAlong_176 (d + 49) (ge S (2400 + i) b) 98 live) := by
  have hS := X.1
  have hnt := X.2.2.2.1
  have h1 : ∀ x : Int, GB S (sF S 98 56 x) := fun x => GB.f hS (by decide)
  unfold pIf at hp
  by_cases e : c i = 4
  · rw [if_pos e] at hp
    have hi1 := ev_in X (j := i) (by omega)
    obtain ⟨q, ha, hp⟩ := bnd_ok.mp hp
    cases hp
    obtain ⟨⟨k1, k2⟩, k3, k4⟩ := m_test X 8 (d + 4) (i + 1) l q (by omega) ha
    obtain ⟨z, hz, k5⟩ := k4 live 0 hlv (Or.inl rfl)
    dsimp only at k1 k2 k5 ⊢
    refine ⟨⟨by omega, k2, rfl⟩, ?_⟩
    have pa := m_passes (d := d + 47) (b := 0) (w := 4) X (show i ≤ 400 by omega)
    rw [if_pos e] at pa
    rw [e_X12_goesAlong_176, wF_ok (ge_sh hS).k98, ge_b, oK_ok (ge_sh hS).k98, show X12_passes0 (d + 48) (ge S (2400 + (i : Int)) 0) 98 4 = _ from pa, cI_ok, if_neg (show ¬ ((1 : Int) = 0) by decide), oK_ok (ge_sh hS).k98, show X12_testOf (d + 48) (ge S (((2400 : Nat) : Int) + ((i + 1 : Nat) : Int)) 0) 98 live = _ from k5, cI_ok]
    have fin : ∀ w : Int, w = z → Gl (GV fun s' => ∃ S' b', s' = ge S' (2400 + (q.1 + 1 : Nat)) b' ∧ GB S S' ∧ gF S' 98 53 = gF S 98 53 ∧ gF S' 98 55 = gF S 98 55 ∧ gA S' 124 = gA S 124 ∧ (live = 1 → gF S' 98 56 = if q.2.2.2 ρ = some 1 then 1 else 0)) (X12_goesAlong_203 (d + 49) (ge S (((2400 : Nat) : Int) + (q.1 : Int)) (evV q.2.2.2 ρ live 0).2) 98 98 w) := by
      intro w hw
      rw [m_ga203 hS (by rw [hw]; exact hz.1) (by omega)]
      refine reV ⟨_, _, by rw [show ((2400 : Nat) : Int) + (q.1 : Int) + 1 = 2400 + ((q.1 + 1 : Nat) : Int) by omega], h1 _, gF_nk (by decide), gF_nk (by decide), rfl, fun hl => ?_⟩
      rw [gF_eq, hw]
      have hz2 := hz.2 hl rfl
      subst hl
      cases e1 : q.2.2.2 ρ with
      | none =>
        have : (evV q.2.2.2 ρ 1 0).2 = 1 := by simp [evV, oV, e1]
        rw [this, if_pos (Or.inr (by decide)), if_neg (by simp)]
      | some u =>
        have hb0 : (evV q.2.2.2 ρ 1 0).2 = 0 := by simp [evV, oV, e1]
        have hu := hz2 u e1
        rw [hb0, hu]
        rcases k3 u e1 with g | g
        · rw [if_pos (Or.inl g), if_neg (fun h => by have := Option.some.inj h; omega)]
        · rw [if_neg (fun h => h.elim (fun h => by omega) (fun h => h rfl)), g, if_pos rfl]
    rcases hz.1 with h0 | h0
    · rw [if_pos h0]
      exact fin 0 h0.symm
    · rw [if_neg (show ¬ (z = 0) by omega)]
      exact fin 1 h0.symm
  · rw [if_neg e] at hp
    cases hp
    refine ⟨⟨Nat.le_refl _, hi, rfl⟩, ?_⟩
    have pa := m_passes (d := d + 47) (b := 0) (w := 4) X (show i ≤ 400 by omega)
    rw [if_neg e] at pa
    rw [e_X12_goesAlong_176, wF_ok (ge_sh hS).k98, ge_b, oK_ok (ge_sh hS).k98, show X12_passes0 (d + 48) (ge S (2400 + (i : Int)) 0) 98 4 = _ from pa, cI_ok, if_pos rfl, m_ga203 hS (by decide) (by omega)]
    refine reV ⟨_, _, by rw [show ((2400 : Nat) : Int) + (i : Int) + 1 = 2400 + ((i + 1 : Nat) : Int) by omega], h1 _, gF_nk (by decide), gF_nk (by decide), rfl, fun hl => ?_⟩
    rw [gF_eq, if_neg (fun h => h.elim (by decide) (fun h => h rfl))]
    exact (if_pos rfl).symm
/-- how often, and the test -/
theorem m_gaTm {r : Nat × Nat × Cl} {h : Int} {x y : Cd × Dn} {n : Int} (X : EvX S 2400 nt c v 14 19 ρ) (hlv : live = 0 ∨ live = 1) (hi : i ≤ nt) (hp : pTm c v (pTest c v 14 19 8) i l h x y = .ok r) : (i ≤ r.1 ∧ r.1 ≤ nt ∧ r.2.2 = (h, r.2.2.2.1, x, y, r.2.2.2.2.2.2)) ∧ Gl (GV fun s' => ∃ S' b', s' = ge S' (2400 + (r.1 + 1 : Nat)) b' ∧ GB S S' ∧ gF S' 98 53 = r.2.2.2.1 ∧ gF S' 98 55 = gF S 98 55 ∧ gA S' 124 = gA S 124 ∧ (live = 1 → gF S' 98 56 = if r.2.2.2.2.2.2.2 ρ = some 1 then 1 else 0)) (X12_goesAlong_68 (d + 49) (ge S (2400 + i) b) 98 live n n) := by
  have hS := X.1
  have hnt := X.2.2.2.1
  have G1 : ∀ z : Int, GB S (sF S 98 53 z) := fun z => GB.f hS (by decide)
  have X1 := X.gb (G1 1)
  unfold pTm at hp
  have beg : X12_goesAlong_68 (d + 49) (ge S (2400 + i) b) 98 live n n = cI (X12_passes0 (d + 48) (ge (sF S 98 53 1) (2400 + i) b) 98 25) fun x1 s2 => if x1 = 0 then (X12_goesAlong_176 (d + 49) s2 98 live) else (rF s2 98 16 2 fun x2 => rF s2 98 16 22 fun x3 => rA s2 x2 20 (wi (2981 + x3)) fun x4 => wF s2 98 16 53 x4 fun s3 => rF s3 98 16 22 fun x5 => wF s3 98 16 22 (wi (x5 + 1)) fun s4 => X12_goesAlong_176 (d + 49) s4 98 live) := by
    rw [e_X12_goesAlong_68, if_neg (Int.lt_irrefl _), wF_ok (ge_sh hS).k98, ge_s (by decide), oK_ok (ge_sh (G1 1).1).k98]
  have pa := m_passes (d := d + 47) (b := b) (w := 25) X1 (show i ≤ 400 by omega)
  rw [show (((2400 : Nat) : Int) + (i : Int)) = 2400 + (i : Int) from rfl] at pa
  rw [pa] at beg
  by_cases e : c i = 25
  · rw [if_pos e] at hp
    split at hp
    · rename_i e2
      have hi1 := ev_in X (j := i) (by omega)
      have hi2 := ev_in X (j := i + 1) (by omega)
      have hv : v (i + 1) = (gA S 100).getD (2981 + 2400 + (i + 1)) 0 := X.2.2.2.2.2.2.1 (i + 1) hi2
      have G2 : GB S (sF S 98 53 (v (i + 1))) := G1 _
      obtain ⟨⟨p1, p2, p3⟩, p4⟩ := m_ga176 (d := d) (b := b) (X.gb G2) hlv (show i + 2 ≤ nt by omega) hp
      have et : r.2.2.2.1 = v (i + 1) := by rw [p3]
      refine ⟨⟨by omega, p2, by rw [et]; exact p3⟩, ?_⟩
      rw [if_pos e, cI_ok, if_neg (show ¬ ((1 : Int) = 0) by decide)] at beg
      have hs1 := ge_sh (g := ((2400 : Nat) : Int) + ((i + 1 : Nat) : Int)) (b := b) (G1 1).1
      have l100 : (gA S 100).length = 5781 := hS.ln 100
      rw [rF_ok hs1.k98, rF_ok hs1.k98, ge_22, show gF (ge (sF S 98 53 1) (((2400 : Nat) : Int) + ((i + 1 : Nat) : Int)) b) 98 2 = 100 from hs1.fs.2.1, wi_sm (by omega) (by omega), rA_ok (show kd (ge (sF S 98 53 1) (((2400 : Nat) : Int) + ((i + 1 : Nat) : Int)) b) 100 = 20 from hs1.kd 100) (by omega) (by rw [ge_A, gA_sF]; omega), ge_A, gA_sF, show ((2981 : Int) + (((2400 : Nat) : Int) + ((i + 1 : Nat) : Int))).toNat = 2981 + 2400 + (i + 1) by omega, ← hv, wF_ok hs1.k98, ge_s (by decide), sF_ov, rF_ok (ge_sh G2.1).k98, ge_22, wF_ok (ge_sh G2.1).k98, ge_g, wi_sm (by omega) (by omega), show ((2400 : Nat) : Int) + ((i + 1 : Nat) : Int) + 1 = 2400 + ((i + 2 : Nat) : Int) by omega] at beg
      rw [beg]
      refine wkV p4 fun s' _ ⟨S', b', q1, q2, q3, q4, q5, q6⟩ => ⟨S', b', q1, G2.tr q2, q3.trans ((gF_eq _ _ _ _).trans et.symm), q4.trans (gF_nk (by decide)), q5, q6⟩
    · cases hp
  · rw [if_neg e] at hp
    obtain ⟨⟨p1, p2, p3⟩, p4⟩ := m_ga176 (d := d) (b := b) X1 hlv hi hp
    have et : r.2.2.2.1 = 1 := by rw [p3]
    refine ⟨⟨p1, p2, by rw [et]; exact p3⟩, ?_⟩
    rw [if_neg e, cI_ok, if_pos rfl] at beg
    rw [beg]
    refine wkV p4 fun s' _ ⟨S', b', q1, q2, q3, q4, q5, q6⟩ => ⟨S', b', q1, (G1 1).tr q2, q3.trans ((gF_eq _ _ _ _).trans et.symm), q4.trans (gF_nk (by decide)), q5, q6⟩
end MOB
