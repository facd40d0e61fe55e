/-! ===== the class: orders, run wholly or not at all ===== -/
def repO (q : Cl) : Nat → OS → Option OS
  | 0, σ => some σ
  | n + 1, σ => match onceO q σ with
    | none => none
    | some τ => repO q n τ
def runO : List Cl → Nat → OS → Except Nat OS
  | [], _, σ => .ok σ
  | q :: r, i, σ => match repO q q.2.1.toNat σ with
    | none => .error i
    | some τ => runO r (i + 1) τ
def setSp (a : Ab) (x : Int) : Ab := (a.1, a.2.1, a.2.2.1, a.2.2.2.1, (a.2.2.2.2.1.1, a.2.2.2.2.1.2.1, a.2.2.2.2.1.2.2.1, x), a.2.2.2.2.2)
def aOrd (a : Ab) : Int × Ab := match rdT a.2.2.2.1 14 with
  | .error e => refu (setFt (setTp (setSp a (-1)) []) (sTx a.2.2.2.1 e)) (-6)
  | .ok cls => (match runO cls 0 (setFt (setTp (setSp a (-1)) []) (-1), 0, -1) with
    | .ok σ => goodA σ.1 σ.2.1
    | .error i => refu (setSp (setFt (setTp a []) (-1)) i) (-3))
section COR
variable {s s' : St} {a : Ab} {d : Nat} {cls : List Cl} {q : Cl} {σ τ : OS}
theorem ShC.d35 {s : St} (h : ShC s) : ShD s 35 := by
  obtain ⟨h1, h2, h3, h4, h5⟩ := h
  have k := fun p a b => h1 p a b
  have l := fun p a b => h2 p a b
  have f := fun q hq => h3 q hq
  refine ⟨k 35 (by decide) (by decide), ⟨f (35, 0, 36) (by decide), f (35, 2, 37) (by decide), f (35, 4, 38) (by decide), f (35, 5, 39) (by decide), f (35, 7, 40) (by decide), f (35, 8, 41) (by decide), f (35, 11, 42) (by decide)⟩, ⟨k 36 (by decide) (by decide), h4.2⟩, ⟨k 37 (by decide) (by decide), l 37 (by decide) (by decide)⟩, ⟨k 38 (by decide) (by decide), l 38 (by decide) (by decide)⟩, ⟨k 39 (by decide) (by decide), l 39 (by decide) (by decide)⟩, ⟨k 40 (by decide) (by decide), l 40 (by decide) (by decide)⟩, ⟨k 41 (by decide) (by decide), l 41 (by decide) (by decide)⟩, ⟨k 42 (by decide) (by decide), f (42, 1, 43) (by decide), f (42, 2, 44) (by decide), f (42, 3, 45) (by decide)⟩, fun i i1 i2 => ?_, fun i i1 i2 => ?_⟩
  · have : i = 8 ∨ i = 9 ∨ i = 10 := by omega
    rcases this with rfl | rfl | rfl
    · exact ⟨k 43 (by decide) (by decide), l 43 (by decide) (by decide)⟩
    · exact ⟨k 44 (by decide) (by decide), l 44 (by decide) (by decide)⟩
    · exact ⟨k 45 (by decide) (by decide), l 45 (by decide) (by decide)⟩
  · have : i = 0 ∨ i = 1 ∨ i = 2 ∨ i = 3 ∨ i = 4 ∨ i = 5 ∨ i = 6 ∨ i = 7 := by omega
    rcases this with rfl | rfl | rfl | rfl | rfl | rfl | rfl | rfl
    · exact ⟨k 46 (by decide) (by decide), f (46, 5, 47) (by decide), k 47 (by decide) (by decide), l 47 (by decide) (by decide)⟩
    · exact ⟨k 48 (by decide) (by decide), f (48, 5, 49) (by decide), k 49 (by decide) (by decide), l 49 (by decide) (by decide)⟩
    · exact ⟨k 50 (by decide) (by decide), f (50, 5, 51) (by decide), k 51 (by decide) (by decide), l 51 (by decide) (by decide)⟩
    · exact ⟨k 52 (by decide) (by decide), f (52, 5, 53) (by decide), k 53 (by decide) (by decide), l 53 (by decide) (by decide)⟩
    · exact ⟨k 54 (by decide) (by decide), f (54, 5, 55) (by decide), k 55 (by decide) (by decide), l 55 (by decide) (by decide)⟩
    · exact ⟨k 56 (by decide) (by decide), f (56, 5, 57) (by decide), k 57 (by decide) (by decide), l 57 (by decide) (by decide)⟩
    · exact ⟨k 58 (by decide) (by decide), f (58, 5, 59) (by decide), k 59 (by decide) (by decide), l 59 (by decide) (by decide)⟩
    · exact ⟨k 60 (by decide) (by decide), f (60, 5, 61) (by decide), k 61 (by decide) (by decide), l 61 (by decide) (by decide)⟩
theorem CpF.k35 (C : CpF 35 s s') : FrK [] (d3L.map (· + 32)) (d3L.map (· + 32)) s s' := by
  have inn : ∀ p : Int, 35 ≤ p ∧ p ≤ 35 + 26 → p ∈ d3L.map (· + 32) := fun p h => List.mem_map.mpr ⟨p - 32, d3_in (by omega), by omega⟩
  exact ⟨C.1, fun p k hp _ _ => (C.2 p (fun e => hp (inn p e))).1 k, fun p hp => (C.2 p (fun e => hp (inn p e))).2⟩
theorem act_same {h x y : Int} : (actO h x y a).2.2.1 = a.2.1 ∧ (actO h x y a).2.2.2.2 = a.2.2.2 := by
  unfold actO
  split
  · unfold dLay; repeat (split; · exact ⟨rfl, rfl⟩)
    exact ⟨rfl, rfl⟩
  split
  · unfold dThr; repeat (split; · exact ⟨rfl, rfl⟩)
    exact ⟨rfl, rfl⟩
  split
  · unfold dDrw; repeat (split; · exact ⟨rfl, rfl⟩)
    exact ⟨rfl, rfl⟩
  · unfold dMir; repeat (split; · exact ⟨rfl, rfl⟩)
    exact ⟨rfl, rfl⟩
/-- while orders run -/
def JO (a : Ab) (σ : OS) : Prop := wfA σ.1 ∧ (σ.1.2.1 = a.2.1 ∧ σ.1.2.2.2 = a.2.2.2) ∧ 0 ≤ σ.2.1 ∧ (-1 ≤ σ.2.2 ∧ σ.2.2 ≤ 100)
theorem JO.once (h : JO a σ) (e : onceO q σ = some τ) : JO a τ ∧ τ.2.1 ≤ σ.2.1 + 1 := by
  unfold onceO at e
  split at e
  · split at e
    · split at e
      · split at e
        · cases e
        · rename_i x _ _ y _ hz
          cases e
          have W := (wf_actO (h := q.1) (x := x) (y := y) h.1).1
          have r := actO_r (h := q.1) (x := x) (y := y) h.1
          have sm := act_same (a := σ.1) (h := q.1) (x := x) (y := y)
          have h3 := h.2.2.1
          have h4 := h.2.2.2
          exact ⟨⟨W, ⟨sm.1.trans h.2.1.1, sm.2.trans h.2.1.2⟩, by dsimp only; omega, by dsimp only; omega⟩, Int.le_refl _⟩
      · cases e
    · cases e
  · cases e
    exact ⟨h, by omega⟩
def RunR (a : Ab) (r : Except Nat OS) (x : Int) (s' : St) : Prop := match r with
  | .ok σ => x = σ.2.1 ∧ RepC σ.1 s' ∧ JO a σ
  | .error i => x = -3 ∧ RepC (setSp a i) s' ∧ i < 12
def JS (a : Ab) (cls : List Cl) (σ : OS) (s : St) : Prop := RepC σ.1 s ∧ JO a σ ∧ ScR s 63 cls ∧ DrC s 35 a.1 ∧ LgC s 42 a.2.2.1 a.1.1 ∧ (gA s 76).getD 1 0 = σ.2.1 ∧ (gA s 76).getD 2 0 = σ.2.2
theorem c_give {n : Nat} (hJ : RepC σ.1 s ∧ JO a σ ∧ DrC s 35 a.1 ∧ LgC s 42 a.2.2.1 a.1.1) (W : wfA a) (hn : n < 12) : Gl (GI fun x s' => RunR a (.error n) x s') (wF s 75 10 3 n fun s2 => rF s2 75 10 0 fun x4 => oK s2 x4 12 (cV (X8_giveBack (d + 6) s2 x4) fun s3 => some ([(0, (-3))], s3))) := by
  obtain ⟨R, J, D35, L42⟩ := hJ
  have hs := R.1
  have k75 : kd s 75 = 10 := hs.1 75 (by decide) (by decide)
  have F1 : FrK [] [75] [] s (sF s 75 3 n) := FrK.sF (by decide)
  have hs1 : ShC (sF s 75 3 n) := hs.sF (by rw [k75]; decide)
  have e13 : gF (sF s 75 3 n) 75 3 = n := gF_eq _ _ _ _
  rw [wF_ok k75]
  have D1 := D35.k W.1 F1 (by decide) (by decide)
  have L1 := L42.k (hs.1 42 (by decide) (by decide)) F1 (by decide) (by decide) (by decide)
  generalize sF s 75 3 n = S1 at *
  have k751 : kd S1 75 = 10 := hs1.1 75 (by decide) (by decide)
  have f750 : gF S1 75 0 = 34 := hs1.2.2.1 (75, 0, 34) (by decide)
  have k34 : kd S1 34 = 12 := hs1.1 34 (by decide) (by decide)
  have f340 : gF S1 34 0 = 3 := hs1.2.2.1 (34, 0, 3) (by decide)
  have f342 : gF S1 34 2 = 35 := hs1.2.2.1 (34, 2, 35) (by decide)
  rw [rF_ok k751, f750, oK_ok k34, e_X8_giveBack, rF_ok k34, f340, rF_ok k34, f342, oK_ok hs1.o3.1]
  obtain ⟨s3, e3, C3, D3, L3⟩ := c_copyFrom (d := d + 4) (D := 3) (E := 35) hs1.d3 D1 W.1 (Or.inl (by decide))
  have hs3 : ShC s3 := hs1.ev e3 rfl
  rw [e3, cV_ok, cV_ok]
  have F2 : FrK [] (75 :: d3L) d3L s s3 := (F1.mono (by decide) (by decide) (by decide)).tr (C3.k3.mono (by decide) (by decide) (by decide))
  obtain ⟨-, -, b3, -, b5, b6, b7, b8, b9⟩ := id R
  have pg : PgW s3 := (b9.k2 hs.o78.1 F1 (by decide) (by decide) (by decide)).k2 hs1.o78.1 C3.k3 (by decide) (by decide) (by decide)
  have t3 : TpC s3 σ.1.2.2.2.1 := ⟨(F2.2.1 1 1 (by decide) (by rw [hs.o1.1]; decide) (by decide)).trans b5.1, fun i hi => by unfold af; rw [F2.2.2 2 (by decide)]; exact b5.2 i hi⟩
  have g1 : ∀ k, k < 100 → gF s3 1 k = gF s 1 k := fun k hk => F2.2.1 1 k (by decide) (by rw [hs.o1.1]; decide) hk
  have f3 : FlC s3 (σ.1.2.2.2.2.1.1, σ.1.2.2.2.2.1.2.1, σ.1.2.2.2.2.1.2.2.1, (n : Int)) := ⟨(g1 12 (by decide)).trans b6.1, (g1 14 (by decide)).trans b6.2.1, (g1 13 (by decide)).trans b6.2.2.1, ((C3.2 75 (by decide)).1 3).trans e13⟩
  have r3 : RfC s3 σ.1.2.2.2.2.2.1 := by unfold RfC; rw [F2.2.2 97 (by decide)]; exact b7
  have R3 := R.up (a := σ.1) J.1 F2 hs3 (by decide) (by decide) pg D3 (L3.c L1) t3 f3 r3
  refine reI ⟨rfl, ?_, hn⟩
  rw [J.2.1.1, J.2.1.2] at R3
  exact R3
end COR
