/-! ===== one case of the law: the class's call, the reference's, and on if they answer alike ===== -/
def lvL (b x y : Nat) (i : Int32) : List (Nat × Value) := [(3, .int i), (2, .ref y), (1, .ref x), (0, .ref b)]
def aV (xs : Nat → Int32) (i0 : Nat) : Nat → Nat → List V
  | _, 0 => []
  | k, n + 1 => (0, (xs (i0 + k)).toInt) :: aV xs i0 (k + 1) n
theorem aV_len (xs : Nat → Int32) (i0 : Nat) : ∀ n k : Nat, (aV xs i0 k n).length = n ∧ wt (aV xs i0 k n) = n
  | 0, _ => ⟨rfl, rfl⟩
  | n + 1, k => by
    obtain ⟨h1, h2⟩ := aV_len xs i0 n (k + 1)
    refine ⟨by show (aV xs i0 (k + 1) n).length + 1 = n + 1; rw [h1], ?_⟩
    show 1 + wt (aV xs i0 (k + 1) n) = n + 1
    omega
theorem rg_toInt (x : Int32) : rg x.toInt := ⟨Int32.le_toInt x, Int32.toInt_lt x⟩
theorem aV_ty (s : St) (xs : Nat → Int32) (i0 : Nat) : ∀ n k : Nat, ∀ v ∈ aV xs i0 k n, tvV s v
  | 0, _, v, h => by cases h
  | n + 1, k, v, h => by
    rcases List.mem_cons.mp h with rfl | h
    · exact rg_toInt _
    · exact aV_ty s xs i0 n (k + 1) v h
section LAW
variable {E : Ev0} {l : Launch} {p : Program} {e : Env} {R : Room} {z : State} {m : MethodId} {args : Array Value} {below : List Frame} {meth : Method} {c : Code} {Q : State → Prop} {pc : Nat} {H : Heap} {locs : List Loc} {cells slots : Nat} {ls : Array Slot} {rest : List Value} {b L x y i0 : Nat} {xs : Nat → Int32}
/-- the script, where it lies -/
def SX (E : Ev0) (z : State) (b L : Nat) (xs : Nat → Int32) : Prop := va_X b L xs z z.heap ∧ b < z.heap.size ∧ ¬ aN E b ∧ L ≤ 384
theorem l_arg {k : Nat} (C : CL E p z m args c code "NeckKnotsLaw") (X : SX E z b L xs) (hS : va_S (aN E) z.heap H locs) (hl : lv_has ls 4 (lvL b x y (nI i0))) (hB : argB pc k = true) (hi : i0 + k < L) (kk : W p l e R z m args below meth c H locs cells slots Q (F0 m (pc + 5) ls (.int (xs (i0 + k)) :: rest))) : W p l e R z m args below meth c H locs cells slots Q (F0 m pc ls rest) := by
  obtain ⟨hx, hb, -⟩ := C
  obtain ⟨X1, X2, X3, X4⟩ := X
  unfold argB at hB
  simp only [Bool.and_eq_true] at hB
  obtain ⟨⟨⟨⟨d1, d2⟩, d3⟩, d4⟩, d5⟩ := hB
  refine lv_aload_n hx hb (dcB_ok d1) rfl (lv_at hl 3 rfl) ?_
  refine lv_iload_n hx hb (dcB_ok d2) rfl (lv_at hl 0 rfl) ?_
  refine lv_iconst (v := nI k) hx hb (dcB_ok d3) rfl ?_
  refine lv_iadd hx hb (dcB_ok d4) ?_
  rw [nI_add]
  have hcl : (nI (i0 + k)).toNatClampNeg = i0 + k := nI_clamp (by omega)
  refine va_sld hx hb X1 X2 X3 hS (by unfold vp_in; rw [hcl]; rintro (q | q); exact nI_pos (by omega) q; omega) (dcB_ok d5) ?_
  rw [hcl]
  exact kk
theorem l_args (C : CL E p z m args c code "NeckKnotsLaw") (X : SX E z b L xs) (hS : va_S (aN E) z.heap H locs) (hl : lv_has ls 4 (lvL b x y (nI i0))) (hi : i0 + 6 ≤ L) : ∀ (n k pc : Nat) (rest : List Value), argsB pc k n = true → k + n ≤ 6 → W p l e R z m args below meth c H locs cells slots Q (F0 m (pc + 5 * n) ls ((aV xs i0 k n).reverse.map (mv E) ++ rest)) → W p l e R z m args below meth c H locs cells slots Q (F0 m pc ls rest) := by
  intro n
  induction n with
  | zero =>
    intro k pc rest _ _ h
    rw [Nat.mul_zero, Nat.add_zero] at h
    exact h
  | succ n ih =>
    intro k pc rest hB hk h
    unfold argsB at hB
    rw [Bool.and_eq_true] at hB
    refine l_arg C X hS hl hB.1 (by omega) ?_
    refine ih (k + 1) (pc + 5) _ hB.2 (by omega) ?_
    have e1 : (aV xs i0 k (n + 1)).reverse.map (mv E) ++ rest = (aV xs i0 (k + 1) n).reverse.map (mv E) ++ Value.int (xs (i0 + k)) :: rest := by
      show ((0, (xs (i0 + k)).toInt) :: aV xs i0 (k + 1) n).reverse.map (mv E) ++ rest = _
      rw [List.reverse_cons, List.map_append, List.append_assoc]
      show _ ++ (Value.int (Int32.ofInt (xs (i0 + k)).toInt) :: rest) = _
      rw [Int32.ofInt_toInt]
    rw [e1, show pc + 5 * (n + 1) = pc + 5 + 5 * n by omega] at h
    exact h
/-- growth of one call -/
def grow (s t : St) (a b : Int) : Prop := nx s ≤ nx t ∧ nx t ≤ nx s + a ∧ sl s ≤ sl t ∧ sl t ≤ sl s + b
theorem l_case {pcq n jc jm ic im wc wm d : Nat} {px py : Int} {σ σ' τ τ' : St} {v : Int} (C : CL E p z m args c code "NeckKnotsLaw") (X : SX E z b L xs) (I : LB E z σ τ H locs) (hl : lv_has ls 4 (lvL b (n0 E + px.toNat) (n0 E + py.toNat) (nI i0))) (hi : i0 + 6 ≤ L) (hq : caseB (pcq, n, jc, jm, ic, im, wc, wm) = true) (hkx : kd σ px = 15) (hky : kd τ py = 16) (hd : d + 5 ≤ R.frames ∧ 64 * d + 300 ≤ R.locals)
    (h1 : EV d jc 0 (ent 0 ((1, px) :: aV xs i0 1 n)) [] σ = some ([(0, v)], σ')) (g1 : nx σ ≤ nx σ' ∧ sl σ ≤ sl σ') (h2 : EV d jm 0 (ent 0 ((1, py) :: aV xs i0 1 n)) [] (lf τ (nx σ')) = some ([(0, v)], τ')) (g2 : nx σ' ≤ nx τ' ∧ sl τ ≤ sl τ')
    (gc : cells + (nx τ' - nx σ).toNat ≤ R.cells) (gs : slots + (sl σ' - sl σ).toNat + (sl τ' - sl τ).toNat ≤ R.slots)
    (h : ∀ (H1 : Heap) (locs1 : List Loc), LB E z (lf σ' (nx τ')) τ' H1 locs1 → W p l e R z m args below meth c H1 locs1 (cells + (nx τ' - nx σ).toNat) (slots + (sl σ' - sl σ).toNat + (sl τ' - sl τ).toNat) Q (F0 m 1224 ls [])) : W p l e R z m args below meth c H locs cells slots Q (F0 m pcq ls []) := by
  obtain ⟨hx, hb, -⟩ := id C
  unfold caseB at hq
  simp only [Bool.and_eq_true] at hq
  obtain ⟨⟨⟨⟨⟨⟨⟨⟨⟨⟨⟨q1, q2⟩, q3⟩, q4⟩, q5⟩, q6⟩, q7⟩, q8⟩, q9⟩, q10⟩, q11⟩, q12⟩ := hq
  unfold lkB at q8 q9
  unfold icB at q7
  simp only [Bool.and_eq_true, decide_eq_true_eq, beq_iff_eq] at q8 q9 q12
  obtain ⟨⟨⟨⟨⟨c1, c2⟩, c3⟩, c4⟩, c5⟩, c6⟩ := q8
  obtain ⟨⟨⟨⟨⟨m1, m2⟩, m3⟩, m4⟩, m5⟩, m6⟩ := q9
  obtain ⟨a1, a2⟩ := aV_len xs i0 n 1
  have w1 : ∀ w : Int, wt ((1, w) :: aV xs i0 1 n) = n + 1 := fun w => by
    show 1 + wt (aV xs i0 1 n) = n + 1
    omega
  have ex : mv E (1, px) = .ref (n0 E + px.toNat) := (I.1.pos (p := px) (by omega)).2.2
  have ey : mv E (1, py) = .ref (n0 E + py.toNat) := (I.2.1.pos (p := py) (by omega)).2.2
  refine lv_aload_n hx hb (dcB_ok q1) rfl (lv_at hl 2 rfl) ?_
  refine l_args C X I.2.2.1 hl hi n 1 (pcq + 1) _ q2 (by omega) ?_
  have e1 : ∀ (w : Int) (u : Nat) (rs : List Value), mv E (1, w) = .ref u → (aV xs i0 1 n).reverse.map (mv E) ++ .ref u :: rs = ((1, w) :: aV xs i0 1 n).reverse.map (mv E) ++ rs := fun w u rs hw => by
    rw [List.reverse_cons, List.map_append, List.append_assoc]
    show _ = _ ++ (mv E (1, w) :: rs)
    rw [hw]
  rw [e1 px _ [] ex]
  have hs0 : ls.size = 4 := hl.1
  refine l_callV C I hs0 (dcB_ok q3) c1 (by rw [w1]; exact c2) c3 c4 (by rw [c5]; exact hkx) (inT_mem q10) (by rw [a1]; exact c6) (aV_ty _ _ _ _ _) ⟨Nat.zero_le _, hd.1, hd.2⟩ ⟨g1.1, g1.2, by omega, by omega⟩ h1 (fun H1 locs1 I1 => ?_)
  rw [show pcq + 1 + 5 * n + 3 = pcq + 4 + 5 * n by omega]
  refine lv_aload_n hx hb (dcB_ok q4) rfl (lv_at hl 1 rfl) ?_
  rw [show pcq + 4 + 5 * n + 1 = pcq + 5 + 5 * n by omega]
  refine l_args C X I1.2.2.1 hl hi n 1 (pcq + 5 + 5 * n) _ q5 (by omega) ?_
  rw [show pcq + 5 + 5 * n + 5 * n = pcq + 5 + 10 * n by omega, e1 py _ _ ey]
  refine l_callV C I1.sym hs0 (dcB_ok q6) m1 (by rw [w1]; exact m2) m3 m4 (by rw [m5]; exact hky) (inT_mem q11) (by rw [a1]; exact m6) (aV_ty _ _ _ _ _) ⟨by show 1 + 0 ≤ 8; omega, hd.1, hd.2⟩ ⟨g2.1, g2.2, by show _ + (nx τ' - nx σ').toNat ≤ _; omega, by show _ + (sl τ' - sl τ).toNat ≤ _; omega⟩ h2 (fun H2 locs2 I2 => ?_)
  rw [show pcq + 5 + 10 * n + 3 = pcq + 8 + 10 * n by omega]
  refine lv_icmp_eq (tgt := 1224) hx hb (dcB_ok q7) (by omega) (fun _ => ?_) (fun q => absurd rfl q)
  have := h H2 locs2 I2.sym
  rw [show cells + (nx τ' - nx σ).toNat = cells + (nx σ' - nx σ).toNat + (nx τ' - nx (lf τ (nx σ'))).toNat by show _ = _ + (nx τ' - nx σ').toNat; omega] at this
  exact this
end LAW
