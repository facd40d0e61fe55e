/-! ===== the class: orders, the loops and the call ===== -/
section COS
variable {s s' : St} {a : Ab} {d : Nat} {cls : List Cl} {q : Cl} {σ τ : OS} {c v : Nat → Int} {nt : Nat}
theorem JS.on {x : Int} (hJ : JS a cls σ s) (W : wfA a) (e : onceO q σ = some τ) (h : OnR s x (onceO q σ) σ.1 s') : x = 1 ∧ JS a cls τ s' := by
  obtain ⟨R, J, S63, D35, L42, -⟩ := hJ
  have hs := R.1
  rw [e] at h
  obtain ⟨F, h1, h2, h3, h4⟩ := h
  exact ⟨h1, h2, (J.once e).1, S63.ro hs.o63.1 F, D35.k W.1 F (by decide) (by decide), L42.k (hs.1 42 (by decide) (by decide)) F (by decide) (by decide) (by decide), h3, h4⟩
theorem c_rep33 {n : Nat} (hp : pText (pClO c v) c nt = .ok cls) (hv : ∀ i, 0 ≤ v i) (W : wfA a) (hn : n < cls.length) (T : Except Nat OS → Res → Prop) (hT : T = fun r => GI fun x s' => RunR a r x s') (K : OS → Except Nat OS) (hK : ∀ τ s', JS a cls τ s' → τ.2.1 ≤ 20 * ((n : Int) + 1) → Gl (T (K τ)) (X6_run_23 (d + 7) s' 75 63 ((n + 1 : Nat) : Int))) : ∀ (m j : Nat) (σ : OS) (s : St), ((j + m : Nat) : Int) = (cls.getD n q0c).2.1 → JS a cls σ s → σ.2.1 ≤ 20 * (n : Int) + j → Gl (T (match repO (cls.getD n q0c) m σ with | none => .error n | some τ => K τ)) (X6_run_33 (d + 7) s 75 63 n j) := by
  intro m
  induction m with
  | zero =>
    intro j σ s hj hJ hb
    have hs := hJ.1.1
    have C := ClX.mk hJ.2.2.1 hp hv hn
    have n12 := C.1
    have f5 : gF s 63 5 = 67 := hs.2.2.1 (63, 5, 67) (by decide)
    have k67 : kd s 67 = 20 := hs.1 67 (by decide) (by decide)
    have l67 : (gA s 67).length = 12 := hs.2.1 67 (by decide) (by decide)
    have b67 := C.2.2.1.2.1
    have t20 := C.2.1.2.2.2.2
    rw [e_X6_run_33, rF_ok hs.o63.1, f5, rA_ok k67 (by omega) (by rw [l67]; omega), Int.toNat_natCast, b67, if_neg (by omega), wi_sc (by omega)]
    exact hK σ s hJ (by omega)
  | succ m ih =>
    intro j σ s hj hJ hb
    have hs := hJ.1.1
    have C := ClX.mk hJ.2.2.1 hp hv hn
    have n12 := C.1
    have f5 : gF s 63 5 = 67 := hs.2.2.1 (63, 5, 67) (by decide)
    have k67 : kd s 67 = 20 := hs.1 67 (by decide) (by decide)
    have l67 : (gA s 67).length = 12 := hs.2.1 67 (by decide) (by decide)
    have b67 := C.2.2.1.2.1
    have t20 := C.2.1.2.2.2.2
    have k75 : kd s 75 = 10 := hs.1 75 (by decide) (by decide)
    obtain ⟨R, J, S63, D35, L42, w1, w2⟩ := id hJ
    have J3 := J.2.2.1
    rw [e_X6_run_33, rF_ok hs.o63.1, f5, rA_ok k67 (by omega) (by rw [l67]; omega), Int.toNat_natCast, b67, if_pos (by omega), oK_ok k75]
    refine biI (c_runOnce (d := d) (a := σ.1) (dn := σ.2.1) (lt := σ.2.2) R J.1 C hp hv (gdMem hn) ⟨J.2.2.1, by omega⟩ J.2.2.2 w1 w2) fun x s1 _ h => ?_
    have h' : OnR s x (onceO (cls.getD n q0c) σ) σ.1 s1 := h
    show Gl (T (match (match onceO (cls.getD n q0c) σ with | none => none | some τ => repO (cls.getD n q0c) m τ) with | none => .error n | some τ => K τ)) _
    cases e : onceO (cls.getD n q0c) σ with
    | none =>
      rw [e] at h'
      obtain ⟨F, h1, h2⟩ := h'
      rw [if_pos h1, hT]
      exact c_give (σ := σ) ⟨h2, J, D35.k W.1 F (by decide) (by decide), L42.k (hs.1 42 (by decide) (by decide)) F (by decide) (by decide) (by decide)⟩ W n12
    | some τ =>
      obtain ⟨g1, g2⟩ := hJ.on W e h'
      rw [if_neg (by omega), wi_sc (by omega)]
      have jb := (J.once e).2
      exact ih (j + 1) τ s1 (by omega) g2 (by omega)
theorem dropD {n : Nat} (h : n < cls.length) : cls.drop n = cls.getD n q0c :: cls.drop (n + 1) := by
  rw [List.drop_eq_getElem_cons h, List.getD_eq_getElem?_getD, List.getElem?_eq_getElem h]
  rfl
theorem c_run23 (hp : pText (pClO c v) c nt = .ok cls) (hv : ∀ i, 0 ≤ v i) (W : wfA a) : ∀ (m n : Nat) (σ : OS) (s : St), n + m = cls.length → JS a cls σ s → σ.2.1 ≤ 20 * (n : Int) → Gl (GI fun x s' => RunR a (runO (cls.drop n) n σ) x s') (X6_run_23 (d + 7) s 75 63 n) := by
  intro m
  induction m with
  | zero =>
    intro n σ s hn hJ hb
    have hs := hJ.1.1
    have k75 : kd s 75 = 10 := hs.1 75 (by decide) (by decide)
    have f75 : gF s 75 1 = 76 := hs.2.2.1 (75, 1, 76) (by decide)
    have k76 : kd s 76 = 20 := hs.1 76 (by decide) (by decide)
    have l76 : (gA s 76).length = 27 := hs.2.1 76 (by decide) (by decide)
    obtain ⟨R, J, S63, D35, L42, w1, w2⟩ := id hJ
    have f3 := S63.2.1
    rw [e_X6_run_23, rF_ok hs.o63.1, f3, if_neg (by omega), rF_ok k75, f75, rA_ok k76 (by decide) (by rw [l76]; decide), List.drop_eq_nil_of_le (by omega)]
    exact reI ⟨w1, R, J⟩
  | succ m ih =>
    intro n σ s hn hJ hb
    have hs := hJ.1.1
    have f3 := hJ.2.2.1.2.1
    have C := ClX.mk hJ.2.2.1 hp hv (n := n) (by omega)
    have t20 := C.2.1.2.2.2.2
    rw [e_X6_run_23, rF_ok hs.o63.1, f3, if_pos (by omega), dropD (by omega)]
    exact c_rep33 (d := d) hp hv W (n := n) (by omega) _ rfl (fun τ => runO (cls.drop (n + 1)) (n + 1) τ) (fun τ s' h1 h2 => ih (n + 1) τ s' (by omega) h1 (by omega)) (cls.getD n q0c).2.1.toNat 0 σ s (by omega) hJ (by omega)
theorem c_run (R : RepC a s) (W : wfA a) (S63 : ScR s 63 cls) (hp : pText (pClO c v) c nt = .ok cls) (hv : ∀ i, 0 ≤ v i) : Gl (GI fun x s' => RunR a (runO cls 0 (a, 0, -1)) x s') (X6_run (d + 7) s 75 63) := by
  have hs := R.1
  have k75 : kd s 75 = 10 := hs.1 75 (by decide) (by decide)
  have f75 : gF s 75 1 = 76 := hs.2.2.1 (75, 1, 76) (by decide)
  have f750 : gF s 75 0 = 34 := hs.2.2.1 (75, 0, 34) (by decide)
  have k76 : kd s 76 = 20 := hs.1 76 (by decide) (by decide)
  have l76 : (gA s 76).length = 27 := hs.2.1 76 (by decide) (by decide)
  have R1 := R.w76 (k := 1) (x := 0) W (by decide) (by decide)
  have R2 := R1.w76 (k := 2) (x := -1) W (by decide) (by decide)
  have F2 : FrK [] [] [76] s (sA (sA s 76 ((gA s 76).set 1 0)) 76 ((gA (sA s 76 ((gA s 76).set 1 0)) 76).set 2 (-1))) := (FrK.sA _ (by decide)).tr (FrK.sA _ (by decide))
  have w1 : (gA (sA (sA s 76 ((gA s 76).set 1 0)) 76 ((gA (sA s 76 ((gA s 76).set 1 0)) 76).set 2 (-1))) 76).getD 1 0 = 0 := by
    rw [gA_eq, gA_eq, set_ne (by decide), set_eq (by omega)]
  have w2 : (gA (sA (sA s 76 ((gA s 76).set 1 0)) 76 ((gA (sA s 76 ((gA s 76).set 1 0)) 76).set 2 (-1))) 76).getD 2 0 = -1 := by
    rw [gA_eq, gA_eq, set_eq (by rw [List.length_set]; omega)]
  rw [e_X6_run, rF_ok k75, f75, wA_ok k76 (by decide) (by rw [l76]; decide), rF_ok (show kd (sA s 76 ((gA s 76).set (1 : Int).toNat 0)) 75 = 10 from k75), gF_sA, f75, wA_ok (show kd (sA s 76 ((gA s 76).set (1 : Int).toNat 0)) 76 = 20 from k76) (by decide) (by rw [gA_eq, List.length_set, l76]; decide)]
  rw [show (1 : Int).toNat = 1 from rfl, show (2 : Int).toNat = 2 from rfl]
  have S2 : ScR (sA (sA s 76 ((gA s 76).set 1 0)) 76 ((gA (sA s 76 ((gA s 76).set 1 0)) 76).set 2 (-1))) 63 cls := S63.ro hs.o63.1 (F2.mono (by decide) (by decide) (by decide))
  generalize sA (sA s 76 ((gA s 76).set 1 0)) 76 ((gA (sA s 76 ((gA s 76).set 1 0)) 76).set 2 (-1)) = S at *
  clear k75 f75 f750 k76 l76
  have hsS := R2.1
  have k75 : kd S 75 = 10 := hsS.1 75 (by decide) (by decide)
  have f750 : gF S 75 0 = 34 := hsS.2.2.1 (75, 0, 34) (by decide)
  have k34 : kd S 34 = 12 := hsS.1 34 (by decide) (by decide)
  have k35 : kd S 35 = 4 := hsS.1 35 (by decide) (by decide)
  have f340 : gF S 34 0 = 3 := hsS.2.2.1 (34, 0, 3) (by decide)
  have f342 : gF S 34 2 = 35 := hsS.2.2.1 (34, 2, 35) (by decide)
  rw [rF_ok k75, f750, oK_ok k34, e_X8_remember, rF_ok k34, f342, rF_ok k34, f340, oK_ok k35]
  obtain ⟨s3, e3, C3, D3, L3⟩ := c_copyFrom (d := d + 4) (D := 35) (E := 3) hsS.d35 R2.2.1 W.1 (Or.inr (by decide))
  have hs3 : ShC s3 := hsS.ev e3 rfl
  rw [e3, cV_ok, cV_ok]
  have F3 := C3.k35
  have R3 : RepC a s3 := R2.k W F3 hs3 (R2.pg.k2 hsS.o78.1 F3 (by decide) (by decide) (by decide)) (by decide) (by decide)
  have a76 : gA s3 76 = gA S 76 := F3.2.2 76 (by decide)
  have S3 : ScR s3 63 cls := S2.fr (fun p _ _ => F3.1 p) (fun k hk => (C3.2 63 (by decide)).1 k) (fun p h1 h2 => (C3.2 p (by omega)).2)
  have := c_run23 (d := d) hp hv W cls.length 0 (a, 0, -1) s3 (by omega) ⟨R3, ⟨W, ⟨rfl, rfl⟩, by dsimp only; decide, by dsimp only; decide⟩, S3, D3, L3.c R2.2.2.2.1, by rw [a76]; exact w1, by rw [a76]; exact w2⟩ (by dsimp only; decide)
  rw [List.drop_zero] at this
  exact this
theorem wfA_sp {x y : Int} (W : wfA a) : wfA (setFt (setTp (setSp a x) []) y) := wfA_e (a := setSp a x) W
theorem cc_orders (R : RepC a s) (W : wfA a) : Gl (GI fun x s' => x = (aOrd a).1 ∧ RepC (aOrd a).2 s') (X11_orders (d + 25) s 1) := by
  have hs := R.1
  have k1 : kd s 1 = 15 := hs.o1.1
  have k75 : kd s 75 = 10 := hs.1 75 (by decide) (by decide)
  obtain ⟨-, -, -, -, b5, b6, b7, -, -⟩ := id R
  have R0 : RepC (setSp a (-1)) (sF s 75 3 (-1)) := R.m W (FrK.sF (by decide)) (hs.sF (by rw [k75]; decide)) ⟨(gF_np (by decide)).trans b5.1, b5.2⟩ ⟨(gF_np (by decide)).trans b6.1, (gF_np (by decide)).trans b6.2.1, (gF_np (by decide)).trans b6.2.2.1, gF_eq _ _ _ _⟩ b7
  have W0 : wfA (setSp a (-1)) := W
  have f17 : gF s 1 7 = 75 := hs.2.2.1 (1, 7, 75) (by decide)
  rw [e_X11_orders, rF_ok k1, f17, wF_ok k75]
  generalize sF s 75 3 (-1) = S0 at *
  have hs0 := R0.1
  obtain ⟨R1, T1⟩ := R0.emp W0
  have W1 := wfA_e W0
  have hs1 := R1.1
  have t1 := R0.2.2.2.2.1.1
  have f16 : gF S0 1 6 = 62 := hs0.2.2.1 (1, 6, 62) (by decide)
  have f10 : gF S0 1 0 = 2 := hs0.2.2.1 (1, 0, 2) (by decide)
  have t1' : gF S0 1 1 = ((setSp a (-1)).2.2.2.1.length : Int) := t1
  rw [rF_ok hs0.o1.1, f16, rF_ok hs0.o1.1, f10, oK_ok hs0.o1.1, e_X11_emptiedTape, rF_ok hs0.o1.1, t1', wF_ok hs0.o1.1, cI_ok, oK_ok (show kd (sF S0 1 1 0) 62 = 9 from hs1.o62.1)]
  refine biI (c_read (d := d) (fl := 0) (fw := 14) (lw := 19) hs1 T1 W.2.2.2.1.2 (Or.inr ⟨rfl, rfl, rfl⟩)) fun x s2 hev ⟨q1, q2, q3⟩ => ?_
  have R2 := R1.rd W1 q1 q2
  have R3 := R2.ft (x := x) W1
  have W3 : wfA (setFt (setTp (setSp a (-1)) []) x) := W1
  have hs3 := R3.1
  have k12 : kd s2 1 = 15 := q1.o1.1
  rw [wF_ok k12, rF_ok (show kd (sF s2 1 13 x) 1 = 15 from k12), gF_eq]
  unfold aOrd
  have q3' : (match rdT a.2.2.2.1 14 with
    | .ok cls => x = -1 ∧ ScR s2 63 cls
    | .error e => x = sTx a.2.2.2.1 e ∧ 0 ≤ sTx a.2.2.2.1 e) := q3
  clear q3
  cases hr : rdT a.2.2.2.1 14 with
  | error e =>
    rw [hr] at q3'
    obtain ⟨q3, q4⟩ := q3'
    rw [if_neg (by omega)]
    subst q3
    rw [oK_ok hs3.o1.1]
    exact cc_ref (by decide) R3 W3 fun _ _ => rfl
  | ok cls =>
    rw [hr] at q3'
    obtain ⟨q3, q4⟩ := q3'
    rw [if_pos q3]
    subst q3
    dsimp only
    have sc3 : ScR (sF s2 1 13 (-1)) 63 cls := q4.fr (fun _ _ _ => rfl) (fun k _ => gF_np (by decide)) (fun _ _ _ => rfl)
    generalize sF s2 1 13 (-1) = S3 at *
    have g17 : gF S3 1 7 = 75 := hs3.2.2.1 (1, 7, 75) (by decide)
    have g16 : gF S3 1 6 = 62 := hs3.2.2.1 (1, 6, 62) (by decide)
    have g62 : gF S3 62 0 = 63 := hs3.2.2.1 (62, 0, 63) (by decide)
    have k753 : kd S3 75 = 10 := hs3.1 75 (by decide) (by decide)
    rw [rF_ok hs3.o1.1, g17, rF_ok hs3.o1.1, g16, rF_ok hs3.o62.1, g62, oK_ok k753]
    rw [rdT_ord] at hr
    refine biI (c_run (d := d + 17) R3 W3 sc3 hr vTk_nn) fun x s4 _ h => ?_
    cases er : runO cls 0 (setFt (setTp (setSp a (-1)) []) (-1), 0, -1) with
    | error i =>
      rw [er] at h
      obtain ⟨h1, h2, h3⟩ := h
      subst h1
      rw [oK_ok h2.1.o1.1]
      have := cc_outcome (d := d + 23) (v := -3) (K := fun x s6 => some ([(0, x)], s6)) (by decide) h2 W3 fun _ _ => rfl
      exact this
    | ok σ =>
      rw [er] at h
      obtain ⟨h1, h2, h3⟩ := h
      have h0 := h3.2.2.1
      rw [oK_ok h2.1.o1.1]
      have := cc_outcome (d := d + 23) (v := x) (K := fun x s6 => some ([(0, x)], s6)) (by omega) h2 h3.1 fun _ _ => rfl
      unfold outA at this
      rw [if_neg (by omega), h1] at this
      rw [h1]
      exact this
end COS
