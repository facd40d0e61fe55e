/-! ===== the class: scripts, and what a law tells of a move ===== -/
def q0c : Cl := (0, 0, eDn, eDn, eDn)
def clen (q : Cl) : Nat := q.2.2.1.1.length + q.2.2.2.1.1.length + q.2.2.2.2.1.length
def ccode (q : Cl) : Cd := q.2.2.1.1 ++ q.2.2.2.1.1 ++ q.2.2.2.2.1
def coff (cls : List Cl) : Nat → Nat
  | 0 => 0
  | c + 1 => coff cls c + clen (cls.getD c q0c)
def call (cls : List Cl) : Cd := cls.flatMap ccode
def kdC (h : Int) : Int := if h ≤ 3 then 299 + h else 293 + h
/-- a script object at l with its rows behind it, code rows of n, clause rows of m -/
def ScS (s : St) (l : Int) (n m : Nat) : Prop := kd s l = 11 ∧ (gF s l 0 = l + 1 ∧ gF s l 1 = l + 2 ∧ gF s l 4 = l + 3 ∧ gF s l 5 = l + 4 ∧ gF s l 6 = l + 5 ∧ gF s l 7 = l + 6 ∧ gF s l 8 = l + 7 ∧ gF s l 9 = l + 8) ∧ (∀ i : Int, 1 ≤ i → i ≤ 8 → kd s (l + i) = 20) ∧ ((gA s (l + 1)).length = n ∧ (gA s (l + 2)).length = n) ∧ ∀ i : Int, 3 ≤ i → i ≤ 8 → (gA s (l + i)).length = m
def ScR (s : St) (l : Int) (cls : List Cl) : Prop := (∃ n m, ScS s l n m ∧ n ≤ 256 ∧ m ≤ 12 ∧ cls.length ≤ m) ∧ gF s l 3 = cls.length ∧ gF s l 2 = (call cls).length ∧ seg s (l + 1) (l + 2) 0 (call cls) ∧ ∀ c, c < cls.length → (gA s (l + 3)).getD c 0 = kdC (cls.getD c q0c).1 ∧ (gA s (l + 4)).getD c 0 = (cls.getD c q0c).2.1 ∧ (gA s (l + 5)).getD c 0 = (coff cls c : Nat) ∧ (gA s (l + 6)).getD c 0 = (coff cls c + (cls.getD c q0c).2.2.1.1.length : Nat) ∧ (gA s (l + 7)).getD c 0 = (coff cls c + (cls.getD c q0c).2.2.1.1.length + (cls.getD c q0c).2.2.2.1.1.length : Nat) ∧ (gA s (l + 8)).getD c 0 = (coff cls (c + 1) : Nat)
theorem call_cut : ∀ (cls : List Cl) (c : Nat), c < cls.length → ∃ A B : Cd, call cls = A ++ (ccode (cls.getD c q0c) ++ B) ∧ A.length = coff cls c
  | [], c, h => by cases h
  | q :: cls, 0, h => ⟨[], call cls, rfl, rfl⟩
  | q :: cls, c + 1, h => by
    obtain ⟨A, B, h1, h2⟩ := call_cut cls c (by simpa using h)
    refine ⟨ccode q ++ A, B, ?_, ?_⟩
    · show ccode q ++ call cls = _
      rw [h1, List.append_assoc]
      rfl
    · have key : ∀ k, coff (q :: cls) (k + 1) = clen q + coff cls k := by
        intro k
        induction k with
        | zero => show 0 + clen q = clen q + 0; omega
        | succ k ih =>
          show coff (q :: cls) (k + 1) + clen (cls.getD k q0c) = clen q + (coff cls k + clen (cls.getD k q0c))
          rw [ih]; omega
      rw [List.length_append, h2, key]
      congr 1
      unfold ccode clen
      simp only [List.length_append]
/-- the pieces of clause c lie where the rows say -/
theorem seg_cl {s : St} {po pa : Int} {cls : List Cl} {c : Nat} (h : seg s po pa 0 (call cls)) (hc : c < cls.length) : seg s po pa (coff cls c) (cls.getD c q0c).2.2.1.1 ∧ seg s po pa (coff cls c + (cls.getD c q0c).2.2.1.1.length) (cls.getD c q0c).2.2.2.1.1 ∧ seg s po pa (coff cls c + (cls.getD c q0c).2.2.1.1.length + (cls.getD c q0c).2.2.2.1.1.length) (cls.getD c q0c).2.2.2.2.1 ∧ coff cls (c + 1) = coff cls c + (cls.getD c q0c).2.2.1.1.length + (cls.getD c q0c).2.2.2.1.1.length + (cls.getD c q0c).2.2.2.2.1.length := by
  obtain ⟨A, B, h1, h2⟩ := call_cut cls c hc
  rw [h1] at h
  have g := seg_l (seg_r h)
  rw [Nat.zero_add, h2] at g
  unfold ccode at g
  refine ⟨seg_l (seg_l g), seg_r (seg_l g), ?_, ?_⟩
  · have := seg_r g
    rw [List.length_append, ← Nat.add_assoc] at this
    exact this
  · show coff cls c + clen _ = _
    unfold clen
    omega
theorem selL_t {h lo hi wo : Int} {ρ : Nat → Int} {cls : List Cl} {c : Nat} (hc : c < cls.length) : selL h lo hi wo ρ (cls.take (c + 1)) = selS h lo hi ρ (selL h lo hi wo ρ (cls.take c)) (cls.getD c q0c) := by
  unfold selL
  rw [List.take_succ, List.getElem?_eq_getElem hc, Option.toList_some, List.foldl_append, List.getD_eq_getElem?_getD, List.getElem?_eq_getElem hc]
  rfl
/-- a run that changes only what the judge has for its own -/
def JF (s s' : St) : Prop := (∀ p, kd s' p = kd s p) ∧ (∀ p k, p ≠ 31 → gF s' p k = gF s p k) ∧ gF s' 31 0 = gF s 31 0 ∧ gF s' 31 1 = gF s 31 1 ∧ Fa [33] s s' ∧ (gA s' 33).length = 64
theorem c_nearest {d : Nat} {s : St} {x lo hi : Int} : X2_nearest d s x lo hi = some ([(0, clp lo hi x)], s) := by
  rw [e_X2_nearest]
  unfold clp
  split
  · rfl
  · split <;> rfl
theorem ScR.jf {s s' : St} {l : Int} {cls : List Cl} (h : ScR s l cls) (hl : 98 ≤ l) (hk : ∀ p, kd s' p = kd s p) (hf : ∀ p k, 98 ≤ p → gF s' p k = gF s p k) (ha : ∀ p, 98 ≤ p → gA s' p = gA s p) : ScR s' l cls := by
  obtain ⟨⟨n, m, ⟨h1, h2, h3, h4, h5⟩, h6⟩, h7, h8, h9, h10⟩ := h
  have f := fun k => hf l k hl
  have a : ∀ i : Int, 1 ≤ i → i ≤ 8 → gA s' (l + i) = gA s (l + i) := fun i i1 i2 => ha _ (by omega)
  refine ⟨⟨n, m, ⟨by rw [hk]; exact h1, by simp only [f]; exact h2, fun i i1 i2 => by rw [hk]; exact h3 i i1 i2, by rw [a 1 (by decide) (by decide), a 2 (by decide) (by decide)]; exact h4, fun i i1 i2 => by rw [a i (by omega) i2]; exact h5 i i1 i2⟩, h6⟩, by rw [f]; exact h7, by rw [f]; exact h8, ?_, fun c hc => ?_⟩
  · unfold seg
    rw [a 1 (by decide) (by decide), a 2 (by decide) (by decide)]
    exact h9
  · rw [a 3 (by decide) (by decide), a 4 (by decide) (by decide), a 5 (by decide) (by decide), a 6 (by decide) (by decide), a 7 (by decide) (by decide), a 8 (by decide) (by decide)]
    exact h10 c hc
section CJ
variable {s : St} {l : Int} {cls : List Cl} {ρ : Nat → Int} {c v : Nat → Int} {nt : Nat}
theorem c_ask71 {d : Nat} {wo : Int} (hL : 98 ≤ l) (hS : ScR s l cls) (hp : pText (pClL c v) c nt = .ok cls) (hv : ∀ i, 0 ≤ v i) (hj : kd s 31 = 6 ∧ gF s 31 0 = 32 ∧ gF s 31 1 = 33 ∧ kd s 32 = 20 ∧ kd s 33 = 20 ∧ (gA s 32).length = 6 ∧ (gA s 33).length = 64) (hρ : ∀ k, k < 6 → ρ k = (gA s 32).getD k 0) (hρ2 : ∀ k, -1000000000 ≤ ρ k ∧ ρ k ≤ 1000000000) (h2 : gF s 31 2 = wo) (h3 : gF s 31 3 = 1) (h4 : gF s 31 4 = 0) :
    Gl (GV fun s' => JF s s' ∧ gF s' 31 2 = selL 1 0 20 wo ρ cls ∧ gF s' 31 3 = selL 2 (-9) 9 1 ρ cls ∧ gF s' 31 4 = selL 3 0 1 0 ρ cls) (X2_ask_71 (d + 2) s 31 l 0) := by
  refine lpG (fun i s1 => X2_ask_71 (d + 2) s1 31 l i) (fun i s1 => JF s s1 ∧ gF s1 31 2 = selL 1 0 20 wo ρ (cls.take i) ∧ gF s1 31 3 = selL 2 (-9) 9 1 ρ (cls.take i) ∧ gF s1 31 4 = selL 3 0 1 0 ρ (cls.take i)) cls.length ?_ ?_ 0 s (by omega) ⟨⟨fun _ => rfl, fun _ _ _ => rfl, rfl, rfl, Fa.rf _ _, hj.2.2.2.2.2.2⟩, h2, h3, h4⟩
  · intro T i s1 hi ⟨J1, g2, g3, g4⟩ hT
    obtain ⟨j1, j2, j3, j4, j5, j6⟩ := J1
    have S1 : ScR s1 l cls := hS.jf hL j1 (fun p k hp => j2 p k (by omega)) (fun p hp => j5 p (by simp; omega))
    obtain ⟨⟨n, m, ⟨a1, ⟨b0, b1, b4, b5, b6, b7, b8, b9⟩, a3, a4, a5⟩, a6, a7, a8⟩, c1, c2, c3, c4⟩ := S1
    obtain ⟨d1, d2, d3, d4, d5, d6⟩ := c4 i hi
    obtain ⟨e1, e2, e3, e4⟩ := seg_cl c3 hi
    have f31 : kd s1 31 = 6 := by rw [j1]; exact hj.1
    have f0 : gF s1 31 0 = 32 := by rw [j3]; exact hj.2.1
    have f1 : gF s1 31 1 = 33 := by rw [j4]; exact hj.2.2.1
    have a32 : gA s1 32 = gA s 32 := j5 32 (by decide)
    have X1 : RkX s1 l (l + 1) (l + 2) 32 33 ρ 6 := ⟨a1, b0, b1, a3 1 (by decide) (by decide), a3 2 (by decide) (by decide), by rw [j1]; exact hj.2.2.2.1, by rw [j1]; exact hj.2.2.2.2.1, by omega, by omega, by decide, by rw [a32]; exact hj.2.2.2.2.2.1, j6, fun k hk => by rw [a32]; exact hρ k hk, hρ2, by rw [a4.1, a4.2], by rw [a4.1]; omega⟩
    have hq : cls.getD i q0c ∈ cls := by
      rw [List.getD_eq_getElem?_getD, List.getElem?_eq_getElem hi]
      exact List.getElem_mem hi
    generalize hqd : cls.getD i q0c = q at *
    have K := (k_text (P := fun q => ClOk s1 l (l + 1) (l + 2) 32 33 ρ q ∧ (q.1 = 1 ∨ q.1 = 2 ∨ (q.1 = 3 ∧ q.2.2.1 = eDn))) (fun i l r hl h => by
      obtain ⟨x1, x2, x3⟩ := k_clL X1 hv hl h
      exact ⟨⟨x1, x3⟩, x2⟩) hp).1 q hq
    obtain ⟨⟨K1, K2, K3, K4⟩, K5⟩ := K
    have t2 := selL_t (h := 1) (lo := 0) (hi := 20) (wo := wo) (ρ := ρ) hi
    have t3 := selL_t (h := 2) (lo := -9) (hi := 9) (wo := 1) (ρ := ρ) hi
    have t4 := selL_t (h := 3) (lo := 0) (hi := 1) (wo := 0) (ρ := ρ) hi
    rw [hqd, ← g2] at t2
    rw [hqd, ← g3] at t3
    rw [hqd, ← g4] at t4
    obtain ⟨l1, hl1, r1⟩ := c_reckon (d := d) (to := coff cls (i + 1)) X1 K3 e3 (by omega)
    have k3 := a3 3 (by decide) (by decide)
    have k5 := a3 5 (by decide) (by decide)
    have k6 := a3 6 (by decide) (by decide)
    have k7 := a3 7 (by decide) (by decide)
    have k8 := a3 8 (by decide) (by decide)
    have n3 := a5 3 (by decide) (by decide)
    have n5 := a5 5 (by decide) (by decide)
    have n6 := a5 6 (by decide) (by decide)
    have n7 := a5 7 (by decide) (by decide)
    have n8 := a5 8 (by decide) (by decide)
    rw [e_X2_ask_71]
    simp (disch := ((try simp only [kd_sF, kd_sA, gA_sF, gA_sA, gF_sF, gF_sA, List.length_set, reduceIte, and_true, and_false, true_and, false_and, Nat.reduceEqDiff, Int.reduceEq, a1, b8, b9, f31, f0, f1, k7, k8, n7, n8]); first | done | omega)) only [rF_ok, wF_ok, oK_ok, lA_ok, rA_ok, wA_ok, cI_ok, cV_ok, cL_ok, cR_ok, kd_sF, kd_sA, gA_sF, gF_sA, gF_sF, gA_sA, bk_0, bk_1, List.length_set, reduceIte, and_true, and_false, true_and, false_and, ne_eq, not_true_eq_false, not_false_eq_true, Int.toNat_natCast, Int.reduceToNat, Nat.reduceEqDiff, Int.reduceEq, Int.reduceLT, Int.reduceLE, Int.reduceAdd, Int.reduceSub, Int.reduceMul, Int.reduceNeg, a1, b8, b9, f31, f0, f1, k7, k8, n7, n8, c1, Int.ofNat_lt, hi, d5, d6, r1]
    -- goes on with the next clause when nothing is told
    have skip : ∀ l2 : List Int, l2.length = 64 → (∀ h lo hi acc, selS h lo hi ρ acc q = acc) → Gl T (X2_ask_71 (d + 2) (sA s1 33 l2) 31 l (wi ((i : Int) + 1))) := by
      intro l2 hl2 hn
      rw [wi_sc (by omega)]
      exact hT _ ⟨⟨j1, j2, j3, j4, j5.tr (Fa.sA _ (by decide)), by rw [gA_eq]; exact hl2⟩, by rw [t2, hn]; rfl, by rw [t3, hn]; rfl, by rw [t4, hn]; rfl⟩
    cases hte : q.2.2.2.2.2 ρ with
    | none =>
      rw [if_neg (by show ¬ ((-2147483648 : Int) = 1); decide), e_X2_ask_145, if_pos rfl]
      refine skip l1 hl1 (fun h lo hi acc => ?_)
      unfold selS
      rw [hte]
      split <;> rfl
    | some u =>
      rcases K4 u hte with rfl | rfl
      · rw [if_neg (by show ¬ ((0 : Int) = 1); decide), e_X2_ask_145, if_pos rfl]
        refine skip l1 hl1 (fun h lo hi acc => ?_)
        unfold selS
        rw [hte]
        split <;> rfl
      · rw [if_pos (by rfl)]
        -- the sum
        have X2 : RkX (sA s1 33 l1) l (l + 1) (l + 2) 32 33 ρ 6 := by
          obtain ⟨x1, x2, x3, x4, x5, x6, x7, x8, x9, x10, x11, x12, x13, x14, x15, x16⟩ := X1
          refine ⟨x1, x2, x3, x4, x5, x6, x7, x8, x9, x10, ?_, ?_, ?_, x14, ?_, ?_⟩
          · rw [gA_ne x10]; exact x11
          · rw [gA_eq]; exact hl1
          · rw [gA_ne x10]; exact x13
          · rw [gA_ne x8, gA_ne x9]; exact x15
          · rw [gA_ne x8]; exact x16
        have K' := (k_text (P := fun q => ClOk (sA s1 33 l1) l (l + 1) (l + 2) 32 33 ρ q) (fun i l r hl h => by
          obtain ⟨x1, x2, x3⟩ := k_clL X2 hv hl h
          exact ⟨x1, x2⟩) hp).1 q hq
        have e1' : seg (sA s1 33 l1) (l + 1) (l + 2) (coff cls i) q.2.2.1.1 := by
          unfold seg
          rw [gA_ne (by omega), gA_ne (by omega)]
          exact e1
        obtain ⟨l2, hl2, r2⟩ := c_reckon (d := d) (to := coff cls i + q.2.2.1.1.length) X2 K'.1 e1' rfl
        rw [sA_ov] at r2
        have m5 : gA (sA s1 33 l1) (l + 5) = gA s1 (l + 5) := gA_ne (by omega)
        have m6 : gA (sA s1 33 l1) (l + 6) = gA s1 (l + 6) := gA_ne (by omega)
        simp (disch := ((try simp only [kd_sF, kd_sA, gA_sF, gA_sA, gF_sF, gF_sA, List.length_set, reduceIte, and_true, and_false, true_and, false_and, Nat.reduceEqDiff, Int.reduceEq, a1, b6, b7, f31, f0, f1, k5, k6, n5, n6, m5, m6]); first | done | omega)) only [rF_ok, wF_ok, oK_ok, lA_ok, rA_ok, wA_ok, cI_ok, cV_ok, cL_ok, cR_ok, kd_sF, kd_sA, gA_sF, gF_sA, gF_sF, gA_sA, bk_0, bk_1, List.length_set, reduceIte, and_true, and_false, true_and, false_and, ne_eq, not_true_eq_false, not_false_eq_true, Int.toNat_natCast, Int.reduceToNat, Nat.reduceEqDiff, Int.reduceEq, Int.reduceLT, Int.reduceLE, Int.reduceAdd, Int.reduceSub, Int.reduceMul, Int.reduceNeg, a1, b6, b7, f31, f0, f1, k5, k6, n5, n6, m5, m6, d3, d4, r2]
        have m3 : gA (sA s1 33 l2) (l + 3) = gA s1 (l + 3) := gA_ne (by omega)
        rw [e_X2_ask_145]
        cases hfi : q.2.2.1.2 ρ with
        | none =>
          rw [if_pos (by rfl)]
          refine skip l2 hl2 (fun h lo hi acc => ?_)
          unfold selS
          rw [hte, hfi]
          split <;> rfl
        | some x =>
          have hx : -1000000000 ≤ x ∧ x ≤ 1000000000 := by
            rcases K1 with e | ⟨m, -, k1, -⟩
            · rw [e] at hfi
              cases hfi
              omega
            · exact k1 x hfi
          rw [if_neg (by show ¬ (x = -2147483648); omega)]
          have ssel : ∀ h lo hi acc, selS h lo hi ρ acc q = if q.1 = h then clp lo hi x else acc := by
            intro h lo hi acc
            unfold selS
            rw [hte, hfi]
            rfl
          simp (disch := ((try simp only [kd_sF, kd_sA, gA_sF, gA_sA, gF_sF, gF_sA, List.length_set, reduceIte, and_true, and_false, true_and, false_and, Nat.reduceEqDiff, Int.reduceEq, a1, b4, k3, n3, m3]); first | done | omega)) only [rF_ok, wF_ok, oK_ok, lA_ok, rA_ok, wA_ok, cI_ok, cV_ok, cL_ok, cR_ok, kd_sF, kd_sA, gA_sF, gF_sA, gF_sF, gA_sA, bk_0, bk_1, List.length_set, reduceIte, and_true, and_false, true_and, false_and, ne_eq, not_true_eq_false, not_false_eq_true, Int.toNat_natCast, Int.reduceToNat, Nat.reduceEqDiff, Int.reduceEq, Int.reduceLT, Int.reduceLE, Int.reduceAdd, Int.reduceSub, Int.reduceMul, Int.reduceNeg, a1, b4, k3, n3, m3, d1]
          have fin : ∀ (k : Nat) (y : Int), (k = 2 ∨ k = 3 ∨ k = 4) → (∀ j, j = 2 ∨ j = 3 ∨ j = 4 → (if j = k then y else gF s1 31 j) = (if j = 2 then (if q.1 = 1 then clp 0 20 x else gF s1 31 2) else if j = 3 then (if q.1 = 2 then clp (-9) 9 x else gF s1 31 3) else (if q.1 = 3 then clp 0 1 x else gF s1 31 4))) → Gl T (X2_ask_71 (d + 2) (sF (sA s1 33 l2) 31 k y) 31 l (wi ((i : Int) + 1))) := by
            intro k y hk hy
            rw [wi_sc (by omega)]
            have gj : ∀ j, gF (sF (sA s1 33 l2) 31 k y) 31 j = if j = k then y else gF s1 31 j := fun j => by rw [gF_sF, gF_sA]; simp
            refine hT _ ⟨⟨j1, fun p kk hp => (gF_np hp).trans (j2 p kk hp), ?_, ?_, j5.tr (Fa.sA _ (by decide)), by rw [gA_sF, gA_eq]; exact hl2⟩, ?_, ?_, ?_⟩
            · rw [gj, if_neg (by omega)]; exact j3
            · rw [gj, if_neg (by omega)]; exact j4
            · rw [gj, hy 2 (by omega), if_pos rfl, t2, ssel]
            · rw [gj, hy 3 (by omega), if_neg (by decide), if_pos rfl, t3, ssel]
            · rw [gj, hy 4 (by omega), if_neg (by decide), if_neg (by decide), t4, ssel]
          unfold kdC
          rcases K5 with o | o | ⟨o, oe⟩
          · rw [o]
            simp (disch := ((try simp only [kd_sF, kd_sA, gA_sF, gA_sA, gF_sF, gF_sA, List.length_set, reduceIte, and_true, and_false, true_and, false_and, Nat.reduceEqDiff, Int.reduceEq, f31]); first | done | omega)) only [rF_ok, wF_ok, oK_ok, lA_ok, rA_ok, wA_ok, cI_ok, cV_ok, cL_ok, cR_ok, kd_sF, kd_sA, gA_sF, gF_sA, gF_sF, gA_sA, bk_0, bk_1, List.length_set, reduceIte, and_true, and_false, true_and, false_and, ne_eq, not_true_eq_false, not_false_eq_true, Int.toNat_natCast, Int.reduceToNat, Nat.reduceEqDiff, Int.reduceEq, Int.reduceLT, Int.reduceLE, Int.reduceAdd, Int.reduceSub, Int.reduceMul, Int.reduceNeg, f31, c_nearest]
            refine fin 2 _ (by omega) (fun j hj => ?_)
            rw [o]
            rcases hj with rfl | rfl | rfl <;> simp [orB]
          · rw [o]
            simp (disch := ((try simp only [kd_sF, kd_sA, gA_sF, gA_sA, gF_sF, gF_sA, List.length_set, reduceIte, and_true, and_false, true_and, false_and, Nat.reduceEqDiff, Int.reduceEq, f31]); first | done | omega)) only [rF_ok, wF_ok, oK_ok, lA_ok, rA_ok, wA_ok, cI_ok, cV_ok, cL_ok, cR_ok, kd_sF, kd_sA, gA_sF, gF_sA, gF_sF, gA_sA, bk_0, bk_1, List.length_set, reduceIte, and_true, and_false, true_and, false_and, ne_eq, not_true_eq_false, not_false_eq_true, Int.toNat_natCast, Int.reduceToNat, Nat.reduceEqDiff, Int.reduceEq, Int.reduceLT, Int.reduceLE, Int.reduceAdd, Int.reduceSub, Int.reduceMul, Int.reduceNeg, f31, c_nearest]
            refine fin 3 _ (by omega) (fun j hj => ?_)
            rw [o]
            rcases hj with rfl | rfl | rfl <;> simp [orB]
          · rw [o]
            simp (disch := ((try simp only [kd_sF, kd_sA, gA_sF, gA_sA, gF_sF, gF_sA, List.length_set, reduceIte, and_true, and_false, true_and, false_and, Nat.reduceEqDiff, Int.reduceEq, f31]); first | done | omega)) only [rF_ok, wF_ok, oK_ok, lA_ok, rA_ok, wA_ok, cI_ok, cV_ok, cL_ok, cR_ok, kd_sF, kd_sA, gA_sF, gF_sA, gF_sF, gA_sA, bk_0, bk_1, List.length_set, reduceIte, and_true, and_false, true_and, false_and, ne_eq, not_true_eq_false, not_false_eq_true, Int.toNat_natCast, Int.reduceToNat, Nat.reduceEqDiff, Int.reduceEq, Int.reduceLT, Int.reduceLE, Int.reduceAdd, Int.reduceSub, Int.reduceMul, Int.reduceNeg, f31]
            refine fin 4 _ (by omega) (fun j hj => ?_)
            rw [o]
            have hx1 : x = 1 := by rw [oe] at hfi; cases hfi; rfl
            rw [hx1]
            rcases hj with rfl | rfl | rfl <;> simp [clp]
  · intro s1 ⟨J1, g2, g3, g4⟩
    rw [List.take_length] at g2 g3 g4
    have hk : kd s1 l = 11 := by rw [J1.1]; obtain ⟨⟨n, m, h1, -⟩, -⟩ := hS; exact h1.1
    have hc : gF s1 l 3 = cls.length := by rw [J1.2.1 l 3 (by omega)]; exact hS.2.1
    rw [e_X2_ask_71]
    simp (disch := ((try simp only [kd_sF, kd_sA, gA_sF, gA_sA, gF_sF, gF_sA, List.length_set, reduceIte, and_true, and_false, true_and, false_and, Nat.reduceEqDiff, Int.reduceEq, hk]); first | done | omega)) only [rF_ok, wF_ok, oK_ok, lA_ok, rA_ok, wA_ok, cI_ok, cV_ok, cL_ok, cR_ok, kd_sF, kd_sA, gA_sF, gF_sA, gF_sF, gA_sA, bk_0, bk_1, List.length_set, reduceIte, and_true, and_false, true_and, false_and, ne_eq, not_true_eq_false, not_false_eq_true, Int.toNat_natCast, Int.reduceToNat, Nat.reduceEqDiff, Int.reduceEq, Int.reduceLT, Int.reduceLE, Int.reduceAdd, Int.reduceSub, Int.reduceMul, Int.reduceNeg, hk, hc, Int.lt_irrefl]
    exact reV ⟨J1, g2, g3, g4⟩
end CJ
