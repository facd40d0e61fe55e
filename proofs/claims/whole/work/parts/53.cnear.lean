/-! ===== the class's paper: the nearest word ===== -/
/-- only what the paper found, and rows A, have changed -/
def FrW (A : List Int) (s s' : St) : Prop := (∀ p, kd s' p = kd s p) ∧ (∀ p k, kd s p ≠ 6 → k < 100 → ¬ (p = 78 ∧ 14 ≤ k) → gF s' p k = gF s p k) ∧ Fa A s s'
theorem FrW.rf (A : List Int) (s : St) : FrW A s s := ⟨fun _ => rfl, fun _ _ _ _ _ => rfl, Fa.rf _ _⟩
theorem FrW.tr {A : List Int} {a b c : St} (h : FrW A a b) (g : FrW A b c) : FrW A a c := ⟨fun p => (g.1 p).trans (h.1 p), fun p k hp hk hq => (g.2.1 p k (by rw [h.1]; exact hp) hk hq).trans (h.2.1 p k hp hk hq), h.2.2.tr g.2.2⟩
theorem FrX.w {A : List Int} {s s' : St} (h : FrX A s s') : FrW A s s' := ⟨h.1, fun p k hp hk _ => h.2.1 p k hp hk, h.2.2⟩
theorem FrW.sF {A : List Int} {s : St} {k : Nat} {v : Int} (h : 14 ≤ k) : FrW A s (sF s 78 k v) := by
  refine ⟨fun _ => rfl, fun p j _ _ hq => ?_, fun _ _ => rfl⟩
  by_cases e : p = 78
  · exact gF_nk (fun e2 => hq ⟨e, by omega⟩)
  · exact gF_np e
section CNR
variable {cls : List Cl} {mood th : Int} {n d : Nat} {s : St} {q : Int}
theorem c_near22 {T : Res → Prop} {i : Nat} {f : Int} (hs : ShC s) (hn : 3 ≤ n ∧ n ≤ 12) (Wd : WdC cls mood th n s) (hi : i < (prW cls mood th n).length) (hk : kd s q = 20) (hl : n ≤ (gA s q).length) (hT : ∀ s', s' = (if f = -1 ∨ unlN (plN n ((prW cls mood th n).getD i 0)) (af s q) n < f then sF s 78 14 i else s) → Gl T (X4_chooseNearest_5 (d + 2) s' 78 q n (if f = -1 ∨ unlN (plN n ((prW cls mood th n).getD i 0)) (af s q) n < f then unlN (plN n ((prW cls mood th n).getD i 0)) (af s q) n else f) (wi ((i : Int) + 1)))) : Gl T (X4_chooseNearest_22 (d + 2) s 78 q n f i 0 0) := by
  have pin := fun (k : Nat) (h : k < n) => c_placeIn (d := d) (k := k) hs hn Wd hi h
  generalize (prW cls mood th n).getD i 0 = U at *
  refine lpG (fun k a => X4_chooseNearest_22 (d + 2) s 78 q n f i a k) (fun k a => a = unlN (plN n U) (af s q) k) n ?_ ?_ 0 0 (by omega) rfl
  · intro T k a hk2 e hT2
    have hb := unlN_bd (plN n U) (af s q) k
    have es : unlN (plN n U) (af s q) (k + 1) = unlN (plN n U) (af s q) k + (if plN n U k = af s q k then 0 else 1) := rfl
    have a1 : (gA s q).getD k 0 = af s q k := rfl
    have pk := pin k hk2
    rw [e_X4_chooseNearest_22]
    simp (disch := ((try simp only [kd_sF, kd_sA, gA_sF, gA_sA, gF_sF, gF_sA, List.length_set, reduceIte, and_true, and_false, true_and, false_and, Nat.reduceEqDiff, Int.reduceEq, hs.o78, hk]); first | done | omega)) only [rF_ok, wF_ok, oK_ok, lA_ok, rA_ok, wA_ok, cI_ok, cV_ok, cL_ok, cR_ok, kd_sF, kd_sA, gA_sF, gF_sA, gF_sF, gA_sA, bk_0, bk_1, List.length_set, reduceIte, and_true, and_false, true_and, false_and, ne_eq, not_true_eq_false, not_false_eq_true, Int.toNat_natCast, Int.reduceToNat, Nat.reduceEqDiff, Int.reduceEq, Int.reduceLT, Int.reduceLE, Int.reduceAdd, Int.reduceSub, Int.reduceMul, Int.reduceNeg, hs.o78, hk, Int.ofNat_lt, hk2, pk, a1]
    by_cases c : plN n U k = af s q k
    · rw [if_pos c] at es
      rw [if_pos c, wi_sm (by omega) (by omega), wi_sm (by omega) (by omega)]
      exact hT2 (a + 0) (by rw [es, e])
    · rw [if_neg c] at es
      rw [if_neg c, wi_sm (by omega) (by omega), wi_sm (by omega) (by omega)]
      exact hT2 (a + 1) (by rw [es, e])
  · intro a e
    rw [e_X4_chooseNearest_22, if_neg (Int.lt_irrefl _)]
    rw [← e] at hT
    by_cases c : f = -1
    · have := hT _ rfl
      rw [if_pos (Or.inl c), if_pos (Or.inl c)] at this
      rw [if_pos c]
      simp (disch := ((try simp only [kd_sF, kd_sA, gA_sF, gA_sA, gF_sF, gF_sA, List.length_set, reduceIte, and_true, and_false, true_and, false_and, Nat.reduceEqDiff, Int.reduceEq, hs.o78]); first | done | omega)) only [rF_ok, wF_ok, oK_ok, lA_ok, rA_ok, wA_ok, cI_ok, cV_ok, cL_ok, cR_ok, kd_sF, kd_sA, gA_sF, gF_sA, gF_sF, gA_sA, bk_0, bk_1, List.length_set, reduceIte, and_true, and_false, true_and, false_and, ne_eq, not_true_eq_false, not_false_eq_true, Int.toNat_natCast, Int.reduceToNat, Nat.reduceEqDiff, Int.reduceEq, Int.reduceLT, Int.reduceLE, Int.reduceAdd, Int.reduceSub, Int.reduceMul, Int.reduceNeg, hs.o78]
      exact this
    · rw [if_neg c]
      by_cases c2 : a < f
      · have := hT _ rfl
        rw [if_pos (Or.inr c2), if_pos (Or.inr c2)] at this
        rw [if_pos c2]
        simp (disch := ((try simp only [kd_sF, kd_sA, gA_sF, gA_sA, gF_sF, gF_sA, List.length_set, reduceIte, and_true, and_false, true_and, false_and, Nat.reduceEqDiff, Int.reduceEq, hs.o78]); first | done | omega)) only [rF_ok, wF_ok, oK_ok, lA_ok, rA_ok, wA_ok, cI_ok, cV_ok, cL_ok, cR_ok, kd_sF, kd_sA, gA_sF, gF_sA, gF_sF, gA_sA, bk_0, bk_1, List.length_set, reduceIte, and_true, and_false, true_and, false_and, ne_eq, not_true_eq_false, not_false_eq_true, Int.toNat_natCast, Int.reduceToNat, Nat.reduceEqDiff, Int.reduceEq, Int.reduceLT, Int.reduceLE, Int.reduceAdd, Int.reduceSub, Int.reduceMul, Int.reduceNeg, hs.o78]
        exact this
      · have := hT _ rfl
        have hx : ¬ (f = -1 ∨ a < f) := fun e => e.elim c c2
        rw [if_neg hx, if_neg hx] at this
        rw [if_neg c2]
        exact this
end CNR
