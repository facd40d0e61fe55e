/-! ===== the class's paper: its fronts ===== -/
section CFR
variable {cls : List Cl} {mood th : Int} {n d : Nat} {s : St}
/-- the tally of the words so far -/
def TlC (n : Nat) (L : List Nat) (s : St) : Prop := (∀ v, v < 64 → (gA s 88).getD v 0 = tal n L v) ∧ gF s 78 15 = posN (tal n L) 64 ∧ gF s 78 16 = maxN (tal n L) 64
theorem c_front67 {T : Res → Prop} {i v u : Nat} {L : List Nat} (hs : ShC s) (hv : v < 64) (hfr : frN (((n : Int) - 1) % 2) (plN n u) n = (v : Int)) (hL : L.length ≤ 2046) (Tl : TlC n L s) (hT : ∀ s', ShC s' → FrW [87, 88] s s' → TlC n (L ++ [u]) s' → Gl T (X4_countFronts_16 d s' 78 n (wi ((i : Int) + 1)))) : Gl T (X4_countFronts_67 d s 78 n i v 78 (gF s 78 15) (if tal n L v = 0 then 1 else 0)) := by
  obtain ⟨t1, t2, t3⟩ := Tl
  have l88 : (gA s 88).length = 64 := hs.2.1 88 (by decide) (by decide)
  have k78 : kd s 78 = 8 := hs.1 78 (by decide) (by decide)
  have k88 : kd s 88 = 20 := hs.1 88 (by decide) (by decide)
  have tb := tal_bd (n := n) (v := v) (L := L)
  have inc := tal_inc (L := L) hfr
  have p1 := posN_inc tb.1 inc 64
  have m1 := maxN_inc inc 64
  have pb := posN_bd (tal n L) 64
  have tv := t1 v hv
  have ew : wi (gF s 78 15 + (if tal n L v = 0 then 1 else 0)) = posN (tal n (L ++ [u])) 64 := by
    rw [p1, t2]
    by_cases z : tal n L v = 0
    · rw [if_pos z, if_pos ⟨hv, z⟩]; exact wi_sm (by omega) (by omega)
    · rw [if_neg z, if_neg (fun e => z e.2)]; exact wi_sm (by omega) (by omega)
  rw [if_pos hv] at m1
  have g1 : ((gA s 88).set v (tal n L v + 1)).getD v 0 = tal n L v + 1 := by rw [setD_getD (by omega), if_pos rfl]
  rw [e_X4_countFronts_67, ew]
  simp (disch := ((try simp only [kd_sF, kd_sA, gA_sF, gA_sA, gF_sF, gF_sA, List.length_set, reduceIte, and_true, and_false, true_and, false_and, Nat.reduceEqDiff, Int.reduceEq, hs.o78]); first | done | omega)) only [rF_ok, wF_ok, oK_ok, lA_ok, rA_ok, wA_ok, cI_ok, cV_ok, cL_ok, cR_ok, kd_sF, kd_sA, gA_sF, gF_sA, gF_sF, gA_sA, bk_0, bk_1, List.length_set, reduceIte, and_true, and_false, true_and, false_and, ne_eq, not_true_eq_false, not_false_eq_true, Int.toNat_natCast, Int.reduceToNat, Nat.reduceEqDiff, Int.reduceEq, Int.reduceLT, Int.reduceLE, Int.reduceAdd, Int.reduceSub, Int.reduceMul, Int.reduceNeg, hs.o78, tv, wi_sm, g1, t3]
  rw [← m1]
  refine hT _ ?_ ?_ ⟨fun w hw => ?_, ?_, ?_⟩
  · refine ShC.sF (ShC.sA (hs.sF (by rw [k78]; decide)) ?_ ?_) ?_
    · exact List.length_set
    · show kd s 88 ≠ 24
      rw [k88]; decide
    · show finC.all (fun q => !(q.1 == kd s 78 && q.2 == 16)) = true
      rw [k78]; decide
  · exact (FrW.sF (by decide)).tr ((FrX.sA _ (by decide)).w.tr (FrW.sF (by decide)))
  · show ((gA s 88).set v (tal n L v + 1)).getD w 0 = _
    rw [setD_getD (by omega), inc w]
    by_cases e : v = w
    · rw [if_pos e, if_pos e.symm]
    · rw [if_neg e, if_neg (fun x => e x.symm)]; exact t1 w hw
  · exact (gF_nk (by decide)).trans ((gF_sA _ _ _ _ _).trans (gF_eq _ _ _ _))
  · exact gF_eq _ _ _ _
end CFR
