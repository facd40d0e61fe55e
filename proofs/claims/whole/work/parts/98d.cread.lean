/-! ===== the class reads a text ===== -/
section PBC
variable {c v : Nat → Int} {fw lw : Int}
theorem bc_if {i l i0 l0 : Nat} {h t : Int} {x y : Cd × Dn} {a : Nat × Nat × Cl} (hl : l ≤ 50) (hb : i0 < i ∧ l0 ≤ l ∧ x.1.length + y.1.length + nN c i0 ≤ 2 * (l - l0) + nN c i) (hp : pIf c (pTest c v fw lw 8) i l h t x y = .ok a) : i0 < a.1 ∧ l0 ≤ a.2.1 ∧ a.2.1 ≤ 50 ∧ (ccode a.2.2).length + nN c i0 ≤ 2 * (a.2.1 - l0) + nN c a.1 := by
  unfold pIf at hp
  split at hp
  · obtain ⟨b, h1, h2⟩ := bnd_ok.mp hp
    have q := bt_test (c := c) (v := v) (fw := fw) (lw := lw) 8 _ _ b hl h1
    have m := nN_mono (c := c) (i := i) (j := i + 1) (by omega)
    cases h2
    unfold ccode
    dsimp only
    rw [List.length_append, List.length_append]
    omega
  · cases hp
    unfold ccode eDn
    dsimp only
    rw [List.length_append, List.length_append]
    simp only [List.length_nil]
    omega
theorem bc_tm {i l i0 l0 : Nat} {h : Int} {x y : Cd × Dn} {a : Nat × Nat × Cl} (hl : l ≤ 50) (hb : i0 < i ∧ l0 ≤ l ∧ x.1.length + y.1.length + nN c i0 ≤ 2 * (l - l0) + nN c i) (hp : pTm c v (pTest c v fw lw 8) i l h x y = .ok a) : i0 < a.1 ∧ l0 ≤ a.2.1 ∧ a.2.1 ≤ 50 ∧ (ccode a.2.2).length + nN c i0 ≤ 2 * (a.2.1 - l0) + nN c a.1 := by
  unfold pTm at hp
  split at hp
  · split at hp
    · have m := nN_mono (c := c) (i := i) (j := i + 2) (by omega)
      exact bc_if hl (by omega) hp
    · cases hp
  · exact bc_if hl hb hp
theorem bc_cl {i l : Nat} {a : Nat × Nat × Cl} (hl : l ≤ 50) (hp : pCl c v fw i l = .ok a) : i < a.1 ∧ l ≤ a.2.1 ∧ a.2.1 ≤ 50 ∧ (ccode a.2.2).length + nN c i ≤ 2 * (a.2.1 - l) + nN c a.1 := by
  unfold pCl at hp
  split at hp
  · unfold pClO at hp
    split at hp
    · obtain ⟨b, h1, h2⟩ := bnd_ok.mp hp
      have q := bn_sum (c := c) (v := v) (fw := 14) (lw := 19) 8 _ _ b hl h1
      split at h2
      · obtain ⟨e, h3, h4⟩ := bnd_ok.mp h2
        have q2 := bn_sum (c := c) (v := v) (fw := 14) (lw := 19) 8 _ _ e q.2.2.1 h3
        have m := nN_mono (c := c) (i := i) (j := e.1) (by omega)
        exact bc_tm q2.2.2.1 (by omega) h4
      · cases h2
    · split at hp
      · obtain ⟨b, h1, h2⟩ := bnd_ok.mp hp
        have q := bn_sum (c := c) (v := v) (fw := 14) (lw := 19) 8 _ _ b hl h1
        have m := nN_mono (c := c) (i := i) (j := b.1) (by omega)
        have e0 : eDn.1.length = 0 := rfl
        exact bc_tm q.2.2.1 (by omega) h2
      · cases hp
  · unfold pClL at hp
    have e0 : eDn.1.length = 0 := rfl
    split at hp
    · obtain ⟨b, h1, h2⟩ := bnd_ok.mp hp
      have q := bn_sum (c := c) (v := v) (fw := 8) (lw := 13) 8 _ _ b hl h1
      have m := nN_mono (c := c) (i := i) (j := b.1) (by omega)
      exact bc_if q.2.2.1 (by omega) h2
    · split at hp
      · have m := nN_mono (c := c) (i := i) (j := i + 1) (by omega)
        exact bc_if hl (by omega) hp
      · cases hp
end PBC
theorem coff_app {L : List Cl} {q : Cl} : ∀ {j : Nat}, j ≤ L.length → coff (L ++ [q]) j = coff L j
  | 0, _ => rfl
  | j + 1, h => by rw [coff, coff, coff_app (by omega), gdApp (by omega)]
theorem call_app {L : List Cl} {q : Cl} : call (L ++ [q]) = call L ++ ccode q := by
  unfold call
  rw [List.flatMap_append]
  simp
theorem ccode_len (q : Cl) : (ccode q).length = clen q := by
  unfold ccode clen
  rw [List.length_append, List.length_append]
theorem coff_len : ∀ {L : List Cl} {j : Nat}, j ≤ L.length → coff L j = (call (L.take j)).length
  | L, 0, _ => rfl
  | L, j + 1, h => by
    have e : L.take (j + 1) = L.take j ++ [L.getD j q0c] := by
      rw [List.take_succ, List.getElem?_eq_getElem (by omega), Option.toList_some, List.getD_eq_getElem?_getD, List.getElem?_eq_getElem (by omega)]
      rfl
    rw [coff, coff_len (by omega), e, call_app, List.length_append, ccode_len]
section CRE
variable {c v st : Nat → Int} {nt i l d : Nat} {s0 s s' : St} {fw lw : Int}
/-- the clauses so far stand in the draft -/
def EnA (s : St) (L : List Cl) : Prop := ∀ j, j < L.length → (gA s 66).getD j 0 = kdC (L.getD j q0c).1 ∧ (gA s 67).getD j 0 = (L.getD j q0c).2.1 ∧ (gA s 68).getD j 0 = (coff L j : Nat) ∧ (gA s 69).getD j 0 = (coff L j + (L.getD j q0c).2.2.1.1.length : Nat) ∧ (gA s 70).getD j 0 = (coff L j + (L.getD j q0c).2.2.1.1.length + (L.getD j q0c).2.2.2.1.1.length : Nat) ∧ (gA s 71).getD j 0 = (coff L (j + 1) : Nat)
theorem EnA.app {L : List Cl} {q : Cl} (h : EnA s L) (O : OtC L.length s s') (E : Ent s' L.length q (call L)) : EnA s' (L ++ [q]) := by
  intro j hj
  rw [List.length_append] at hj
  simp only [List.length_cons, List.length_nil] at hj
  by_cases e : j < L.length
  · obtain ⟨h1, h2, h3, h4, h5, h6⟩ := h j e
    rw [gdApp e, coff_app (by omega), coff_app (by omega)]
    refine ⟨?_, ?_, ?_, ?_, ?_, ?_⟩
    · rw [O 66 (by decide) (by decide) j (by omega)]; exact h1
    · rw [O 67 (by decide) (by decide) j (by omega)]; exact h2
    · rw [O 68 (by decide) (by decide) j (by omega)]; exact h3
    · rw [O 69 (by decide) (by decide) j (by omega)]; exact h4
    · rw [O 70 (by decide) (by decide) j (by omega)]; exact h5
    · rw [O 71 (by decide) (by decide) j (by omega)]; exact h6
  · rw [show j = L.length by omega]
    obtain ⟨h1, h2, h3, h4, h5, h6⟩ := E
    have ec : coff (L ++ [q]) L.length = (call L).length := by rw [coff_app (Nat.le_refl _), coff_len (Nat.le_refl _), List.take_length]
    have ec2 : coff (L ++ [q]) (L.length + 1) = (call L).length + clen q := by rw [coff, ec, gdApp2]
    rw [gdApp2, ec, ec2]
    refine ⟨h1, h2, h3, h4, h5, ?_⟩
    rw [h6]
    unfold clen
    rw [← Nat.add_assoc, ← Nat.add_assoc]
/-- what reading tells: x the fault -/
def RdR (st : Nat → Int) (s0 : St) (r : Except Nat (List Cl)) (x : Int) (s : St) : Prop := ClB s0 s ∧ (match r with
  | .ok cls => x = -1 ∧ ScR s 63 cls
  | .error e => x = st e ∧ 0 ≤ st e)
theorem scr_63 {L : List Cl} (h : POk c nt s i l (call L) s) (E : EnA s L) (h3 : gF s 63 3 = L.length) (hL : L.length ≤ 12) : ScR s 63 L := by
  have hs : ShC s := h.1.1
  obtain ⟨-, -, -, -, -, -, h6, h7⟩ := h
  refine ⟨⟨256, 12, ⟨hs.1 63 (by decide) (by decide), ⟨hs.2.2.1 (63, 0, 64) (by decide), hs.2.2.1 (63, 1, 65) (by decide), hs.2.2.1 (63, 4, 66) (by decide), hs.2.2.1 (63, 5, 67) (by decide), hs.2.2.1 (63, 6, 68) (by decide), hs.2.2.1 (63, 7, 69) (by decide), hs.2.2.1 (63, 8, 70) (by decide), hs.2.2.1 (63, 9, 71) (by decide)⟩, fun j h1 h2 => ?_, ⟨hs.2.1 64 (by decide) (by decide), hs.2.1 65 (by decide) (by decide)⟩, fun j h1 h2 => ?_⟩, by decide, by decide, hL⟩, h3, h6, h7, E⟩
  · have : j = 1 ∨ j = 2 ∨ j = 3 ∨ j = 4 ∨ j = 5 ∨ j = 6 ∨ j = 7 ∨ j = 8 := by omega
    rcases this with rfl | rfl | rfl | rfl | rfl | rfl | rfl | rfl
    · exact hs.1 64 (by decide) (by decide)
    · exact hs.1 65 (by decide) (by decide)
    · exact hs.1 66 (by decide) (by decide)
    · exact hs.1 67 (by decide) (by decide)
    · exact hs.1 68 (by decide) (by decide)
    · exact hs.1 69 (by decide) (by decide)
    · exact hs.1 70 (by decide) (by decide)
    · exact hs.1 71 (by decide) (by decide)
  · have : j = 3 ∨ j = 4 ∨ j = 5 ∨ j = 6 ∨ j = 7 ∨ j = 8 := by omega
    rcases this with rfl | rfl | rfl | rfl | rfl | rfl
    · exact hs.2.1 66 (by decide) (by decide)
    · exact hs.2.1 67 (by decide) (by decide)
    · exact hs.2.1 68 (by decide) (by decide)
    · exact hs.2.1 69 (by decide) (by decide)
    · exact hs.2.1 70 (by decide) (by decide)
    · exact hs.2.1 71 (by decide) (by decide)
theorem c_107F {f w : Int} (B : ClB s0 s) (h : PFl s f s) (hf : f ≠ -1) : Gl (GI fun x s' => ClB s0 s' ∧ x = f) (X5_read_107 (d + 1) s 62 w) := by
  have hs : ShC s := h.1.1
  have h6 := h.2.1
  have h7 := h.2.2.1
  have cf := c_failF (d := d) h hf
  rw [e_X5_read_107]
  simp (disch := ((try simp only [kd_sF, kd_sA, gA_sF, gA_sA, gF_sF, gF_sA, List.length_set, reduceIte, and_true, and_false, true_and, false_and, Nat.reduceEqDiff, Int.reduceEq, hs.o62]); first | done | omega)) only [rF_ok, wF_ok, oK_ok, lA_ok, rA_ok, wA_ok, cI_ok, cV_ok, cL_ok, cR_ok, kd_sF, kd_sA, gA_sF, gF_sA, gF_sF, gA_sA, bk_0, bk_1, List.length_set, reduceIte, and_true, and_false, true_and, false_and, ne_eq, not_true_eq_false, not_false_eq_true, Int.toNat_natCast, Int.reduceToNat, Nat.reduceEqDiff, Int.reduceEq, Int.reduceLT, Int.reduceLE, Int.reduceAdd, Int.reduceSub, Int.reduceMul, Int.reduceNeg, hs.o62, h6, cf, h7]
  split <;> exact reI ⟨B, rfl⟩
theorem c_58F {f : Int} {n : Nat} (B : ClB s0 s) (h : PFl s f s) (hf : f ≠ -1) (q : Int) : Gl (GI fun x s' => ClB s0 s' ∧ x = f) (X5_read_58 (d + 1) s 62 0 q) := by
  rw [e_X5_read_58]
  split
  · rw [if_pos rfl]; exact c_107F B h hf
  · exact c_107F B h hf
/-- behind a clause -/
noncomputable def AfR (d : Nat) (s : St) (q : Int) : Res := rF s 62 9 6 fun x1 => if x1 = 59 then (if 1 = 0 then (X5_read_58 (d + 1) s 62 1 (wi (q + 1))) else (oK s 62 9 (cV (X5_advance d s 62) fun s3 => X5_read_58 (d + 1) s3 62 1 (wi (q + 1))))) else (if 0 = 0 then (X5_read_58 (d + 1) s 62 0 (wi (q + 1))) else (oK s 62 9 (cV (X5_advance d s 62) fun s2 => X5_read_58 (d + 1) s2 62 0 (wi (q + 1)))))
theorem c_afR (W : TokW c v nt) (K0 : TokR c v st nt s0) (hL0 : Lg (gF s0 62 9) fw lw) : ∀ (r : Nat) (L : List Cl) (i l : Nat) (s : St), L.length + r = 12 → 1 ≤ L.length → l ≤ 50 → (call L).length ≤ 2 * l + nN c i → ClB s0 s → POk c nt s i l (call L) s → EnA s L → gF s 63 3 = L.length → Gl (GI fun x s' => RdR st s0 (pTx (pCl c v fw) c nt r i l L) x s') (AfR (d + 23) s ((L.length : Int) - 1)) := by
  intro r
  induction r with
  | zero =>
    intro L i l s hr hL1 hl hC B h E h3
    have hs : ShC s := h.1.1
    have hw := W.1
    have h6 := h.2.2.2.1
    have hi := h.2.1
    have h7 := h.2.2.2.2.1
    have nb := nN_bd W hi
    have K := B.tok K0
    have k59 : kI c nt i = 59 ↔ c i = 159 := kI_iff W (by rfl)
    have ke := kI_end (i := i) W
    have n12 : (L.length : Int) - 1 + 1 = 12 := by omega
    unfold AfR
    rw [pTx, wi_sm (by omega) (by omega), n12]
    simp (disch := ((try simp only [kd_sF, kd_sA, gA_sF, gA_sA, gF_sF, gF_sA, List.length_set, reduceIte, and_true, and_false, true_and, false_and, Nat.reduceEqDiff, Int.reduceEq, hs.o62]); first | done | omega)) only [rF_ok, wF_ok, oK_ok, lA_ok, rA_ok, wA_ok, cI_ok, cV_ok, cL_ok, cR_ok, kd_sF, kd_sA, gA_sF, gF_sA, gF_sF, gA_sA, bk_0, bk_1, List.length_set, reduceIte, and_true, and_false, true_and, false_and, ne_eq, not_true_eq_false, not_false_eq_true, Int.toNat_natCast, Int.reduceToNat, Nat.reduceEqDiff, Int.reduceEq, Int.reduceLT, Int.reduceLE, Int.reduceAdd, Int.reduceSub, Int.reduceMul, Int.reduceNeg, hs.o62, h6]
    by_cases e : c i = 159
    · rw [if_pos (k59.mpr e), if_pos e]
      refine gl_adv W K h (by omega) fun s1 h1 => ?_
      have hs1 : ShC s1 := h1.1.1
      rw [e_X5_read_58, if_neg (show ¬ ((12 : Int) < 12) by decide), e_X5_read_107, if_neg (show ¬ ((1 : Int) = 0) by decide)]
      simp (disch := ((try simp only [kd_sF, kd_sA, gA_sF, gA_sA, gF_sF, gF_sA, List.length_set, reduceIte, and_true, and_false, true_and, false_and, Nat.reduceEqDiff, Int.reduceEq, hs1.o62]); first | done | omega)) only [rF_ok, wF_ok, oK_ok, lA_ok, rA_ok, wA_ok, cI_ok, cV_ok, cL_ok, cR_ok, kd_sF, kd_sA, gA_sF, gF_sA, gF_sF, gA_sA, bk_0, bk_1, List.length_set, reduceIte, and_true, and_false, true_and, false_and, ne_eq, not_true_eq_false, not_false_eq_true, Int.toNat_natCast, Int.reduceToNat, Nat.reduceEqDiff, Int.reduceEq, Int.reduceLT, Int.reduceLE, Int.reduceAdd, Int.reduceSub, Int.reduceMul, Int.reduceNeg, hs1.o62]
      obtain ⟨s2, e2, q2⟩ := c_failO (d := d + 23) K h1 hw (by omega)
      have hs2 : ShC s2 := q2.1.1
      have z2 := q2.2.2.1
      simp (disch := ((try simp only [kd_sF, kd_sA, gA_sF, gA_sA, gF_sF, gF_sA, List.length_set, reduceIte, and_true, and_false, true_and, false_and, Nat.reduceEqDiff, Int.reduceEq, hs1.o62, hs2.o62]); first | done | omega)) only [rF_ok, wF_ok, oK_ok, lA_ok, rA_ok, wA_ok, cI_ok, cV_ok, cL_ok, cR_ok, kd_sF, kd_sA, gA_sF, gF_sA, gF_sF, gA_sA, bk_0, bk_1, List.length_set, reduceIte, and_true, and_false, true_and, false_and, ne_eq, not_true_eq_false, not_false_eq_true, Int.toNat_natCast, Int.reduceToNat, Nat.reduceEqDiff, Int.reduceEq, Int.reduceLT, Int.reduceLE, Int.reduceAdd, Int.reduceSub, Int.reduceMul, Int.reduceNeg, hs1.o62, hs2.o62, e2, z2]
      exact reI ⟨B.tr q2.1.cb, rfl, (c_num K h1).2⟩
    · rw [if_neg (fun x => e (k59.mp x)), if_neg e, e_X5_read_58, if_neg (show ¬ ((12 : Int) < 12) by decide), e_X5_read_107, if_pos rfl]
      simp (disch := ((try simp only [kd_sF, kd_sA, gA_sF, gA_sA, gF_sF, gF_sA, List.length_set, reduceIte, and_true, and_false, true_and, false_and, Nat.reduceEqDiff, Int.reduceEq, hs.o62]); first | done | omega)) only [rF_ok, wF_ok, oK_ok, lA_ok, rA_ok, wA_ok, cI_ok, cV_ok, cL_ok, cR_ok, kd_sF, kd_sA, gA_sF, gF_sA, gF_sF, gA_sA, bk_0, bk_1, List.length_set, reduceIte, and_true, and_false, true_and, false_and, ne_eq, not_true_eq_false, not_false_eq_true, Int.toNat_natCast, Int.reduceToNat, Nat.reduceEqDiff, Int.reduceEq, Int.reduceLT, Int.reduceLE, Int.reduceAdd, Int.reduceSub, Int.reduceMul, Int.reduceNeg, hs.o62, h6]
      by_cases e2 : nt ≤ i
      · rw [if_pos (ke.mpr e2), if_neg (show ¬ (i < nt) by omega)]
        exact reI ⟨B, h7, scr_63 h E h3 (by omega)⟩
      · rw [if_neg (fun x => e2 (ke.mp x)), if_pos (show i < nt by omega)]
        obtain ⟨s2, e3, q2⟩ := c_failO (d := d + 23) K h hw (by omega)
        have hs2 : ShC s2 := q2.1.1
        have z2 := q2.2.2.1
        simp (disch := ((try simp only [kd_sF, kd_sA, gA_sF, gA_sA, gF_sF, gF_sA, List.length_set, reduceIte, and_true, and_false, true_and, false_and, Nat.reduceEqDiff, Int.reduceEq, hs2.o62]); first | done | omega)) only [rF_ok, wF_ok, oK_ok, lA_ok, rA_ok, wA_ok, cI_ok, cV_ok, cL_ok, cR_ok, kd_sF, kd_sA, gA_sF, gF_sA, gF_sF, gA_sA, bk_0, bk_1, List.length_set, reduceIte, and_true, and_false, true_and, false_and, ne_eq, not_true_eq_false, not_false_eq_true, Int.toNat_natCast, Int.reduceToNat, Nat.reduceEqDiff, Int.reduceEq, Int.reduceLT, Int.reduceLE, Int.reduceAdd, Int.reduceSub, Int.reduceMul, Int.reduceNeg, hs2.o62, e3, z2]
        exact reI ⟨B.tr q2.1.cb, rfl, (c_num K h).2⟩
  | succ r ih =>
    intro L i l s hr hL1 hl hC B h E h3
    have hs : ShC s := h.1.1
    have hw := W.1
    have h6 := h.2.2.2.1
    have hi := h.2.1
    have h7 := h.2.2.2.2.1
    have nb := nN_bd W hi
    have K := B.tok K0
    have k59 : kI c nt i = 59 ↔ c i = 159 := kI_iff W (by rfl)
    have ke := kI_end (i := i) W
    have n12 : (L.length : Int) - 1 + 1 = (L.length : Int) := by omega
    unfold AfR
    rw [pTx, wi_sm (by omega) (by omega), n12]
    simp (disch := ((try simp only [kd_sF, kd_sA, gA_sF, gA_sA, gF_sF, gF_sA, List.length_set, reduceIte, and_true, and_false, true_and, false_and, Nat.reduceEqDiff, Int.reduceEq, hs.o62]); first | done | omega)) only [rF_ok, wF_ok, oK_ok, lA_ok, rA_ok, wA_ok, cI_ok, cV_ok, cL_ok, cR_ok, kd_sF, kd_sA, gA_sF, gF_sA, gF_sF, gA_sA, bk_0, bk_1, List.length_set, reduceIte, and_true, and_false, true_and, false_and, ne_eq, not_true_eq_false, not_false_eq_true, Int.toNat_natCast, Int.reduceToNat, Nat.reduceEqDiff, Int.reduceEq, Int.reduceLT, Int.reduceLE, Int.reduceAdd, Int.reduceSub, Int.reduceMul, Int.reduceNeg, hs.o62, h6]
    by_cases e : c i = 159
    · rw [if_pos (k59.mpr e), if_pos e]
      refine gl_adv W K h (by omega) fun s1 h1 => ?_
      have hs1 : ShC s1 := h1.1.1
      have m1 := nN_mono (c := c) (i := i) (j := i + 1) (by omega)
      have R1 := h1.1
      have K1 := R1.cb.tok K
      have B1 := B.tr R1.cb
      rw [e_X5_read_58, if_pos (show (L.length : Int) < 12 by omega), if_neg (show ¬ ((1 : Int) = 0) by decide)]
      simp (disch := ((try simp only [kd_sF, kd_sA, gA_sF, gA_sA, gF_sF, gF_sA, List.length_set, reduceIte, and_true, and_false, true_and, false_and, Nat.reduceEqDiff, Int.reduceEq, hs1.o62]); first | done | omega)) only [rF_ok, wF_ok, oK_ok, lA_ok, rA_ok, wA_ok, cI_ok, cV_ok, cL_ok, cR_ok, kd_sF, kd_sA, gA_sF, gF_sA, gF_sF, gA_sA, bk_0, bk_1, List.length_set, reduceIte, and_true, and_false, true_and, false_and, ne_eq, not_true_eq_false, not_false_eq_true, Int.toNat_natCast, Int.reduceToNat, Nat.reduceEqDiff, Int.reduceEq, Int.reduceLT, Int.reduceLE, Int.reduceAdd, Int.reduceSub, Int.reduceMul, Int.reduceNeg, hs1.o62]
      refine biV (c_clause (d := d) (n := L.length) W K1 (B1.lg hL0) (by omega) hl (by omega) h1.re) fun s2 _ h2 => ?_
      show Gl _ (AfR (d + 23) s2 (L.length : Int))
      cases hrr : pCl c v fw (i + 1) l with
      | error e' =>
        rw [hrr] at h2
        obtain ⟨⟨b2, q2⟩, hz⟩ := h2
        have hs2 : ShC s2 := q2.1.1
        have z6 := q2.2.1
        unfold AfR
        simp (disch := ((try simp only [kd_sF, kd_sA, gA_sF, gA_sA, gF_sF, gF_sA, List.length_set, reduceIte, and_true, and_false, true_and, false_and, Nat.reduceEqDiff, Int.reduceEq, hs2.o62]); first | done | omega)) only [rF_ok, wF_ok, oK_ok, lA_ok, rA_ok, wA_ok, cI_ok, cV_ok, cL_ok, cR_ok, kd_sF, kd_sA, gA_sF, gF_sA, gF_sF, gA_sA, bk_0, bk_1, List.length_set, reduceIte, and_true, and_false, true_and, false_and, ne_eq, not_true_eq_false, not_false_eq_true, Int.toNat_natCast, Int.reduceToNat, Nat.reduceEqDiff, Int.reduceEq, Int.reduceLT, Int.reduceLE, Int.reduceAdd, Int.reduceSub, Int.reduceMul, Int.reduceNeg, hs2.o62, z6]
        exact wkI (c_58F (n := 0) (B1.tr b2) q2 (by omega) _) fun x s3 _ h3 => ⟨h3.1, h3.2, hz⟩
      | ok a =>
        rw [hrr] at h2
        obtain ⟨b2, q2, O2, E2, z3⟩ := h2
        have hb := bc_cl hl hrr
        have hlen : ((L ++ [a.2.2]).length : Int) - 1 = (L.length : Int) := by rw [List.length_append]; simp
        have := ih (L ++ [a.2.2]) a.1 a.2.1 s2 (by rw [List.length_append]; simp; omega) (by rw [List.length_append]; simp) hb.2.2.1 (by rw [call_app, List.length_append]; omega) (B1.tr b2) (by rw [call_app]; exact q2) (EnA.app E (OtC.tr (RdB.ot R1) O2) E2) (by rw [List.length_append]; exact z3)
        rw [hlen] at this
        exact this
    · rw [if_neg (fun x => e (k59.mp x)), if_neg e, e_X5_read_58, if_pos (show (L.length : Int) < 12 by omega), if_pos rfl, e_X5_read_107, if_pos rfl]
      simp (disch := ((try simp only [kd_sF, kd_sA, gA_sF, gA_sA, gF_sF, gF_sA, List.length_set, reduceIte, and_true, and_false, true_and, false_and, Nat.reduceEqDiff, Int.reduceEq, hs.o62]); first | done | omega)) only [rF_ok, wF_ok, oK_ok, lA_ok, rA_ok, wA_ok, cI_ok, cV_ok, cL_ok, cR_ok, kd_sF, kd_sA, gA_sF, gF_sA, gF_sF, gA_sA, bk_0, bk_1, List.length_set, reduceIte, and_true, and_false, true_and, false_and, ne_eq, not_true_eq_false, not_false_eq_true, Int.toNat_natCast, Int.reduceToNat, Nat.reduceEqDiff, Int.reduceEq, Int.reduceLT, Int.reduceLE, Int.reduceAdd, Int.reduceSub, Int.reduceMul, Int.reduceNeg, hs.o62, h6]
      by_cases e2 : nt ≤ i
      · rw [if_pos (ke.mpr e2), if_neg (show ¬ (i < nt) by omega)]
        exact reI ⟨B, h7, scr_63 h E h3 (by omega)⟩
      · rw [if_neg (fun x => e2 (ke.mp x)), if_pos (show i < nt by omega)]
        obtain ⟨s2, e3, q2⟩ := c_failO (d := d + 23) K h hw (by omega)
        have hs2 : ShC s2 := q2.1.1
        have z2 := q2.2.2.1
        simp (disch := ((try simp only [kd_sF, kd_sA, gA_sF, gA_sA, gF_sF, gF_sA, List.length_set, reduceIte, and_true, and_false, true_and, false_and, Nat.reduceEqDiff, Int.reduceEq, hs2.o62]); first | done | omega)) only [rF_ok, wF_ok, oK_ok, lA_ok, rA_ok, wA_ok, cI_ok, cV_ok, cL_ok, cR_ok, kd_sF, kd_sA, gA_sF, gF_sA, gF_sF, gA_sA, bk_0, bk_1, List.length_set, reduceIte, and_true, and_false, true_and, false_and, ne_eq, not_true_eq_false, not_false_eq_true, Int.toNat_natCast, Int.reduceToNat, Nat.reduceEqDiff, Int.reduceEq, Int.reduceLT, Int.reduceLE, Int.reduceAdd, Int.reduceSub, Int.reduceMul, Int.reduceNeg, hs2.o62, e3, z2]
        exact reI ⟨B.tr q2.1.cb, rfl, (c_num K h).2⟩
end CRE
