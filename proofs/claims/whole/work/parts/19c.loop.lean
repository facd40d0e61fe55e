/-! ===== the law's loop, over what the plain functions promise of each call ===== -/
/-- each call, from related stores, answers alike, stays in its room and leaves related stores -/
def PureStep (d : Nat) (Rel : Int → St → St → Prop) (ga gb : Int) : Prop := ∀ q ∈ lawT, ∀ as : List V, as.length = q.2.1 → (∀ v ∈ as, v.1 = 0 ∧ rg v.2) → ∀ (py : Int) (σ τ : St), Rel py σ τ → nx σ = nx τ →
  ∃ (v : Int) (σ' τ' : St), EV d q.2.2.1 0 (ent 0 ((1, 1) :: as)) [] σ = some ([(0, v)], σ') ∧ EV d q.2.2.2.1 0 (ent 0 ((1, py) :: as)) [] (lf τ (nx σ')) = some ([(0, v)], τ') ∧ (nx σ ≤ nx σ' ∧ sl σ ≤ sl σ') ∧ (nx σ' ≤ nx τ' ∧ sl τ ≤ sl τ') ∧ nx τ' ≤ nx σ + ga ∧ (sl σ' - sl σ) + (sl τ' - sl τ) ≤ gb ∧ Rel py (lf σ' (nx τ')) τ'
def RelKd (Rel : Int → St → St → Prop) : Prop := ∀ py σ τ, Rel py σ τ → kd σ 1 = 15 ∧ kd τ py = 16
theorem dl_18 : dcB 18 (.iload_n 3) 1 = true := by decide +kernel
theorem dl_19 : dcB 19 (.aload_n 0) 1 = true := by decide +kernel
theorem dl_20 : dcB 20 .arraylength 1 = true := by decide +kernel
theorem dl_21 : dcB 21 (.bipush 6) 2 = true := by decide +kernel
theorem dl_23 : dcB 23 .isub 1 = true := by decide +kernel
theorem dl_24 : dcB 24 (.if_icmp .gt 1206) 3 = true := by decide +kernel
theorem dl_27 : dcB 27 (.aload_n 0) 1 = true := by decide +kernel
theorem dl_28 : dcB 28 (.iload_n 3) 1 = true := by decide +kernel
theorem dl_29 : dcB 29 .iaload 1 = true := by decide +kernel
theorem dl_30 : dcB 30 (.bipush 63) 2 = true := by decide +kernel
theorem dl_32 : dcB 32 .iand 1 = true := by decide +kernel
theorem dl_1224 : dcB 1224 (.iinc 3 6) 3 = true := by decide +kernel
theorem dl_1227 : dcB 1227 (.goto (-1209)) 3 = true := by decide +kernel
theorem aV_z (xs : Nat → Int32) (i0 : Nat) : ∀ n k : Nat, ∀ v ∈ aV xs i0 k n, v.1 = 0 ∧ rg v.2
  | 0, _, v, h => by cases h
  | n + 1, k, v, h => by
    rcases List.mem_cons.mp h with rfl | h
    · exact ⟨rfl, rg_toInt _⟩
    · exact aV_z xs i0 n (k + 1) v h
theorem sw_dec : ∃ (offs : Array Int) (len : Nat), decode code 33 = .ok (.tableswitch 1191 0 37 offs, len) ∧ offs.toList = lawT.map fun q => (q.1 : Int) - 33 := by
  have h := law_sw
  split at h
  · rename_i d lo hi offs len hd
    simp only [Bool.and_eq_true, beq_iff_eq, decide_eq_true_eq] at h
    obtain ⟨⟨⟨rfl, rfl⟩, rfl⟩, h4⟩ := h
    exact ⟨offs, len, hd, h4⟩
  · cases h
section LOOP
variable {E : Ev0} {l : Launch} {p : Program} {e : Env} {R : Room} {z : State} {m : MethodId} {args : Array Value} {below : List Frame} {meth : Method} {c : Code} {Q : State → Prop} {b L : Nat} {xs : Nat → Int32}
theorem l_loop {d : Nat} {Rel : Int → St → St → Prop} {ga gb : Int} (PS : PureStep d Rel ga gb) (RK : RelKd Rel) (C : CL E p z m args c code "NeckKnotsLaw") (X : SX E z b L xs) (hd : d + 5 ≤ R.frames ∧ 64 * d + 300 ≤ R.locals) (hga : 0 ≤ ga) (hgb : 0 ≤ gb)
    (hend : ∀ (H : Heap) (locs : List Loc) (cells slots : Nat) (ls : Array Slot), va_S (aN E) z.heap H locs → cells ≤ R.cells → slots ≤ R.slots → W p l e R z m args below meth c H locs cells slots Q (F0 m 1230 ls [])) {py : Int} :
    ∀ (k i0 : Nat) (σ τ : St) (H : Heap) (locs : List Loc) (cells slots : Nat) (ls : Array Slot), L < i0 + 6 * (k + 1) → LB E z σ τ H locs → Rel py σ τ → lv_has ls 4 (lvL b (n0 E + (1 : Int).toNat) (n0 E + py.toNat) (nI i0)) → i0 ≤ 384 → (cells : Int) + k * ga ≤ R.cells → (slots : Int) + k * gb ≤ R.slots →
      W p l e R z m args below meth c H locs cells slots Q (F0 m 18 ls []) := by
  obtain ⟨hx, hb, -⟩ := id C
  obtain ⟨X1, X2, X3, X4⟩ := id X
  intro k
  induction k with
  | zero =>
    intro i0 σ τ H locs cells slots ls hk I hR hl hi hc hs
    refine lv_iload_n hx hb (dcB_ok dl_18) rfl (lv_at hl 0 rfl) ?_
    refine lv_aload_n hx hb (dcB_ok dl_19) rfl (lv_at hl 3 rfl) ?_
    refine va_slen hx hb X1 X2 X3 I.2.2.1 (dcB_ok dl_20) ?_
    refine lv_bipush (v := Int32.ofInt 6) hx hb (dcB_ok dl_21) (by decide) ?_
    refine lv_isub hx hb (dcB_ok dl_23) ?_
    have e1 : Int32.ofNat L - Int32.ofInt 6 = Int32.ofInt ((L : Int) - 6) := by
      rw [show Int32.ofNat L = Int32.ofInt (L : Int) from rfl, i_sub, wi_id (by unfold rg; omega)]
    refine lv_icmp_gt (tgt := 1230) hx hb (dcB_ok dl_24) (by decide) (fun _ => hend H locs cells slots ls I.2.2.1 (by omega) (by omega)) (fun q => absurd ?_ q)
    rw [e1, show nI i0 = Int32.ofInt (i0 : Int) from rfl]
    exact (i_lt (by unfold rg; omega) (by unfold rg; omega)).mpr (by omega)
  | succ k ih =>
    intro i0 σ τ H locs cells slots ls hk I hR hl hi hc hs
    have ek : ((k + 1 : Nat) : Int) * ga = k * ga + ga := by rw [Int.natCast_succ, Int.add_mul, Int.one_mul]
    have ek2 : ((k + 1 : Nat) : Int) * gb = k * gb + gb := by rw [Int.natCast_succ, Int.add_mul, Int.one_mul]
    have kga : 0 ≤ (k : Int) * ga := Int.mul_nonneg (by omega) hga
    have kgb : 0 ≤ (k : Int) * gb := Int.mul_nonneg (by omega) hgb
    refine lv_iload_n hx hb (dcB_ok dl_18) rfl (lv_at hl 0 rfl) ?_
    refine lv_aload_n hx hb (dcB_ok dl_19) rfl (lv_at hl 3 rfl) ?_
    refine va_slen hx hb X1 X2 X3 I.2.2.1 (dcB_ok dl_20) ?_
    refine lv_bipush (v := Int32.ofInt 6) hx hb (dcB_ok dl_21) (by decide) ?_
    refine lv_isub hx hb (dcB_ok dl_23) ?_
    have e1 : Int32.ofNat L - Int32.ofInt 6 = Int32.ofInt ((L : Int) - 6) := by
      rw [show Int32.ofNat L = Int32.ofInt (L : Int) from rfl, i_sub, wi_id (by unfold rg; omega)]
    refine lv_icmp_gt (tgt := 1230) hx hb (dcB_ok dl_24) (by decide) (fun _ => hend H locs cells slots ls I.2.2.1 (by omega) (by omega)) (fun q => ?_)
    have hi6 : i0 + 6 ≤ L := by
      rw [e1, show nI i0 = Int32.ofInt (i0 : Int) from rfl, i_lt (by unfold rg; omega) (by unfold rg; omega)] at q
      omega
    refine lv_aload_n hx hb (dcB_ok dl_27) rfl (lv_at hl 3 rfl) ?_
    refine lv_iload_n hx hb (dcB_ok dl_28) rfl (lv_at hl 0 rfl) ?_
    refine va_sld hx hb X1 X2 X3 I.2.2.1 (by unfold vp_in; rw [nI_clamp (by omega)]; rintro (q | q); exact nI_pos (by omega) q; omega) (dcB_ok dl_29) ?_
    refine lv_bipush (v := 63) hx hb (dcB_ok dl_30) (by decide) ?_
    refine lv_iand hx hb (dcB_ok dl_32) ?_
    have next : ∀ (H : Heap) (locs : List Loc) (cells slots : Nat) (σ τ : St), LB E z σ τ H locs → Rel py σ τ → (cells : Int) + k * ga ≤ R.cells → (slots : Int) + k * gb ≤ R.slots → W p l e R z m args below meth c H locs cells slots Q (F0 m 1224 ls []) := by
      intro H locs cells slots σ τ I hR hc hs
      refine lv_iinc (k := 0) (x := nI i0) (v := nI (i0 + 6)) hx hb (dcB_ok dl_1224) hl rfl (nI_add i0 6) (by decide) rfl (fun ls' hl' => ?_)
      refine lv_goto (tgt := 18) hx hb (dcB_ok dl_1227) (by decide) ?_
      exact ih (i0 + 6) σ τ H locs cells slots ls' (by omega) I hR hl' (by omega) hc hs
    obtain ⟨offs, len, hd2, hoffs⟩ := sw_dec
    by_cases hr : (xs (nI i0).toNatClampNeg &&& 63).toInt < 0 ∨ 37 < (xs (nI i0).toNatClampNeg &&& 63).toInt
    · exact lv_tableOut (tgt := 1224) hx hb hd2 hr (by decide) (next H locs cells slots σ τ I hR (by omega) (by omega))
    · have hr2 := not_or.mp hr
      have hlt : ((xs (nI i0).toNatClampNeg &&& 63).toInt - 0).toNat < lawT.length := by
        show _ < 38
        omega
      have hq := List.getElem_mem hlt
      generalize hqd : lawT[((xs (nI i0).toNatClampNeg &&& 63).toInt - 0).toNat] = qd at hq
      obtain ⟨pcq, n, jc, jm, ic, im, wc, wm⟩ := qd
      have ho : offs[((xs (nI i0).toNatClampNeg &&& 63).toInt - 0).toNat]? = some ((pcq : Int) - 33) := by
        rw [← Array.getElem?_toList, hoffs, List.getElem?_map, List.getElem?_eq_getElem hlt, hqd]
        rfl
      refine lv_tableIn (tgt := pcq) hx hb hd2 hr2.1 hr2.2 ho (by omega) ?_
      have hnx : nx σ = nx τ := by
        have h1 := I.1.2.1
        have h2 := I.2.1.2.1
        omega
      obtain ⟨v, σ', τ', h1, h2, g1, g2, g3, g4, hR'⟩ := PS _ hq (aV xs i0 1 n) (aV_len xs i0 n 1).1 (aV_z xs i0 n 1) py σ τ hR hnx
      obtain ⟨k1, k2⟩ := RK py σ τ hR
      exact l_case C X I hl hi6 (law_ok _ hq) k1 k2 hd h1 g1 h2 g2 (by omega) (by omega) (fun H1 locs1 I1 => next H1 locs1 _ _ _ _ I1 hR' (by omega) (by omega))
end LOOP
