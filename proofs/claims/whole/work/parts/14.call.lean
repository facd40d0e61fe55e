/-! ===== calls of the table's methods ===== -/
theorem XW.same {E : Ev0} {U T : State} (hv : T.vm = U.vm) (hh : T.heap = U.heap) (h : XW E U) : XW E T := by
  obtain ⟨h1, ⟨h2, h3, h4⟩, h5, h6, h7, h8, h9⟩ := h
  have ha : U.vm.Alike T.vm := by rw [hv]; exact Vm.Alike.refl _
  refine ⟨fun q hq => va_Nw.same rfl hv.symm (h1 q hq), ⟨h2.moved ha, h3.moved ha, h4.moved ha⟩, ?_, h6.same hv, h7.same hv, ?_, ?_⟩
  · rw [hh]; exact h5.moved ha
  · rw [hh]; exact h8.moved ha
  · rw [hh]; exact h9.moved ha
theorem Bd.blind (E : Ev0) (s : St) (av : List Value) : FrameBlind (va_Pc av (Bd E s)) := by
  intro a U g mk h
  exact ⟨h.1, h.2.1, va_K.moved (u := U) (U := U.calling g mk a) (Vm.Alike.refl U.vm) h.2.2.1, h.2.2.2.1.same (T := U.calling g mk a) rfl rfl, h.2.2.2.2⟩
def rmD (d mc ms : Nat) : Room := { frames := d + 4, cells := mc, slots := ms, locals := 64 * d + 256 }
def wsJ (j : Nat) : List Cond := Cond.code (mY j) (mC j) (mN j) (mR j) :: lw_good
def MX (E : Ev0) (l : Launch) (d j : Nat) (as : List V) (s : St) (r : List V) (s' : St) : Prop := ∀ mc ms : Nat, (mc : Int) = nx s' - nx s → (ms : Int) = sl s' - sl s →
  Met l (mY j) (wsJ j) (rmD d mc ms) (va_Pc (as.map (mv E)) (Bd E s)) (Qx E (oA E s) r s' s) mc ms (oA E s)
theorem lw_good_good : ∀ w ∈ lw_good, (w.onTables && w.keeps) = true ∨ ∃ ty, w = .arrayClass ty := fun w h => good_of_word (List.mem_filter.mp h).2
set_option maxRecDepth 100000 in
theorem mTab_len : mTab.length = 286 := by decide +kernel
theorem code_in {j : Nat} (h : j < 286) : Cond.code (mY j) (mC j) (mN j) (mR j) ∈ lw_good := by
  have hl : j < mTab.length := by rw [mTab_len]; exact h
  have e1 : mTab.getD j mt0 = mTab[j] := by rw [List.getD_eq_getElem?_getD, List.getElem?_eq_getElem hl]; rfl
  unfold mY mC mN mR
  rw [e1]
  exact cw_all _ (List.getElem_mem hl)
theorem wsJ_good {j : Nat} (h : j < 286) : GoodIn lw_good (wsJ j) := by
  intro w hw
  have hm : w ∈ lw_good := by
    rcases List.mem_cons.mp hw with rfl | hw
    · exact code_in h
    · exact hw
  exact ⟨hm, lw_good_good w hm⟩
theorem m_chk {j : Nat} (h : j < 286) : mChk j = true := by
  rcases (show j < 60 ∨ (60 ≤ j ∧ j < 120) ∨ (120 ≤ j ∧ j < 180) ∨ (180 ≤ j ∧ j < 240) ∨ 240 ≤ j by omega) with q | q | q | q | q
  · have := List.all_eq_true.mp m_ok0 j (List.mem_range.mpr q)
    rwa [Nat.zero_add] at this
  · have := List.all_eq_true.mp m_ok1 (j - 60) (List.mem_range.mpr (by omega))
    rwa [show 60 + (j - 60) = j by omega] at this
  · have := List.all_eq_true.mp m_ok2 (j - 120) (List.mem_range.mpr (by omega))
    rwa [show 120 + (j - 120) = j by omega] at this
  · have := List.all_eq_true.mp m_ok3 (j - 180) (List.mem_range.mpr (by omega))
    rwa [show 180 + (j - 180) = j by omega] at this
  · have := List.all_eq_true.mp m_ok4 (j - 240) (List.mem_range.mpr (by omega))
    rwa [show 240 + (j - 240) = j by omega] at this
/-- what the tables say of method j -/
theorem m_facts {j : Nat} (h : j < 286) : (if mS j = true then Cond.static (mY j) ∈ lw_good else Cond.instanceMethod (mY j) ∈ lw_good ∧ ((mY j).name = "<init>" ∨ Cond.selects (cn (mOw j)) (mY j) (mY j) ∈ lw_good)) ∧ (mY j).cls = cn (mOw j) ∧ mOw j < 13 ∧ plainName (mY j).cls = true ∧ ((mY j).cls ≠ "java/lang/invoke/MethodHandle" ∧ (mY j).cls ≠ "java/lang/invoke/VarHandle") ∧ (parseMethodDescriptor (mY j).desc).map (fun d => d.parameters.length) = some (mNa j - if mS j = true then 0 else 1) ∧ mN j ≤ 20 ∧ mRt j ≤ 3 := by
  have hc := m_chk h
  unfold mChk at hc
  simp only [Bool.and_eq_true, decide_eq_true_eq] at hc
  obtain ⟨⟨⟨⟨⟨⟨⟨h1, h2⟩, h3⟩, h4⟩, h5⟩, h6⟩, h7⟩, h8⟩ := hc
  refine ⟨?_, h2, h3, h4, h5, h6, h7, h8⟩
  by_cases hs : mS j = true
  · rw [if_pos hs] at h1 ⊢
    exact inT_mem h1
  · rw [if_neg hs] at h1 ⊢
    simp only [Bool.and_eq_true, Bool.or_eq_true, decide_eq_true_eq] at h1
    exact ⟨inT_mem h1.1, h1.2.imp id inT_mem⟩
section CALL
variable {E : Ev0} {A : Nat → Prop} {l : Launch} {p : Program} {e : Env} {R : Room} {z : State} {m : MethodId} {args : Array Value} {below : List Frame} {meth : Method} {c : Code} {cc : ByteArray} {nL ow : Nat} {s0 : St} {Q : State → Prop} {pc : Nat} {L : Lc} {st : List V} {s : St}
theorem x_call {A1 : Nat → Prop} {r : List V} {s' s1 : St} {a : Array Value} {H : Heap} {locs : List Loc} {cells slots mc ms : Nat} {ls : Array Slot} {st0 rest : List Value} {free : Addr → Prop} (hr : va_Run p l e R z m args below meth c H locs cells slots mc ms (F0 m pc ls st0) rest (Qx E A1 r s' s1 a) free) (hS : va_S A z.heap H locs) (hA : ∀ q, q < H.size → A1 q → A q) (hf : ∀ q, free q → A q)
    (kk : ∀ (t : State) (locs1 : List Loc), Bd E s' t → (∀ v ∈ r, tvV s' v) → ext s1 s' → (∀ p, kd s' p ≠ 0 → A1 (n0 E + p.toNat)) → (∀ q : Nat, q < H.size → ¬ A1 q → t.heap[q]? = H[q]?) → va_S A z.heap t.heap locs1 → W p l e R z m args below meth c t.heap locs1 (cells + mc) (slots + ms) Q (F0 m (pc + 3) ls ((r.map (mv E)).head?.toList ++ rest))) :
    W p l e R z m args below meth c H locs cells slots Q (F0 m pc ls st0) := by
  intro T hT X
  obtain ⟨v, st₀, t, T', L, h0, X', hL, e1, e2, ⟨hv, hb, ⟨hz, hk⟩, ht, hx, hO⟩, st⟩ := hr T hT X
  have hv' : v = (r.map (mv E)).head? := Outcome.returned.inj hv
  subst hv'
  rw [h0] at hz hk
  obtain ⟨t2, a1, b1⟩ := kk t (locs ++ L) hb ht hx hO (fun q h1 h2 => hk q h1 h2)
    ⟨Nat.le_trans hS.1 hz, fun q h1 h2 => by rw [hk q (Nat.lt_of_lt_of_le h1 hS.1) (fun z => h2 (hA q (Nat.lt_of_lt_of_le h1 hS.1) z))]; exact hS.2.1 q h1 h2, fun q hq => by
      rcases List.mem_append.mp hq with h | h
      · exact hS.2.2 q h
      · exact hf _ (hL q h)⟩ T' e1 X'
  exact ⟨t2, st t2 a1, b1⟩
/-- a call's answer goes on the stack -/
theorem g_after {r : List V} {s' : St} {H : Heap} {locs : List Loc} {cells slots mc ms : Nat} {ls : Array Slot} {st0 : List Value} {a : Array Value} (C : Cx E A p z m args c cc nL ow) {stq : List V} (I : Inv E A z s0 nL s L stq H locs cells slots ls) (hst : ∀ v ∈ st, tvV s v) (h1 : r.length ≤ 1) (hmc : (mc : Int) = nx s' - nx s) (hms : (ms : Int) = sl s' - sl s)
    (h : Go E A l p e R z m args below meth c nL s0 Q (pc + 3) L (r ++ st) s') (hr : va_Run p l e R z m args below meth c H locs cells slots mc ms (F0 m pc ls st0) (st.map (mv E)) (Qx E (oA E s) r s' s a) (oA E s)) : W p l e R z m args below meth c H locs cells slots Q (F0 m pc ls st0) := by
  have hsub := oA_sub I C.2.2.2.2.2.2.2.2.2 C.2.2.2.2.2.2.2.1
  refine x_call hr I.2.1 (fun q _ hq => hsub q hq) hsub (fun t locs1 hb ht hx hO hk hS => ?_)
  have I2 := I.back (mc := mc) (ms := ms) (r := r) C.2.2.2.2.2.2.2.1 hb.1 hx hS hk (fun q hq => hsub _ (hO q hq)) hmc hms ht hst
  have h2 := h t.heap locs1 (cells + mc) (slots + ms) ls I2
  have e1 : (r ++ st).map (mv E) = (r.map (mv E)).head?.toList ++ st.map (mv E) := by
    match r, h1 with
    | [], _ => rfl
    | [v], _ => rfl
    | _ :: _ :: _, h1 => simp at h1
  rw [e1] at h2
  exact h2
theorem pre_of (C : Cx E A p z m args c cc nL ow) {stq : List V} {H : Heap} {locs : List Loc} {cells slots : Nat} {ls : Array Slot} (I : Inv E A z s0 nL s L stq H locs cells slots ls) : ∀ U : State, U.heap = H → z.WarmedH U.vm → Bd E s U := by
  intro U hU hW
  refine ⟨by rw [hU]; exact I.1, va_K.moved hW.alike C.2.2.2.2.2.1, C.2.2.2.2.2.2.1.moved hW (fun a h1 h2 => ?_), by rw [hU]; exact Nat.lt_of_lt_of_le C.2.2.2.2.2.2.2.2.2 I.2.1.1⟩
  rw [hU]
  exact I.2.1.2.1 a h1 (fun q => h2 (C.2.2.2.2.2.2.2.2.1 a q))
/-- what every call has in hand -/
def CallOk (R : Room) (d j : Nat) (s s0 s' : St) (st : List V) : Prop := j < 286 ∧ wt st ≤ 8 ∧ d + 5 ≤ R.frames ∧ 8 + (mN j + 11) + (64 * d + 256) ≤ R.locals ∧ nx s ≤ nx s' ∧ sl s ≤ sl s' ∧ nx s' - nx s0 ≤ R.cells ∧ sl s' - sl s0 ≤ R.slots
theorem g_callS {d j idx : Nat} {as r : List V} {s' : St} (C : Cx E A p z m args c cc nL ow) (dc : decode cc pc = .ok (.invokestatic idx, 3)) (ok : CallOk R d j s s0 s' st) (hS : mS j = true) (hlk : Cond.methodLink (cn ow) idx (mY j) ∈ lw_good) (hn : as.length = mNa j) (h1 : r.length ≤ 1) (hM : (∀ v ∈ as, tvV s v) → MX E l d j as s r s')
    (h : Go E A l p e R z m args below meth c nL s0 Q (pc + 3) L (r ++ st) s') : Go E A l p e R z m args below meth c nL s0 Q pc L (as.reverse ++ st) s := fun H locs cells slots ls I => by
  obtain ⟨hj, hwt, hR1, hR2, hm1, hm2, hm3, hm4⟩ := ok
  obtain ⟨f1, f2, f3, f4, f5, f6, f7, f8⟩ := m_facts hj
  rw [if_pos hS] at f1 f6
  obtain ⟨hx, hb, hml, hown, hts, -⟩ := id C
  have hc1 := I.2.2.2.2.2.2.2.1
  have hc2 := I.2.2.2.2.2.2.2.2
  have emc : (((nx s' - nx s).toNat : Nat) : Int) = nx s' - nx s := by omega
  have ems : (((sl s' - sl s).toNat : Nat) : Int) = sl s' - sl s := by omega
  refine g_after (a := (as.map (mv E)).toArray) C I (fun v hv => I.ty v (List.mem_append_right _ hv)) h1 emc ems h ?_
  refine va_runS (As := as.map (mv E)) ⟨hx, hb, hml, hown, hts⟩ (hM (fun v hv => I.ty v (List.mem_append_left _ (List.mem_reverse.mpr hv))) _ _ emc ems) ⟨callB_of (ws' := lw_good) (bytes := mC j) (maxL := mN j) (ret := mR j) (mNa j) hts (wsJ_good hj) rfl rfl rfl (by rw [f2]; exact hts _ (ini_in f3).1) (hts _ hlk) ⟨f5.1, f5.2, f6⟩ ⟨hR1, hR2⟩, hts _ f1⟩ ⟨Bd.blind E s _, fun U hU hW => ⟨rfl, pre_of C I U hU hW⟩⟩ rfl (by rw [List.length_map]; exact hn) I.2.2.2.1.1 ?_ (by rw [wt_sum]; show 2 * 0 + _ ≤ 8; omega) dc ⟨by omega, by omega⟩
  show (as.reverse ++ st).map (mv E) = _
  rw [List.map_append, List.map_reverse]
theorem g_callSN {d j idx : Nat} {as r : List V} {s' : St} (C : Cx E A p z m args c cc nL ow) (dc : decode cc pc = .ok (.invokestatic idx, 3)) (ok : CallOk R d j s s0 s' st) (hS : mS j = true) (hlk : va_Nw (.methodLinkNest (cn ow) idx (mY j) "NeckKnots") z) (hn : as.length = mNa j) (h1 : r.length ≤ 1) (hM : (∀ v ∈ as, tvV s v) → MX E l d j as s r s')
    (h : Go E A l p e R z m args below meth c nL s0 Q (pc + 3) L (r ++ st) s') : Go E A l p e R z m args below meth c nL s0 Q pc L (as.reverse ++ st) s := fun H locs cells slots ls I => by
  obtain ⟨hj, hwt, hR1, hR2, hm1, hm2, hm3, hm4⟩ := ok
  obtain ⟨f1, f2, f3, f4, f5, f6, f7, f8⟩ := m_facts hj
  rw [if_pos hS] at f1 f6
  obtain ⟨hx, hb, hml, hown, hts, -⟩ := id C
  have hc1 := I.2.2.2.2.2.2.2.1
  have hc2 := I.2.2.2.2.2.2.2.2
  have emc : (((nx s' - nx s).toNat : Nat) : Int) = nx s' - nx s := by omega
  have ems : (((sl s' - sl s).toNat : Nat) : Int) = sl s' - sl s := by omega
  refine g_after (a := (as.map (mv E)).toArray) C I (fun v hv => I.ty v (List.mem_append_right _ hv)) h1 emc ems h ?_
  refine va_runSN (As := as.map (mv E)) ⟨hx, hb, hml, hown, hts⟩ (hM (fun v hv => I.ty v (List.mem_append_left _ (List.mem_reverse.mpr hv))) _ _ emc ems) ⟨va_cnB (ws' := lw_good) (bytes := mC j) (maxL := mN j) (ret := mR j) (mNa j) hts (wsJ_good hj) rfl rfl rfl hlk (by rw [f2]; exact hts _ (ini_in f3).1) ⟨f5.1, f5.2, f6⟩ ⟨hR1, hR2⟩, hts _ f1, trivial⟩ ⟨Bd.blind E s _, fun U hU hW => ⟨rfl, pre_of C I U hU hW⟩⟩ rfl (by rw [List.length_map]; exact hn) I.2.2.2.1.1 ?_ (by rw [wt_sum]; show 2 * 0 + _ ≤ 8; omega) dc ⟨by omega, by omega⟩
  show (as.reverse ++ st).map (mv E) = _
  rw [List.map_append, List.map_reverse]
theorem g_callV {d j idx : Nat} {x : Int} {as r : List V} {s' : St} (C : Cx E A p z m args c cc nL ow) (dc : decode cc pc = .ok (.invokevirtual idx, 3)) (ok : CallOk R d j s s0 s' st) (hS : mS j = false) (hni : (mY j).name ≠ "<init>") (hk : kd s x = mOw j + 4) (hlk : Cond.methodLink (cn ow) idx (mY j) ∈ lw_good) (hn : as.length + 1 = mNa j) (h1 : r.length ≤ 1) (hM : (∀ v ∈ (1, x) :: as, tvV s v) → MX E l d j ((1, x) :: as) s r s')
    (h : Go E A l p e R z m args below meth c nL s0 Q (pc + 3) L (r ++ st) s') : Go E A l p e R z m args below meth c nL s0 Q pc L (((1, x) :: as).reverse ++ st) s := fun H locs cells slots ls I => by
  obtain ⟨hj, hwt, hR1, hR2, hm1, hm2, hm3, hm4⟩ := ok
  obtain ⟨f1, f2, f3, f4, f5, f6, f7, f8⟩ := m_facts hj
  rw [if_neg (by rw [hS]; decide)] at f1 f6
  obtain ⟨hx, hb, hml, hown, hts, hK, -⟩ := id C
  have hc1 := I.2.2.2.2.2.2.2.1
  have hc2 := I.2.2.2.2.2.2.2.2
  have emc : (((nx s' - nx s).toNat : Nat) : Int) = nx s' - nx s := by omega
  have ems : (((sl s' - sl s).toNat : Nat) : Int) = sl s' - sl s := by omega
  have e3 : mv E (1, x) = .ref (n0 E + x.toNat) := (I.1.pos (p := x) (by omega)).2.2
  obtain ⟨⟨cellB, g1, g2, g3, -⟩, -⟩ := I.1.obj hk f3
  have hcls := (hK.1 _ _ (vw_get f3)).2.1
  have hrec : ∃ cellB : Cell, H[n0 E + x.toNat]? = some cellB ∧ cellB.vm.isStatics = false ∧ z.vm.findClass (cn (mOw j)) = some cellB.cls := ⟨cellB, g1, by rw [g3]; rfl, by rw [g2]; exact hcls⟩
  refine g_after (a := (Value.ref (n0 E + x.toNat) :: as.map (mv E)).toArray) C I (fun v hv => I.ty v (List.mem_append_right _ hv)) h1 emc ems h ?_
  have hMx := hM (fun v hv => I.ty v (List.mem_append_left _ (List.mem_reverse.mpr hv))) _ _ emc ems
  rw [List.map_cons, e3] at hMx
  refine va_runV (As := as.map (mv E)) (C := cn (mOw j)) (b := n0 E + x.toNat) ⟨hx, hb, hml, hown, hts⟩ hMx ⟨callB_of (ws' := lw_good) (bytes := mC j) (maxL := mN j) (ret := mR j) (mNa j - 1) hts (wsJ_good hj) rfl rfl rfl (by rw [f2]; exact hts _ (ini_in f3).1) (hts _ hlk) ⟨f5.1, f5.2, f6⟩ ⟨hR1, hR2⟩, hts _ f1.1, hts _ (f1.2.resolve_left hni)⟩ ⟨Bd.blind E s _, hrec, fun U hU hW => ⟨rfl, pre_of C I U hU hW⟩⟩ rfl (by rw [List.length_map]; omega) I.2.2.2.1.1 ?_ (by rw [wt_sum]; show 2 * 0 + _ ≤ 8; omega) dc ⟨by omega, by omega⟩
  show (((1, x) :: as).reverse ++ st).map (mv E) = _
  rw [List.map_append, List.map_reverse, List.map_cons, List.reverse_cons, e3, List.append_assoc]
  rfl
theorem g_callI {d j idx : Nat} {x : Int} {as : List V} {s' : St} (C : Cx E A p z m args c cc nL ow) (dc : decode cc pc = .ok (.invokespecial idx, 3)) (ok : CallOk R d j s s0 s' st) (hS : mS j = false) (hni : (mY j).name = "<init>") (hr0 : mR j = none) (hk : kd s x = mOw j + 4) (hlk : Cond.methodLink (cn ow) idx (mY j) ∈ lw_good) (hn : as.length + 1 = mNa j) (hM : (∀ v ∈ (1, x) :: as, tvV s v) → MX E l d j ((1, x) :: as) s [] s')
    (h : Go E A l p e R z m args below meth c nL s0 Q (pc + 3) L st s') : Go E A l p e R z m args below meth c nL s0 Q pc L (((1, x) :: as).reverse ++ st) s := fun H locs cells slots ls I => by
  obtain ⟨hj, hwt, hR1, hR2, hm1, hm2, hm3, hm4⟩ := ok
  obtain ⟨f1, f2, f3, f4, f5, f6, f7, f8⟩ := m_facts hj
  rw [if_neg (by rw [hS]; decide)] at f1 f6
  obtain ⟨hx, hb, hml, hown, hts, hK, -⟩ := id C
  have hc1 := I.2.2.2.2.2.2.2.1
  have hc2 := I.2.2.2.2.2.2.2.2
  have emc : (((nx s' - nx s).toNat : Nat) : Int) = nx s' - nx s := by omega
  have ems : (((sl s' - sl s).toNat : Nat) : Int) = sl s' - sl s := by omega
  have e3 : mv E (1, x) = .ref (n0 E + x.toNat) := (I.1.pos (p := x) (by omega)).2.2
  have hMx := hM (fun v hv => I.ty v (List.mem_append_left _ (List.mem_reverse.mpr hv))) _ _ emc ems
  rw [List.map_cons, e3] at hMx
  have hg := wsJ_good hj
  unfold wsJ at hMx hg
  rw [hr0] at hMx hg
  refine g_after (r := []) (a := (Value.ref (n0 E + x.toNat) :: as.map (mv E)).toArray) C I (fun v hv => I.ty v (List.mem_append_right _ hv)) (Nat.zero_le _) emc ems h ?_
  refine va_runI (As := as.map (mv E)) (b := n0 E + x.toNat) ⟨hx, hb, hml, hown, hts⟩ hMx ⟨callB_of (ws' := lw_good) (bytes := mC j) (maxL := mN j) (ret := none) (mNa j - 1) hts hg rfl rfl rfl (by rw [f2]; exact hts _ (ini_in f3).1) (hts _ hlk) ⟨f5.1, f5.2, f6⟩ ⟨hR1, hR2⟩, hni, hts _ f1.1⟩ ⟨Bd.blind E s _, fun U hU hW => ⟨rfl, pre_of C I U hU hW⟩⟩ rfl (by rw [List.length_map]; omega) I.2.2.2.1.1 ?_ (by rw [wt_sum]; show 2 * 0 + _ ≤ 8; omega) dc ⟨by omega, by omega⟩
  show (((1, x) :: as).reverse ++ st).map (mv E) = _
  rw [List.map_append, List.map_reverse, List.map_cons, List.reverse_cons, e3, List.append_assoc]
  rfl
theorem g_callIN {d j idx : Nat} {x : Int} {as : List V} {s' : St} (C : Cx E A p z m args c cc nL ow) (dc : decode cc pc = .ok (.invokespecial idx, 3)) (ok : CallOk R d j s s0 s' st) (hS : mS j = false) (hni : (mY j).name = "<init>") (hr0 : mR j = none) (hk : kd s x = mOw j + 4) (hlk : va_Nw (.methodLinkNest (cn ow) idx (mY j) "NeckKnots") z) (hn : as.length + 1 = mNa j) (hM : (∀ v ∈ (1, x) :: as, tvV s v) → MX E l d j ((1, x) :: as) s [] s')
    (h : Go E A l p e R z m args below meth c nL s0 Q (pc + 3) L st s') : Go E A l p e R z m args below meth c nL s0 Q pc L (((1, x) :: as).reverse ++ st) s := fun H locs cells slots ls I => by
  obtain ⟨hj, hwt, hR1, hR2, hm1, hm2, hm3, hm4⟩ := ok
  obtain ⟨f1, f2, f3, f4, f5, f6, f7, f8⟩ := m_facts hj
  rw [if_neg (by rw [hS]; decide)] at f1 f6
  obtain ⟨hx, hb, hml, hown, hts, hK, -⟩ := id C
  have hc1 := I.2.2.2.2.2.2.2.1
  have hc2 := I.2.2.2.2.2.2.2.2
  have emc : (((nx s' - nx s).toNat : Nat) : Int) = nx s' - nx s := by omega
  have ems : (((sl s' - sl s).toNat : Nat) : Int) = sl s' - sl s := by omega
  have e3 : mv E (1, x) = .ref (n0 E + x.toNat) := (I.1.pos (p := x) (by omega)).2.2
  have hMx := hM (fun v hv => I.ty v (List.mem_append_left _ (List.mem_reverse.mpr hv))) _ _ emc ems
  rw [List.map_cons, e3] at hMx
  have hg := wsJ_good hj
  unfold wsJ at hMx hg
  rw [hr0] at hMx hg
  refine g_after (r := []) (a := (Value.ref (n0 E + x.toNat) :: as.map (mv E)).toArray) C I (fun v hv => I.ty v (List.mem_append_right _ hv)) (Nat.zero_le _) emc ems h ?_
  refine va_runIN (As := as.map (mv E)) (b := n0 E + x.toNat) ⟨hx, hb, hml, hown, hts⟩ hMx ⟨va_cnB (ws' := lw_good) (bytes := mC j) (maxL := mN j) (ret := none) (mNa j - 1) hts hg rfl rfl rfl hlk (by rw [f2]; exact hts _ (ini_in f3).1) ⟨f5.1, f5.2, f6⟩ ⟨hR1, hR2⟩, hni, hts _ f1.1⟩ ⟨Bd.blind E s _, fun U hU hW => ⟨rfl, pre_of C I U hU hW⟩⟩ rfl (by rw [List.length_map]; omega) I.2.2.2.1.1 ?_ (by rw [wt_sum]; show 2 * 0 + _ ≤ 8; omega) dc ⟨by omega, by omega⟩
  show (((1, x) :: as).reverse ++ st).map (mv E) = _
  rw [List.map_append, List.map_reverse, List.map_cons, List.reverse_cons, e3, List.append_assoc]
  rfl
end CALL
