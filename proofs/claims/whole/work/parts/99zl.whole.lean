/-! THE CLAIM OUT OF ONE WALK OF THE LAW'S BODY. Your part is whole_start (and what it stands on); all else here is the same for every law, but numbers. -/
def R_law : String := "NeckKnotsLaw"
def lw_P (b : Addr) (xs : List Int32) (args : Array Value) (s : State) : Prop := args = #[.ref b] ∧ s.IntsAt b xs ∧ xs.length ≤ 384 ∧ (Jvm.Cond.and given_1 narrow_1).before args s = true
def lw_Q (_ : Array Value) (s : State) (o : Outcome) (t : State) : Prop := o = .returned (some (.int 1)) ∧ Framed s o t [] 600000 7302250
def lw_Z (below : List Frame) (a : Array Value) (s : State) : State → Prop := fun t => ∃ o, t.status = .running ∧ Ended t below o ∧ lw_Q a s o t
/-- the law's own end, with 1 on the stack, nothing written that was there before, its room as the claim has it -/
theorem lw_ret {p : Program} {l : Launch} {e : Env} {s : State} {m : MethodId} {below : List Frame} {meth : Method} {c : Code} {b : Nat} (hx : p.tables.exec = Jvm.exec) (hb : c.code = code) (hr : meth.sig.returnType = ret) (hlocks : meth.locks = false) {pc : Nat} {H : Heap} {ls : Array Slot} (hdg : decode code pc = .ok (.ireturn, 1)) : W p l e room_1 s m #[Value.ref b] below meth c H [] 600000 7302250 (lw_Z below #[Value.ref b] s) (F0 m pc ls [.int 1]) := by
  intro T hT X
  obtain ⟨fs, hret, hrun, hended, hW, hframe⟩ := X.leave (v := some (.int 1)) (hlocks := hlocks) (fun h => by rw [hr] at h; cases h)
  have hmeth' : T.vm.method? m = some meth := X.method'
  refine ⟨T.setFrames fs, ?_, .returned (some (.int 1)), hrun, hended, rfl, ⟨_, rfl⟩, hW, hframe⟩
  jvm_step X.here [X.here.top, hx, hb, hdg, hmeth', hr, ret, narrow_b1]
  (try refine ⟨rfl, ?_⟩); (try refine ⟨rfl, ?_⟩)
  first | (intro acts; rw [hret _ acts rfl rfl rfl]) | rw [hret _ _ rfl rfl rfl]
  exact Steps.refl _
/-- what holds at the law's entry: the machine, the code, the tables' words (any of lw_tbl by 'hts w (by decide +kernel)'), the script of L ints xs at the cell b, what the Statement gives of the start (any of its parts by flat_of_before) -/
def lw_At (p : Program) (s : State) (m : MethodId) (meth : Method) (c : Code) (b L : Nat) (xs : Nat → Int32) : Prop :=
  p.tables.exec = Jvm.exec ∧ c.code = code ∧ meth.sig.returnType = ret ∧ c.maxLocals = 4 ∧ s.vm.findClass R_law = some m.cls ∧ (∀ w ∈ lw_tbl, w.before #[Value.ref b] s = true) ∧ va_X b L xs s s.heap ∧ b < s.heap.size ∧ meth.locks = false ∧ (Jvm.Cond.and given_1 narrow_1).before #[Value.ref b] s = true
theorem RepC.lft {a : Ab} {s : St} {n : Int} (R : RepC a s) (hn : 98 ≤ n) : RepC a (lf s n) := ⟨⟨R.1.1, R.1.2.1, R.1.2.2.1, R.1.2.2.2.1, hn⟩, R.2⟩
theorem dw_0 : dcB 0 (.new 7) 3 = true := by decide +kernel
theorem dw_3 : dcB 3 .dup 1 = true := by decide +kernel
theorem dw_4 : dcB 4 (.invokespecial 9) 3 = true := by decide +kernel
theorem dw_7 : dcB 7 (.astore_n 1) 1 = true := by decide +kernel
theorem dw_8 : dcB 8 (.new 10) 3 = true := by decide +kernel
theorem dw_11 : dcB 11 .dup 1 = true := by decide +kernel
theorem dw_12 : dcB 12 (.invokespecial 12) 3 = true := by decide +kernel
theorem dw_15 : dcB 15 (.astore_n 2) 1 = true := by decide +kernel
theorem dw_16 : dcB 16 (.iconst 0) 1 = true := by decide +kernel
theorem dw_17 : dcB 17 (.istore_n 3) 1 = true := by decide +kernel
theorem dw_1230 : dcB 1230 (.iconst 1) 1 = true := by decide +kernel
theorem dw_1231 : dcB 1231 .ireturn 1 = true := by decide +kernel
theorem lk_7 : Cond.classLink "NeckKnotsLaw" 7 (cn 11) ∈ lw_good := List.mem_filter.mpr ⟨by decide +kernel, by decide +kernel⟩
theorem lk_10 : Cond.classLink "NeckKnotsLaw" 10 (cn 12) ∈ lw_good := List.mem_filter.mpr ⟨by decide +kernel, by decide +kernel⟩
theorem lk_9 : Cond.methodLink "NeckKnotsLaw" 9 (mY 99) ∈ lw_good := List.mem_filter.mpr ⟨by decide +kernel, by decide +kernel⟩
theorem lk_12 : Cond.methodLink "NeckKnotsLaw" 12 (mY 162) ∈ lw_good := List.mem_filter.mpr ⟨by decide +kernel, by decide +kernel⟩
/-- YOUR PART: from the entry, for every script of at most 384 ints, the law comes to its end with true -/
theorem whole_start {p : Program} {e : Env} {s : State} {m : MethodId} {below : List Frame} {meth : Method} {c : Code} (l : Launch) {b L : Nat} {xs : Nat → Int32} (hL : L ≤ 384) (C0 : lw_At p s m meth c b L xs) : W p l e room_1 s m #[Value.ref b] below meth c s.heap [] 0 0 (lw_Z below #[Value.ref b] s) (entryFrame m ([Value.ref b] : List Value).toArray 4) := by
  obtain ⟨hx, hb, hr, hml, hown, hts, hX, hbl, hlocks, hgv⟩ := id C0
  obtain ⟨E, hsz, hK, hXW⟩ := st_E hts hgv (by omega)
  have C : CL E p s m #[Value.ref b] c code "NeckKnotsLaw" := ⟨hx, hb, hml, hown, fun w hw => hts w (List.mem_filter.mp hw).1, hK, hXW, hsz⟩
  have X : SX E s b L xs := ⟨hX, hbl, by show ¬ (n0 E < b); omega, hL⟩
  have hp0 : hp E (emp0 1) s.heap := ⟨fun q hq => absurd rfl hq, by show (s.heap.size : Int) = n0 E + 1; omega, fun q hq => absurd rfl hq⟩
  have I0 : LB E s (emp0 1) (emp0 1) s.heap [] := ⟨hp0, hp0, va_S.rf, fun q _ => rfl⟩
  obtain ⟨s1, ev1, RC, FZ, nx1, sl1⟩ := ini_C
  obtain ⟨s2, ev2, RM, nx2, sl2⟩ := ini_M
  obtain ⟨F1, ef1⟩ := EV_get ev1
  obtain ⟨F2, ef2⟩ := EV_get ev2
  have n1 := ev_nx _ _ _ _ _ _ _ _ ef1
  have n2 := ev_nx _ _ _ _ _ _ _ _ ef2
  have sC : nx st0C = 2 ∧ sl st0C = 15 := ⟨rfl, rfl⟩
  have sM : nx (st0M 98) = 99 ∧ sl (st0M 98) = 63 := ⟨rfl, rfl⟩
  dsimp only at n1 n2
  have hl := lv_entry ([.ref b]) (n := 4) (Nat.le_of_ble_eq_true rfl)
  rw [lg_entry_eq]
  generalize (lg_sl ([.ref b]) ++ List.replicate (4 - (lg_sl ([.ref b])).length) Slot.unset).toArray = ls at hl ⊢
  have hl : lv_has ls 4 [(0, .ref b)] := hl
  have cN11 : cN 11 = 15 := by decide +kernel
  have cN12 : cN 12 = 63 := by decide +kernel
  refine l_new (ci := 11) C I0 (dcB_ok dw_0) (by decide) lk_7 (Nat.le_of_ble_eq_true rfl) (by rw [cN11]; exact Nat.le_of_ble_eq_true rfl) fun H1 I1 => ?_
  rw [cN11] at I1 ⊢
  have I1 : LB E s st0C (lf (emp0 1) 2) H1 [] := I1
  refine lv_dup hx hb (dcB_ok dw_3) rfl ?_
  refine l_callI (d := 60) (j := 99) (x := 1) (σ' := s1) C I1 hl.1 (dcB_ok dw_4) (by decide) (by decide +kernel) (by decide +kernel) (by decide +kernel) (by decide +kernel) (by decide +kernel) lk_9 (by decide +kernel) ⟨Nat.le_of_ble_eq_true rfl, Nat.le_of_ble_eq_true rfl, Nat.le_of_ble_eq_true rfl⟩ ⟨n1.1, n1.2, ?_, ?_⟩ ev1 fun H2 locs2 I2 => ?_
  · show 0 + 1 + (nx s1 - nx st0C).toNat ≤ 600000
    omega
  · show 0 + 15 + (sl s1 - sl st0C).toNat ≤ 7302250
    omega
  have m1 : mv E (1, 1) = .ref (n0 E + (1 : Int).toNat) := rvE_pos E (by decide)
  have m2 : mv E (1, 98) = .ref (n0 E + (98 : Int).toNat) := rvE_pos E (by decide)
  show W p l e room_1 s m #[Value.ref b] below meth c H2 locs2 (0 + 1 + (nx s1 - nx st0C).toNat) (0 + 15 + (sl s1 - sl st0C).toNat) (lw_Z below #[Value.ref b] s) (F0 m 7 ls [mv E (1, 1)])
  rw [m1]
  refine W.widen (k := 100) (n := 20100) (by omega) (by omega) ?_
  refine lv_astore_n (lv' := [(1, .ref (n0 E + (1 : Int).toNat)), (0, .ref b)]) hx hb (dcB_ok dw_7) rfl hl (by decide) rfl (fun ls1 hl1 => ?_)
  rw [nx1] at I2
  have I2 : LB E s (emp0 98) s1 H2 locs2 := I2.sym
  refine l_new (ci := 12) C I2 (dcB_ok dw_8) (by decide) lk_10 (Nat.le_of_ble_eq_true rfl) (by rw [cN12]; exact Nat.le_of_ble_eq_true rfl) fun H3 I3 => ?_
  rw [cN12] at I3 ⊢
  have I3 : LB E s (st0M 98) (lf s1 99) H3 locs2 := I3
  refine lv_dup hx hb (dcB_ok dw_11) rfl ?_
  refine l_callI (d := 60) (j := 162) (x := 98) (σ' := s2) C I3 hl1.1 (dcB_ok dw_12) (by decide) (by decide +kernel) (by decide +kernel) (by decide +kernel) (by decide +kernel) (by decide +kernel) lk_12 (by decide +kernel) ⟨Nat.le_of_ble_eq_true rfl, Nat.le_of_ble_eq_true rfl, Nat.le_of_ble_eq_true rfl⟩ ⟨n2.1, n2.2, ?_, ?_⟩ ev2 fun H4 locs4 I4 => ?_
  · show 100 + 1 + (nx s2 - nx (st0M 98)).toNat ≤ 600000
    omega
  · show 20100 + 63 + (sl s2 - sl (st0M 98)).toNat ≤ 7302250
    omega
  show W p l e room_1 s m #[Value.ref b] below meth c H4 locs4 (100 + 1 + (nx s2 - nx (st0M 98)).toNat) (20100 + 63 + (sl s2 - sl (st0M 98)).toNat) (lw_Z below #[Value.ref b] s) (F0 m 15 ls1 [mv E (1, 98)])
  rw [m2]
  refine W.widen (k := 1000) (n := 100000) (by omega) (by omega) ?_
  refine lv_astore_n (lv' := [(2, .ref (n0 E + (98 : Int).toNat)), (1, .ref (n0 E + (1 : Int).toNat)), (0, .ref b)]) hx hb (dcB_ok dw_15) rfl hl1 (by decide) rfl (fun ls2 hl2 => ?_)
  rw [nx2] at I4
  have I5 : LB E s (lf s1 126) s2 H4 locs4 := I4.sym
  refine lv_iconst (v := nI 0) hx hb (dcB_ok dw_16) rfl ?_
  refine lv_istore_n (lv' := [(3, .int (nI 0)), (2, .ref (n0 E + (98 : Int).toNat)), (1, .ref (n0 E + (1 : Int).toNat)), (0, .ref b)]) hx hb (dcB_ok dw_17) rfl hl2 (by decide) rfl (fun ls3 hl3 => ?_)
  have hRel : Rel0 98 (lf s1 126) s2 := ⟨rfl, a00, wf_a00, RC.lft (by decide), fun q hq => FZ q (by have hq' : (126 : Int) ≤ q := hq; omega), RM⟩
  refine l_loop (py := 98) pure_step rel0_kd C X ⟨Nat.le_of_ble_eq_true rfl, Nat.le_of_ble_eq_true rfl⟩ (by decide) (by decide) (fun H locs cells slots ls hS hc hs => ?_) 64 0 (lf s1 126) s2 H4 locs4 1000 100000 ls3 (by omega) I5 hRel hl3 (by decide) (by decide) (by decide)
  refine va_forget (fun q hq => ?_) ?_
  · have : n0 E < q.base := hS.2.2 q hq
    omega
  refine W.widen (k := 600000) (n := 7302250) hc hs ?_
  refine lv_iconst (v := 1) hx hb (dcB_ok dw_1230) rfl ?_
  exact lw_ret hx hb hr hlocks (dcB_ok dw_1231)
-- ===== YOUR PART ENDS =====
set_option maxHeartbeats 4000000 in
theorem lw_walk (l : Launch) (b : Addr) (xs : List Int32) : MetFree l x (headSpec (Jvm.Cond.code x code maxLocals ret :: tables_1) room_1) (lw_P b xs) (fun _ _ _ _ _ => True) lw_Q := by
  refine MetFree.of_bodyS (code := code) (maxLocals := maxLocals) (ret := ret) (by decide) ?_ ?_
  · intro args s m h hn
    obtain ⟨meth, c, h1, h2, h3, h4, h5, h6, -, -⟩ := Cond.code_spec hn (atoms_spec (ws := Jvm.Cond.code x code maxLocals ret :: tables_1) h _ List.mem_cons_self)
    exact ⟨meth, c, h1, h2, h3, h4, h5, h6⟩
  · intro p e s m args below meth c s₁ B hml0 hP _
    obtain ⟨rfl, hx, hbd, hgv⟩ := hP
    obtain ⟨scr, harrAt, hlist, hof, hsmall⟩ := hx
    obtain ⟨hcb, hkn, -, -⟩ := State.arrayAt?_spec harrAt
    have hown : s.vm.findClass R_law = some m.cls := findClass_of_methodNamed B.named
    have hts0 : ∀ c ∈ (Jvm.Cond.code x code maxLocals ret :: tables_1), c.before #[Value.ref b] s = true := atoms_spec (ws := Jvm.Cond.code x code maxLocals ret :: tables_1) B.pre
    have hts : ∀ w ∈ lw_tbl, w.before #[Value.ref b] s = true := k2_hts_sels lw_privs (fun w hw => hts0 w (List.mem_cons_of_mem _ hw)) lw_privs_ok
    have hml : c.maxLocals = 4 := B.maxLocals_eq (hts0 _ List.mem_cons_self)
    have X₀ : Stand p l e room_1 s m #[Value.ref b] below meth c s₁ [] 0 0 := Stand.of_body B
    have hh0 : s₁.heap = s.heap := by rw [B.state]; rfl
    have hsz : scr.slots.size = xs.length := by rw [← Array.length_toList, hlist, List.length_map]
    have hval : ∀ j : Nat, j < xs.length → scr.slots[j]? = some (.int (xs.getD j 0)) := fun j hj => by
      rw [← Array.getElem?_toList, hlist]
      simp [hj]
    have hbl : b < s.heap.size := (Array.getElem?_eq_some_iff.mp hcb).1
    have hX : va_X b xs.length (fun j => xs.getD j 0) s s.heap := ⟨scr, hcb, hof, hkn, hsz, hval⟩
    have K : W p l e room_1 s m #[Value.ref b] below meth c s₁.heap [] 0 0 (lw_Z below #[Value.ref b] s) (entryFrame m ([Value.ref b] : List Value).toArray 4) := by
      rw [hh0]
      exact whole_start l hbd ⟨B.exec, B.bytes, B.returns, hml, hown, hts, hX, hbl, B.notSynchronized, hgv⟩
    obtain ⟨t, a1, o, b1, b2, b3⟩ := K s₁ rfl X₀
    exact ⟨t, o, a1, b1, b2, b3⟩
theorem lw_pre_spec {args : Array Value} {s : State} (h : (Jvm.Cond.and given_1 narrow_1).before args s = true) (hr : rest_1_c.before args s = true) : ∃ (b : Addr) (xs : List Int32), lw_P b xs args s := by
  have hs := flat_of_before _ h
  have hq := flat_of_before _ hr
  have hc : (Cond.count 1).before args s = true := hs _ (by decide +kernel)
  have harr : (Cond.arrayOf (.arg 0) .int).before args s = true := hs _ (by decide +kernel)
  have hle : (Cond.le (.length (.arg 0)) (.int 384)).before args s = true := hs _ (by decide +kernel)
  have hlen : (Cond.isInt (.length (.arg 0))).before args s = true := hq _ (by decide +kernel)
  have hall : (Cond.all (.arg 0) (.isInt (.elem (.arg 0) (.index 0)))).before args s = true := hq _ (by decide +kernel)
  obtain ⟨b, xs, hb, hx⟩ := State.ints_of_pre rfl harr hlen hall
  have hsm : xs.length < 2 ^ 31 := hx.choose_spec.2.2.2
  have hev : (Term.length (.arg 0)).eval args s none [] s = some (.int xs.length.toInt32) := hx.length_eval hb
  have hv := Cond.le_ints hev (show (Term.int 384).eval args s none [] s = some (.int 384) from rfl)
  have hd : xs.length.toInt32 ≤ 384 := by
    simpa [Cond.before, Cond.holds, hv] using hle
  have hN : xs.length ≤ 384 := (Int32.ofNat_le_ofNat hsm (by decide)).mp (show Int32.ofNat xs.length ≤ Int32.ofNat 384 from hd)
  exact ⟨b, xs, Cond.one_arg hc (show args[0]? = some (.ref b) from hb), hx, hN, h⟩
theorem lw_comes (l : Launch) : Comes l x (Jvm.Cond.code x code maxLocals ret :: tables_1) room_1 (fun tb e args s => Calls_1 tb e args s ∧ rest_1 tb e args s ∧ Pre_1 tb e args s)
    (fun _ _ args s o t => lw_Q args s o t) := by
  intro p e ha hc hk s m args below hf hfit hheap happ hpre
  obtain ⟨b, xs, hP⟩ := lw_pre_spec hpre.2.2 hpre.2.1
  obtain ⟨k, o, h1, h2, h3, hQ⟩ := lw_walk l b xs p e ha hc hk s m args below hf ((Spec.applies_iff_loose hf).mp happ).1 hP trivial
  exact ⟨k, o, h1, h2, h3, hQ⟩
theorem lw_frame {s t : State} {o : Outcome} {args : Array Value} (h : Framed s o t [] 600000 7302250) :
    Framed s o t (fieldLocs frame_1_writes args s ++ arrayLocs frame_1_arrays args s ++ staticLocs frame_1_statics s) 600000 7302250 := h
theorem lw_limb (L : Cond) (hL : ∀ (args : Array Value) (s t : State), L.after args s (.returned (some (.int 1))) t = true) :
    ArmFor flags0 classFile x code maxLocals ret World_1 tables_1 room_1 Calls_1 rest_1 Pre_1
      (fun tb e a s o t => postC L tb e a s o t ∧ Framed s o t (fieldLocs frame_1_writes a s ++ arrayLocs frame_1_arrays a s ++ staticLocs frame_1_statics s) 600000 7302250) := by
  intro l _ _ _ p e ha hc hk s m args below hf hfit hheap happ hpre
  obtain ⟨k, o, h1, h2, h3, rfl, hF⟩ := lw_comes l p e ha hc hk s m args below hf hfit hheap happ hpre
  exact ⟨k, _, h1, h2, h3, hL args s _, lw_frame hF⟩
theorem i_vc : Claimed_1_1 ∧ Claimed_1_2 := ⟨lw_limb limb_1_1 (fun args s t => by simp [limb_1_1, Cond.after, Cond.holds, Cond.value]), lw_limb limb_1_2 (fun args s t => Cond.after_iff.mpr (by
  first | (rw [show limb_1_2 = Cond.eq .result (.int 1) from rfl, Cond.eq_ints (x := 1) (y := 1) rfl rfl]; simp; done) | (simp [limb_1_2, Cond.value, Term.eval]; done)))⟩
