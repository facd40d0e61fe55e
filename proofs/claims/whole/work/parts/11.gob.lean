/-! ===== branches, fields, arrays ===== -/
theorem vw_get {ci : Nat} (h : ci < 13) : vwCl[ci]? = some (cn ci, cT ci, cN ci) := by
  have hl : ci < vwCl.length := h
  simp [cn, cT, cN, List.getD_eq_getElem?_getD, List.getElem?_eq_getElem hl]
theorem lay_in {ci : Nat} (h : ci < 13) : ∀ w ∈ u_ws (cn ci) (cT ci) (cN ci), w ∈ lw_good := by
  intro w hw
  obtain ⟨k, hk, rfl⟩ := List.mem_map.mp hw
  have h1 := List.all_eq_true.mp lay_ok ci (List.mem_range.mpr h)
  have h2 := List.all_eq_true.mp h1 k hk
  exact inT_mem h2
theorem ini_in {ci : Nat} (h : ci < 13) : Cond.initialized (cn ci) ∈ lw_good ∧ Cond.instantiable (cn ci) (cN ci) ∈ lw_good := by
  have h1 := List.all_eq_true.mp ini_ok ci (List.mem_range.mpr h)
  simp only [Bool.and_eq_true] at h1
  exact ⟨inT_mem h1.1, inT_mem h1.2⟩
/-- the fields' types are as their numbers say -/
def ftOk (ty : FieldType) (t : Nat) : Bool := match t, ty with
  | 0, .int => true
  | 1, .boolean => true
  | 2, .byte => true
  | 3, .long => true
  | _ + 4, .object _ => true
  | _ + 4, .array _ => true
  | _, _ => false
def fOk (ci k : Nat) : Bool := match parseFieldDescriptor (cT ci k).2.2.1 with
  | some ty => ftOk ty (fty ci k)
  | none => false
set_option maxRecDepth 100000 in
theorem fty_ok : ((List.range 13).all fun ci => (List.range (cN ci)).all fun k => fOk ci k) = true := by decide +kernel
def nmOk (ci : Nat) : Bool := (List.range (cN ci)).all fun a => (List.range (cN ci)).all fun b => a == b || !((cT ci a).2.1 == (cT ci b).2.1)
set_option maxRecDepth 100000 in
theorem nm_ok : ((List.range 13).all nmOk) = true := by decide +kernel
theorem nm_ne {ci : Nat} (h : ci < 13) : ∀ a, a < cN ci → ∀ b, b < cN ci → a ≠ b → (cT ci a).2.1 ≠ (cT ci b).2.1 := by
  have h1 := List.all_eq_true.mp nm_ok ci (List.mem_range.mpr h)
  intro a ha b hb hne e
  have h2 := List.all_eq_true.mp (List.all_eq_true.mp h1 a (List.mem_range.mpr ha)) b (List.mem_range.mpr hb)
  simp [hne, e] at h2
theorem fty_get {ci k : Nat} (h : ci < 13) (hk : k < cN ci) : ∃ ty, parseFieldDescriptor (cT ci k).2.2.1 = some ty ∧ ftOk ty (fty ci k) = true := by
  have h1 := List.all_eq_true.mp fty_ok ci (List.mem_range.mpr h)
  have h2 := List.all_eq_true.mp h1 k (List.mem_range.mpr hk)
  unfold fOk at h2
  split at h2
  · rename_i ty hty
    exact ⟨ty, hty, h2⟩
  · cases h2
theorem bool_and {x : Int} (h : x = 0 ∨ x = 1) : Int32.ofInt x &&& 1 = Int32.ofInt x := by
  rcases h with rfl | rfl <;> decide
theorem bool_fit {x : Int} (h : x = 0 ∨ x = 1) : (Int32.ofInt x == 0 || Int32.ofInt x == 1) = true := by
  rcases h with rfl | rfl <;> decide
theorem byte_nar {x : Int} (h : -128 ≤ x ∧ x < 128) : (Int32.ofInt x).toInt8.toInt32 = Int32.ofInt x := by
  rw [i2b_ (by unfold rg; omega), wb_id h]
theorem byte_fit {x : Int} (h : -128 ≤ x ∧ x < 128) : (decide (-128 ≤ Int32.ofInt x) && decide (Int32.ofInt x ≤ 127)) = true := by
  have hr : rg x := by unfold rg; omega
  have h1 : (-128 : Int32) = Int32.ofInt (-128) := by decide
  have h2 : (127 : Int32) = Int32.ofInt 127 := by decide
  rw [h1, h2, Bool.and_eq_true, decide_eq_true_eq, decide_eq_true_eq, i_le (by unfold rg; omega) hr, i_le hr (by unfold rg; omega)]
  omega
theorem def_mt (E : Ev0) {ty : FieldType} {t : Nat} (h : ftOk ty t = true) : defaultValue ty = mt E t 0 := by
  match t, ty, h with
  | 0, .int, _ => rfl
  | 1, .boolean, _ => rfl
  | 2, .byte, _ => rfl
  | 3, .long, _ => rfl
  | _ + 4, .object _, _ => exact (rvE_0 E).symm
  | _ + 4, .array _, _ => exact (rvE_0 E).symm
theorem rv_nar (E : Ev0) (x : Int) {ty : FieldType} (h : (∃ n, ty = .object n) ∨ ∃ t, ty = .array t) : narrow ty (rvE E x) = rvE E x ∧ fits ty (rvE E x) = true := by
  unfold rvE
  rcases h with ⟨n, rfl⟩ | ⟨t, rfl⟩ <;> split <;> exact ⟨rfl, rfl⟩
theorem mt_nar (E : Ev0) {s : St} {ty : FieldType} {t : Nat} {x : Int} (h : ftOk ty t = true) (hv : tv s t x) : narrow ty (mt E t x) = mt E t x ∧ fits ty (mt E t x) = true := by
  match t, ty, h, hv with
  | 0, .int, _, _ => exact ⟨rfl, rfl⟩
  | 1, .boolean, _, hv => exact ⟨congrArg Value.int (bool_and hv), bool_fit hv⟩
  | 2, .byte, _, hv => exact ⟨congrArg Value.int (byte_nar hv), byte_fit hv⟩
  | 3, .long, _, _ => exact ⟨rfl, rfl⟩
  | _ + 4, .object n, _, _ => exact rv_nar E x (Or.inl ⟨n, rfl⟩)
  | _ + 4, .array t, _, _ => exact rv_nar E x (Or.inr ⟨t, rfl⟩)
section GOB
variable {E : Ev0} {A : Nat → Prop} {l : Launch} {p : Program} {e : Env} {R : Room} {z : State} {m : MethodId} {args : Array Value} {below : List Frame} {meth : Method} {c : Code} {cc : ByteArray} {nL ow : Nat} {s0 : St} {Q : State → Prop} {pc : Nat} {L : Lc} {st : List V} {s : St}
theorem g_br1 {x : Int} {P : Prop} {tgt : Nat} (hw : rg x → ∀ {H : Heap} {locs : List Loc} {cells slots : Nat} {ls : Array Slot}, (P → W p l e R z m args below meth c H locs cells slots Q (F0 m tgt ls (st.map (mv E)))) → (¬ P → W p l e R z m args below meth c H locs cells slots Q (F0 m (pc + 3) ls (st.map (mv E)))) → W p l e R z m args below meth c H locs cells slots Q (F0 m pc ls (.int (Int32.ofInt x) :: st.map (mv E))))
    (ht : P → Go E A l p e R z m args below meth c nL s0 Q tgt L st s) (hf : ¬ P → Go E A l p e R z m args below meth c nL s0 Q (pc + 3) L st s) : Go E A l p e R z m args below meth c nL s0 Q pc L ((0, x) :: st) s := fun H locs cells slots ls I => by
  have hty := I.ty
  rw [List.forall_mem_cons] at hty
  exact hw hty.1 (fun hp => ht hp H locs cells slots ls (I.stk hty.2)) (fun hp => hf hp H locs cells slots ls (I.stk hty.2))
theorem g_br2 {x y : Int} {P : Prop} {tgt : Nat} (hw : rg x → rg y → ∀ {H : Heap} {locs : List Loc} {cells slots : Nat} {ls : Array Slot}, (P → W p l e R z m args below meth c H locs cells slots Q (F0 m tgt ls (st.map (mv E)))) → (¬ P → W p l e R z m args below meth c H locs cells slots Q (F0 m (pc + 3) ls (st.map (mv E)))) → W p l e R z m args below meth c H locs cells slots Q (F0 m pc ls (.int (Int32.ofInt y) :: .int (Int32.ofInt x) :: st.map (mv E))))
    (ht : P → Go E A l p e R z m args below meth c nL s0 Q tgt L st s) (hf : ¬ P → Go E A l p e R z m args below meth c nL s0 Q (pc + 3) L st s) : Go E A l p e R z m args below meth c nL s0 Q pc L ((0, y) :: (0, x) :: st) s := fun H locs cells slots ls I => by
  have hty := I.ty
  rw [List.forall_mem_cons, List.forall_mem_cons] at hty
  exact hw hty.2.1 hty.1 (fun hp => ht hp H locs cells slots ls (I.stk hty.2.2)) (fun hp => hf hp H locs cells slots ls (I.stk hty.2.2))
theorem g_ifeq {x off : Int} {tgt : Nat} (C : Cx E A p z m args c cc nL ow) (d : decode cc pc = .ok (.ifCond .eq off, 3)) (ht : (pc : Int) + off = tgt) (k1 : x = 0 → Go E A l p e R z m args below meth c nL s0 Q tgt L st s) (k2 : ¬ x = 0 → Go E A l p e R z m args below meth c nL s0 Q (pc + 3) L st s) : Go E A l p e R z m args below meth c nL s0 Q pc L ((0, x) :: st) s :=
  g_br1 (fun hx => fun a b => lv_if_eq C.1 C.2.1 d ht (fun q => a ((i_eq hx rg0).mp q)) (fun q => b (fun r => q ((i_eq hx rg0).mpr r)))) k1 k2
theorem g_ifne {x off : Int} {tgt : Nat} (C : Cx E A p z m args c cc nL ow) (d : decode cc pc = .ok (.ifCond .ne off, 3)) (ht : (pc : Int) + off = tgt) (k1 : ¬ x = 0 → Go E A l p e R z m args below meth c nL s0 Q tgt L st s) (k2 : x = 0 → Go E A l p e R z m args below meth c nL s0 Q (pc + 3) L st s) : Go E A l p e R z m args below meth c nL s0 Q pc L ((0, x) :: st) s :=
  g_br1 (P := ¬ x = 0) (fun hx => fun a b => lv_if_ne C.1 C.2.1 d ht (fun q => a (fun r => q ((i_eq hx rg0).mpr r))) (fun q => b (fun r => r ((i_eq hx rg0).mp q)))) k1 (fun q => k2 (Decidable.of_not_not q))
theorem g_iflt {x off : Int} {tgt : Nat} (C : Cx E A p z m args c cc nL ow) (d : decode cc pc = .ok (.ifCond .lt off, 3)) (ht : (pc : Int) + off = tgt) (k1 : x < 0 → Go E A l p e R z m args below meth c nL s0 Q tgt L st s) (k2 : ¬ x < 0 → Go E A l p e R z m args below meth c nL s0 Q (pc + 3) L st s) : Go E A l p e R z m args below meth c nL s0 Q pc L ((0, x) :: st) s :=
  g_br1 (fun hx => fun a b => lv_if_lt C.1 C.2.1 d ht (fun q => a ((i_lt hx rg0).mp q)) (fun q => b (fun r => q ((i_lt hx rg0).mpr r)))) k1 k2
theorem g_ifge {x off : Int} {tgt : Nat} (C : Cx E A p z m args c cc nL ow) (d : decode cc pc = .ok (.ifCond .ge off, 3)) (ht : (pc : Int) + off = tgt) (k1 : ¬ x < 0 → Go E A l p e R z m args below meth c nL s0 Q tgt L st s) (k2 : x < 0 → Go E A l p e R z m args below meth c nL s0 Q (pc + 3) L st s) : Go E A l p e R z m args below meth c nL s0 Q pc L ((0, x) :: st) s :=
  g_br1 (P := 0 ≤ x) (fun hx => fun a b => lv_if_ge C.1 C.2.1 d ht (fun q => a ((i_le rg0 hx).mp q)) (fun q => b (fun r => q ((i_le rg0 hx).mpr r)))) (fun q => k1 (by omega)) (fun q => k2 (by omega))
theorem g_ifgt {x off : Int} {tgt : Nat} (C : Cx E A p z m args c cc nL ow) (d : decode cc pc = .ok (.ifCond .gt off, 3)) (ht : (pc : Int) + off = tgt) (k1 : 0 < x → Go E A l p e R z m args below meth c nL s0 Q tgt L st s) (k2 : ¬ 0 < x → Go E A l p e R z m args below meth c nL s0 Q (pc + 3) L st s) : Go E A l p e R z m args below meth c nL s0 Q pc L ((0, x) :: st) s :=
  g_br1 (fun hx => fun a b => lv_if_gt C.1 C.2.1 d ht (fun q => a ((i_lt rg0 hx).mp q)) (fun q => b (fun r => q ((i_lt rg0 hx).mpr r)))) k1 k2
theorem g_ifle {x off : Int} {tgt : Nat} (C : Cx E A p z m args c cc nL ow) (d : decode cc pc = .ok (.ifCond .le off, 3)) (ht : (pc : Int) + off = tgt) (k1 : ¬ 0 < x → Go E A l p e R z m args below meth c nL s0 Q tgt L st s) (k2 : 0 < x → Go E A l p e R z m args below meth c nL s0 Q (pc + 3) L st s) : Go E A l p e R z m args below meth c nL s0 Q pc L ((0, x) :: st) s :=
  g_br1 (P := x ≤ 0) (fun hx => fun a b => lv_if_le C.1 C.2.1 d ht (fun q => a ((i_le hx rg0).mp q)) (fun q => b (fun r => q ((i_le hx rg0).mpr r)))) (fun q => k1 (by omega)) (fun q => k2 (by omega))
theorem g_icmpeq {x y off : Int} {tgt : Nat} (C : Cx E A p z m args c cc nL ow) (d : decode cc pc = .ok (.if_icmp .eq off, 3)) (ht : (pc : Int) + off = tgt) (k1 : x = y → Go E A l p e R z m args below meth c nL s0 Q tgt L st s) (k2 : ¬ x = y → Go E A l p e R z m args below meth c nL s0 Q (pc + 3) L st s) : Go E A l p e R z m args below meth c nL s0 Q pc L ((0, y) :: (0, x) :: st) s :=
  g_br2 (fun hx hy => fun a b => lv_icmp_eq C.1 C.2.1 d ht (fun q => a ((i_eq hx hy).mp q)) (fun q => b (fun r => q ((i_eq hx hy).mpr r)))) k1 k2
theorem g_icmpne {x y off : Int} {tgt : Nat} (C : Cx E A p z m args c cc nL ow) (d : decode cc pc = .ok (.if_icmp .ne off, 3)) (ht : (pc : Int) + off = tgt) (k1 : ¬ x = y → Go E A l p e R z m args below meth c nL s0 Q tgt L st s) (k2 : x = y → Go E A l p e R z m args below meth c nL s0 Q (pc + 3) L st s) : Go E A l p e R z m args below meth c nL s0 Q pc L ((0, y) :: (0, x) :: st) s :=
  g_br2 (P := ¬ x = y) (fun hx hy => fun a b => lv_icmp_ne C.1 C.2.1 d ht (fun q => a (fun r => q ((i_eq hx hy).mpr r))) (fun q => b (fun r => r ((i_eq hx hy).mp q)))) k1 (fun q => k2 (Decidable.of_not_not q))
theorem g_icmplt {x y off : Int} {tgt : Nat} (C : Cx E A p z m args c cc nL ow) (d : decode cc pc = .ok (.if_icmp .lt off, 3)) (ht : (pc : Int) + off = tgt) (k1 : x < y → Go E A l p e R z m args below meth c nL s0 Q tgt L st s) (k2 : ¬ x < y → Go E A l p e R z m args below meth c nL s0 Q (pc + 3) L st s) : Go E A l p e R z m args below meth c nL s0 Q pc L ((0, y) :: (0, x) :: st) s :=
  g_br2 (fun hx hy => fun a b => lv_icmp_lt C.1 C.2.1 d ht (fun q => a ((i_lt hx hy).mp q)) (fun q => b (fun r => q ((i_lt hx hy).mpr r)))) k1 k2
theorem g_icmpge {x y off : Int} {tgt : Nat} (C : Cx E A p z m args c cc nL ow) (d : decode cc pc = .ok (.if_icmp .ge off, 3)) (ht : (pc : Int) + off = tgt) (k1 : ¬ x < y → Go E A l p e R z m args below meth c nL s0 Q tgt L st s) (k2 : x < y → Go E A l p e R z m args below meth c nL s0 Q (pc + 3) L st s) : Go E A l p e R z m args below meth c nL s0 Q pc L ((0, y) :: (0, x) :: st) s :=
  g_br2 (P := y ≤ x) (fun hx hy => fun a b => lv_icmp_ge C.1 C.2.1 d ht (fun q => a ((i_le hy hx).mp q)) (fun q => b (fun r => q ((i_le hy hx).mpr r)))) (fun q => k1 (by omega)) (fun q => k2 (by omega))
theorem g_icmpgt {x y off : Int} {tgt : Nat} (C : Cx E A p z m args c cc nL ow) (d : decode cc pc = .ok (.if_icmp .gt off, 3)) (ht : (pc : Int) + off = tgt) (k1 : y < x → Go E A l p e R z m args below meth c nL s0 Q tgt L st s) (k2 : ¬ y < x → Go E A l p e R z m args below meth c nL s0 Q (pc + 3) L st s) : Go E A l p e R z m args below meth c nL s0 Q pc L ((0, y) :: (0, x) :: st) s :=
  g_br2 (fun hx hy => fun a b => lv_icmp_gt C.1 C.2.1 d ht (fun q => a ((i_lt hy hx).mp q)) (fun q => b (fun r => q ((i_lt hy hx).mpr r)))) k1 k2
theorem g_icmple {x y off : Int} {tgt : Nat} (C : Cx E A p z m args c cc nL ow) (d : decode cc pc = .ok (.if_icmp .le off, 3)) (ht : (pc : Int) + off = tgt) (k1 : ¬ y < x → Go E A l p e R z m args below meth c nL s0 Q tgt L st s) (k2 : y < x → Go E A l p e R z m args below meth c nL s0 Q (pc + 3) L st s) : Go E A l p e R z m args below meth c nL s0 Q pc L ((0, y) :: (0, x) :: st) s :=
  g_br2 (P := x ≤ y) (fun hx hy => fun a b => lv_icmp_le C.1 C.2.1 d ht (fun q => a ((i_le hx hy).mp q)) (fun q => b (fun r => q ((i_le hx hy).mpr r)))) (fun q => k1 (by omega)) (fun q => k2 (by omega))
theorem g_ifnull {x off : Int} {tgt : Nat} (C : Cx E A p z m args c cc nL ow) (d : decode cc pc = .ok (.ifnull off, 3)) (ht : (pc : Int) + off = tgt) (k1 : x = 0 → Go E A l p e R z m args below meth c nL s0 Q tgt L st s) (k2 : ¬ x = 0 → Go E A l p e R z m args below meth c nL s0 Q (pc + 3) L st s) : Go E A l p e R z m args below meth c nL s0 Q pc L ((1, x) :: st) s := fun H locs cells slots ls I => by
  have hty := I.ty
  rw [List.forall_mem_cons] at hty
  by_cases h : x = 0
  · have e1 : mv E (1, x) = .null := if_pos h
    rw [List.map_cons, e1]
    exact lv_ifnullN C.1 C.2.1 d ht (k1 h H locs cells slots ls (I.stk hty.2))
  · have e1 : mv E (1, x) = .ref (n0 E + x.toNat) := if_neg h
    rw [List.map_cons, e1]
    exact lv_ifnull C.1 C.2.1 d (k2 h H locs cells slots ls (I.stk hty.2))
theorem g_ifnonnull {x off : Int} {tgt : Nat} (C : Cx E A p z m args c cc nL ow) (d : decode cc pc = .ok (.ifnonnull off, 3)) (ht : (pc : Int) + off = tgt) (k1 : ¬ x = 0 → Go E A l p e R z m args below meth c nL s0 Q tgt L st s) (k2 : x = 0 → Go E A l p e R z m args below meth c nL s0 Q (pc + 3) L st s) : Go E A l p e R z m args below meth c nL s0 Q pc L ((1, x) :: st) s := fun H locs cells slots ls I => by
  have hty := I.ty
  rw [List.forall_mem_cons] at hty
  by_cases h : x = 0
  · have e1 : mv E (1, x) = .null := if_pos h
    rw [List.map_cons, e1]
    exact lv_ifnonnullN C.1 C.2.1 d (k2 h H locs cells slots ls (I.stk hty.2))
  · have e1 : mv E (1, x) = .ref (n0 E + x.toNat) := if_neg h
    rw [List.map_cons, e1]
    exact lv_ifnonnull C.1 C.2.1 d ht (k1 h H locs cells slots ls (I.stk hty.2))
def rfO (E : Ev0) (x : Int) : Option Nat := if x = 0 then none else some (n0 E + x.toNat)
theorem rf_mv (E : Ev0) (x : Int) : va_rf (rfO E x) = mv E (1, x) := by
  show _ = rvE E x
  unfold rfO rvE va_rf
  by_cases h : x = 0 <;> simp [h]
theorem g_acmpeq {x y off : Int} {tgt : Nat} (C : Cx E A p z m args c cc nL ow) (d : decode cc pc = .ok (.if_acmp .eq off, 3)) (ht : (pc : Int) + off = tgt) (k1 : x = y → Go E A l p e R z m args below meth c nL s0 Q tgt L st s) (k2 : ¬ x = y → Go E A l p e R z m args below meth c nL s0 Q (pc + 3) L st s) : Go E A l p e R z m args below meth c nL s0 Q pc L ((1, y) :: (1, x) :: st) s := fun H locs cells slots ls I => by
  have hty := I.ty
  rw [List.forall_mem_cons, List.forall_mem_cons] at hty
  have hpx : x = 0 ∨ 0 < x := hty.2.1.elim Or.inl (fun h => Or.inr (I.1.1 x h).1)
  have hpy : y = 0 ∨ 0 < y := hty.1.elim Or.inl (fun h => Or.inr (I.1.1 y h).1)
  have hxy : rfO E x = rfO E y → x = y := by
    intro h
    unfold rfO at h
    rcases hpx with h1 | h1 <;> rcases hpy with h2 | h2
    · omega
    · rw [if_pos h1, if_neg (by omega)] at h; cases h
    · rw [if_pos h2, if_neg (by omega)] at h; cases h
    · rw [if_neg (by omega), if_neg (by omega)] at h
      have := Option.some.inj h
      omega
  rw [List.map_cons, List.map_cons, ← rf_mv, ← rf_mv]
  exact lv_acmp_eq C.1 C.2.1 d ht (fun q => k1 (hxy q) H locs cells slots ls (I.stk hty.2.2)) (fun q => k2 (fun r => q (by rw [r])) H locs cells slots ls (I.stk hty.2.2))
theorem g_goto {off : Int} {tgt : Nat} (C : Cx E A p z m args c cc nL ow) (d : decode cc pc = .ok (.goto off, 3)) (ht : (pc : Int) + off = tgt) (k1 : Go E A l p e R z m args below meth c nL s0 Q tgt L st s) : Go E A l p e R z m args below meth c nL s0 Q pc L st s := fun H locs cells slots ls I =>
  lv_goto C.1 C.2.1 d ht (k1 H locs cells slots ls I)
theorem g_getfield {x : Int} {ci k idx : Nat} (C : Cx E A p z m args c cc nL ow) (d : decode cc pc = .ok (.getfield idx, 3)) (hci : ci < 13) (hkN : k < cN ci) (hlk : Cond.fieldLink (cn ow) idx (cT ci k).1 (cT ci k).2.1 (cT ci k).2.2.1 ∈ lw_good) (hk : kd s x = ci + 4)
    (h : Go E A l p e R z m args below meth c nL s0 Q (pc + 3) L ((tgo (fty ci k), gF s x k) :: st) s) : Go E A l p e R z m args below meth c nL s0 Q pc L ((1, x) :: st) s := fun H locs cells slots ls I => by
  obtain ⟨hx, hb, hml, hown, hts, hK, -⟩ := C
  have hty := I.ty
  rw [List.forall_mem_cons] at hty
  obtain ⟨hO, hT⟩ := I.1.obj hk hci
  obtain ⟨cell, q1, q2, q3, q4⟩ := hO
  have hpos := I.1.pos (p := x) (by omega)
  obtain ⟨hS, hfc, kC, hkC, hkind⟩ := hK.1 ci _ (vw_get hci)
  obtain ⟨cf, kf, fi, f, hi, hsl⟩ := hS k hkN
  have e1 : mv E (1, x) = .ref (n0 E + x.toNat) := hpos.2.2
  rw [List.map_cons, e1]
  refine W.getf hx hb hown (hts _ hlk) hi (u_facts hfc hkC (u_lays hts (lay_in hci) hkN) hi).1 q1 (by rw [q3]; exact fun h => by cases h) (v := mv E (tgo (fty ci k), gF s x k)) ?_ rfl rfl d (h H locs cells slots ls (I.stk (List.forall_mem_cons.mpr ⟨tv_tvV (hT k hkN), hty.2⟩)))
  rw [hsl, q4 k hkN]
  exact congrArg some (mt_mv E _ _)
theorem Inv.put {E : Ev0} {A : Nat → Prop} {z : State} {s0 : St} {nL : Nat} {s s' : St} {L : Lc} {st st' : List V} {H H1 : Heap} {locs : List Loc} {cells slots : Nat} {ls : Array Slot} {x : Int} {k : Nat} (I : Inv E A z s0 nL s L st H locs cells slots ls) (hh : hp E s' H1) (hkd : ∀ q, kd s' q = kd s q) (hn : nx s' = nx s) (hl : sl s' = sl s) (hx : kd s x ≠ 0) (hz : H1.size = H.size) (ho : ∀ q : Nat, q ≠ n0 E + x.toNat → H1[q]? = H[q]?) (ht : ∀ v ∈ st', tvV s v) : Inv E A z s0 nL s' L st' H1 (locs ++ [⟨n0 E + x.toNat, k⟩]) cells slots ls := by
  have he : ext s s' := fun q _ => hkd q
  refine ⟨hh, I.2.1.put hz ho (I.2.2.1 x hx), fun q hq => I.2.2.1 q (by rw [← hkd q]; exact hq), I.2.2.2.1, fun q hq => (I.2.2.2.2.1 q hq).ex he, fun v hv => (ht v hv).ex he, I.2.2.2.2.2.2.1.tr he, ?_, ?_⟩
  · rw [hn]; exact I.2.2.2.2.2.2.2.1
  · rw [hl]; exact I.2.2.2.2.2.2.2.2
theorem slots_ne {z : State} {args : Array Value} {ci : Nat} (hci : ci < 13) (hts : ∀ w ∈ lw_good, w.before args z = true) (hK : va_K E.1 vwCl (tyL E) z) : ∀ x y, x < cN ci → y < cN ci → x ≠ y → (E.1.2 ci) x ≠ (E.1.2 ci) y := by
  intro x y hx hy hne
  obtain ⟨hS, -⟩ := hK.1 ci _ (vw_get hci)
  obtain ⟨_, _, _, fa, hia, ea⟩ := hS x hx
  obtain ⟨_, _, _, fb, hib, eb⟩ := hS y hy
  obtain ⟨tx, htx, -⟩ := fty_get hci hx
  obtain ⟨ty, hty, -⟩ := fty_get hci hy
  rw [← ea, ← eb]
  refine u_apart (u_lays hts (lay_in hci) hx) (u_lays hts (lay_in hci) hy) hia hib ?_
  rw [(State.fieldFound?_type hia htx).1, (State.fieldFound?_type hib hty).1]
  exact nm_ne hci x hx y hy hne
theorem g_putfield {x : Int} {w : V} {v : Int} {ci k idx : Nat} (C : Cx E A p z m args c cc nL ow) (d : decode cc pc = .ok (.putfield idx, 3)) (hci : ci < 13) (hkN : k < cN ci) (hlk : Cond.fieldLink (cn ow) idx (cT ci k).1 (cT ci k).2.1 (cT ci k).2.2.1 ∈ lw_good) (hfin : (cT ci k).2.2.2 = false ∨ (meth.name = "<init>" ∧ (cT ci k).1 = cn ow)) (hk : kd s x = ci + 4) (hv : tv s (fty ci k) v) (hw : w = (tgo (fty ci k), v))
    (h : Go E A l p e R z m args below meth c nL s0 Q (pc + 3) L st (sF s x k v)) : Go E A l p e R z m args below meth c nL s0 Q pc L (w :: (1, x) :: st) s := fun H locs cells slots ls I => by
  subst hw
  obtain ⟨hx, hb, hml, hown, hts, hK, -⟩ := C
  have hty := I.ty
  rw [List.forall_mem_cons, List.forall_mem_cons] at hty
  obtain ⟨hO, hT⟩ := I.1.obj hk hci
  obtain ⟨cell, q1, q2, q3, q4⟩ := hO
  have hkne : kd s x ≠ 0 := by omega
  have hpos := I.1.pos (p := x) hkne
  obtain ⟨hS, hfc, kC, hkC, hkind⟩ := hK.1 ci _ (vw_get hci)
  obtain ⟨cf, kf, fi, f, hi, hsl⟩ := hS k hkN
  have hap := slots_ne hci hts hK
  obtain ⟨ty, hpt, hft⟩ := fty_get hci hkN
  have e1 : mv E (1, x) = .ref (n0 E + x.toNat) := hpos.2.2
  have hnf := mt_nar E hft hv
  rw [mt_mv] at hnf
  rw [List.map_cons, List.map_cons, e1]
  have hlay := hts _ (lay_in hci _ (u_in_lay hkN))
  unfold u_lay at hlay
  have hst := (u_facts hfc hkC (u_lays hts (lay_in hci) hkN) hi).1
  have fin : ∀ H' : Heap, H'[n0 E + x.toNat]? = some (cell.setSlot f.slot (mv E (tgo (fty ci k), v))) → H'.size = H.size → (∀ q, q ≠ n0 E + x.toNat → H'[q]? = H[q]?) → W p l e R z m args below meth c H' (locs ++ [⟨n0 E + x.toNat, f.slot⟩]) cells slots Q (F0 m (pc + 3) ls (st.map (mv E))) := by
    intro H' e1 e2 e3
    refine h H' _ cells slots ls (I.put (I.1.put hk hci hv ?_ e2 e3) (fun _ => rfl) rfl rfl hkne e2 e3 hty.2.2)
    rw [hsl] at e1
    refine ⟨_, e1, q2, q3, ?_⟩
    rw [mt_mv E (fty ci k) v]
    exact t_set q4 hap hkN _
  by_cases hf : (cT ci k).2.2.2 = true
  · rw [if_pos hf] at hlay
    obtain ⟨hin2, hdecl⟩ := hfin.resolve_left (by rw [hf]; decide)
    have hcf : m.cls = cf := by
      obtain ⟨_, _, c', _, _, _, -, -, hf', -, -, -, hown2, -⟩ := Cond.laysFinal_spec hlay
      have e1 : c' = cf := by have := hi.symm.trans hf'; simp at this; exact this.1.symm
      rw [hdecl] at hown2
      rw [← e1]; exact Option.some.inj (hown.symm.trans hown2)
    have h6 := u_fits hfc hkC hkind (Or.inr hlay) hi hpt hnf.1 hnf.2
    exact W.putFinK hx hb hown (hts _ hlk) hi hst hcf hin2 (by rw [q2]; exact h6) q1 q3 (by rw [hsl]; exact k2_hasslot (q4 k hkN)) rfl rfl d fin
  · rw [if_neg hf] at hlay
    have h6 := u_store hfc hkC hkind hlay hi hpt hnf.1 hnf.2
    exact W.putK hx hb (f := f) ⟨hown, hts _ hlk, ⟨_, _, _, hi⟩, hst⟩ (by rw [q2]; exact h6) q1 q3 (by rw [hsl]; exact k2_hasslot (q4 k hkN)) rfl rfl d fin
end GOB
