/-! ===== returns, calls ===== -/
theorem XW.moved {E : Ev0} {z t : State} (h : XW E z) (hW : z.WarmedH t.vm) (hh : ∀ a : Nat, a < z.heap.size → ¬ n0 E < a → t.heap[a]? = z.heap[a]?) : XW E t := by
  obtain ⟨h1, ⟨h2, h3, h4⟩, h5, h6, h7, h8, h9⟩ := h
  exact ⟨fun q hq => va_Nw.warmM hW (h1 q hq), ⟨h2.moved hW.alike, h3.moved hW.alike, h4.moved hW.alike⟩, (h5.moved hW.alike).kept hh, h6.warm hW, h7.warm hW, (h8.moved hW.alike).kept hh, (h9.moved hW.alike).kept hh⟩
def Qx (E : Ev0) (A : Nat → Prop) (r : List V) (s' s0 : St) : Array Value → State → Outcome → State → Prop := fun _ st oc t => oc = .returned (r.map (mv E)).head? ∧ Bd E s' t ∧ va_F A st t ∧ (∀ v ∈ r, tvV s' v) ∧ ext s0 s' ∧ ∀ p, kd s' p ≠ 0 → A (n0 E + p.toNat)
section GOC
variable {E : Ev0} {A : Nat → Prop} {l : Launch} {p : Program} {e : Env} {R : Room} {z : State} {m : MethodId} {args : Array Value} {below : List Frame} {meth : Method} {c : Code} {cc : ByteArray} {nL ow : Nat} {s0 : St} {Q : State → Prop} {pc : Nat} {L : Lc} {st : List V} {s : St}
theorem Inv.end {E : Ev0} {A : Nat → Prop} {p : Program} {z : State} {m : MethodId} {args : Array Value} {c : Code} {cc : ByteArray} {s0 : St} {nL ow : Nat} {s : St} {L : Lc} {st : List V} {H : Heap} {locs : List Loc} {cells slots : Nat} {ls : Array Slot} (C : Cx E A p z m args c cc nL ow) (I : Inv E A z s0 nL s L st H locs cells slots ls) :
    ∀ t : State, t.heap = H → z.WarmedH t.vm → Qx E A st s s0 args z (.returned (st.map (mv E)).head?) t := by
  intro t hh hW
  refine ⟨rfl, ⟨by rw [hh]; exact I.1, va_K.moved hW.alike C.2.2.2.2.2.1, C.2.2.2.2.2.2.1.moved hW (fun a h1 h2 => ?_), by rw [hh]; exact Nat.lt_of_lt_of_le C.2.2.2.2.2.2.2.2.2 I.2.1.1⟩, I.2.1.F hh, I.ty, I.2.2.2.2.2.2.1, I.2.2.1⟩
  rw [hh]
  exact I.2.1.2.1 a h1 (fun q => h2 (C.2.2.2.2.2.2.2.2.1 a q))
theorem g_ireturn {x : Int} {mc ms : Nat} (C : Cx E A p z m args c cc nL ow) (d : decode cc pc = .ok (.ireturn, 1)) (hlk : meth.locks = false) (hr : (meth.sig.returnType = some .int) ∨ (meth.sig.returnType = some .boolean ∧ (x = 0 ∨ x = 1))) (hc : (mc : Int) = nx s - nx s0) (hs : (ms : Int) = sl s - sl s0) :
    Go E A l p e R z m args below meth c nL s0 (MQ below (Qx E A [(0, x)] s s0) args z mc ms A) pc L [(0, x)] s := fun H locs cells slots ls I => by
  have e1 : cells = mc := by have := I.2.2.2.2.2.2.2.1; omega
  have e2 : slots = ms := by have := I.2.2.2.2.2.2.2.2; omega
  subst e1; subst e2
  rcases hr with hr | ⟨hr, hb⟩
  · exact W.iret C.1 C.2.1 hr (I.end C) (fun q hq => I.2.1.2.2 q hq) d hlk
  · exact W.zret C.1 C.2.1 hr (congrArg Value.int (bool_and hb)) (I.end C) (fun q hq => I.2.1.2.2 q hq) d hlk
theorem g_lreturn {x : Int} {mc ms : Nat} (C : Cx E A p z m args c cc nL ow) (d : decode cc pc = .ok (.lreturn, 1)) (hlk : meth.locks = false) (hr : meth.sig.returnType = some .long) (hc : (mc : Int) = nx s - nx s0) (hs : (ms : Int) = sl s - sl s0) :
    Go E A l p e R z m args below meth c nL s0 (MQ below (Qx E A [(2, x)] s s0) args z mc ms A) pc L [(2, x)] s := fun H locs cells slots ls I => by
  have e1 : cells = mc := by have := I.2.2.2.2.2.2.2.1; omega
  have e2 : slots = ms := by have := I.2.2.2.2.2.2.2.2; omega
  subst e1; subst e2
  exact W.lret C.1 C.2.1 hr (I.end C) (fun q hq => I.2.1.2.2 q hq) d hlk
theorem g_areturn {x : Int} {mc ms : Nat} {rt : FieldType} (C : Cx E A p z m args c cc nL ow) (d : decode cc pc = .ok (.areturn, 1)) (hlk : meth.locks = false) (hr : meth.sig.returnType = some rt) (hrt : (∃ n, rt = .object n) ∨ ∃ t, rt = .array t) (hc : (mc : Int) = nx s - nx s0) (hs : (ms : Int) = sl s - sl s0) :
    Go E A l p e R z m args below meth c nL s0 (MQ below (Qx E A [(1, x)] s s0) args z mc ms A) pc L [(1, x)] s := fun H locs cells slots ls I => by
  have e1 : cells = mc := by have := I.2.2.2.2.2.2.2.1; omega
  have e2 : slots = ms := by have := I.2.2.2.2.2.2.2.2; omega
  subst e1; subst e2
  exact W.aret C.1 C.2.1 hr hrt (mv1 E x) (I.end C) (fun q hq => I.2.1.2.2 q hq) d hlk
theorem g_return {mc ms : Nat} (C : Cx E A p z m args c cc nL ow) (d : decode cc pc = .ok (.return_, 1)) (hlk : meth.locks = false) (hr : meth.sig.returnType = none) (hc : (mc : Int) = nx s - nx s0) (hs : (ms : Int) = sl s - sl s0) :
    Go E A l p e R z m args below meth c nL s0 (MQ below (Qx E A [] s s0) args z mc ms A) pc L [] s := fun H locs cells slots ls I => by
  have e1 : cells = mc := by have := I.2.2.2.2.2.2.2.1; omega
  have e2 : slots = ms := by have := I.2.2.2.2.2.2.2.2; omega
  subst e1; subst e2
  exact W.vret C.1 C.2.1 hr (I.end C) (fun q hq => I.2.1.2.2 q hq) d hlk
theorem wt_sum (E : Ev0) : ∀ st : List V, ((st.map (mv E)).map fun v => v.category).sum = wt st
  | [] => rfl
  | v :: st => by
    rw [List.map_cons, List.map_cons, List.sum_cons, wt_sum E st, mv_cat]
    show _ = (bif Nat.beq v.1 2 then 2 else 1) + wt st
    by_cases h : v.1 = 2
    · rw [if_pos h, h]; rfl
    · rw [if_neg h]
      cases hb : Nat.beq v.1 2 with
      | true => exact absurd (Nat.eq_of_beq_eq_true hb) h
      | false => rfl
/-- which cells a method may change: those of its store, and new ones -/
def oA (E : Ev0) (s : St) : Nat → Prop := fun q => (∃ p, kd s p ≠ 0 ∧ q = n0 E + p.toNat) ∨ n0 E + (nx s).toNat ≤ q
theorem oA_sub {E : Ev0} {A : Nat → Prop} {z : State} {s0 : St} {nL : Nat} {s : St} {L : Lc} {st : List V} {H : Heap} {locs : List Loc} {cells slots : Nat} {ls : Array Slot} (I : Inv E A z s0 nL s L st H locs cells slots ls) (h0 : n0 E < z.heap.size) (hA : ∀ q, z.heap.size ≤ q → A q) : ∀ q, oA E s q → A q := by
  intro q hq
  have hS := I.2.1
  have hz := I.1.2.1
  rcases hq with ⟨p, h1, rfl⟩ | h1
  · exact I.2.2.1 p h1
  · refine hA q ?_
    have := hS.1
    omega
/-- behind a call -/
theorem Inv.back {E : Ev0} {A : Nat → Prop} {z : State} {s0 : St} {nL : Nat} {s s' : St} {L : Lc} {st st' r : List V} {H H1 : Heap} {locs locs1 : List Loc} {cells slots mc ms : Nat} {ls : Array Slot} (I : Inv E A z s0 nL s L st H locs cells slots ls) (hA : ∀ q, z.heap.size ≤ q → A q) (hh : hp E s' H1) (hx : ext s s') (hS : va_S A z.heap H1 locs1) (hk : ∀ q : Nat, q < H.size → ¬ oA E s q → H1[q]? = H[q]?) (hO : ∀ p, kd s' p ≠ 0 → A (n0 E + p.toNat)) (hc : (mc : Int) = nx s' - nx s) (hs : (ms : Int) = sl s' - sl s) (hr : ∀ v ∈ r, tvV s' v) (ht : ∀ v ∈ st', tvV s v) :
    Inv E A z s0 nL s' L (r ++ st') H1 locs1 (cells + mc) (slots + ms) ls := by
  refine ⟨hh, hS, hO, I.2.2.2.1, fun q hq => (I.2.2.2.2.1 q hq).ex hx, fun v hv => ?_, I.2.2.2.2.2.2.1.tr hx, ?_, ?_⟩
  · rcases List.mem_append.mp hv with h | h
    · exact hr v h
    · exact (ht v h).ex hx
  · have := I.2.2.2.2.2.2.2.1
    omega
  · have := I.2.2.2.2.2.2.2.2
    omega
end GOC
