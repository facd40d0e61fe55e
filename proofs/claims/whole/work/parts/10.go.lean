/-! ===== the machine at a point of a method whose frame holds L and st and whose heap holds s ===== -/
def SK (E : Ev0) (U : State) : Prop := vk_S 2 (strL.map List.length) (strL.map fun q => q.map Int32.ofInt) E.2.2.2.1 E.2.2.2.2 (fun q => n0 E < q) U U.heap ∧
  vk_R "NeckKnots$Reader" 85 "takes grips bars if or and not place side at before thick mood" (E.2.2.2.1 0) U ∧ vk_R "NeckKnots$Reader" 91 "lay on through draw mirror times knots done latest many end cloth" (E.2.2.2.1 1) U ∧ va_Z "java/lang/String" "COMPACT_STRINGS" "Z" (.int 1) (fun q => n0 E < q) U U.heap ∧ va_Zq "jdk/internal/util/Preconditions" "SIOOBE_FORMATTER" "Ljava/util/function/BiFunction;" (fun q => n0 E < q) U U.heap
def XW (E : Ev0) (U : State) : Prop := (∀ q ∈ poolN, va_Nw (.methodLinkNest (cn q.1) q.2.1 (mY q.2.2.1) "NeckKnots") U) ∧ (va_AO (cn 3) U ∧ va_AO (cn 0) U ∧ va_AO (cn 7) U) ∧ SK E U
def Bd (E : Ev0) (s : St) (U : State) : Prop := hp E s U.heap ∧ va_K E.1 vwCl (tyL E) U ∧ XW E U ∧ n0 E < U.heap.size
def lm (E : Ev0) (q : Nat × V) : Nat × Value := (q.1, mv E q.2)
def Cx (E : Ev0) (A : Nat → Prop) (p : Program) (z : State) (m : MethodId) (args : Array Value) (c : Code) (cc : ByteArray) (nL ow : Nat) : Prop :=
  p.tables.exec = Jvm.exec ∧ c.code = cc ∧ c.maxLocals = nL ∧ z.vm.findClass (cn ow) = some m.cls ∧ (∀ w ∈ lw_good, w.before args z = true) ∧ va_K E.1 vwCl (tyL E) z ∧ XW E z ∧ (∀ q, z.heap.size ≤ q → A q) ∧ (∀ q, A q → n0 E < q) ∧ n0 E < z.heap.size
def Inv (E : Ev0) (A : Nat → Prop) (z : State) (s0 : St) (nL : Nat) (s : St) (L : Lc) (st : List V) (H : Heap) (locs : List Loc) (cells slots : Nat) (ls : Array Slot) : Prop :=
  hp E s H ∧ va_S A z.heap H locs ∧ (∀ p, kd s p ≠ 0 → A (n0 E + p.toNat)) ∧ lv_has ls nL (L.map (lm E)) ∧ (∀ q ∈ L, tvV s q.2) ∧ (∀ v ∈ st, tvV s v) ∧ ext s0 s ∧ (cells : Int) = nx s - nx s0 ∧ (slots : Int) = sl s - sl s0
def Go (E : Ev0) (A : Nat → Prop) (l : Launch) (p : Program) (e : Env) (R : Room) (z : State) (m : MethodId) (args : Array Value) (below : List Frame) (meth : Method) (c : Code) (nL : Nat) (s0 : St) (Q : State → Prop) (pc : Nat) (L : Lc) (st : List V) (s : St) : Prop :=
  ∀ (H : Heap) (locs : List Loc) (cells slots : Nat) (ls : Array Slot), Inv E A z s0 nL s L st H locs cells slots ls → W p l e R z m args below meth c H locs cells slots Q (F0 m pc ls (st.map (mv E)))
theorem Inv.stk {E : Ev0} {A : Nat → Prop} {z : State} {s0 : St} {nL : Nat} {s : St} {L : Lc} {st st' : List V} {H : Heap} {locs : List Loc} {cells slots : Nat} {ls : Array Slot} (I : Inv E A z s0 nL s L st H locs cells slots ls) (h : ∀ v ∈ st', tvV s v) : Inv E A z s0 nL s L st' H locs cells slots ls :=
  ⟨I.1, I.2.1, I.2.2.1, I.2.2.2.1, I.2.2.2.2.1, h, I.2.2.2.2.2.2⟩
theorem Inv.ty {E : Ev0} {A : Nat → Prop} {z : State} {s0 : St} {nL : Nat} {s : St} {L : Lc} {st : List V} {H : Heap} {locs : List Loc} {cells slots : Nat} {ls : Array Slot} (I : Inv E A z s0 nL s L st H locs cells slots ls) : ∀ v ∈ st, tvV s v := I.2.2.2.2.2.1
theorem Inv.loc {E : Ev0} {A : Nat → Prop} {z : State} {s0 : St} {nL : Nat} {s : St} {L L' : Lc} {st st' : List V} {H : Heap} {locs : List Loc} {cells slots : Nat} {ls ls' : Array Slot} (I : Inv E A z s0 nL s L st H locs cells slots ls) (hl : lv_has ls' nL (L'.map (lm E))) (hL : ∀ q ∈ L', tvV s q.2) (h : ∀ v ∈ st', tvV s v) : Inv E A z s0 nL s L' st' H locs cells slots ls' :=
  ⟨I.1, I.2.1, I.2.2.1, hl, hL, h, I.2.2.2.2.2.2⟩
theorem lk_mem : ∀ {L : Lc} {i : Nat} {v : V}, lk L i = some v → (i, v) ∈ L
  | [], i, v, h => by cases h
  | (j, w) :: L, i, v, h => by
    unfold lk at h
    cases hb : Nat.beq j i with
    | true =>
      rw [hb] at h
      have e : j = i := Nat.eq_of_beq_eq_true hb
      have e2 : w = v := Option.some.inj h
      subst e; subst e2
      exact List.mem_cons_self
    | false =>
      rw [hb] at h
      exact List.mem_cons_of_mem _ (lk_mem h)
theorem Inv.get {E : Ev0} {A : Nat → Prop} {z : State} {s0 : St} {nL : Nat} {s : St} {L : Lc} {st : List V} {H : Heap} {locs : List Loc} {cells slots : Nat} {ls : Array Slot} (I : Inv E A z s0 nL s L st H locs cells slots ls) {i : Nat} {v : V} (h : lk L i = some v) : ls[i]? = some (.val (mv E v)) ∧ tvV s v := by
  have hm := lk_mem h
  exact ⟨I.2.2.2.1.2.2 (i, mv E v) (List.mem_map.mpr ⟨(i, v), hm, rfl⟩), I.2.2.2.2.1 (i, v) hm⟩
theorem mv_cat (E : Ev0) (v : V) : (mv E v).category = if v.1 = 2 then 2 else 1 := by
  match v with
  | (0, x) => rfl
  | (1, x) =>
    show (rvE E x).category = 1
    unfold rvE
    split <;> rfl
  | (2, x) => rfl
  | (_ + 3, x) => rfl
theorem filt1 (E : Ev0) (L : Lc) (i : Nat) : (L.map (lm E)).filter (fun q => !(q.1 == i) && !(q.1 + 1 == i && q.2.category == 2)) = (L.filter (fun q => !(q.1 == i) && !(q.1 + 1 == i && q.2.1 == 2))).map (lm E) := by
  rw [List.filter_map]
  congr 1
  apply List.filter_congr
  intro q _
  have hc : ((mv E q.2).category == 2) = (q.2.1 == 2) := by
    rw [mv_cat]
    by_cases h : q.2.1 = 2
    · simp [h]
    · simp [h]
  simp only [Function.comp, lm, hc]
theorem filt2 (E : Ev0) (L : Lc) (i : Nat) : (L.map (lm E)).filter (fun q => !(q.1 == i) && (!(q.1 == i + 1) && !(q.1 + 1 == i && q.2.category == 2))) = (L.filter (fun q => !(q.1 == i) && (!(q.1 == i + 1) && !(q.1 + 1 == i && q.2.1 == 2)))).map (lm E) := by
  rw [List.filter_map]
  congr 1
  apply List.filter_congr
  intro q _
  have hc : ((mv E q.2).category == 2) = (q.2.1 == 2) := by
    rw [mv_cat]
    by_cases h : q.2.1 = 2
    · simp [h]
    · simp [h]
  simp only [Function.comp, lm, hc]
theorem put1_ty {s : St} {L : Lc} {i : Nat} {v : V} (hL : ∀ q ∈ L, tvV s q.2) (hv : tvV s v) : ∀ q ∈ put1 L i v, tvV s q.2 := by
  intro q hq
  rcases List.mem_cons.mp hq with rfl | hq
  · exact hv
  · exact hL q (List.mem_filter.mp hq).1
theorem put2_ty {s : St} {L : Lc} {i : Nat} {v : V} (hL : ∀ q ∈ L, tvV s q.2) (hv : tvV s v) : ∀ q ∈ put2 L i v, tvV s q.2 := by
  intro q hq
  rcases List.mem_cons.mp hq with rfl | hq
  · exact hv
  · exact hL q (List.mem_filter.mp hq).1
theorem pick_sub {L : Lc} : ∀ {is : List Nat} {q : Nat × V}, q ∈ pick L is → q ∈ L
  | [], q, h => by cases h
  | i :: is, q, h => by
    unfold pick at h
    split at h
    · rename_i v hv
      rcases List.mem_cons.mp h with rfl | h
      · exact lk_mem hv
      · exact pick_sub h
    · exact pick_sub h
section GO
variable {E : Ev0} {A : Nat → Prop} {l : Launch} {p : Program} {e : Env} {R : Room} {z : State} {m : MethodId} {args : Array Value} {below : List Frame} {meth : Method} {c : Code} {cc : ByteArray} {nL ow : Nat} {s0 : St} {Q : State → Prop} {pc : Nat} {L : Lc} {st : List V} {s : St}
theorem Go.pick {is : List Nat} (h : Go E A l p e R z m args below meth c nL s0 Q pc (pick L is) st s) : Go E A l p e R z m args below meth c nL s0 Q pc L st s := by
  intro H locs cells slots ls I
  refine h H locs cells slots ls (I.loc ⟨I.2.2.2.1.1, I.2.2.2.1.2.1, fun q hq => ?_⟩ (fun q hq => I.2.2.2.2.1 q (pick_sub hq)) I.ty)
  obtain ⟨q', hq', rfl⟩ := List.mem_map.mp hq
  exact I.2.2.2.1.2.2 _ (List.mem_map.mpr ⟨q', pick_sub hq', rfl⟩)
/-- a value is pushed -/
theorem g_push {k : Nat} {v : V} (hv : tvV s v) (hw : ∀ {H : Heap} {locs : List Loc} {cells slots : Nat} {ls : Array Slot}, W p l e R z m args below meth c H locs cells slots Q (F0 m (pc + k) ls (mv E v :: st.map (mv E))) → W p l e R z m args below meth c H locs cells slots Q (F0 m pc ls (st.map (mv E))))
    (h : Go E A l p e R z m args below meth c nL s0 Q (pc + k) L (v :: st) s) : Go E A l p e R z m args below meth c nL s0 Q pc L st s := fun H locs cells slots ls I =>
  hw (h H locs cells slots ls (I.stk (List.forall_mem_cons.mpr ⟨hv, I.ty⟩)))
theorem g_iconst {n : Int} (C : Cx E A p z m args c cc nL ow) (d : decode cc pc = .ok (.iconst n, 1)) (hn : rg n) (h : Go E A l p e R z m args below meth c nL s0 Q (pc + 1) L ((0, n) :: st) s) : Go E A l p e R z m args below meth c nL s0 Q pc L st s :=
  g_push (v := (0, n)) hn (fun k => lv_iconst C.1 C.2.1 d rfl k) h
theorem g_bipush {n : Int} (C : Cx E A p z m args c cc nL ow) (d : decode cc pc = .ok (.bipush n, 2)) (hn : rg n) (h8 : (Int8.ofInt n).toInt32 = Int32.ofInt n) (h : Go E A l p e R z m args below meth c nL s0 Q (pc + 2) L ((0, n) :: st) s) : Go E A l p e R z m args below meth c nL s0 Q pc L st s :=
  g_push (v := (0, n)) hn (fun k => lv_bipush C.1 C.2.1 d h8 k) h
theorem g_sipush {n : Int} (C : Cx E A p z m args c cc nL ow) (d : decode cc pc = .ok (.sipush n, 3)) (hn : rg n) (h8 : (Int16.ofInt n).toInt32 = Int32.ofInt n) (h : Go E A l p e R z m args below meth c nL s0 Q (pc + 3) L ((0, n) :: st) s) : Go E A l p e R z m args below meth c nL s0 Q pc L st s :=
  g_push (v := (0, n)) hn (fun k => lv_sipush C.1 C.2.1 d h8 k) h
theorem g_lconst {n : Fin 2} {a : Int} (C : Cx E A p z m args c cc nL ow) (d : decode cc pc = .ok (.lconst n, 1)) (hn : rl a) (h8 : Int64.ofNat (n : Nat) = Int64.ofInt a) (h : Go E A l p e R z m args below meth c nL s0 Q (pc + 1) L ((2, a) :: st) s) : Go E A l p e R z m args below meth c nL s0 Q pc L st s :=
  g_push (v := (2, a)) hn (fun k => lv_lconst C.1 C.2.1 d h8 k) h
theorem g_iload_n {k : Fin 4} {i : Nat} {x : Int} (C : Cx E A p z m args c cc nL ow) (d : decode cc pc = .ok (.iload_n k, 1)) (hi : (k : Nat) = i) (hx : lk L i = some (0, x)) (h : Go E A l p e R z m args below meth c nL s0 Q (pc + 1) L ((0, x) :: st) s) : Go E A l p e R z m args below meth c nL s0 Q pc L st s := fun H locs cells slots ls I =>
  lv_iload_n C.1 C.2.1 d hi (I.get hx).1 (h H locs cells slots ls (I.stk (List.forall_mem_cons.mpr ⟨(I.get hx).2, I.ty⟩)))
theorem g_iload {i : Nat} {x : Int} (C : Cx E A p z m args c cc nL ow) (d : decode cc pc = .ok (.iload i, 2)) (hx : lk L i = some (0, x)) (h : Go E A l p e R z m args below meth c nL s0 Q (pc + 2) L ((0, x) :: st) s) : Go E A l p e R z m args below meth c nL s0 Q pc L st s := fun H locs cells slots ls I =>
  lv_iload C.1 C.2.1 d (I.get hx).1 (h H locs cells slots ls (I.stk (List.forall_mem_cons.mpr ⟨(I.get hx).2, I.ty⟩)))
theorem g_lload_n {k : Fin 4} {i : Nat} {x : Int} (C : Cx E A p z m args c cc nL ow) (d : decode cc pc = .ok (.lload_n k, 1)) (hi : (k : Nat) = i) (hx : lk L i = some (2, x)) (h : Go E A l p e R z m args below meth c nL s0 Q (pc + 1) L ((2, x) :: st) s) : Go E A l p e R z m args below meth c nL s0 Q pc L st s := fun H locs cells slots ls I =>
  lv_lload_n C.1 C.2.1 d hi (I.get hx).1 (h H locs cells slots ls (I.stk (List.forall_mem_cons.mpr ⟨(I.get hx).2, I.ty⟩)))
theorem g_lload {i : Nat} {x : Int} (C : Cx E A p z m args c cc nL ow) (d : decode cc pc = .ok (.lload i, 2)) (hx : lk L i = some (2, x)) (h : Go E A l p e R z m args below meth c nL s0 Q (pc + 2) L ((2, x) :: st) s) : Go E A l p e R z m args below meth c nL s0 Q pc L st s := fun H locs cells slots ls I =>
  lv_lload C.1 C.2.1 d (I.get hx).1 (h H locs cells slots ls (I.stk (List.forall_mem_cons.mpr ⟨(I.get hx).2, I.ty⟩)))
theorem mv1 (E : Ev0) (x : Int) : mv E (1, x) = .null ∨ ∃ a, mv E (1, x) = .ref a := by
  show rvE E x = .null ∨ ∃ a, rvE E x = .ref a
  unfold rvE
  split
  · exact Or.inl rfl
  · exact Or.inr ⟨_, rfl⟩
/-- a reference or a text -/
def isQ (v : V) : Prop := v.1 = 1 ∨ v.1 = 3
theorem mvQ (E : Ev0) {v : V} (h : isQ v) : mv E v = .null ∨ ∃ a, mv E v = .ref a := by
  obtain ⟨t, x⟩ := v
  rcases h with rfl | rfl
  · exact mv1 E x
  · exact Or.inr ⟨_, rfl⟩
theorem g_aload_n {k : Fin 4} {i : Nat} {v : V} (C : Cx E A p z m args c cc nL ow) (d : decode cc pc = .ok (.aload_n k, 1)) (hi : (k : Nat) = i) (hq : isQ v) (hx : lk L i = some v) (h : Go E A l p e R z m args below meth c nL s0 Q (pc + 1) L (v :: st) s) : Go E A l p e R z m args below meth c nL s0 Q pc L st s := fun H locs cells slots ls I => by
  have hg := I.get hx
  have h1 := h H locs cells slots ls (I.stk (List.forall_mem_cons.mpr ⟨hg.2, I.ty⟩))
  rw [List.map_cons] at h1
  rcases mvQ E hq with e1 | ⟨a, e1⟩
  · rw [e1] at hg h1
    exact lv_aload_nN C.1 C.2.1 d hi hg.1 h1
  · rw [e1] at hg h1
    exact lv_aload_n C.1 C.2.1 d hi hg.1 h1
theorem g_aload {i : Nat} {v : V} (C : Cx E A p z m args c cc nL ow) (d : decode cc pc = .ok (.aload i, 2)) (hq : isQ v) (hx : lk L i = some v) (h : Go E A l p e R z m args below meth c nL s0 Q (pc + 2) L (v :: st) s) : Go E A l p e R z m args below meth c nL s0 Q pc L st s := fun H locs cells slots ls I => by
  have hg := I.get hx
  have h1 := h H locs cells slots ls (I.stk (List.forall_mem_cons.mpr ⟨hg.2, I.ty⟩))
  rw [List.map_cons] at h1
  rcases mvQ E hq with e1 | ⟨a, e1⟩
  · rw [e1] at hg h1
    exact lv_aloadN C.1 C.2.1 d hg.1 h1
  · rw [e1] at hg h1
    exact lv_aload C.1 C.2.1 d hg.1 h1
theorem Inv.st1 {E : Ev0} {A : Nat → Prop} {z : State} {s0 : St} {nL : Nat} {s : St} {L : Lc} {v : V} {st : List V} {H : Heap} {locs : List Loc} {cells slots : Nat} {ls ls' : Array Slot} {i : Nat} (I : Inv E A z s0 nL s L (v :: st) H locs cells slots ls) (hl : lv_has ls' nL ((put1 L i v).map (lm E))) : Inv E A z s0 nL s (put1 L i v) st H locs cells slots ls' :=
  I.loc hl (put1_ty I.2.2.2.2.1 (I.ty v List.mem_cons_self)) (fun w hw => I.ty w (List.mem_cons_of_mem _ hw))
theorem put1_eq (E : Ev0) (L : Lc) (i : Nat) (v : V) : (i, mv E v) :: (L.map (lm E)).filter (fun q => !(q.1 == i) && !(q.1 + 1 == i && q.2.category == 2)) = (put1 L i v).map (lm E) := by
  rw [filt1]; rfl
theorem put2_eq (E : Ev0) (L : Lc) (i : Nat) (v : V) : (i, mv E v) :: (L.map (lm E)).filter (fun q => !(q.1 == i) && (!(q.1 == i + 1) && !(q.1 + 1 == i && q.2.category == 2))) = (put2 L i v).map (lm E) := by
  rw [filt2]; rfl
theorem g_istore_n {k : Fin 4} {i : Nat} {x : Int} (C : Cx E A p z m args c cc nL ow) (d : decode cc pc = .ok (.istore_n k, 1)) (hi : (k : Nat) = i) (hn : i < nL) (h : Go E A l p e R z m args below meth c nL s0 Q (pc + 1) (put1 L i (0, x)) st s) : Go E A l p e R z m args below meth c nL s0 Q pc L ((0, x) :: st) s := fun H locs cells slots ls I =>
  lv_istore_n C.1 C.2.1 d hi I.2.2.2.1 hn (put1_eq E L i (0, x)) (fun ls' hl => h H locs cells slots ls' (I.st1 hl))
theorem g_istore {i : Nat} {x : Int} (C : Cx E A p z m args c cc nL ow) (d : decode cc pc = .ok (.istore i, 2)) (hn : i < nL) (h : Go E A l p e R z m args below meth c nL s0 Q (pc + 2) (put1 L i (0, x)) st s) : Go E A l p e R z m args below meth c nL s0 Q pc L ((0, x) :: st) s := fun H locs cells slots ls I =>
  lv_istore C.1 C.2.1 d I.2.2.2.1 hn (put1_eq E L i (0, x)) (fun ls' hl => h H locs cells slots ls' (I.st1 hl))
theorem g_lstore_n {k : Fin 4} {i : Nat} {x : Int} (C : Cx E A p z m args c cc nL ow) (d : decode cc pc = .ok (.lstore_n k, 1)) (hi : (k : Nat) = i) (hn : i + 1 < nL) (h : Go E A l p e R z m args below meth c nL s0 Q (pc + 1) (put2 L i (2, x)) st s) : Go E A l p e R z m args below meth c nL s0 Q pc L ((2, x) :: st) s := fun H locs cells slots ls I =>
  lv_lstore_n C.1 C.2.1 d hi I.2.2.2.1 hn (put2_eq E L i (2, x)) (fun ls' hl => h H locs cells slots ls' (I.loc hl (put2_ty I.2.2.2.2.1 (I.ty _ List.mem_cons_self)) (fun w hw => I.ty w (List.mem_cons_of_mem _ hw))))
theorem g_lstore {i : Nat} {x : Int} (C : Cx E A p z m args c cc nL ow) (d : decode cc pc = .ok (.lstore i, 2)) (hn : i + 1 < nL) (h : Go E A l p e R z m args below meth c nL s0 Q (pc + 2) (put2 L i (2, x)) st s) : Go E A l p e R z m args below meth c nL s0 Q pc L ((2, x) :: st) s := fun H locs cells slots ls I =>
  lv_lstore C.1 C.2.1 d I.2.2.2.1 hn (put2_eq E L i (2, x)) (fun ls' hl => h H locs cells slots ls' (I.loc hl (put2_ty I.2.2.2.2.1 (I.ty _ List.mem_cons_self)) (fun w hw => I.ty w (List.mem_cons_of_mem _ hw))))
theorem g_astore_n {k : Fin 4} {i : Nat} {v : V} (C : Cx E A p z m args c cc nL ow) (d : decode cc pc = .ok (.astore_n k, 1)) (hi : (k : Nat) = i) (hn : i < nL) (hq : isQ v) (h : Go E A l p e R z m args below meth c nL s0 Q (pc + 1) (put1 L i v) st s) : Go E A l p e R z m args below meth c nL s0 Q pc L (v :: st) s := fun H locs cells slots ls I => by
  have hp := put1_eq E L i v
  rw [List.map_cons]
  rcases mvQ E hq with e1 | ⟨a, e1⟩
  · rw [e1] at hp ⊢
    exact lv_astore_nN C.1 C.2.1 d hi I.2.2.2.1 hn hp (fun ls' hl => h H locs cells slots ls' (I.st1 hl))
  · rw [e1] at hp ⊢
    exact lv_astore_n C.1 C.2.1 d hi I.2.2.2.1 hn hp (fun ls' hl => h H locs cells slots ls' (I.st1 hl))
theorem g_astore {i : Nat} {v : V} (C : Cx E A p z m args c cc nL ow) (d : decode cc pc = .ok (.astore i, 2)) (hn : i < nL) (hq : isQ v) (h : Go E A l p e R z m args below meth c nL s0 Q (pc + 2) (put1 L i v) st s) : Go E A l p e R z m args below meth c nL s0 Q pc L (v :: st) s := fun H locs cells slots ls I => by
  have hp := put1_eq E L i v
  rw [List.map_cons]
  rcases mvQ E hq with e1 | ⟨a, e1⟩
  · rw [e1] at hp ⊢
    exact lv_astoreN C.1 C.2.1 d I.2.2.2.1 hn hp (fun ls' hl => h H locs cells slots ls' (I.st1 hl))
  · rw [e1] at hp ⊢
    exact lv_astore C.1 C.2.1 d I.2.2.2.1 hn hp (fun ls' hl => h H locs cells slots ls' (I.st1 hl))
theorem g_iinc {i : Nat} {x n : Int} (C : Cx E A p z m args c cc nL ow) (d : decode cc pc = .ok (.iinc i n, 3)) (hn : i < nL) (hx : lk L i = some (0, x)) (h : Go E A l p e R z m args below meth c nL s0 Q (pc + 3) (put1 L i (0, wi (x + n))) st s) : Go E A l p e R z m args below meth c nL s0 Q pc L st s := fun H locs cells slots ls I => by
  obtain ⟨k, hk⟩ := List.getElem?_of_mem (List.mem_map.mpr ⟨(i, 0, x), lk_mem hx, rfl⟩ : lm E (i, 0, x) ∈ L.map (lm E))
  exact lv_iinc (k := k) (x := Int32.ofInt x) (v := Int32.ofInt (wi (x + n))) C.1 C.2.1 d I.2.2.2.1 hk (i_add x n) hn (put1_eq E L i (0, wi (x + n))) (fun ls' hl => h H locs cells slots ls' (I.loc hl (put1_ty I.2.2.2.2.1 (rg_wi _)) I.ty))
/-- two ints become one -/
theorem g_bin {x y r : Int} (hw : rg x → rg y → ∀ {H : Heap} {locs : List Loc} {cells slots : Nat} {ls : Array Slot}, W p l e R z m args below meth c H locs cells slots Q (F0 m (pc + 1) ls (.int (Int32.ofInt r) :: st.map (mv E))) → W p l e R z m args below meth c H locs cells slots Q (F0 m pc ls (.int (Int32.ofInt y) :: .int (Int32.ofInt x) :: st.map (mv E)))) (hr : rg x → rg y → rg r)
    (h : Go E A l p e R z m args below meth c nL s0 Q (pc + 1) L ((0, r) :: st) s) : Go E A l p e R z m args below meth c nL s0 Q pc L ((0, y) :: (0, x) :: st) s := fun H locs cells slots ls I => by
  have ht := I.ty
  rw [List.forall_mem_cons, List.forall_mem_cons] at ht
  obtain ⟨hy, hx, ht⟩ := ht
  exact hw hx hy (h H locs cells slots ls (I.stk (List.forall_mem_cons.mpr ⟨hr hx hy, ht⟩)))
theorem g_iadd {x y : Int} (C : Cx E A p z m args c cc nL ow) (d : decode cc pc = .ok (.iadd, 1)) (h : Go E A l p e R z m args below meth c nL s0 Q (pc + 1) L ((0, wi (x + y)) :: st) s) : Go E A l p e R z m args below meth c nL s0 Q pc L ((0, y) :: (0, x) :: st) s :=
  g_bin (fun _ _ => fun k => lv_iadd C.1 C.2.1 d (by rw [i_add]; exact k)) (fun _ _ => rg_wi _) h
theorem g_isub {x y : Int} (C : Cx E A p z m args c cc nL ow) (d : decode cc pc = .ok (.isub, 1)) (h : Go E A l p e R z m args below meth c nL s0 Q (pc + 1) L ((0, wi (x - y)) :: st) s) : Go E A l p e R z m args below meth c nL s0 Q pc L ((0, y) :: (0, x) :: st) s :=
  g_bin (fun _ _ => fun k => lv_isub C.1 C.2.1 d (by rw [i_sub]; exact k)) (fun _ _ => rg_wi _) h
theorem g_imul {x y : Int} (C : Cx E A p z m args c cc nL ow) (d : decode cc pc = .ok (.imul, 1)) (h : Go E A l p e R z m args below meth c nL s0 Q (pc + 1) L ((0, wi (x * y)) :: st) s) : Go E A l p e R z m args below meth c nL s0 Q pc L ((0, y) :: (0, x) :: st) s :=
  g_bin (fun _ _ => fun k => lv_imul C.1 C.2.1 d (by rw [i_mul]; exact k)) (fun _ _ => rg_wi _) h
theorem g_iand {x y : Int} (C : Cx E A p z m args c cc nL ow) (d : decode cc pc = .ok (.iand, 1)) (h : Go E A l p e R z m args below meth c nL s0 Q (pc + 1) L ((0, andI x y) :: st) s) : Go E A l p e R z m args below meth c nL s0 Q pc L ((0, y) :: (0, x) :: st) s :=
  g_bin (fun _ _ => fun k => lv_iand C.1 C.2.1 d (by rw [andI, Int32.ofInt_toInt] at k; exact k)) (fun _ _ => rg_and _ _) h
theorem g_ior {x y : Int} (C : Cx E A p z m args c cc nL ow) (d : decode cc pc = .ok (.ior, 1)) (h : Go E A l p e R z m args below meth c nL s0 Q (pc + 1) L ((0, orI x y) :: st) s) : Go E A l p e R z m args below meth c nL s0 Q pc L ((0, y) :: (0, x) :: st) s :=
  g_bin (fun _ _ => fun k => lv_ior C.1 C.2.1 d (by rw [orI, Int32.ofInt_toInt] at k; exact k)) (fun _ _ => rg_or _ _) h
theorem g_ishl {x y : Int} (C : Cx E A p z m args c cc nL ow) (d : decode cc pc = .ok (.ishl, 1)) (h : Go E A l p e R z m args below meth c nL s0 Q (pc + 1) L ((0, shlI x y) :: st) s) : Go E A l p e R z m args below meth c nL s0 Q pc L ((0, y) :: (0, x) :: st) s :=
  g_bin (fun _ _ => fun k => lv_ishl C.1 C.2.1 d (by rw [shlI, Int32.ofInt_toInt] at k; exact k)) (fun _ _ => rg_shl _ _) h
theorem g_ishr {x y : Int} (C : Cx E A p z m args c cc nL ow) (d : decode cc pc = .ok (.ishr, 1)) (h : Go E A l p e R z m args below meth c nL s0 Q (pc + 1) L ((0, shrI x y) :: st) s) : Go E A l p e R z m args below meth c nL s0 Q pc L ((0, y) :: (0, x) :: st) s :=
  g_bin (fun _ _ => fun k => lv_ishr C.1 C.2.1 d (by rw [shrI, Int32.ofInt_toInt] at k; exact k)) (fun _ _ => rg_shr _ _) h
theorem g_iushr {x y : Int} (C : Cx E A p z m args c cc nL ow) (d : decode cc pc = .ok (.iushr, 1)) (h : Go E A l p e R z m args below meth c nL s0 Q (pc + 1) L ((0, ushrI x y) :: st) s) : Go E A l p e R z m args below meth c nL s0 Q pc L ((0, y) :: (0, x) :: st) s :=
  g_bin (fun _ _ => fun k => lv_iushr C.1 C.2.1 d (by rw [ushrI, Int32.ofInt_toInt]) k) (fun _ _ => rg_ushr _ _) h
theorem i_ne0 {y : Int} (hy : rg y) (h0 : y ≠ 0) : ¬ Int32.ofInt y = 0 := fun q => h0 ((i_eq hy rg0).mp q)
theorem l_ne0 {y : Int} (hy : rl y) (h0 : y ≠ 0) : ¬ Int64.ofInt y = 0 := fun q => h0 ((l_eq hy rl0).mp q)
theorem g_idiv {x y : Int} (C : Cx E A p z m args c cc nL ow) (d : decode cc pc = .ok (.idiv, 1)) (h0 : y ≠ 0) (h : Go E A l p e R z m args below meth c nL s0 Q (pc + 1) L ((0, wi (Int.tdiv x y)) :: st) s) : Go E A l p e R z m args below meth c nL s0 Q pc L ((0, y) :: (0, x) :: st) s :=
  g_bin (fun hx hy => fun k => lv_idiv C.1 C.2.1 d (i_ne0 hy h0) (by rw [i_div hx hy]; exact k)) (fun _ _ => rg_wi _) h
theorem g_irem {x y : Int} (C : Cx E A p z m args c cc nL ow) (d : decode cc pc = .ok (.irem, 1)) (h0 : y ≠ 0) (h : Go E A l p e R z m args below meth c nL s0 Q (pc + 1) L ((0, Int.tmod x y) :: st) s) : Go E A l p e R z m args below meth c nL s0 Q pc L ((0, y) :: (0, x) :: st) s :=
  g_bin (fun hx hy => fun k => lv_irem C.1 C.2.1 d (i_ne0 hy h0) (by rw [i_rem hx hy]; exact k)) (fun hx _ => tmod_rg hx) h
theorem g_binJ {x y r : Int} (hw : rl x → rl y → ∀ {H : Heap} {locs : List Loc} {cells slots : Nat} {ls : Array Slot}, W p l e R z m args below meth c H locs cells slots Q (F0 m (pc + 1) ls (.long (Int64.ofInt r) :: st.map (mv E))) → W p l e R z m args below meth c H locs cells slots Q (F0 m pc ls (.long (Int64.ofInt y) :: .long (Int64.ofInt x) :: st.map (mv E)))) (hr : rl x → rl y → rl r)
    (h : Go E A l p e R z m args below meth c nL s0 Q (pc + 1) L ((2, r) :: st) s) : Go E A l p e R z m args below meth c nL s0 Q pc L ((2, y) :: (2, x) :: st) s := fun H locs cells slots ls I => by
  have ht := I.ty
  rw [List.forall_mem_cons, List.forall_mem_cons] at ht
  obtain ⟨hy, hx, ht⟩ := ht
  exact hw hx hy (h H locs cells slots ls (I.stk (List.forall_mem_cons.mpr ⟨hr hx hy, ht⟩)))
theorem g_ladd {x y : Int} (C : Cx E A p z m args c cc nL ow) (d : decode cc pc = .ok (.ladd, 1)) (h : Go E A l p e R z m args below meth c nL s0 Q (pc + 1) L ((2, wl (x + y)) :: st) s) : Go E A l p e R z m args below meth c nL s0 Q pc L ((2, y) :: (2, x) :: st) s :=
  g_binJ (fun _ _ => fun k => lv_ladd C.1 C.2.1 d (by rw [l_add]; exact k)) (fun _ _ => rl_wl _) h
theorem g_lsub {x y : Int} (C : Cx E A p z m args c cc nL ow) (d : decode cc pc = .ok (.lsub, 1)) (h : Go E A l p e R z m args below meth c nL s0 Q (pc + 1) L ((2, wl (x - y)) :: st) s) : Go E A l p e R z m args below meth c nL s0 Q pc L ((2, y) :: (2, x) :: st) s :=
  g_binJ (fun _ _ => fun k => lv_lsub C.1 C.2.1 d (by rw [l_sub]; exact k)) (fun _ _ => rl_wl _) h
theorem g_lmul {x y : Int} (C : Cx E A p z m args c cc nL ow) (d : decode cc pc = .ok (.lmul, 1)) (h : Go E A l p e R z m args below meth c nL s0 Q (pc + 1) L ((2, wl (x * y)) :: st) s) : Go E A l p e R z m args below meth c nL s0 Q pc L ((2, y) :: (2, x) :: st) s :=
  g_binJ (fun _ _ => fun k => lv_lmul C.1 C.2.1 d (by rw [l_mul]; exact k)) (fun _ _ => rl_wl _) h
theorem g_ldiv {x y : Int} (C : Cx E A p z m args c cc nL ow) (d : decode cc pc = .ok (.ldiv, 1)) (h0 : y ≠ 0) (h : Go E A l p e R z m args below meth c nL s0 Q (pc + 1) L ((2, wl (Int.tdiv x y)) :: st) s) : Go E A l p e R z m args below meth c nL s0 Q pc L ((2, y) :: (2, x) :: st) s :=
  g_binJ (fun hx hy => fun k => lv_ldiv C.1 C.2.1 d (l_ne0 hy h0) (by rw [l_div hx hy]; exact k)) (fun _ _ => rl_wl _) h
theorem g_lrem {x y : Int} (C : Cx E A p z m args c cc nL ow) (d : decode cc pc = .ok (.lrem, 1)) (h0 : y ≠ 0) (h : Go E A l p e R z m args below meth c nL s0 Q (pc + 1) L ((2, Int.tmod x y) :: st) s) : Go E A l p e R z m args below meth c nL s0 Q pc L ((2, y) :: (2, x) :: st) s :=
  g_binJ (fun hx hy => fun k => lv_lrem C.1 C.2.1 d (l_ne0 hy h0) (by rw [l_rem hx hy]; exact k)) (fun hx _ => tmod_rl hx) h
theorem g_lcmp {x y : Int} (C : Cx E A p z m args c cc nL ow) (d : decode cc pc = .ok (.lcmp, 1)) (h : Go E A l p e R z m args below meth c nL s0 Q (pc + 1) L ((0, lcm x y) :: st) s) : Go E A l p e R z m args below meth c nL s0 Q pc L ((2, y) :: (2, x) :: st) s := fun H locs cells slots ls I => by
  have ht := I.ty
  rw [List.forall_mem_cons, List.forall_mem_cons] at ht
  obtain ⟨hy, hx, ht⟩ := ht
  refine W.lcmp C.1 C.2.1 d ?_
  rw [lcm_ hx hy]
  exact h H locs cells slots ls (I.stk (List.forall_mem_cons.mpr ⟨rg_lcm _ _, ht⟩))
/-- one value becomes another -/
theorem g_un {v w : V} {k : Nat} (hw : tvV s v → ∀ {H : Heap} {locs : List Loc} {cells slots : Nat} {ls : Array Slot}, W p l e R z m args below meth c H locs cells slots Q (F0 m (pc + k) ls (mv E w :: st.map (mv E))) → W p l e R z m args below meth c H locs cells slots Q (F0 m pc ls (mv E v :: st.map (mv E)))) (hr : tvV s v → tvV s w)
    (h : Go E A l p e R z m args below meth c nL s0 Q (pc + k) L (w :: st) s) : Go E A l p e R z m args below meth c nL s0 Q pc L (v :: st) s := fun H locs cells slots ls I => by
  have ht := I.ty
  rw [List.forall_mem_cons] at ht
  exact hw ht.1 (h H locs cells slots ls (I.stk (List.forall_mem_cons.mpr ⟨hr ht.1, ht.2⟩)))
theorem g_ineg {x : Int} (C : Cx E A p z m args c cc nL ow) (d : decode cc pc = .ok (.ineg, 1)) (h : Go E A l p e R z m args below meth c nL s0 Q (pc + 1) L ((0, wi (-x)) :: st) s) : Go E A l p e R z m args below meth c nL s0 Q pc L ((0, x) :: st) s :=
  g_un (v := (0, x)) (w := (0, wi (-x))) (fun _ => fun k => lv_ineg C.1 C.2.1 d (by rw [i_neg]; exact k)) (fun _ => rg_wi _) h
theorem g_i2l {x : Int} (C : Cx E A p z m args c cc nL ow) (d : decode cc pc = .ok (.i2l, 1)) (h : Go E A l p e R z m args below meth c nL s0 Q (pc + 1) L ((2, x) :: st) s) : Go E A l p e R z m args below meth c nL s0 Q pc L ((0, x) :: st) s :=
  g_un (v := (0, x)) (w := (2, x)) (fun hx => fun k => lv_i2l C.1 C.2.1 d (i2l_ hx) k) (fun hx => rg_rl hx) h
theorem g_l2i {x : Int} (C : Cx E A p z m args c cc nL ow) (d : decode cc pc = .ok (.l2i, 1)) (h : Go E A l p e R z m args below meth c nL s0 Q (pc + 1) L ((0, wi x) :: st) s) : Go E A l p e R z m args below meth c nL s0 Q pc L ((2, x) :: st) s :=
  g_un (v := (2, x)) (w := (0, wi x)) (fun hx => fun k => lv_l2i C.1 C.2.1 d (l2i_ x) k) (fun _ => rg_wi _) h
theorem g_i2b {x : Int} (C : Cx E A p z m args c cc nL ow) (d : decode cc pc = .ok (.i2b, 1)) (h : Go E A l p e R z m args below meth c nL s0 Q (pc + 1) L ((0, wb x) :: st) s) : Go E A l p e R z m args below meth c nL s0 Q pc L ((0, x) :: st) s :=
  g_un (v := (0, x)) (w := (0, wb x)) (fun hx => fun k => lv_i2b C.1 C.2.1 d (i2b_ hx) k) (fun _ => rg_wb _) h
theorem cat1 (E : Ev0) {v : V} (h : v.1 ≠ 2) : (mv E v).category = 1 := by rw [mv_cat, if_neg h]
theorem g_dup {v : V} (C : Cx E A p z m args c cc nL ow) (d : decode cc pc = .ok (.dup, 1)) (hv : v.1 ≠ 2) (h : Go E A l p e R z m args below meth c nL s0 Q (pc + 1) L (v :: v :: st) s) : Go E A l p e R z m args below meth c nL s0 Q pc L (v :: st) s := fun H locs cells slots ls I =>
  lv_dup C.1 C.2.1 d (cat1 E hv) (h H locs cells slots ls (I.stk (List.forall_mem_cons.mpr ⟨I.ty v List.mem_cons_self, I.ty⟩)))
theorem g_pop {v : V} (C : Cx E A p z m args c cc nL ow) (d : decode cc pc = .ok (.pop, 1)) (hv : v.1 ≠ 2) (h : Go E A l p e R z m args below meth c nL s0 Q (pc + 1) L st s) : Go E A l p e R z m args below meth c nL s0 Q pc L (v :: st) s := fun H locs cells slots ls I =>
  lv_pop C.1 C.2.1 d (cat1 E hv) (h H locs cells slots ls (I.stk (fun w hw => I.ty w (List.mem_cons_of_mem _ hw))))
theorem g_dup2 {v w : V} (C : Cx E A p z m args c cc nL ow) (d : decode cc pc = .ok (.dup2, 1)) (hv : v.1 ≠ 2) (hw : w.1 ≠ 2) (h : Go E A l p e R z m args below meth c nL s0 Q (pc + 1) L (v :: w :: v :: w :: st) s) : Go E A l p e R z m args below meth c nL s0 Q pc L (v :: w :: st) s := fun H locs cells slots ls I =>
  lv_dup2_11 C.1 C.2.1 d (cat1 E hv) (cat1 E hw) (h H locs cells slots ls (I.stk (List.forall_mem_cons.mpr ⟨I.ty v List.mem_cons_self, List.forall_mem_cons.mpr ⟨I.ty w (List.mem_cons_of_mem _ List.mem_cons_self), I.ty⟩⟩)))
end GO
