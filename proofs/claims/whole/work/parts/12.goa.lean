/-! ===== arrays, constants, new cells, switches ===== -/
theorem ty_get (E : Ev0) {t : Nat} (h1 : 20 ≤ t) (h2 : t < 27) : (tyL E)[t - 20]? = some (E.2.1 t, aty t) := by
  have e1 : 20 + (t - 20) = t := by omega
  have h : t - 20 < 7 := by omega
  simp [tyL, h, e1]
theorem getD_mem {l : List Int} {i : Nat} (h : i < l.length) : l.getD i 0 ∈ l := by
  rw [List.getD_eq_getElem?_getD, List.getElem?_eq_getElem h]
  exact List.getElem_mem h
theorem ar_set (E : Ev0) (t : Nat) (l : List Int) {i : Nat} (hi : i < l.length) (v : Int) (cA : ClassId) : (arrV cA l.length (fun j => mt E t (l.getD j 0))).setSlot i (mt E t v) = arrV cA (l.set i v).length (fun j => mt E t ((l.set i v).getD j 0)) := by
  rw [arrV_store, List.length_set]
  congr 1
  funext j
  by_cases e : j = i
  · subst e
    simp [updV, List.getD_eq_getElem?_getD, hi]
  · simp [updV, e, List.getD_eq_getElem?_getD, List.getElem?_set_ne (fun q => e q.symm)]
section GOA
variable {E : Ev0} {A : Nat → Prop} {l : Launch} {p : Program} {e : Env} {R : Room} {z : State} {m : MethodId} {args : Array Value} {below : List Frame} {meth : Method} {c : Code} {cc : ByteArray} {nL ow : Nat} {s0 : St} {Q : State → Prop} {pc : Nat} {L : Lc} {st : List V} {s : St}
/-- what an access to an array has in hand -/
theorem Inv.acc {E : Ev0} {A : Nat → Prop} {z : State} {s0 : St} {nL : Nat} {s : St} {L : Lc} {st : List V} {H : Heap} {locs : List Loc} {cells slots : Nat} {ls : Array Slot} (I : Inv E A z s0 nL s L st H locs cells slots ls) {t : Nat} {x i : Int} (h1 : 20 ≤ t) (h2 : t < 27) (hk : kd s x = t) (hi : rg i) (i0 : 0 ≤ i) (i1 : i < (gA s x).length) :
    ∃ cell : Cell, H[n0 E + x.toNat]? = some cell ∧ cell = arrV (E.2.1 t) (gA s x).length (fun j => mt E (ety t) ((gA s x).getD j 0)) ∧ mv E (1, x) = .ref (n0 E + x.toNat) ∧ kd s x ≠ 0 ∧ ¬ (Int32.ofInt i < 0 ∨ cell.slots.size ≤ (Int32.ofInt i).toNatClampNeg) ∧ (Int32.ofInt i).toNatClampNeg = i.toNat ∧ i.toNat < (gA s x).length ∧ cell.slots[(Int32.ofInt i).toNatClampNeg]? = some (mv E (tgo (ety t), (gA s x).getD i.toNat 0)) ∧ tvV s (tgo (ety t), (gA s x).getD i.toNat 0) := by
  obtain ⟨g1, g2, g3⟩ := I.1.arr hk h1 h2
  have hlt : i.toNat < (gA s x).length := by omega
  have hcl := i_clamp i0 hi
  refine ⟨_, g1, rfl, (I.1.pos (p := x) (by omega)).2.2, by omega, ?_, hcl, hlt, ?_, tv_tvV (g2 _ (getD_mem hlt))⟩
  · rw [arrV_size]; exact i_in hi i0 i1
  · rw [hcl, arrV_read _ _ hlt, mt_mv]
theorem g_iaload {x i : Int} (C : Cx E A p z m args c cc nL ow) (d : decode cc pc = .ok (.iaload, 1)) (hk : kd s x = 20) (i0 : 0 ≤ i) (i1 : i < (gA s x).length)
    (h : Go E A l p e R z m args below meth c nL s0 Q (pc + 1) L ((0, (gA s x).getD i.toNat 0) :: st) s) : Go E A l p e R z m args below meth c nL s0 Q pc L ((0, i) :: (1, x) :: st) s := fun H locs cells slots ls I => by
  have hty := I.ty
  rw [List.forall_mem_cons, List.forall_mem_cons] at hty
  obtain ⟨cell, a1, a2, a3, a4, a5, a6, a7, a8, a9⟩ := I.acc (t := 20) (by omega) (by omega) hk hty.1 i0 i1
  rw [List.map_cons, List.map_cons, a3]
  exact W.iald C.1 C.2.1 a1 (by rw [a2]; exact (C.2.2.2.2.2.1.2 0 _ (ty_get E (t := 20) (by omega) (by omega))).1 _ _) (by rw [a2]; exact fun q => by cases q) a5 a8 rfl rfl d (h H locs cells slots ls (I.stk (List.forall_mem_cons.mpr ⟨a9, hty.2.2⟩)))
theorem g_baload {x i : Int} {t : Nat} (C : Cx E A p z m args c cc nL ow) (d : decode cc pc = .ok (.baload, 1)) (ht : t = 21 ∨ t = 22) (hk : kd s x = t) (i0 : 0 ≤ i) (i1 : i < (gA s x).length)
    (h : Go E A l p e R z m args below meth c nL s0 Q (pc + 1) L ((0, (gA s x).getD i.toNat 0) :: st) s) : Go E A l p e R z m args below meth c nL s0 Q pc L ((0, i) :: (1, x) :: st) s := fun H locs cells slots ls I => by
  have hty := I.ty
  rw [List.forall_mem_cons, List.forall_mem_cons] at hty
  obtain ⟨cell, a1, a2, a3, a4, a5, a6, a7, a8, a9⟩ := I.acc (t := t) (by omega) (by omega) hk hty.1 i0 i1
  rw [List.map_cons, List.map_cons, a3]
  rcases ht with rfl | rfl
  · exact W.bald C.1 C.2.1 a1 (by rw [a2]; exact (C.2.2.2.2.2.1.2 1 _ (ty_get E (t := 21) (by omega) (by omega))).1 _ _) (by rw [a2]; exact fun q => by cases q) a5 a8 rfl rfl d (h H locs cells slots ls (I.stk (List.forall_mem_cons.mpr ⟨a9, hty.2.2⟩)))
  · exact W.zald C.1 C.2.1 a1 (by rw [a2]; exact (C.2.2.2.2.2.1.2 2 _ (ty_get E (t := 22) (by omega) (by omega))).1 _ _) (by rw [a2]; exact fun q => by cases q) a5 a8 rfl rfl d (h H locs cells slots ls (I.stk (List.forall_mem_cons.mpr ⟨a9, hty.2.2⟩)))
theorem g_laload {x i : Int} (C : Cx E A p z m args c cc nL ow) (d : decode cc pc = .ok (.laload, 1)) (hk : kd s x = 23) (i0 : 0 ≤ i) (i1 : i < (gA s x).length)
    (h : Go E A l p e R z m args below meth c nL s0 Q (pc + 1) L ((2, (gA s x).getD i.toNat 0) :: st) s) : Go E A l p e R z m args below meth c nL s0 Q pc L ((0, i) :: (1, x) :: st) s := fun H locs cells slots ls I => by
  have hty := I.ty
  rw [List.forall_mem_cons, List.forall_mem_cons] at hty
  obtain ⟨cell, a1, a2, a3, a4, a5, a6, a7, a8, a9⟩ := I.acc (t := 23) (by omega) (by omega) hk hty.1 i0 i1
  rw [List.map_cons, List.map_cons, a3]
  exact W.lald C.1 C.2.1 a1 (by rw [a2]; exact (C.2.2.2.2.2.1.2 3 _ (ty_get E (t := 23) (by omega) (by omega))).1 _ _) (by rw [a2]; exact fun q => by cases q) a5 a8 rfl rfl d (h H locs cells slots ls (I.stk (List.forall_mem_cons.mpr ⟨a9, hty.2.2⟩)))
theorem aty_ref {t : Nat} (h1 : 24 ≤ t) (h2 : t < 27) : ∃ ci, ci < 13 ∧ aty t = .object (cn ci) ∧ ety t = ci + 4 := by
  rcases (show t = 24 ∨ t = 25 ∨ t = 26 by omega) with rfl | rfl | rfl
  · exact ⟨3, by omega, rfl, rfl⟩
  · exact ⟨0, by omega, rfl, rfl⟩
  · exact ⟨7, by omega, rfl, rfl⟩
theorem g_aaload {x i : Int} {t : Nat} (C : Cx E A p z m args c cc nL ow) (d : decode cc pc = .ok (.aaload, 1)) (h1 : 24 ≤ t) (h2 : t < 27) (hk : kd s x = t) (i0 : 0 ≤ i) (i1 : i < (gA s x).length)
    (h : Go E A l p e R z m args below meth c nL s0 Q (pc + 1) L ((1, (gA s x).getD i.toNat 0) :: st) s) : Go E A l p e R z m args below meth c nL s0 Q pc L ((0, i) :: (1, x) :: st) s := fun H locs cells slots ls I => by
  have hty := I.ty
  rw [List.forall_mem_cons, List.forall_mem_cons] at hty
  obtain ⟨cell, a1, a2, a3, a4, a5, a6, a7, a8, a9⟩ := I.acc (t := t) (by omega) (by omega) hk hty.1 i0 i1
  obtain ⟨ci, hci, e1, e2⟩ := aty_ref h1 h2
  have e3 : tgo (ety t) = 1 := by rw [e2]; rfl
  rw [e3] at a8 a9
  rw [List.map_cons, List.map_cons, a3]
  exact W.aald (ty := .object (cn ci)) C.1 C.2.1 a1 (by rw [a2, ← e1]; exact (C.2.2.2.2.2.1.2 _ _ (ty_get E (t := t) (by omega) (by omega))).1 _ _) rfl (by rw [a2]; exact fun q => by cases q) a5 a8 rfl rfl d (h H locs cells slots ls (I.stk (List.forall_mem_cons.mpr ⟨a9, hty.2.2⟩)))
/-- behind a write to an array -/
theorem Inv.asto {E : Ev0} {A : Nat → Prop} {z : State} {s0 : St} {nL : Nat} {s : St} {L : Lc} {st st' : List V} {H H1 : Heap} {locs : List Loc} {cells slots : Nat} {ls : Array Slot} (I : Inv E A z s0 nL s L st H locs cells slots ls) {t i k : Nat} {x v : Int} (h1 : 20 ≤ t) (h2 : t < 27) (hk : kd s x = t) (hi : i < (gA s x).length) (hv : tv s (ety t) v)
    (hc : H1[n0 E + x.toNat]? = some ((arrV (E.2.1 t) (gA s x).length (fun j => mt E (ety t) ((gA s x).getD j 0))).setSlot i (mt E (ety t) v))) (hz : H1.size = H.size) (ho : ∀ q : Nat, q ≠ n0 E + x.toNat → H1[q]? = H[q]?) (ht : ∀ v ∈ st', tvV s v) :
    Inv E A z s0 nL (sA s x ((gA s x).set i v)) L st' H1 (locs ++ [⟨n0 E + x.toNat, k⟩]) cells slots ls := by
  obtain ⟨g1, g2, g3⟩ := I.1.arr hk h1 h2
  refine I.put (I.1.ast hk h1 h2 (fun w hw => ?_) (by rw [List.length_set]; exact g3) (by rw [hc, ar_set E _ _ hi]) hz ho) (fun _ => rfl) rfl rfl (by omega) hz ho ht
  rcases List.mem_or_eq_of_mem_set hw with q | q
  · exact g2 w q
  · rw [q]; exact hv
theorem g_iastore {x i v : Int} (C : Cx E A p z m args c cc nL ow) (d : decode cc pc = .ok (.iastore, 1)) (hk : kd s x = 20) (i0 : 0 ≤ i) (i1 : i < (gA s x).length)
    (h : Go E A l p e R z m args below meth c nL s0 Q (pc + 1) L st (sA s x ((gA s x).set i.toNat v))) : Go E A l p e R z m args below meth c nL s0 Q pc L ((0, v) :: (0, i) :: (1, x) :: st) s := fun H locs cells slots ls I => by
  have hty := I.ty
  rw [List.forall_mem_cons, List.forall_mem_cons, List.forall_mem_cons] at hty
  obtain ⟨cell, a1, a2, a3, a4, a5, a6, a7, a8, a9⟩ := I.acc (t := 20) (by omega) (by omega) hk hty.2.1 i0 i1
  rw [List.map_cons, List.map_cons, List.map_cons, a3]
  refine W.iast C.1 C.2.1 a1 (by rw [a2]; exact (C.2.2.2.2.2.1.2 0 _ (ty_get E (t := 20) (by omega) (by omega))).1 _ _) (by rw [a2]; exact fun q => by cases q) a5 rfl rfl d fun H1 e1 z1 o1 => ?_
  rw [a6, a2] at e1
  exact h H1 _ cells slots ls (I.asto (t := 20) (by omega) (by omega) hk a7 hty.1 e1 z1 o1 hty.2.2.2)
theorem g_lastore {x i v : Int} (C : Cx E A p z m args c cc nL ow) (d : decode cc pc = .ok (.lastore, 1)) (hk : kd s x = 23) (i0 : 0 ≤ i) (i1 : i < (gA s x).length)
    (h : Go E A l p e R z m args below meth c nL s0 Q (pc + 1) L st (sA s x ((gA s x).set i.toNat v))) : Go E A l p e R z m args below meth c nL s0 Q pc L ((2, v) :: (0, i) :: (1, x) :: st) s := fun H locs cells slots ls I => by
  have hty := I.ty
  rw [List.forall_mem_cons, List.forall_mem_cons, List.forall_mem_cons] at hty
  obtain ⟨cell, a1, a2, a3, a4, a5, a6, a7, a8, a9⟩ := I.acc (t := 23) (by omega) (by omega) hk hty.2.1 i0 i1
  rw [List.map_cons, List.map_cons, List.map_cons, a3]
  refine W.last C.1 C.2.1 a1 (by rw [a2]; exact (C.2.2.2.2.2.1.2 3 _ (ty_get E (t := 23) (by omega) (by omega))).1 _ _) (by rw [a2]; exact fun q => by cases q) a5 rfl rfl d fun H1 e1 z1 o1 => ?_
  rw [a6, a2] at e1
  exact h H1 _ cells slots ls (I.asto (t := 23) (by omega) (by omega) hk a7 hty.1 e1 z1 o1 hty.2.2.2)
theorem g_bastore {x i v : Int} (C : Cx E A p z m args c cc nL ow) (d : decode cc pc = .ok (.bastore, 1)) (hk : kd s x = 21) (i0 : 0 ≤ i) (i1 : i < (gA s x).length)
    (h : Go E A l p e R z m args below meth c nL s0 Q (pc + 1) L st (sA s x ((gA s x).set i.toNat (wb v)))) : Go E A l p e R z m args below meth c nL s0 Q pc L ((0, v) :: (0, i) :: (1, x) :: st) s := fun H locs cells slots ls I => by
  have hty := I.ty
  rw [List.forall_mem_cons, List.forall_mem_cons, List.forall_mem_cons] at hty
  obtain ⟨cell, a1, a2, a3, a4, a5, a6, a7, a8, a9⟩ := I.acc (t := 21) (by omega) (by omega) hk hty.2.1 i0 i1
  rw [List.map_cons, List.map_cons, List.map_cons, a3]
  refine W.bast C.1 C.2.1 a1 (by rw [a2]; exact (C.2.2.2.2.2.1.2 1 _ (ty_get E (t := 21) (by omega) (by omega))).1 _ _) (by rw [a2]; exact fun q => by cases q) a5 rfl rfl d fun H1 e1 z1 o1 => ?_
  have hb : narrow .byte (.int (Int32.ofInt v)) = mt E (ety 21) (wb v) := congrArg Value.int (i2b_ hty.1)
  rw [a6, a2, hb] at e1
  exact h H1 _ cells slots ls (I.asto (t := 21) (by omega) (by omega) hk a7 (wb_rg v) e1 z1 o1 hty.2.2.2)
theorem g_zastore {x i v : Int} (C : Cx E A p z m args c cc nL ow) (d : decode cc pc = .ok (.bastore, 1)) (hk : kd s x = 22) (i0 : 0 ≤ i) (i1 : i < (gA s x).length) (hv : v = 0 ∨ v = 1)
    (h : Go E A l p e R z m args below meth c nL s0 Q (pc + 1) L st (sA s x ((gA s x).set i.toNat v))) : Go E A l p e R z m args below meth c nL s0 Q pc L ((0, v) :: (0, i) :: (1, x) :: st) s := fun H locs cells slots ls I => by
  have hty := I.ty
  rw [List.forall_mem_cons, List.forall_mem_cons, List.forall_mem_cons] at hty
  obtain ⟨cell, a1, a2, a3, a4, a5, a6, a7, a8, a9⟩ := I.acc (t := 22) (by omega) (by omega) hk hty.2.1 i0 i1
  rw [List.map_cons, List.map_cons, List.map_cons, a3]
  refine W.zast C.1 C.2.1 a1 (by rw [a2]; exact (C.2.2.2.2.2.1.2 2 _ (ty_get E (t := 22) (by omega) (by omega))).1 _ _) (by rw [a2]; exact fun q => by cases q) a5 rfl rfl d fun H1 e1 z1 o1 => ?_
  have hb : narrow .boolean (.int (Int32.ofInt v)) = mt E (ety 22) v := congrArg Value.int (bool_and hv)
  rw [a6, a2, hb] at e1
  exact h H1 _ cells slots ls (I.asto (t := 22) (by omega) (by omega) hk a7 hv e1 z1 o1 hty.2.2.2)
theorem g_aastore {x i v : Int} {t : Nat} (C : Cx E A p z m args c cc nL ow) (d : decode cc pc = .ok (.aastore, 1)) (h1 : 24 ≤ t) (h2 : t < 27) (hk : kd s x = t) (i0 : 0 ≤ i) (i1 : i < (gA s x).length) (hv : v = 0 ∨ kd s v = ety t)
    (h : Go E A l p e R z m args below meth c nL s0 Q (pc + 1) L st (sA s x ((gA s x).set i.toNat v))) : Go E A l p e R z m args below meth c nL s0 Q pc L ((1, v) :: (0, i) :: (1, x) :: st) s := fun H locs cells slots ls I => by
  have hty := I.ty
  rw [List.forall_mem_cons, List.forall_mem_cons, List.forall_mem_cons] at hty
  obtain ⟨cell, a1, a2, a3, a4, a5, a6, a7, a8, a9⟩ := I.acc (t := t) (by omega) (by omega) hk hty.2.1 i0 i1
  obtain ⟨ci, hci, e1, e2⟩ := aty_ref h1 h2
  have hK2 := C.2.2.2.2.2.1.2 _ _ (ty_get E (t := t) (by omega) (by omega))
  have htv : tv s (ety t) v := by rw [e2] at hv ⊢; exact hv
  have hmv : mv E (1, v) = mt E (ety t) v := by rw [mt_mv, e2]; rfl
  rw [List.map_cons, List.map_cons, List.map_cons, a3]
  have fin : ∀ H' : Heap, H'[n0 E + x.toNat]? = some (cell.setSlot (Int32.ofInt i).toNatClampNeg (mv E (1, v))) → H'.size = H.size → (∀ q, q ≠ n0 E + x.toNat → H'[q]? = H[q]?) → W p l e R z m args below meth c H' (locs ++ [⟨n0 E + x.toNat, (Int32.ofInt i).toNatClampNeg⟩]) cells slots Q (F0 m (pc + 1) ls (st.map (mv E))) := by
    intro H1 e1 z1 o1
    rw [a6, a2, hmv] at e1
    exact h H1 _ cells slots ls (I.asto (by omega) (by omega) hk a7 htv e1 z1 o1 hty.2.2.2)
  by_cases hz : v = 0
  · have e3 : mv E (1, v) = .null := if_pos hz
    rw [e3] at fin ⊢
    exact va_WaastN (C := cn ci) C.1 C.2.1 a1 (by rw [a2, ← e1]; exact hK2.1 _ _) (by rw [a2]; exact fun q => by cases q) a5 rfl rfl d fin
  · have e3 : mv E (1, v) = .ref (n0 E + v.toNat) := if_neg hz
    rw [e3] at fin ⊢
    have hkv : kd s v = ci + 4 := by rw [← e2]; exact hv.resolve_left hz
    obtain ⟨⟨cellV, g1, g2, g3, -⟩, -⟩ := I.1.obj hkv hci
    have hcls := (C.2.2.2.2.2.1.1 ci _ (vw_get hci)).2
    have hra := hK2.2
    rw [e1] at hra
    obtain ⟨kA, comp, k1, k2, k3, -⟩ := hra
    have hcomp : comp = E.1.1 ci := Option.some.inj (k3.symm.trans hcls.1)
    subst hcomp
    obtain ⟨kC, hkC, -⟩ := hcls.2
    exact W.aast C.1 C.2.1 a1 (by rw [a2]; exact fun q h => by cases h) (by rw [a2]; exact fun h => by cases h) (by rw [a2]; exact k1) k2 rfl hkC ⟨fun q => a5 (Or.inl q), by rw [a2, arrV_size, a6]; exact a7⟩ g1 (fun q h => by rw [g3] at h; cases h) (by rw [g2]; exact hkC) (by rw [g2]; exact va_assign hcls) rfl rfl d fin
theorem g_alen {x : Int} {t : Nat} (C : Cx E A p z m args c cc nL ow) (d : decode cc pc = .ok (.arraylength, 1)) (h1 : 20 ≤ t) (h2 : t < 27) (hk : kd s x = t)
    (h : Go E A l p e R z m args below meth c nL s0 Q (pc + 1) L ((0, ((gA s x).length : Int)) :: st) s) : Go E A l p e R z m args below meth c nL s0 Q pc L ((1, x) :: st) s := fun H locs cells slots ls I => by
  have hty := I.ty
  rw [List.forall_mem_cons] at hty
  obtain ⟨g1, g2, g3⟩ := I.1.arr hk h1 h2
  have e3 : mv E (1, x) = .ref (n0 E + x.toNat) := (I.1.pos (p := x) (by omega)).2.2
  rw [List.map_cons, e3]
  refine W.alen (n := Int32.ofInt ((gA s x).length : Int)) C.1 C.2.1 g1 ((C.2.2.2.2.2.1.2 _ _ (ty_get E h1 h2)).1 _ _) ?_ rfl rfl d (h H locs cells slots ls (I.stk (List.forall_mem_cons.mpr ⟨?_, hty.2⟩)))
  · rw [arrV_size, Int32.ofInt_eq_ofNat]
  · show rg _
    unfold rg
    omega
/-- behind a new cell -/
theorem Inv.grow {E : Ev0} {A : Nat → Prop} {z : State} {s0 : St} {nL : Nat} {s s' : St} {L : Lc} {st : List V} {H H1 : Heap} {locs : List Loc} {cells slots n : Nat} {ls : Array Slot} (I : Inv E A z s0 nL s L st H locs cells slots ls) (hA : ∀ q, z.heap.size ≤ q → A q) (hh : hp E s' H1) (hx : ext s s') (hn : nx s' = nx s + 1) (hl : sl s' = sl s + n) (hkd : ∀ q, kd s' q ≠ 0 → kd s q ≠ 0 ∨ q = nx s) (hr : rvE E (nx s) = .ref H.size) (hk : kd s' (nx s) ≠ 0) (hz : H1.size = H.size + 1) (ho : ∀ q : Nat, q < H.size → H1[q]? = H[q]?) {st' : List V} (ht : ∀ v ∈ st', tvV s v) :
    Inv E A z s0 nL s' L ((1, nx s) :: st') H1 locs (cells + 1) (slots + n) ls := by
  have hS := I.2.1
  have hnx : n0 E + (nx s).toNat = H.size := by
    unfold rvE at hr
    split at hr
    · cases hr
    · exact Value.ref.inj hr
  refine ⟨hh, ⟨Nat.le_trans hS.1 (by omega), fun q h1 h2 => (ho q (Nat.lt_of_lt_of_le h1 hS.1)).trans (hS.2.1 q h1 h2), hS.2.2⟩, fun q hq => ?_, I.2.2.2.1, fun q hq => (I.2.2.2.2.1 q hq).ex hx, List.forall_mem_cons.mpr ⟨Or.inr hk, fun v hv => (ht v hv).ex hx⟩, I.2.2.2.2.2.2.1.tr hx, ?_, ?_⟩
  · rcases hkd q hq with h1 | h1
    · exact I.2.2.1 q h1
    · rw [h1, hnx]; exact hA _ hS.1
  · have := I.2.2.2.2.2.2.2.1
    rw [hn]; omega
  · have := I.2.2.2.2.2.2.2.2
    rw [hl]; omega
theorem hH0 (C : Cx E A p z m args c cc nL ow) {H : Heap} {locs : List Loc} (hS : va_S A z.heap H locs) : n0 E < H.size := Nat.lt_of_lt_of_le C.2.2.2.2.2.2.2.2.2 hS.1
theorem g_new {ci idx : Nat} (C : Cx E A p z m args c cc nL ow) (d : decode cc pc = .ok (.new idx, 3)) (hci : ci < 13) (hlk : Cond.classLink (cn ow) idx (cn ci) ∈ lw_good) (hr1 : nx s + 1 - nx s0 ≤ R.cells) (hr2 : sl s + cN ci - sl s0 ≤ R.slots)
    (h : Go E A l p e R z m args below meth c nL s0 Q (pc + 3) L ((1, nx s) :: st) (nO s ci (cN ci))) : Go E A l p e R z m args below meth c nL s0 Q pc L st s := fun H locs cells slots ls I => by
  obtain ⟨hx, hb, hml, hown, hts, hK, hX, hA, -⟩ := id C
  have hKn := hK.1 ci _ (vw_get hci)
  have hc1 := I.2.2.2.2.2.2.2.1
  have hc2 := I.2.2.2.2.2.2.2.2
  refine W.newcK hx hb hown (hts _ hlk) (hts _ (ini_in hci).2) (hts _ (ini_in hci).1) rfl d (by omega) (by omega) hKn.2.1 rfl fun H1 kC hkC e1 z1 o1 => ?_
  have hob : t_OB H.size (E.1.1 ci) (cN ci) (E.1.2 ci) H1 (fun k => mt E (fty ci k) 0) := by
    refine ⟨_, e1, rfl, rfl, fun k hk => ?_⟩
    obtain ⟨cf, kf, fi, fd, hi, he⟩ := hKn.1 k hk
    have h3 := (u_facts hKn.2.1 hkC (u_lays hts (lay_in hci) hk) hi).2.2
    obtain ⟨ty, hpt, hft⟩ := fty_get hci hk
    rw [(State.fieldFound?_type hi hpt).2] at h3
    rw [← he]
    show _ = some (mt E (fty ci k) 0)
    rw [← def_mt E hft]
    exact k2_blank h3
  obtain ⟨g1, g2, g3, g4⟩ := I.1.newO (hH0 C I.2.1) hci hob z1 o1
  have h1 := h H1 locs (cells + 1) (slots + cN ci) ls (I.grow hA g1 g2 rfl rfl (fun q hq => ?_) g4 (by rw [g3]; omega) z1 o1 I.ty)
  · rw [List.map_cons] at h1
    have e4 : mv E (1, nx s) = .ref H.size := g4
    rw [e4] at h1
    exact h1
  · by_cases eq : q = nx s
    · exact Or.inr eq
    · exact Or.inl (by simpa [kd, nO, eq] using hq)
theorem atk_ty {a : ArrayType} {t : Nat} (h : atk a = t) (h1 : 20 ≤ t) : newarray.typeOf a = aty t ∧ t < 24 ∧ (∀ E : Ev0, defaultValue (aty t) = mt E (ety t) 0) ∧ componentBytes (aty t) ≤ 8 ∧ Cond.arrayClass (aty t) ∈ lw_good := by
  cases a <;> simp only [atk] at h <;> subst h <;> first | omega | skip
  · exact ⟨rfl, by omega, fun _ => rfl, by decide, List.mem_filter.mpr ⟨by decide +kernel, rfl⟩⟩
  · exact ⟨rfl, by omega, fun _ => rfl, by decide, List.mem_filter.mpr ⟨by decide +kernel, rfl⟩⟩
  · exact ⟨rfl, by omega, fun _ => rfl, by decide, List.mem_filter.mpr ⟨by decide +kernel, rfl⟩⟩
  · exact ⟨rfl, by omega, fun _ => rfl, by decide, List.mem_filter.mpr ⟨by decide +kernel, rfl⟩⟩
theorem g_newarray {a : ArrayType} {t : Nat} {n : Int} (C : Cx E A p z m args c cc nL ow) (d : decode cc pc = .ok (.newarray a, 2)) (ha : atk a = t) (h1 : 20 ≤ t) (n0' : 0 ≤ n) (n1 : n ≤ 1000000) (hr1 : nx s + 1 - nx s0 ≤ R.cells) (hr2 : sl s + n - sl s0 ≤ R.slots)
    (h : Go E A l p e R z m args below meth c nL s0 Q (pc + 2) L ((1, nx s) :: st) (nA s t n.toNat)) : Go E A l p e R z m args below meth c nL s0 Q pc L ((0, n) :: st) s := fun H locs cells slots ls I => by
  obtain ⟨hx, hb, hml, hown, hts, hK, hX, hA, -⟩ := id C
  have hty := I.ty
  rw [List.forall_mem_cons] at hty
  have hc1 := I.2.2.2.2.2.2.2.1
  have hc2 := I.2.2.2.2.2.2.2.2
  obtain ⟨b1, b2, b3, b4, b5⟩ := atk_ty ha h1
  have hra := (hK.2 _ _ (ty_get E h1 (by omega))).2
  have hnn : rg n := hty.1
  refine va_newaK hx hb (by rw [b1]; exact hts _ b5) rfl d rfl (N := n.toNat) (fun q => ?_) (i_clamp n0' hnn) (by rw [b1]; have := Nat.mul_le_mul (show n.toNat ≤ 1000000 by omega) b4; omega) (by omega) (by omega) rfl fun H1 cA e1 z1 o1 hAr hNm => ?_
  · rw [show (0 : Int32) = Int32.ofInt 0 from rfl, i_lt hnn rg0] at q
    omega
  · have hcA : cA = E.2.1 t := by
      rw [b1] at hNm
      have hra2 : z.vm.findClass ("[" ++ (aty t).toString) = some (E.2.1 t) := by
        rcases (show t = 20 ∨ t = 21 ∨ t = 22 ∨ t = 23 by omega) with rfl | rfl | rfl | rfl <;> exact hra
      exact Option.some.inj (hNm.symm.trans hra2)
    rw [hcA, b1, b3 E] at e1
    obtain ⟨g1, g2, g3, g4⟩ := I.1.newA (hH0 C I.2.1) h1 (by omega) (show n.toNat ≤ 1000000 by omega) e1 z1 o1
    have h2 := h H1 locs (cells + 1) (slots + n.toNat) ls (I.grow hA g1 g2 rfl rfl (fun q hq => ?_) g4 (by rw [g3]; omega) z1 o1 hty.2)
    · rw [List.map_cons] at h2
      have e4 : mv E (1, nx s) = .ref H.size := g4
      rw [e4] at h2
      exact h2
    · by_cases eq : q = nx s
      · exact Or.inr eq
      · exact Or.inl (by simpa [kd, nA, eq] using hq)
theorem g_anewarray {idx t ci : Nat} {n : Int} (C : Cx E A p z m args c cc nL ow) (d : decode cc pc = .ok (.anewarray idx, 3)) (h1 : 24 ≤ t) (h2 : t < 27) (hci : aty t = .object (cn ci)) (hao : va_AO (cn ci) z) (hlk : Cond.classLink (cn ow) idx (cn ci) ∈ lw_good) (n0' : 0 ≤ n) (n1 : n ≤ 1000000) (hr1 : nx s + 1 - nx s0 ≤ R.cells) (hr2 : sl s + n - sl s0 ≤ R.slots)
    (h : Go E A l p e R z m args below meth c nL s0 Q (pc + 3) L ((1, nx s) :: st) (nA s t n.toNat)) : Go E A l p e R z m args below meth c nL s0 Q pc L ((0, n) :: st) s := fun H locs cells slots ls I => by
  obtain ⟨hx, hb, hml, hown, hts, hK, hX, hA, -⟩ := id C
  have hty := I.ty
  rw [List.forall_mem_cons] at hty
  have hc1 := I.2.2.2.2.2.2.2.1
  have hc2 := I.2.2.2.2.2.2.2.2
  have hra := (hK.2 _ _ (ty_get E (t := t) (by omega) (by omega))).2
  rw [hci] at hra
  obtain ⟨-, -, -, -, -, hra⟩ := hra
  have hnn : rg n := hty.1
  have hcl := i_clamp n0' hnn
  refine W.anew hx hb hown (hts _ hlk) (va_AO.use hao) rfl d rfl (fun q => ?_) (by rw [hcl]; omega) (by omega) (by rw [hcl]; omega) fun cA kA comp f1 f2 f3 f4 => ?_
  · rw [show (0 : Int32) = Int32.ofInt 0 from rfl, i_lt hnn rg0] at q
    omega
  · have hcA : cA = E.2.1 t := Option.some.inj (f1.symm.trans hra)
    subst hcA
    rw [hcl]
    generalize hH1 : H.push ({ cls := E.2.1 t, slots := Array.replicate n.toNat .null, vm := .none } : Cell) = H1
    have z1 : H1.size = H.size + 1 := by rw [← hH1, Array.size_push]
    have e1 : H1[H.size]? = some (arrV (E.2.1 t) n.toNat (fun _ => .null)) := by rw [← hH1, Array.getElem?_push_size, ← arrV_new]
    have o1 : ∀ q : Nat, q < H.size → H1[q]? = H[q]? := fun q hq => by rw [← hH1, Array.getElem?_push, if_neg (Nat.ne_of_lt hq)]
    obtain ⟨cj, hcj, -, e2⟩ := aty_ref h1 h2
    have e3 : (Value.null) = mt E (ety t) 0 := by rw [e2]; exact (rvE_0 E).symm
    rw [e3] at e1
    obtain ⟨g1, g2, g3, g4⟩ := I.1.newA (hH0 C I.2.1) (t := t) (by omega) (by omega) (show n.toNat ≤ 1000000 by omega) e1 z1 o1
    have h3 := h H1 locs (cells + 1) (slots + n.toNat) ls (I.grow hA g1 g2 rfl rfl (fun q hq => ?_) g4 (by rw [g3]; omega) z1 o1 hty.2)
    · rw [List.map_cons] at h3
      have e4 : mv E (1, nx s) = .ref H.size := g4
      rw [e4] at h3
      exact h3
    · by_cases eq : q = nx s
      · exact Or.inr eq
      · exact Or.inl (by simpa [kd, nA, eq] using hq)
theorem g_ldc {idx : Nat} {a : Int} (C : Cx E A p z m args c cc nL ow) (d : decode cc pc = .ok (.ldc idx, 2)) (hn : rg a) (hlk : Cond.constant (cn ow) idx (Int32.ofInt a) ∈ lw_good) (h : Go E A l p e R z m args below meth c nL s0 Q (pc + 2) L ((0, a) :: st) s) : Go E A l p e R z m args below meth c nL s0 Q pc L st s :=
  g_push (v := (0, a)) hn (fun k => lv_ldc C.1 C.2.1 C.2.2.2.1 (C.2.2.2.2.1 _ hlk) d k) h
theorem g_ldcw {idx : Nat} {a : Int} (C : Cx E A p z m args c cc nL ow) (d : decode cc pc = .ok (.ldc_w idx, 3)) (hn : rg a) (hlk : Cond.constant (cn ow) idx (Int32.ofInt a) ∈ lw_good) (h : Go E A l p e R z m args below meth c nL s0 Q (pc + 3) L ((0, a) :: st) s) : Go E A l p e R z m args below meth c nL s0 Q pc L st s :=
  g_push (v := (0, a)) hn (fun k => lv_ldcw C.1 C.2.1 C.2.2.2.1 (C.2.2.2.2.1 _ hlk) d k) h
theorem g_ldc2 {idx : Nat} {a : Int} (C : Cx E A p z m args c cc nL ow) (d : decode cc pc = .ok (.ldc2_w idx, 3)) (hn : rl a) (hlk : Cond.constantLong (cn ow) idx (Int64.ofInt a) ∈ lw_good) (h : Go E A l p e R z m args below meth c nL s0 Q (pc + 3) L ((2, a) :: st) s) : Go E A l p e R z m args below meth c nL s0 Q pc L st s :=
  g_push (v := (2, a)) hn (fun k => lv_ldc2 C.1 C.2.1 C.2.2.2.1 (C.2.2.2.2.1 _ hlk) d k) h
theorem g_ldcs {idx : Nat} {tx : String} {a : Int} (C : Cx E A p z m args c cc nL ow) (d : decode cc pc = .ok (.ldc idx, 2)) (hn : 0 ≤ a ∧ a < 2) (hZ : vk_R (cn ow) idx tx (E.2.2.2.1 a.toNat) z) (h : Go E A l p e R z m args below meth c nL s0 Q (pc + 2) L ((3, a) :: st) s) : Go E A l p e R z m args below meth c nL s0 Q pc L st s :=
  g_push (v := (3, a)) hn (fun k => va_ldcS C.1 C.2.1 C.2.2.2.1 hZ d k) h
theorem g_null (C : Cx E A p z m args c cc nL ow) (d : decode cc pc = .ok (.aconst_null, 1)) (h : Go E A l p e R z m args below meth c nL s0 Q (pc + 1) L ((1, 0) :: st) s) : Go E A l p e R z m args below meth c nL s0 Q pc L st s :=
  g_push (v := (1, 0)) (Or.inl rfl) (fun k => lv_null C.1 C.2.1 d (by rw [show mv E (1, 0) = Value.null from rvE_0 E] at k; exact k)) h
end GOA
