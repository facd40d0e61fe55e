/-! ===== calls of the JDK's: Object's constructor, Math, arraycopy ===== -/
theorem jw_obj1 : Cond.instanceMethod Lib.objectInit ∈ lw_good := inT_mem (i := 135) (by decide +kernel)
theorem jw_obj2 : Cond.code Lib.objectInit ⟨#[0xb1]⟩ 1 none ∈ lw_good := inT_mem (i := 136) (by decide +kernel)
theorem jw_math : Cond.initialized "java/lang/Math" ∈ lw_good := inT_mem (i := 123) (by decide +kernel)
theorem jw_sys : Cond.initialized "java/lang/System" ∈ lw_good := inT_mem (i := 128) (by decide +kernel)
theorem jw_max1 : Cond.static Lib.Math.max.name ∈ lw_good := inT_mem (i := 672) (by decide +kernel)
theorem jw_max2 : Cond.code Lib.Math.max.name Lib.Math.max.code 2 (some .int) ∈ lw_good := inT_mem (i := 673) (by decide +kernel)
theorem jw_min1 : Cond.static Lib.Math.min.name ∈ lw_good := inT_mem (i := 809) (by decide +kernel)
theorem jw_min2 : Cond.code Lib.Math.min.name Lib.Math.min.code 2 (some .int) ∈ lw_good := inT_mem (i := 810) (by decide +kernel)
theorem jw_abs1 : Cond.static Lib.Math.abs.name ∈ lw_good := inT_mem (i := 1119) (by decide +kernel)
theorem jw_abs2 : Cond.code Lib.Math.abs.name Lib.Math.abs.code 1 (some .int) ∈ lw_good := inT_mem (i := 1120) (by decide +kernel)
theorem jw_cpy1 : Cond.static arraycopyName ∈ lw_good := inT_mem (i := 858) (by decide +kernel)
theorem jw_cpy2 : Cond.native arraycopyName ∈ lw_good := inT_mem (i := 859) (by decide +kernel)
section JDK
variable {E : Ev0} {A : Nat → Prop} {l : Launch} {p : Program} {e : Env} {R : Room} {z : State} {m : MethodId} {args : Array Value} {below : List Frame} {meth : Method} {c : Code} {cc : ByteArray} {nL ow : Nat} {s0 : St} {Q : State → Prop} {pc : Nat} {L : Lc} {st : List V} {s : St}
def JOk (R : Room) (s s0 : St) (st : List V) : Prop := wt st ≤ 8 ∧ 4 ≤ R.frames ∧ 256 ≤ R.locals ∧ nx s - nx s0 ≤ R.cells ∧ sl s - sl s0 ≤ R.slots
theorem g_objInit {x : Int} {idx : Nat} (C : Cx E A p z m args c cc nL ow) (d : decode cc pc = .ok (.invokespecial idx, 3)) (ok : JOk R s s0 st) (hlk : Cond.methodLink (cn ow) idx Lib.objectInit ∈ lw_good) (h0 : x ≠ 0) (h : Go E A l p e R z m args below meth c nL s0 Q (pc + 3) L st s) : Go E A l p e R z m args below meth c nL s0 Q pc L ((1, x) :: st) s := fun H locs cells slots ls I => by
  obtain ⟨k1, k2, k3, k4, k5⟩ := ok
  obtain ⟨hx, hb, hml, hown, hts, -⟩ := id C
  have hty := I.ty
  rw [List.forall_mem_cons] at hty
  have e3 : mv E (1, x) = .ref (n0 E + x.toNat) := if_neg h0
  rw [List.map_cons, e3]
  exact W.objInit hx hb hown (hts _ hlk) (hts _ jw_obj1) (hts _ jw_obj2) rfl (by rw [hml]; exact I.2.2.2.1.1) rfl d (by omega) (by rw [wt_sum]; show 2 * 0 + _ + 12 ≤ _; omega) (h H locs cells slots ls (I.stk hty.2))
theorem max_i {x y : Int} (hx : rg x) (hy : rg y) : (if Int32.ofInt x < Int32.ofInt y then Int32.ofInt y else Int32.ofInt x) = Int32.ofInt (maxI x y) := by
  unfold maxI
  by_cases h : x < y
  · rw [if_pos ((i_lt hx hy).mpr h), if_pos h]
  · rw [if_neg (fun q => h ((i_lt hx hy).mp q)), if_neg h]
theorem min_i {x y : Int} (hx : rg x) (hy : rg y) : (if Int32.ofInt y < Int32.ofInt x then Int32.ofInt y else Int32.ofInt x) = Int32.ofInt (minI x y) := by
  unfold minI
  by_cases h : y < x
  · rw [if_pos ((i_lt hy hx).mpr h), if_pos h]
  · rw [if_neg (fun q => h ((i_lt hy hx).mp q)), if_neg h]
theorem abs_i {x : Int} (hx : rg x) : (if 0 ≤ Int32.ofInt x then Int32.ofInt x else 0 - Int32.ofInt x) = Int32.ofInt (wi (absI x)) := by
  unfold absI
  by_cases h : x < 0
  · rw [if_neg (fun q => by have := (i_le rg0 hx).mp q; omega), if_pos h, ← Int.zero_sub, ← i_sub]
    rfl
  · rw [if_pos (show (0 : Int32) ≤ Int32.ofInt x from (i_le rg0 hx).mpr (by omega)), if_neg h, wi_id hx]
theorem g_max {x y : Int} {idx : Nat} (C : Cx E A p z m args c cc nL ow) (d : decode cc pc = .ok (.invokestatic idx, 3)) (ok : JOk R s s0 st) (hlk : Cond.methodLink (cn ow) idx Lib.Math.max.name ∈ lw_good) (h : Go E A l p e R z m args below meth c nL s0 Q (pc + 3) L ((0, maxI x y) :: st) s) : Go E A l p e R z m args below meth c nL s0 Q pc L ((0, y) :: (0, x) :: st) s := fun H locs cells slots ls I => by
  obtain ⟨k1, k2, k3, k4, k5⟩ := ok
  obtain ⟨hx, hb, hml, hown, hts, -⟩ := id C
  have hty := I.ty
  rw [List.forall_mem_cons, List.forall_mem_cons] at hty
  have hc1 := I.2.2.2.2.2.2.2.1
  have hc2 := I.2.2.2.2.2.2.2.2
  refine va_mmax hx hb (by rw [hml]; exact I.2.2.2.1.1.symm) hown (hts _ hlk) (hts _ jw_max1) (hts _ jw_math) (hts _ jw_max2) (by omega) (by rw [wt_sum]; omega) (by omega) (by omega) d ?_
  rw [max_i hty.2.1 hty.1]
  refine h H locs cells slots ls (I.stk (List.forall_mem_cons.mpr ⟨?_, hty.2.2⟩))
  show rg (maxI x y)
  unfold maxI
  split
  · exact hty.1
  · exact hty.2.1
theorem g_min {x y : Int} {idx : Nat} (C : Cx E A p z m args c cc nL ow) (d : decode cc pc = .ok (.invokestatic idx, 3)) (ok : JOk R s s0 st) (hlk : Cond.methodLink (cn ow) idx Lib.Math.min.name ∈ lw_good) (h : Go E A l p e R z m args below meth c nL s0 Q (pc + 3) L ((0, minI x y) :: st) s) : Go E A l p e R z m args below meth c nL s0 Q pc L ((0, y) :: (0, x) :: st) s := fun H locs cells slots ls I => by
  obtain ⟨k1, k2, k3, k4, k5⟩ := ok
  obtain ⟨hx, hb, hml, hown, hts, -⟩ := id C
  have hty := I.ty
  rw [List.forall_mem_cons, List.forall_mem_cons] at hty
  have hc1 := I.2.2.2.2.2.2.2.1
  have hc2 := I.2.2.2.2.2.2.2.2
  refine va_mmin hx hb (by rw [hml]; exact I.2.2.2.1.1.symm) hown (hts _ hlk) (hts _ jw_min1) (hts _ jw_math) (hts _ jw_min2) (by omega) (by rw [wt_sum]; omega) (by omega) (by omega) d ?_
  rw [min_i hty.2.1 hty.1]
  refine h H locs cells slots ls (I.stk (List.forall_mem_cons.mpr ⟨?_, hty.2.2⟩))
  show rg (minI x y)
  unfold minI
  split
  · exact hty.1
  · exact hty.2.1
theorem g_abs {x : Int} {idx : Nat} (C : Cx E A p z m args c cc nL ow) (d : decode cc pc = .ok (.invokestatic idx, 3)) (ok : JOk R s s0 st) (hlk : Cond.methodLink (cn ow) idx Lib.Math.abs.name ∈ lw_good) (h : Go E A l p e R z m args below meth c nL s0 Q (pc + 3) L ((0, wi (absI x)) :: st) s) : Go E A l p e R z m args below meth c nL s0 Q pc L ((0, x) :: st) s := fun H locs cells slots ls I => by
  obtain ⟨k1, k2, k3, k4, k5⟩ := ok
  obtain ⟨hx, hb, hml, hown, hts, -⟩ := id C
  have hty := I.ty
  rw [List.forall_mem_cons] at hty
  have hc1 := I.2.2.2.2.2.2.2.1
  have hc2 := I.2.2.2.2.2.2.2.2
  refine va_mabs hx hb (by rw [hml]; exact I.2.2.2.1.1.symm) hown (hts _ hlk) (hts _ jw_abs1) (hts _ jw_math) (hts _ jw_abs2) (by omega) (by rw [wt_sum]; omega) (by omega) (by omega) d ?_
  rw [abs_i hty.1]
  exact h H locs cells slots ls (I.stk (List.forall_mem_cons.mpr ⟨rg_wi _, hty.2⟩))
theorem w_copy {H : Heap} {locs : List Loc} {cells slots : Nat} {ls : Array Slot} {rest : List Value} (hexec : p.tables.exec = Jvm.exec) (hb : c.code = cc) (hml : c.maxLocals = ls.size) {own : String} {index : Nat} (hown : z.vm.findClass own = some m.cls) (hlink : (Cond.methodLink own index arraycopyName).before args z = true) (hnat : (Cond.native arraycopyName).before args z = true) (hstat : (Cond.static arraycopyName).before args z = true) (hini : (Cond.initialized "java/lang/System").before args z = true)
    {a0 a : Nat} {c0 c1 : ClassId} {n0 n1 : Nat} {f g : Nat → Int32} (hc0 : H[a0]? = some (arrV c0 n0 (fun j => .int (f j)))) (hc1 : H[a]? = some (arrV c1 n1 (fun j => .int (g j)))) (ht0 : ArrOfT z c0 .int) (ht1 : ArrOfT z c1 .int)
    {sp dp n : Int32} (h1 : ¬ sp < 0) (h2 : ¬ dp < 0) (h3 : ¬ n < 0) (h4 : sp.toNatClampNeg + n.toNatClampNeg ≤ n0) (h5 : dp.toNatClampNeg + n.toNatClampNeg ≤ n1)
    (hframes : 1 ≤ R.frames) (hlocals : (rest.map fun v => v.category).sum + (nativeFrameWords "java/lang/System" "arraycopy" 5 + 11) ≤ R.locals) (hdg : decode cc pc = .ok (.invokestatic index, 3))
    (kk : ∀ (H1 : Heap) (locs1 : List Loc), H1[a]? = some (arrV c1 n1 (fun j => .int (va_cpy f g sp.toNatClampNeg dp.toNatClampNeg n.toNatClampNeg j))) → H1.size = H.size → (∀ q : Nat, q ≠ a → H1[q]? = H[q]?) → (∀ k ∈ locs1, k ∈ locs ∨ k.base = a) → W p l e R z m args below meth c H1 locs1 cells slots Q (F0 m (pc + 3) ls rest)) : W p l e R z m args below meth c H locs cells slots Q (F0 m pc ls (.int n :: .int dp :: .ref a :: .int sp :: .ref a0 :: rest)) := by
  have nn : ∀ z : Int32, ¬ z < 0 → z.toInt = (z.toNatClampNeg : Int) := by
    intro z hz
    have hz0 : (0 : Int) ≤ z.toInt := by
      have := Int32.not_lt.mp hz
      simpa using Int32.le_iff_toInt_le.mp this
    show z.toInt = ((z.toInt.toNat : Nat) : Int)
    omega
  intro T hT X
  obtain ⟨-, k0, hk0, cm0, hkk0⟩ := ht0 n0 (fun j => .int (f j))
  obtain ⟨-, k1, hk1, cm1, hkk1⟩ := ht1 n1 (fun j => .int (g j))
  obtain ⟨vm', X', step⟩ := X.arraycopy hexec hown hlink hnat hstat hini (src := a0) (dst := a) (cs := arrV c0 n0 (fun j => .int (f j))) (cd := arrV c1 n1 (fun j => .int (g j))) (srcPos := sp) (destPos := dp) (n := n) (by rw [hT]; exact hc0) (by rw [hT]; exact hc1)
    (fun _ h => by cases h) (fun _ h => by cases h) (fun h => by cases h) (fun h => by cases h) hk0 hk1 hkk0 hkk1 (by simp [refKind]) h1 h2 h3
    (by rw [nn sp h1, nn n h3, arrV_size]; omega)
    (by rw [nn dp h2, nn n h3, arrV_size]; omega)
    (fun vm₁ _ i hi => by
      have e : (arrV c0 n0 (fun j => .int (f j))).slots.getD (sp.toNatClampNeg + i) .null = .int (f (sp.toNatClampNeg + i)) := by
        rw [Array.getD_eq_getD_getElem?, arrV_read _ _ (by omega)]
        rfl
      refine ⟨?_, ?_⟩
      · rw [e]; rfl
      · rw [e]; exact trivial)
    (g := F0 m pc ls (.int n :: .int dp :: .ref a :: .int sp :: .ref a0 :: rest)) rfl (by rw [hml]) (rest := rest) rfl (by rw [hb]; exact hdg) hframes (by show 2 * 0 + _ + _ ≤ _; omega)
  have e1 : copied (arrV c0 n0 (fun j => .int (f j))) (arrV c1 n1 (fun j => .int (g j))) sp dp n = arrV c1 n1 (fun j => .int (va_cpy f g sp.toNatClampNeg dp.toNatClampNeg n.toNatClampNeg j)) := va_copied (fun z => .int z) c0 c1 f g h4
  rw [e1] at X' step
  have hl : a < H.size := (Array.getElem?_eq_some_iff.mp hc1).1
  obtain ⟨t, a1, b1⟩ := kk (H.setIfInBounds a (arrV c1 n1 (fun j => .int (va_cpy f g sp.toNatClampNeg dp.toNatClampNeg n.toNatClampNeg j)))) _ (by simp [Array.getElem?_setIfInBounds, hl]) (by simp) (fun q hq => by simp [Array.getElem?_setIfInBounds, Ne.symm hq]) (fun k hk => by
      rcases List.mem_append.mp hk with h | h
      · exact Or.inl h
      · obtain ⟨z, -, hz⟩ := List.mem_map.mp h
        rw [← hz]
        exact Or.inr rfl) _ (by rw [← hT]; rfl) X'
  exact ⟨t, step t a1, b1⟩
theorem cpL_len (f : List Int) (sp : Nat) (g : List Int) (dp n : Nat) (h1 : sp + n ≤ f.length) (h2 : dp + n ≤ g.length) : (cpL f sp g dp n).length = g.length := by
  simp [cpL]
  omega
theorem cpL_get (f : List Int) (sp : Nat) (g : List Int) (dp n j : Nat) (h1 : sp + n ≤ f.length) (h2 : dp + n ≤ g.length) : (cpL f sp g dp n).getD j 0 = if dp ≤ j ∧ j < dp + n then f.getD (sp + (j - dp)) 0 else g.getD j 0 := by
  unfold cpL
  simp only [List.getD_eq_getElem?_getD, List.getElem?_append, List.getElem?_take, List.getElem?_drop, List.length_append, List.length_take, List.length_drop]
  by_cases ha : j < dp
  · rw [if_pos (by omega), if_pos (by omega), if_pos ha, if_neg (by omega)]
  · by_cases hb : j < dp + n
    · rw [if_pos (by omega), if_neg (by omega), if_pos (by omega), if_pos (by omega)]
      congr 2
      omega
    · rw [if_neg (by omega), if_neg (by omega)]
      congr 2
      omega
theorem cpL_mem {f : List Int} {sp : Nat} {g : List Int} {dp n : Nat} {x : Int} (h : x ∈ cpL f sp g dp n) : x ∈ f ∨ x ∈ g := by
  unfold cpL at h
  rcases List.mem_append.mp h with h | h
  · rcases List.mem_append.mp h with h | h
    · exact Or.inr (List.mem_of_mem_take h)
    · exact Or.inl (List.mem_of_mem_drop (List.mem_of_mem_take h))
  · exact Or.inr (List.mem_of_mem_drop h)
theorem g_copy {x sp y dp n : Int} {idx : Nat} (C : Cx E A p z m args c cc nL ow) (d : decode cc pc = .ok (.invokestatic idx, 3)) (ok : JOk R s s0 st) (hlk : Cond.methodLink (cn ow) idx arraycopyName ∈ lw_good) (kx : kd s x = 20) (ky : kd s y = 20) (h1 : 0 ≤ sp) (h2 : 0 ≤ dp) (h3 : 0 ≤ n) (h4 : sp + n ≤ (gA s x).length) (h5 : dp + n ≤ (gA s y).length)
    (h : Go E A l p e R z m args below meth c nL s0 Q (pc + 3) L st (sA s y (cpL (gA s x) sp.toNat (gA s y) dp.toNat n.toNat))) : Go E A l p e R z m args below meth c nL s0 Q pc L ((0, n) :: (0, dp) :: (1, y) :: (0, sp) :: (1, x) :: st) s := fun H locs cells slots ls I => by
  obtain ⟨k1, k2, k3, k4, k5⟩ := ok
  obtain ⟨hx, hb, hml, hown, hts, hK, -⟩ := id C
  have hty := I.ty
  rw [List.forall_mem_cons, List.forall_mem_cons, List.forall_mem_cons, List.forall_mem_cons, List.forall_mem_cons] at hty
  obtain ⟨tn, td, -, tp, -, hty⟩ := hty
  have tn : rg n := tn
  have td : rg dp := td
  have tp : rg sp := tp
  obtain ⟨g1, g2, g3⟩ := I.1.arr kx (by omega) (by omega)
  obtain ⟨f1, f2, f3⟩ := I.1.arr ky (by omega) (by omega)
  have ex : mv E (1, x) = .ref (n0 E + x.toNat) := (I.1.pos (p := x) (by omega)).2.2
  have ey : mv E (1, y) = .ref (n0 E + y.toNat) := (I.1.pos (p := y) (by omega)).2.2
  have kyn : kd s y ≠ 0 := by omega
  have hAr := (hK.2 0 _ (ty_get E (t := 20) (by omega) (by omega))).1
  have hnw : nativeFrameWords "java/lang/System" "arraycopy" 5 ≤ 100 := by decide
  have nlt : ∀ {w : Int}, rg w → 0 ≤ w → ¬ Int32.ofInt w < 0 := fun hw h0 q => by
    rw [show (0 : Int32) = Int32.ofInt 0 from rfl, i_lt hw rg0] at q
    omega
  rw [List.map_cons, List.map_cons, List.map_cons, List.map_cons, List.map_cons, ex, ey]
  refine w_copy (f := fun j => Int32.ofInt ((gA s x).getD j 0)) (g := fun j => Int32.ofInt ((gA s y).getD j 0)) hx hb (by rw [hml]; exact I.2.2.2.1.1.symm) hown (hts _ hlk) (hts _ jw_cpy2) (hts _ jw_cpy1) (hts _ jw_sys) g1 f1 hAr hAr (nlt tp h1) (nlt td h2) (nlt tn h3) (by rw [i_clamp h1 tp, i_clamp h3 tn]; omega) (by rw [i_clamp h2 td, i_clamp h3 tn]; omega) (by omega) (by rw [wt_sum]; omega) d (fun H1 locs1 e1 z1 o1 l1 => ?_)
  rw [i_clamp h1 tp, i_clamp h2 td, i_clamp h3 tn] at e1
  have hlen := cpL_len (gA s x) sp.toNat (gA s y) dp.toNat n.toNat (by omega) (by omega)
  have hh : hp E (sA s y (cpL (gA s x) sp.toNat (gA s y) dp.toNat n.toNat)) H1 := by
    refine I.1.ast ky (by omega) (by omega) (fun w hw => ?_) (by rw [hlen]; exact f3) ?_ z1 o1
    · rcases cpL_mem hw with q | q
      · exact g2 w q
      · exact f2 w q
    · rw [e1, hlen]
      congr 2
      funext j
      show _ = Value.int (Int32.ofInt ((cpL (gA s x) sp.toNat (gA s y) dp.toNat n.toNat).getD j 0))
      rw [cpL_get _ _ _ _ _ _ (by omega) (by omega)]
      unfold va_cpy
      by_cases hj : dp.toNat ≤ j ∧ j < dp.toNat + n.toNat
      · rw [if_pos hj, if_pos hj]
      · rw [if_neg hj, if_neg hj]
  have hS := I.2.1
  refine h H1 locs1 cells slots ls ⟨hh, ⟨by rw [z1]; exact hS.1, fun q q1 q2 => ?_, fun k hk => ?_⟩, I.2.2.1, I.2.2.2.1, I.2.2.2.2.1, hty, I.2.2.2.2.2.2⟩
  · rw [o1 q (fun eq => q2 (by rw [eq]; exact I.2.2.1 y kyn))]
    exact hS.2.1 q q1 q2
  · rcases l1 k hk with q | q
    · exact hS.2.2 k q
    · rw [q]; exact I.2.2.1 y kyn
/-- the texts: what a length and a letter are -/
theorem nI_int {k : Int} (h0 : 0 ≤ k) : nI k.toNat = Int32.ofInt k := by
  show Int32.ofNat k.toNat = Int32.ofInt k
  obtain ⟨n, rfl⟩ := Int.eq_ofNat_of_zero_le h0
  rfl
def stV (i j : Nat) : Int32 := ((strL.map fun q => q.map Int32.ofInt).getD i []).getD j 0
def stB (i j : Nat) : Bool := decide (((stV i j &&& 255).toUInt32 % 65536).toInt32 = stV i j) && decide (narrow .char (.int (stV i j)) = .int (stV i j)) && decide (stV i j = Int32.ofInt ((strL.getD i []).getD j 0)) && decide (0 ≤ (strL.getD i []).getD j 0) && decide ((strL.getD i []).getD j 0 < 65536)
theorem st_0 : ((List.range 62).all fun j => stB 0 j) = true := by decide +kernel
theorem st_1 : ((List.range 65).all fun j => stB 1 j) = true := by decide +kernel
theorem st_all {i j : Nat} (hi : i < 2) (hj : j < (strL.map List.length).getD i 0) : stB i j = true := by
  rcases (show i = 0 ∨ i = 1 by omega) with rfl | rfl
  · exact List.all_eq_true.mp st_0 j (List.mem_range.mpr hj)
  · exact List.all_eq_true.mp st_1 j (List.mem_range.mpr hj)
theorem st_len {x : Int} (h : 0 ≤ x ∧ x < 2) : nI ((strL.map List.length).getD x.toNat 0) = Int32.ofInt (strLen x) ∧ rg (strLen x) ∧ strLen x = ((strL.map List.length).getD x.toNat 0 : Nat) ∧ (strL.map List.length).getD x.toNat 0 < 2 ^ 31 := by
  rcases (show x = 0 ∨ x = 1 by omega) with rfl | rfl
  · exact ⟨rfl, by unfold rg; decide, rfl, by decide⟩
  · exact ⟨rfl, by unfold rg; decide, rfl, by decide⟩
theorem txt_pre (C : Cx E A p z m args c cc nL ow) {stq : List V} {H : Heap} {locs : List Loc} {cells slots : Nat} {ls : Array Slot} (I : Inv E A z s0 nL s L stq H locs cells slots ls) {i : Nat} (hi : i < 2) : ∀ U : State, U.heap = H → z.WarmedH U.vm → ZC E U ∧ OFc E (E.2.2.2.1 i) U ∧ OFv E (E.2.2.2.1 i) (E.2.2.2.2 i) U ∧ va_O "java/lang/String" (E.2.2.2.1 i) (aN E) U U.heap ∧ va_T .byte (E.2.2.2.2 i) ((strL.map List.length).getD i 0) (fun j => .int (stV i j)) (aN E) U U.heap ∧ ZQ E U := by
  intro U hU hW
  obtain ⟨-, -, h5, -, -, h8, h9⟩ := (pre_of C I U hU hW).2.2.1
  obtain ⟨q1, q2, q3, q4⟩ := h5.1 i hi
  exact ⟨h8, q2, q3, q1, q4, h9⟩
theorem txt_recv (C : Cx E A p z m args c cc nL ow) {stq : List V} {H : Heap} {locs : List Loc} {cells slots : Nat} {ls : Array Slot} (I : Inv E A z s0 nL s L stq H locs cells slots ls) {i : Nat} (hi : i < 2) : ∃ cell : Cell, H[E.2.2.2.1 i]? = some cell ∧ cell.vm.isStatics = false ∧ z.vm.findClass "java/lang/String" = some cell.cls := by
  obtain ⟨-, -, h5, -⟩ := C.2.2.2.2.2.2.1
  obtain ⟨cell, h1, h2, h3, -⟩ := (h5.1 i hi).1.kept (fun a h1 h2 => I.2.1.2.1 a h1 (fun q => h2 (C.2.2.2.2.2.2.2.2.1 a q)))
  exact ⟨cell, h1, h2, h3⟩
theorem g_strLen {x : Int} {idx : Nat} (C : Cx E A p z m args c cc nL ow) (d : decode cc pc = .ok (.invokevirtual idx, 3)) (ok : JOk R s s0 st) (hlk : Cond.methodLink (cn ow) idx yJ0_length_8abf5 ∈ lw_good) (h : Go E A l p e R z m args below meth c nL s0 Q (pc + 3) L ((0, strLen x) :: st) s) : Go E A l p e R z m args below meth c nL s0 Q pc L ((3, x) :: st) s := fun H locs cells slots ls I => by
  obtain ⟨k1, k2, k3, k4, k5⟩ := ok
  obtain ⟨hx, hb, hml, hown, hts, -⟩ := id C
  have hty := I.ty
  rw [List.forall_mem_cons] at hty
  have hx2 : 0 ≤ x ∧ x < 2 := hty.1
  have hi : x.toNat < 2 := by omega
  have hc1 := I.2.2.2.2.2.2.2.1
  have hc2 := I.2.2.2.2.2.2.2.2
  obtain ⟨e1, e2, e3, e4⟩ := st_len hx2
  have hgo := h H locs cells slots ls (I.stk (List.forall_mem_cons.mpr ⟨e2, hty.2⟩))
  have e5 : ((0, strLen x) :: st).map (mv E) = .int (nI ((strL.map List.length).getD x.toNat 0)) :: st.map (mv E) := by
    rw [e1]
    rfl
  rw [e5] at hgo
  refine W.callR (W.runV (C := "java/lang/String") (As := []) (rest := st.map (mv E)) ⟨hx, hb, hml, hown, hts⟩ (jp_le l E (E.2.2.2.1 x.toNat) (E.2.2.2.2 x.toNat) _ (fun j => .int (stV x.toNat j))) ⟨callB_of (ws' := lw_good) 0 hts (wsK_good jc_le) rfl rfl rfl (hts _ jl_7) (hts _ hlk) (by decide +kernel) ⟨Nat.le_trans (Nat.le_of_ble_eq_true rfl) k2, Nat.le_trans (Nat.le_of_ble_eq_true rfl) k3⟩, hts _ jl_20, hts _ jl_21⟩ ⟨fun a U g mk h => ⟨h.1, ZC.same (T := U.calling g mk a) h.2.1 (Vm.Alike.refl _) rfl, OFc.same (T := U.calling g mk a) h.2.2.1 (Vm.Alike.refl _) rfl, va_OF.moved (u := U) (Vm.Alike.refl _) h.2.2.2.1, va_O.moved (u := U) (Vm.Alike.refl _) h.2.2.2.2.1, va_Tsame (T := U.calling g mk a) h.2.2.2.2.2 (Vm.Alike.refl _) rfl⟩, txt_recv C I hi, fun U hU hW => ?_⟩ rfl rfl I.2.2.2.1.1 rfl (by rw [wt_sum]; show 2 * 0 + _ ≤ 8; omega) d ⟨by omega, by omega⟩) hgo
  obtain ⟨a1, a2, a3, a4, a5, -⟩ := txt_pre C I hi U hU hW
  exact ⟨rfl, a1, a2, a3, a4, a5⟩
theorem g_strCh {x k : Int} {idx : Nat} (C : Cx E A p z m args c cc nL ow) (d : decode cc pc = .ok (.invokevirtual idx, 3)) (ok : JOk R s s0 st) (hlk : Cond.methodLink (cn ow) idx yJ0_charAt_5068e ∈ lw_good) (k0 : 0 ≤ k) (k1 : k < strLen x) (h : Go E A l p e R z m args below meth c nL s0 Q (pc + 3) L ((0, strCh x k) :: st) s) : Go E A l p e R z m args below meth c nL s0 Q pc L ((0, k) :: (3, x) :: st) s := fun H locs cells slots ls I => by
  obtain ⟨q1, q2, q3, q4, q5⟩ := ok
  obtain ⟨hx, hb, hml, hown, hts, -⟩ := id C
  have hty := I.ty
  rw [List.forall_mem_cons, List.forall_mem_cons] at hty
  have hx2 : 0 ≤ x ∧ x < 2 := hty.2.1
  have hi : x.toNat < 2 := by omega
  have hc1 := I.2.2.2.2.2.2.2.1
  have hc2 := I.2.2.2.2.2.2.2.2
  obtain ⟨e1, e2, e3, e4⟩ := st_len hx2
  have hj : k.toNat < (strL.map List.length).getD x.toNat 0 := by omega
  have hB := st_all hi hj
  unfold stB at hB
  simp only [Bool.and_eq_true, decide_eq_true_eq] at hB
  obtain ⟨⟨⟨⟨b1, b2⟩, b3⟩, b4⟩, b5⟩ := hB
  have hgo := h H locs cells slots ls (I.stk (List.forall_mem_cons.mpr ⟨show rg (strCh x k) from ⟨by unfold strCh; omega, by unfold strCh; omega⟩, hty.2.2⟩))
  have e5 : ((0, strCh x k) :: st).map (mv E) = .int (stV x.toNat k.toNat) :: st.map (mv E) := by
    rw [b3]
    rfl
  rw [e5] at hgo
  have e6 : ((0, k) :: (3, x) :: st).map (mv E) = .int (nI k.toNat) :: .ref (E.2.2.2.1 x.toNat) :: st.map (mv E) := by
    rw [nI_int k0]
    rfl
  rw [e6]
  refine W.callR (W.runV (C := "java/lang/String") (As := [.int (nI k.toNat)]) (rest := st.map (mv E)) ⟨hx, hb, hml, hown, hts⟩ (jp_ch l E (E.2.2.2.1 x.toNat) (E.2.2.2.2 x.toNat) _ (fun j => .int (stV x.toNat j)) k.toNat (stV x.toNat k.toNat) e4 hj rfl b1 b2) ⟨callB_of (ws' := lw_good) 1 hts (wsK_good jc_ch) rfl rfl rfl (hts _ jl_7) (hts _ hlk) (by decide +kernel) ⟨Nat.le_trans (Nat.le_of_ble_eq_true rfl) q2, Nat.le_trans (Nat.le_of_ble_eq_true rfl) q3⟩, hts _ jl_22, hts _ jl_23⟩ ⟨fun a U g mk h => ⟨h.1, ZC.same (T := U.calling g mk a) h.2.1 (Vm.Alike.refl _) rfl, OFc.same (T := U.calling g mk a) h.2.2.1 (Vm.Alike.refl _) rfl, va_OF.moved (u := U) (Vm.Alike.refl _) h.2.2.2.1, va_O.moved (u := U) (Vm.Alike.refl _) h.2.2.2.2.1, va_Tsame (T := U.calling g mk a) h.2.2.2.2.2.1 (Vm.Alike.refl _) rfl, ZQ.same (T := U.calling g mk a) h.2.2.2.2.2.2 (Vm.Alike.refl _) rfl⟩, txt_recv C I hi, fun U hU hW => ⟨rfl, txt_pre C I hi U hU hW⟩⟩ rfl rfl I.2.2.2.1.1 rfl (by rw [wt_sum]; show 2 * 0 + _ ≤ 8; omega) d ⟨by omega, by omega⟩) hgo
end JDK
