/-! ===== the JDK's own text methods, over the two text constants ===== -/
def aN (E : Ev0) : Nat → Prop := fun q => n0 E < q
def tI (i : Int) : Nat := i.toNat
abbrev QcVoid : Array Value → State → Outcome → State → Prop := fun _ st o t => o = .returned none ∧ t.heap = st.heap
def wsK (y : MethodName) (b : ByteArray) (n : Nat) (r : Option FieldType) : List Cond := Cond.code y b n r :: lw_good
theorem wsK_good {y : MethodName} {b : ByteArray} {n : Nat} {r : Option FieldType} (h : Cond.code y b n r ∈ lw_good) : GoodIn lw_good (wsK y b n r) := by
  intro w hw
  have hm : w ∈ lw_good := by
    rcases List.mem_cons.mp hw with rfl | hw
    · exact h
    · exact hw
  exact ⟨hm, lw_good_good w hm⟩
theorem dq_pc0 : decode cJ3_checkIndex_8e157 0 = .ok (.iload_n 0, 1) := by decide +kernel
theorem dq_pc1 : decode cJ3_checkIndex_8e157 1 = .ok (.ifCond .lt 8, 3) := by decide +kernel
theorem dq_pc4 : decode cJ3_checkIndex_8e157 4 = .ok (.iload_n 0, 1) := by decide +kernel
theorem dq_pc5 : decode cJ3_checkIndex_8e157 5 = .ok (.iload_n 1, 1) := by decide +kernel
theorem dq_pc6 : decode cJ3_checkIndex_8e157 6 = .ok (.if_icmp .lt 10, 3) := by decide +kernel
theorem dq_pc16 : decode cJ3_checkIndex_8e157 16 = .ok (.iload_n 0, 1) := by decide +kernel
theorem dq_pc17 : decode cJ3_checkIndex_8e157 17 = .ok (.ireturn, 1) := by decide +kernel
set_option maxRecDepth 100000 in
theorem jc_pre : Cond.code yJ3_checkIndex_8e157 cJ3_checkIndex_8e157 3 (some .int) ∈ lw_good := cw_mem (i := 784) rfl
set_option maxRecDepth 100000 in
theorem jc_ci : Cond.code yJ0_checkIndex_df160 cJ0_checkIndex_df160 2 none ∈ lw_good := cw_mem (i := 779) rfl
set_option maxRecDepth 100000 in
theorem jc_l1 : Cond.code yJ1_charAt_3b067 cJ1_charAt_3b067 2 (some .char) ∈ lw_good := cw_mem (i := 776) rfl
set_option maxRecDepth 100000 in
theorem jc_il : Cond.code yJ0_isLatin1_aae02 cJ0_isLatin1_aae02 1 (some .boolean) ∈ lw_good := cw_mem (i := 773) rfl
set_option maxRecDepth 100000 in
theorem jc_co : Cond.code yJ0_coder_7d493 cJ0_coder_7d493 1 (some .byte) ∈ lw_good := cw_mem (i := 763) rfl
set_option maxRecDepth 100000 in
theorem jc_ch : Cond.code yJ0_charAt_5068e cJ0_charAt_5068e 2 (some .char) ∈ lw_good := cw_mem (i := 769) rfl
set_option maxRecDepth 100000 in
theorem jc_le : Cond.code yJ0_length_8abf5 cJ0_length_8abf5 1 (some .int) ∈ lw_good := cw_mem (i := 759) rfl
theorem jp_pre (l : Launch) (i n : Int32) (w : Value) (hw : w.category = 1) (h0 : ¬ i < 0) (h1 : i < n) : Met l yJ3_checkIndex_8e157 (wsK yJ3_checkIndex_8e157 cJ3_checkIndex_8e157 3 (some .int)) (k2_rm 0 0) (va_Pc [.int i, .int n, w] (fun _ => True)) (QcRead i) 0 0 (fun _ => False) := by
  refine Met.ofW (cc := cJ3_checkIndex_8e157) (maxL := 3) (ret := some .int) (ws' := lw_good) (by decide) rfl ?_
  intro p e s m args below meth c s₁ B hml hv
  obtain ⟨rfl, -⟩ := hv
  have hx := B.exec
  have hb := B.bytes
  have hr := B.returns
  have hlocks := B.notSynchronized
  have hl := lv_entry ([.int i, .int n, w]) (n := 3) (by unfold lg_sl; rw [List.flatMap_cons, List.flatMap_cons, List.flatMap_cons, List.flatMap_nil, hw]; exact Nat.le_of_ble_eq_true rfl)
  rw [lg_entry_eq]
  have hl0 := lv_at hl 0 rfl
  have hl1 := lv_at hl 1 rfl
  refine lv_iload_n hx hb dq_pc0 rfl hl0 ?_
  refine lv_if_lt (tgt := 9) hx hb dq_pc1 (by decide) (fun q => absurd q h0) (fun _ => ?_)
  refine lv_iload_n hx hb dq_pc4 rfl hl0 ?_
  refine lv_iload_n hx hb dq_pc5 rfl hl1 ?_
  refine lv_icmp_lt (tgt := 16) hx hb dq_pc6 (by decide) (fun _ => ?_) (fun q => absurd h1 q)
  refine lv_iload_n hx hb dq_pc16 rfl hl0 ?_
  exact W.iret hx hb hr (fun t ht _ => ⟨rfl, ht⟩) (fun q hq => by cases hq) dq_pc17
theorem dq_ci0 : decode cJ0_checkIndex_df160 0 = .ok (.iload_n 0, 1) := by decide +kernel
theorem dq_ci1 : decode cJ0_checkIndex_df160 1 = .ok (.iload_n 1, 1) := by decide +kernel
theorem dq_ci2 : decode cJ0_checkIndex_df160 2 = .ok (.getstatic 1053, 3) := by decide +kernel
theorem dq_ci5 : decode cJ0_checkIndex_df160 5 = .ok (.invokestatic 1059, 3) := by decide +kernel
theorem dq_ci8 : decode cJ0_checkIndex_df160 8 = .ok (.pop, 1) := by decide +kernel
theorem dq_ci9 : decode cJ0_checkIndex_df160 9 = .ok (.return_, 1) := by decide +kernel
theorem jl_1 : Cond.fieldLink "java/lang/String" 1053 "jdk/internal/util/Preconditions" "SIOOBE_FORMATTER" "Ljava/util/function/BiFunction;" ∈ lw_good := inT_mem (i := 780) (by decide +kernel)
theorem jl_2 : Cond.methodLink "java/lang/String" 1059 yJ3_checkIndex_8e157 ∈ lw_good := inT_mem (i := 782) (by decide +kernel)
theorem jl_3 : Cond.static yJ3_checkIndex_8e157 ∈ lw_good := inT_mem (i := 783) (by decide +kernel)
theorem jl_4 : Cond.initialized "jdk/internal/util/Preconditions" ∈ lw_good := inT_mem (i := 126) (by decide +kernel)
theorem jl_5 : Cond.methodLink "java/lang/StringLatin1" 9 yJ0_checkIndex_df160 ∈ lw_good := inT_mem (i := 777) (by decide +kernel)
theorem jl_6 : Cond.static yJ0_checkIndex_df160 ∈ lw_good := inT_mem (i := 778) (by decide +kernel)
theorem jl_7 : Cond.initialized "java/lang/String" ∈ lw_good := inT_mem (i := 124) (by decide +kernel)
theorem jl_8 : Cond.initialized "java/lang/StringLatin1" ∈ lw_good := inT_mem (i := 125) (by decide +kernel)
theorem jl_9 : Cond.methodLink "java/lang/String" 495 yJ1_charAt_3b067 ∈ lw_good := inT_mem (i := 774) (by decide +kernel)
theorem jl_10 : Cond.static yJ1_charAt_3b067 ∈ lw_good := inT_mem (i := 775) (by decide +kernel)
theorem jl_11 : Cond.fieldLink "java/lang/String" 38 "java/lang/String" "COMPACT_STRINGS" "Z" ∈ lw_good := inT_mem (i := 764) (by decide +kernel)
theorem jl_12 : Cond.fieldLink "java/lang/String" 9 "java/lang/String" "value" "[B" ∈ lw_good := inT_mem (i := 1982) (by decide +kernel)
theorem jl_13 : Cond.fieldLink "java/lang/String" 15 "java/lang/String" "coder" "B" ∈ lw_good := inT_mem (i := 1983) (by decide +kernel)
theorem jl_14 : Cond.methodLink "java/lang/String" 492 yJ0_isLatin1_aae02 ∈ lw_good := inT_mem (i := 770) (by decide +kernel)
theorem jl_15 : Cond.instanceMethod yJ0_isLatin1_aae02 ∈ lw_good := inT_mem (i := 771) (by decide +kernel)
theorem jl_16 : Cond.selects "java/lang/String" yJ0_isLatin1_aae02 yJ0_isLatin1_aae02 ∈ lw_good := inT_mem (i := 772) (by decide +kernel)
theorem jl_17 : Cond.methodLink "java/lang/String" 335 yJ0_coder_7d493 ∈ lw_good := inT_mem (i := 760) (by decide +kernel)
theorem jl_18 : Cond.instanceMethod yJ0_coder_7d493 ∈ lw_good := inT_mem (i := 761) (by decide +kernel)
theorem jl_19 : Cond.selects "java/lang/String" yJ0_coder_7d493 yJ0_coder_7d493 ∈ lw_good := inT_mem (i := 762) (by decide +kernel)
theorem jl_20 : Cond.instanceMethod yJ0_length_8abf5 ∈ lw_good := inT_mem (i := 757) (by decide +kernel)
theorem jl_21 : Cond.selects "java/lang/String" yJ0_length_8abf5 yJ0_length_8abf5 ∈ lw_good := inT_mem (i := 758) (by decide +kernel)
theorem jl_22 : Cond.instanceMethod yJ0_charAt_5068e ∈ lw_good := inT_mem (i := 767) (by decide +kernel)
theorem jl_23 : Cond.selects "java/lang/String" yJ0_charAt_5068e yJ0_charAt_5068e ∈ lw_good := inT_mem (i := 768) (by decide +kernel)
abbrev ZQ (E : Ev0) (U : State) : Prop := va_Zq "jdk/internal/util/Preconditions" "SIOOBE_FORMATTER" "Ljava/util/function/BiFunction;" (aN E) U U.heap
abbrev ZC (E : Ev0) (U : State) : Prop := va_Z "java/lang/String" "COMPACT_STRINGS" "Z" (.int 1) (aN E) U U.heap
theorem ZQ.same {E : Ev0} {U T : State} (h : ZQ E U) (ha : U.vm.Alike T.vm) (hh : T.heap = U.heap) : ZQ E T := by
  unfold ZQ
  rw [hh]
  exact h.moved ha
theorem ZC.same {E : Ev0} {U T : State} (h : ZC E U) (ha : U.vm.Alike T.vm) (hh : T.heap = U.heap) : ZC E T := by
  unfold ZC
  rw [hh]
  exact h.moved ha
theorem jp_ci (l : Launch) (E : Ev0) (i n : Int32) (h0 : ¬ i < 0) (h1 : i < n) : Met l yJ0_checkIndex_df160 (wsK yJ0_checkIndex_df160 cJ0_checkIndex_df160 2 none) (k2_rm 1 22) (va_Pc [.int i, .int n] (ZQ E)) QcVoid 0 0 (fun _ => False) := by
  refine Met.ofW (cc := cJ0_checkIndex_df160) (maxL := 2) (ret := none) (ws' := lw_good) (by decide) rfl ?_
  intro p e s m args below meth c s₁ B hml hv
  obtain ⟨rfl, hZ⟩ := hv
  have hx := B.exec
  have hb := B.bytes
  have hr := B.returns
  have hlocks := B.notSynchronized
  have hts0 := atoms_spec (ws := wsK yJ0_checkIndex_df160 cJ0_checkIndex_df160 2 none) B.pre
  have hts : ∀ w ∈ lw_good, w.before _ s = true := fun w hw => hts0 w (List.mem_cons_of_mem _ hw)
  have hown : s.vm.findClass "java/lang/String" = some m.cls := findClass_of_methodNamed B.named
  have hl := lv_entry ([.int i, .int n]) (n := 2) (Nat.le_of_ble_eq_true rfl)
  rw [lg_entry_eq]
  have hl0 := lv_at hl 0 rfl
  have hl1 := lv_at hl 1 rfl
  refine lv_iload_n hx hb dq_ci0 rfl hl0 ?_
  refine lv_iload_n hx hb dq_ci1 rfl hl1 ?_
  have go : ∀ w : Value, w.category = 1 → va_Z "jdk/internal/util/Preconditions" "SIOOBE_FORMATTER" "Ljava/util/function/BiFunction;" w (aN E) s s.heap → W p l e (headSpec (wsK yJ0_checkIndex_df160 cJ0_checkIndex_df160 2 none) (k2_rm 1 22)).room s m ([Value.int i, Value.int n].toArray) below meth c s.heap [] 0 0 (MQ below QcVoid ([Value.int i, Value.int n].toArray) s 0 0 (fun _ => False)) (F0 m 2 ((lg_sl [Value.int i, Value.int n] ++ List.replicate (2 - (lg_sl [Value.int i, Value.int n]).length) Slot.unset).toArray) [.int n, .int i]) := by
    intro w hw hZ
    refine va_gets hx hb hZ va_S.rf hown (hts _ jl_1) (fun _ h => h) dq_ci2 ?_
    refine W.callR (W.runS (As := [.int i, .int n, w]) (rest := []) ⟨hx, hb, hml, hown, hts⟩ (jp_pre l i n w hw h0 h1) ⟨callB_of (ws' := lw_good) 3 hts (wsK_good jc_pre) rfl rfl rfl (hts _ jl_4) (hts _ jl_2) (by decide +kernel) ⟨Nat.le_of_ble_eq_true rfl, Nat.le_of_ble_eq_true rfl⟩, hts _ jl_3⟩ ⟨fun a U g mk q => ⟨q.1, trivial⟩, fun U _ _ => ⟨rfl, trivial⟩⟩ rfl rfl hl.1 rfl (Nat.le_of_ble_eq_true rfl) dq_ci5 ⟨Nat.zero_le _, Nat.zero_le _⟩) ?_
    refine lv_pop hx hb dq_ci8 rfl ?_
    exact W.vret hx hb hr (fun t ht _ => ⟨rfl, ht⟩) (fun q hq => by cases hq) dq_ci9
  rcases hZ with hZ | ⟨t, hZ⟩
  · exact go _ rfl hZ
  · exact go _ rfl hZ
theorem dq_l0 : decode cJ1_charAt_3b067 0 = .ok (.iload_n 1, 1) := by decide +kernel
theorem dq_l1 : decode cJ1_charAt_3b067 1 = .ok (.aload_n 0, 1) := by decide +kernel
theorem dq_l2 : decode cJ1_charAt_3b067 2 = .ok (.arraylength, 1) := by decide +kernel
theorem dq_l3 : decode cJ1_charAt_3b067 3 = .ok (.invokestatic 9, 3) := by decide +kernel
theorem dq_l6 : decode cJ1_charAt_3b067 6 = .ok (.aload_n 0, 1) := by decide +kernel
theorem dq_l7 : decode cJ1_charAt_3b067 7 = .ok (.iload_n 1, 1) := by decide +kernel
theorem dq_l8 : decode cJ1_charAt_3b067 8 = .ok (.baload, 1) := by decide +kernel
theorem dq_l9 : decode cJ1_charAt_3b067 9 = .ok (.sipush 255, 3) := by decide +kernel
theorem dq_l12 : decode cJ1_charAt_3b067 12 = .ok (.iand, 1) := by decide +kernel
theorem dq_l13 : decode cJ1_charAt_3b067 13 = .ok (.i2c, 1) := by decide +kernel
theorem dq_l14 : decode cJ1_charAt_3b067 14 = .ok (.ireturn, 1) := by decide +kernel
/-- the bytes of a text: small letters and blanks alone -/
theorem jp_l1 (l : Launch) (E : Ev0) (t N : Nat) (f : Nat → Value) (i : Nat) (v : Int32) (hN : N < 2 ^ 31) (hi : i < N) (hf : f i = .int v) (hv : ((v &&& 255).toUInt32 % 65536).toInt32 = v) (hn : narrow .char (.int v) = .int v) : Met l yJ1_charAt_3b067 (wsK yJ1_charAt_3b067 cJ1_charAt_3b067 2 (some .char)) (k2_rm 2 43) (va_Pc [.ref t, .int (nI i)] (fun U => ZQ E U ∧ va_T .byte t N f (aN E) U U.heap)) (QcRead v) 0 0 (fun _ => False) := by
  refine Met.ofW (cc := cJ1_charAt_3b067) (maxL := 2) (ret := some .char) (ws' := lw_good) (by decide) rfl ?_
  intro p e s m args below meth c s₁ B hml hv0
  obtain ⟨rfl, hZ, hT⟩ := hv0
  have hx := B.exec
  have hb := B.bytes
  have hr := B.returns
  have hlocks := B.notSynchronized
  have hts0 := atoms_spec (ws := wsK yJ1_charAt_3b067 cJ1_charAt_3b067 2 (some .char)) B.pre
  have hts : ∀ w ∈ lw_good, w.before _ s = true := fun w hw => hts0 w (List.mem_cons_of_mem _ hw)
  have hown : s.vm.findClass "java/lang/StringLatin1" = some m.cls := findClass_of_methodNamed B.named
  have hl := lv_entry ([.ref t, .int (nI i)]) (n := 2) (Nat.le_of_ble_eq_true rfl)
  rw [lg_entry_eq]
  have hl0 := lv_at hl 0 rfl
  have hl1 := lv_at hl 1 rfl
  obtain ⟨cell, g1, g2, g3, g4, g5, g6, g7⟩ := id hT
  refine lv_iload_n hx hb dq_l0 rfl hl1 ?_
  refine lv_aload_n hx hb dq_l1 rfl hl0 ?_
  refine W.alen (n := nI N) hx hb g1 g2 g5 rfl rfl dq_l2 ?_
  refine W.callX (W.runS (As := [.int (nI i), .int (nI N)]) (rest := []) ⟨hx, hb, hml, hown, hts⟩ (jp_ci l E (nI i) (nI N) (nI_pos (by omega)) (nI_lt hi hN)) ⟨callB_of (ws' := lw_good) 2 hts (wsK_good jc_ci) rfl rfl rfl (hts _ jl_7) (hts _ jl_5) (by decide +kernel) ⟨Nat.le_of_ble_eq_true rfl, Nat.le_of_ble_eq_true rfl⟩, hts _ jl_6⟩ ⟨fun a U g mk q => ⟨q.1, ZQ.same (T := U.calling g mk a) q.2 (Vm.Alike.refl _) rfl⟩, fun U hU hW => ⟨rfl, ZQ.same hZ hW.alike hU⟩⟩ rfl rfl hl.1 rfl (Nat.le_of_ble_eq_true rfl) dq_l3 ⟨Nat.zero_le _, Nat.zero_le _⟩) (fun _ h => h.elim) (fun v' st₀ t' e0 e1 => ?_)
  obtain ⟨e1, e2⟩ := e1
  have e3 : v' = none := Outcome.returned.inj e1
  subst e3
  rw [e2, e0]
  refine lv_aload_n hx hb dq_l6 rfl hl0 ?_
  refine lv_iload_n hx hb dq_l7 rfl hl1 ?_
  have hc : (nI i).toNatClampNeg = i := nI_clamp (by omega)
  refine W.bald (v := .int v) hx hb g1 g2 g3 (by rw [hc]; rintro (q | q); exact nI_pos (by omega) q; omega) (by rw [hc, g6 i hi, hf]) rfl rfl dq_l8 ?_
  refine lv_sipush (v := 255) hx hb dq_l9 (by decide) ?_
  refine lv_iand hx hb dq_l12 ?_
  refine lv_i2c (v := v) hx hb dq_l13 hv ?_
  exact W.zret hx hb hr hn (fun t ht _ => ⟨rfl, ht⟩) (fun q hq => by cases hq) dq_l14
theorem dq_co0 : decode cJ0_coder_7d493 0 = .ok (.getstatic 38, 3) := by decide +kernel
theorem dq_co3 : decode cJ0_coder_7d493 3 = .ok (.ifCond .eq 10, 3) := by decide +kernel
theorem dq_co6 : decode cJ0_coder_7d493 6 = .ok (.aload_n 0, 1) := by decide +kernel
theorem dq_co7 : decode cJ0_coder_7d493 7 = .ok (.getfield 15, 3) := by decide +kernel
theorem dq_co10 : decode cJ0_coder_7d493 10 = .ok (.goto 4, 3) := by decide +kernel
theorem dq_co14 : decode cJ0_coder_7d493 14 = .ok (.ireturn, 1) := by decide +kernel
abbrev OFc (E : Ev0) (q : Nat) (U : State) : Prop := va_OF "java/lang/String" "coder" "B" (.int 0) q (aN E) U U.heap
abbrev OFv (E : Ev0) (q v : Nat) (U : State) : Prop := va_OF "java/lang/String" "value" "[B" (.ref v) q (aN E) U U.heap
theorem jp_co (l : Launch) (E : Ev0) (q : Nat) : Met l yJ0_coder_7d493 (wsK yJ0_coder_7d493 cJ0_coder_7d493 1 (some .byte)) (k2_rm 0 0) (va_Pc [.ref q] (fun U => ZC E U ∧ OFc E q U)) (QcRead 0) 0 0 (fun _ => False) := by
  refine Met.ofW (cc := cJ0_coder_7d493) (maxL := 1) (ret := some .byte) (ws' := lw_good) (by decide) rfl ?_
  intro p e s m args below meth c s₁ B hml hv0
  obtain ⟨rfl, hZ, hF⟩ := hv0
  have hx := B.exec
  have hb := B.bytes
  have hr := B.returns
  have hlocks := B.notSynchronized
  have hts0 := atoms_spec (ws := wsK yJ0_coder_7d493 cJ0_coder_7d493 1 (some .byte)) B.pre
  have hts : ∀ w ∈ lw_good, w.before _ s = true := fun w hw => hts0 w (List.mem_cons_of_mem _ hw)
  have hown : s.vm.findClass "java/lang/String" = some m.cls := findClass_of_methodNamed B.named
  have hl := lv_entry ([.ref q]) (n := 1) (Nat.le_of_ble_eq_true rfl)
  rw [lg_entry_eq]
  have hl0 := lv_at hl 0 rfl
  refine va_gets hx hb hZ va_S.rf hown (hts _ jl_11) (fun _ h => h) dq_co0 ?_
  refine lv_if_eq (tgt := 13) hx hb dq_co3 (by decide) (fun q => absurd q (by decide)) (fun _ => ?_)
  refine lv_aload_n hx hb dq_co6 rfl hl0 ?_
  refine vk_getf hx hb hF va_S.rf hown (hts _ jl_13) (fun _ h => h) dq_co7 ?_
  refine lv_goto (tgt := 14) hx hb dq_co10 (by decide) ?_
  exact W.zret hx hb hr (by decide) (fun t ht _ => ⟨rfl, ht⟩) (fun q hq => by cases hq) dq_co14
theorem dq_il0 : decode cJ0_isLatin1_aae02 0 = .ok (.getstatic 38, 3) := by decide +kernel
theorem dq_il3 : decode cJ0_isLatin1_aae02 3 = .ok (.ifCond .eq 14, 3) := by decide +kernel
theorem dq_il6 : decode cJ0_isLatin1_aae02 6 = .ok (.aload_n 0, 1) := by decide +kernel
theorem dq_il7 : decode cJ0_isLatin1_aae02 7 = .ok (.getfield 15, 3) := by decide +kernel
theorem dq_il10 : decode cJ0_isLatin1_aae02 10 = .ok (.ifCond .ne 7, 3) := by decide +kernel
theorem dq_il13 : decode cJ0_isLatin1_aae02 13 = .ok (.iconst 1, 1) := by decide +kernel
theorem dq_il14 : decode cJ0_isLatin1_aae02 14 = .ok (.goto 4, 3) := by decide +kernel
theorem dq_il18 : decode cJ0_isLatin1_aae02 18 = .ok (.ireturn, 1) := by decide +kernel
theorem jp_il (l : Launch) (E : Ev0) (q : Nat) : Met l yJ0_isLatin1_aae02 (wsK yJ0_isLatin1_aae02 cJ0_isLatin1_aae02 1 (some .boolean)) (k2_rm 0 0) (va_Pc [.ref q] (fun U => ZC E U ∧ OFc E q U)) (QcRead 1) 0 0 (fun _ => False) := by
  refine Met.ofW (cc := cJ0_isLatin1_aae02) (maxL := 1) (ret := some .boolean) (ws' := lw_good) (by decide) rfl ?_
  intro p e s m args below meth c s₁ B hml hv0
  obtain ⟨rfl, hZ, hF⟩ := hv0
  have hx := B.exec
  have hb := B.bytes
  have hr := B.returns
  have hlocks := B.notSynchronized
  have hts0 := atoms_spec (ws := wsK yJ0_isLatin1_aae02 cJ0_isLatin1_aae02 1 (some .boolean)) B.pre
  have hts : ∀ w ∈ lw_good, w.before _ s = true := fun w hw => hts0 w (List.mem_cons_of_mem _ hw)
  have hown : s.vm.findClass "java/lang/String" = some m.cls := findClass_of_methodNamed B.named
  have hl := lv_entry ([.ref q]) (n := 1) (Nat.le_of_ble_eq_true rfl)
  rw [lg_entry_eq]
  have hl0 := lv_at hl 0 rfl
  refine va_gets hx hb hZ va_S.rf hown (hts _ jl_11) (fun _ h => h) dq_il0 ?_
  refine lv_if_eq (tgt := 17) hx hb dq_il3 (by decide) (fun q => absurd q (by decide)) (fun _ => ?_)
  refine lv_aload_n hx hb dq_il6 rfl hl0 ?_
  refine vk_getf hx hb hF va_S.rf hown (hts _ jl_13) (fun _ h => h) dq_il7 ?_
  refine lv_if_ne (tgt := 17) hx hb dq_il10 (by decide) (fun q => absurd rfl q) (fun _ => ?_)
  refine lv_iconst (v := 1) hx hb dq_il13 (by decide) ?_
  refine lv_goto (tgt := 18) hx hb dq_il14 (by decide) ?_
  exact W.zret hx hb hr (by decide) (fun t ht _ => ⟨rfl, ht⟩) (fun q hq => by cases hq) dq_il18
theorem dq_le0 : decode cJ0_length_8abf5 0 = .ok (.aload_n 0, 1) := by decide +kernel
theorem dq_le1 : decode cJ0_length_8abf5 1 = .ok (.getfield 9, 3) := by decide +kernel
theorem dq_le4 : decode cJ0_length_8abf5 4 = .ok (.arraylength, 1) := by decide +kernel
theorem dq_le5 : decode cJ0_length_8abf5 5 = .ok (.aload_n 0, 1) := by decide +kernel
theorem dq_le6 : decode cJ0_length_8abf5 6 = .ok (.invokevirtual 335, 3) := by decide +kernel
theorem dq_le9 : decode cJ0_length_8abf5 9 = .ok (.ishr, 1) := by decide +kernel
theorem dq_le10 : decode cJ0_length_8abf5 10 = .ok (.ireturn, 1) := by decide +kernel
theorem OFc.same {E : Ev0} {q : Nat} {U T : State} (h : OFc E q U) (ha : U.vm.Alike T.vm) (hh : T.heap = U.heap) : OFc E q T := by
  unfold OFc
  rw [hh]
  exact h.moved ha
theorem shr_0 (x : Int32) : x >>> ((0 : Int32) &&& 31) = x := by
  apply Int32.toBitVec_inj.mp
  simp [Int32.toBitVec_shiftRight]
theorem jp_le (l : Launch) (E : Ev0) (q t N : Nat) (f : Nat → Value) : Met l yJ0_length_8abf5 (wsK yJ0_length_8abf5 cJ0_length_8abf5 1 (some .int)) (k2_rm 1 20) (va_Pc [.ref q] (fun U => ZC E U ∧ OFc E q U ∧ OFv E q t U ∧ va_O "java/lang/String" q (aN E) U U.heap ∧ va_T .byte t N f (aN E) U U.heap)) (QcRead (nI N)) 0 0 (fun _ => False) := by
  refine Met.ofW (cc := cJ0_length_8abf5) (maxL := 1) (ret := some .int) (ws' := lw_good) (by decide) rfl ?_
  intro p e s m args below meth c s₁ B hml hv0
  obtain ⟨rfl, hZ, hF, hV, hO, hT⟩ := hv0
  have hx := B.exec
  have hb := B.bytes
  have hr := B.returns
  have hlocks := B.notSynchronized
  have hts0 := atoms_spec (ws := wsK yJ0_length_8abf5 cJ0_length_8abf5 1 (some .int)) B.pre
  have hts : ∀ w ∈ lw_good, w.before _ s = true := fun w hw => hts0 w (List.mem_cons_of_mem _ hw)
  have hown : s.vm.findClass "java/lang/String" = some m.cls := findClass_of_methodNamed B.named
  have hl := lv_entry ([.ref q]) (n := 1) (Nat.le_of_ble_eq_true rfl)
  rw [lg_entry_eq]
  have hl0 := lv_at hl 0 rfl
  obtain ⟨cell, g1, g2, g3, g4, g5, g6, g7⟩ := id hT
  obtain ⟨cq, o1, o2, o3, -⟩ := hO
  refine lv_aload_n hx hb dq_le0 rfl hl0 ?_
  refine vk_getf hx hb hV va_S.rf hown (hts _ jl_12) (fun _ h => h) dq_le1 ?_
  refine W.alen (n := nI N) hx hb g1 g2 g5 rfl rfl dq_le4 ?_
  refine lv_aload_n hx hb dq_le5 rfl hl0 ?_
  refine W.callR (W.runV (C := "java/lang/String") (As := []) (rest := [.int (nI N)]) ⟨hx, hb, hml, hown, hts⟩ (jp_co l E q) ⟨callB_of (ws' := lw_good) 0 hts (wsK_good jc_co) rfl rfl rfl (hts _ jl_7) (hts _ jl_17) (by decide +kernel) ⟨Nat.le_of_ble_eq_true rfl, Nat.le_of_ble_eq_true rfl⟩, hts _ jl_18, hts _ jl_19⟩ ⟨fun a U g mk h => ⟨h.1, ZC.same (T := U.calling g mk a) h.2.1 (Vm.Alike.refl _) rfl, OFc.same (T := U.calling g mk a) h.2.2 (Vm.Alike.refl _) rfl⟩, ⟨cq, o1, o2, o3⟩, fun U hU hW => ⟨rfl, ZC.same hZ hW.alike hU, OFc.same hF hW.alike hU⟩⟩ rfl rfl hl.1 rfl (Nat.le_of_ble_eq_true rfl) dq_le6 ⟨Nat.zero_le _, Nat.zero_le _⟩) ?_
  refine lv_ishr hx hb dq_le9 ?_
  rw [shr_0]
  exact W.iret hx hb hr (fun t ht _ => ⟨rfl, ht⟩) (fun q hq => by cases hq) dq_le10
theorem dq_ch0 : decode cJ0_charAt_5068e 0 = .ok (.aload_n 0, 1) := by decide +kernel
theorem dq_ch1 : decode cJ0_charAt_5068e 1 = .ok (.invokevirtual 492, 3) := by decide +kernel
theorem dq_ch4 : decode cJ0_charAt_5068e 4 = .ok (.ifCond .eq 12, 3) := by decide +kernel
theorem dq_ch7 : decode cJ0_charAt_5068e 7 = .ok (.aload_n 0, 1) := by decide +kernel
theorem dq_ch8 : decode cJ0_charAt_5068e 8 = .ok (.getfield 9, 3) := by decide +kernel
theorem dq_ch11 : decode cJ0_charAt_5068e 11 = .ok (.iload_n 1, 1) := by decide +kernel
theorem dq_ch12 : decode cJ0_charAt_5068e 12 = .ok (.invokestatic 495, 3) := by decide +kernel
theorem dq_ch15 : decode cJ0_charAt_5068e 15 = .ok (.ireturn, 1) := by decide +kernel
theorem va_Tsame {E : Ev0} {t N : Nat} {f : Nat → Value} {U T : State} (h : va_T .byte t N f (aN E) U U.heap) (ha : U.vm.Alike T.vm) (hh : T.heap = U.heap) : va_T .byte t N f (aN E) T T.heap := by
  rw [hh]
  exact h.moved ha
theorem jp_ch (l : Launch) (E : Ev0) (q t N : Nat) (f : Nat → Value) (i : Nat) (v : Int32) (hN : N < 2 ^ 31) (hi : i < N) (hf : f i = .int v) (hv : ((v &&& 255).toUInt32 % 65536).toInt32 = v) (hn : narrow .char (.int v) = .int v) : Met l yJ0_charAt_5068e (wsK yJ0_charAt_5068e cJ0_charAt_5068e 2 (some .char)) (k2_rm 3 64) (va_Pc [.ref q, .int (nI i)] (fun U => ZC E U ∧ OFc E q U ∧ OFv E q t U ∧ va_O "java/lang/String" q (aN E) U U.heap ∧ va_T .byte t N f (aN E) U U.heap ∧ ZQ E U)) (QcRead v) 0 0 (fun _ => False) := by
  refine Met.ofW (cc := cJ0_charAt_5068e) (maxL := 2) (ret := some .char) (ws' := lw_good) (by decide) rfl ?_
  intro p e s m args below meth c s₁ B hml hv0
  obtain ⟨rfl, hZ, hF, hV, hO, hT, hQ⟩ := hv0
  have hx := B.exec
  have hb := B.bytes
  have hr := B.returns
  have hlocks := B.notSynchronized
  have hts0 := atoms_spec (ws := wsK yJ0_charAt_5068e cJ0_charAt_5068e 2 (some .char)) B.pre
  have hts : ∀ w ∈ lw_good, w.before _ s = true := fun w hw => hts0 w (List.mem_cons_of_mem _ hw)
  have hown : s.vm.findClass "java/lang/String" = some m.cls := findClass_of_methodNamed B.named
  have hl := lv_entry ([.ref q, .int (nI i)]) (n := 2) (Nat.le_of_ble_eq_true rfl)
  rw [lg_entry_eq]
  have hl0 := lv_at hl 0 rfl
  have hl1 := lv_at hl 1 rfl
  obtain ⟨cq, o1, o2, o3, -⟩ := hO
  refine lv_aload_n hx hb dq_ch0 rfl hl0 ?_
  refine W.callR (W.runV (C := "java/lang/String") (As := []) (rest := []) ⟨hx, hb, hml, hown, hts⟩ (jp_il l E q) ⟨callB_of (ws' := lw_good) 0 hts (wsK_good jc_il) rfl rfl rfl (hts _ jl_7) (hts _ jl_14) (by decide +kernel) ⟨Nat.le_of_ble_eq_true rfl, Nat.le_of_ble_eq_true rfl⟩, hts _ jl_15, hts _ jl_16⟩ ⟨fun a U g mk h => ⟨h.1, ZC.same (T := U.calling g mk a) h.2.1 (Vm.Alike.refl _) rfl, OFc.same (T := U.calling g mk a) h.2.2 (Vm.Alike.refl _) rfl⟩, ⟨cq, o1, o2, o3⟩, fun U hU hW => ⟨rfl, ZC.same hZ hW.alike hU, OFc.same hF hW.alike hU⟩⟩ rfl rfl hl.1 rfl (Nat.le_of_ble_eq_true rfl) dq_ch1 ⟨Nat.zero_le _, Nat.zero_le _⟩) ?_
  refine lv_if_eq (tgt := 16) hx hb dq_ch4 rfl (fun q => absurd q (by decide)) (fun _ => ?_)
  refine lv_aload_n hx hb dq_ch7 rfl hl0 ?_
  refine vk_getf hx hb hV va_S.rf hown (hts _ jl_12) (fun _ h => h) dq_ch8 ?_
  refine lv_iload_n hx hb dq_ch11 rfl hl1 ?_
  refine W.callR (W.runS (As := [.ref t, .int (nI i)]) (rest := []) ⟨hx, hb, hml, hown, hts⟩ (jp_l1 l E t N f i v hN hi hf hv hn) ⟨callB_of (ws' := lw_good) 2 hts (wsK_good jc_l1) rfl rfl rfl (hts _ jl_8) (hts _ jl_9) (by decide +kernel) ⟨Nat.le_of_ble_eq_true rfl, Nat.le_of_ble_eq_true rfl⟩, hts _ jl_10⟩ ⟨fun a U g mk h => ⟨h.1, ZQ.same (T := U.calling g mk a) h.2.1 (Vm.Alike.refl _) rfl, va_Tsame (T := U.calling g mk a) h.2.2 (Vm.Alike.refl _) rfl⟩, fun U hU hW => ⟨rfl, ZQ.same hQ hW.alike hU, va_Tsame hT hW.alike hU⟩⟩ rfl rfl hl.1 rfl (Nat.le_of_ble_eq_true rfl) dq_ch12 ⟨Nat.zero_le _, Nat.zero_le _⟩) ?_
  exact W.zret hx hb hr hn (fun t ht _ => ⟨rfl, ht⟩) (fun q hq => by cases hq) dq_ch15
