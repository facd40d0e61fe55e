/-! ===== the law's cases: where they begin, how many ints, class's and reference's method, pool entries; printed by wip/whole/tools/mk_law.py ===== -/
abbrev Lw : Type := Nat × Nat × Nat × Nat × Nat × Nat × Nat × Nat
def lawT : List Lw := [(200, 3, 100, 170, 13, 17, 615, 1496), (243, 2, 101, 171, 18, 22, 642, 1511), (276, 2, 102, 173, 23, 26, 699, 1627), (309, 5, 103, 176, 27, 31, 703, 1642), (372, 1, 104, 177, 32, 36, 711, 1646), (395, 0, 105, 174, 37, 41, 715, 1634), (408, 0, 106, 175, 42, 45, 723, 1638), (421, 0, 107, 201, 46, 49, 727, 1650), (434, 0, 108, 275, 50, 53, 865, 1935), (447, 0, 109, 202, 54, 57, 970, 1741), (460, 0, 110, 274, 58, 61, 974, 1931), (473, 1, 111, 203, 62, 65, 978, 1745), (496, 3, 112, 232, 66, 69, 982, 1757), (539, 2, 113, 241, 70, 73, 988, 1769), (572, 1, 114, 242, 74, 77, 993, 1785), (595, 1, 115, 243, 78, 81, 998, 1797), (618, 1, 116, 244, 82, 85, 1003, 1805), (641, 0, 117, 234, 86, 89, 1008, 1765), (654, 2, 118, 231, 90, 93, 1016, 1749), (687, 2, 119, 256, 94, 97, 1026, 1816), (720, 3, 120, 257, 98, 101, 1083, 1852), (763, 1, 121, 259, 102, 105, 1091, 1856), (786, 2, 122, 261, 106, 109, 1099, 1864), (819, 2, 123, 262, 110, 113, 1130, 1880), (852, 2, 124, 263, 114, 117, 1139, 1884), (885, 2, 125, 264, 118, 121, 1153, 1891), (918, 0, 126, 265, 122, 125, 1161, 1895), (931, 4, 127, 267, 126, 130, 1165, 1899), (984, 2, 128, 268, 131, 134, 1182, 1907), (1017, 1, 129, 269, 135, 138, 1190, 1911), (1040, 0, 130, 270, 139, 142, 1198, 1915), (1053, 1, 131, 273, 143, 146, 1202, 1919), (1076, 3, 132, 282, 147, 150, 1233, 1959), (1119, 1, 133, 283, 151, 154, 1255, 1970), (1142, 1, 134, 163, 155, 158, 1259, 1473), (1165, 1, 135, 164, 159, 162, 1264, 1488), (1188, 1, 136, 284, 163, 166, 1268, 1974), (1211, 0, 137, 285, 167, 170, 1272, 1978)]
def dcB (pc : Nat) (i : Instr) (n : Nat) : Bool := match decode code pc with
  | .ok (j, k) => decide (j = i) && (k == n)
  | _ => false
theorem dcB_ok {pc : Nat} {i : Instr} {n : Nat} (h : dcB pc i n = true) : decode code pc = .ok (i, n) := by
  unfold dcB at h
  split at h
  · rename_i j k hd
    simp only [Bool.and_eq_true, decide_eq_true_eq, beq_iff_eq] at h
    rw [hd, h.1, h.2]
  · cases h
def argB (pc i : Nat) : Bool := dcB pc (.aload_n 0) 1 && dcB (pc + 1) (.iload_n 3) 1 && dcB (pc + 2) (.iconst i) 1 && dcB (pc + 3) .iadd 1 && dcB (pc + 4) .iaload 1
def argsB : Nat → Nat → Nat → Bool
  | _, _, 0 => true
  | pc, i, n + 1 => argB pc i && argsB (pc + 5) (i + 1) n
def icB (pc : Nat) : Bool := dcB pc (.if_icmp .eq (1224 - (pc : Int))) 3
def lkB (n j ow : Nat) : Bool := decide (j < 286) && decide (n + 1 ≤ mN j) && (mS j == false) && decide ((mY j).name ≠ "<init>") && (mOw j == ow) && (n + 1 == mNa j)
def caseB (q : Lw) : Bool := match q with
  | (pc, n, jc, jm, ic, im, wc, wm) => dcB pc (.aload_n 1) 1 && argsB (pc + 1) 1 n && dcB (pc + 1 + 5 * n) (.invokevirtual ic) 3 && dcB (pc + 4 + 5 * n) (.aload_n 2) 1 && argsB (pc + 5 + 5 * n) 1 n && dcB (pc + 5 + 10 * n) (.invokevirtual im) 3 && icB (pc + 8 + 10 * n) && lkB n jc 11 && lkB n jm 12 && inT wc (.methodLink "NeckKnotsLaw" ic (mY jc)) && inT wm (.methodLink "NeckKnotsLaw" im (mY jm)) && decide (n ≤ 5)
set_option maxRecDepth 100000 in
theorem lo_0 : caseB (200, 3, 100, 170, 13, 17, 615, 1496) = true := by decide +kernel
set_option maxRecDepth 100000 in
theorem lo_1 : caseB (243, 2, 101, 171, 18, 22, 642, 1511) = true := by decide +kernel
set_option maxRecDepth 100000 in
theorem lo_2 : caseB (276, 2, 102, 173, 23, 26, 699, 1627) = true := by decide +kernel
set_option maxRecDepth 100000 in
theorem lo_3 : caseB (309, 5, 103, 176, 27, 31, 703, 1642) = true := by decide +kernel
set_option maxRecDepth 100000 in
theorem lo_4 : caseB (372, 1, 104, 177, 32, 36, 711, 1646) = true := by decide +kernel
set_option maxRecDepth 100000 in
theorem lo_5 : caseB (395, 0, 105, 174, 37, 41, 715, 1634) = true := by decide +kernel
set_option maxRecDepth 100000 in
theorem lo_6 : caseB (408, 0, 106, 175, 42, 45, 723, 1638) = true := by decide +kernel
set_option maxRecDepth 100000 in
theorem lo_7 : caseB (421, 0, 107, 201, 46, 49, 727, 1650) = true := by decide +kernel
set_option maxRecDepth 100000 in
theorem lo_8 : caseB (434, 0, 108, 275, 50, 53, 865, 1935) = true := by decide +kernel
set_option maxRecDepth 100000 in
theorem lo_9 : caseB (447, 0, 109, 202, 54, 57, 970, 1741) = true := by decide +kernel
set_option maxRecDepth 100000 in
theorem lo_10 : caseB (460, 0, 110, 274, 58, 61, 974, 1931) = true := by decide +kernel
set_option maxRecDepth 100000 in
theorem lo_11 : caseB (473, 1, 111, 203, 62, 65, 978, 1745) = true := by decide +kernel
set_option maxRecDepth 100000 in
theorem lo_12 : caseB (496, 3, 112, 232, 66, 69, 982, 1757) = true := by decide +kernel
set_option maxRecDepth 100000 in
theorem lo_13 : caseB (539, 2, 113, 241, 70, 73, 988, 1769) = true := by decide +kernel
set_option maxRecDepth 100000 in
theorem lo_14 : caseB (572, 1, 114, 242, 74, 77, 993, 1785) = true := by decide +kernel
set_option maxRecDepth 100000 in
theorem lo_15 : caseB (595, 1, 115, 243, 78, 81, 998, 1797) = true := by decide +kernel
set_option maxRecDepth 100000 in
theorem lo_16 : caseB (618, 1, 116, 244, 82, 85, 1003, 1805) = true := by decide +kernel
set_option maxRecDepth 100000 in
theorem lo_17 : caseB (641, 0, 117, 234, 86, 89, 1008, 1765) = true := by decide +kernel
set_option maxRecDepth 100000 in
theorem lo_18 : caseB (654, 2, 118, 231, 90, 93, 1016, 1749) = true := by decide +kernel
set_option maxRecDepth 100000 in
theorem lo_19 : caseB (687, 2, 119, 256, 94, 97, 1026, 1816) = true := by decide +kernel
set_option maxRecDepth 100000 in
theorem lo_20 : caseB (720, 3, 120, 257, 98, 101, 1083, 1852) = true := by decide +kernel
set_option maxRecDepth 100000 in
theorem lo_21 : caseB (763, 1, 121, 259, 102, 105, 1091, 1856) = true := by decide +kernel
set_option maxRecDepth 100000 in
theorem lo_22 : caseB (786, 2, 122, 261, 106, 109, 1099, 1864) = true := by decide +kernel
set_option maxRecDepth 100000 in
theorem lo_23 : caseB (819, 2, 123, 262, 110, 113, 1130, 1880) = true := by decide +kernel
set_option maxRecDepth 100000 in
theorem lo_24 : caseB (852, 2, 124, 263, 114, 117, 1139, 1884) = true := by decide +kernel
set_option maxRecDepth 100000 in
theorem lo_25 : caseB (885, 2, 125, 264, 118, 121, 1153, 1891) = true := by decide +kernel
set_option maxRecDepth 100000 in
theorem lo_26 : caseB (918, 0, 126, 265, 122, 125, 1161, 1895) = true := by decide +kernel
set_option maxRecDepth 100000 in
theorem lo_27 : caseB (931, 4, 127, 267, 126, 130, 1165, 1899) = true := by decide +kernel
set_option maxRecDepth 100000 in
theorem lo_28 : caseB (984, 2, 128, 268, 131, 134, 1182, 1907) = true := by decide +kernel
set_option maxRecDepth 100000 in
theorem lo_29 : caseB (1017, 1, 129, 269, 135, 138, 1190, 1911) = true := by decide +kernel
set_option maxRecDepth 100000 in
theorem lo_30 : caseB (1040, 0, 130, 270, 139, 142, 1198, 1915) = true := by decide +kernel
set_option maxRecDepth 100000 in
theorem lo_31 : caseB (1053, 1, 131, 273, 143, 146, 1202, 1919) = true := by decide +kernel
set_option maxRecDepth 100000 in
theorem lo_32 : caseB (1076, 3, 132, 282, 147, 150, 1233, 1959) = true := by decide +kernel
set_option maxRecDepth 100000 in
theorem lo_33 : caseB (1119, 1, 133, 283, 151, 154, 1255, 1970) = true := by decide +kernel
set_option maxRecDepth 100000 in
theorem lo_34 : caseB (1142, 1, 134, 163, 155, 158, 1259, 1473) = true := by decide +kernel
set_option maxRecDepth 100000 in
theorem lo_35 : caseB (1165, 1, 135, 164, 159, 162, 1264, 1488) = true := by decide +kernel
set_option maxRecDepth 100000 in
theorem lo_36 : caseB (1188, 1, 136, 284, 163, 166, 1268, 1974) = true := by decide +kernel
set_option maxRecDepth 100000 in
theorem lo_37 : caseB (1211, 0, 137, 285, 167, 170, 1272, 1978) = true := by decide +kernel
theorem law_ok : ∀ q ∈ lawT, caseB q = true := List.forall_mem_cons.mpr ⟨lo_0, List.forall_mem_cons.mpr ⟨lo_1, List.forall_mem_cons.mpr ⟨lo_2, List.forall_mem_cons.mpr ⟨lo_3, List.forall_mem_cons.mpr ⟨lo_4, List.forall_mem_cons.mpr ⟨lo_5, List.forall_mem_cons.mpr ⟨lo_6, List.forall_mem_cons.mpr ⟨lo_7, List.forall_mem_cons.mpr ⟨lo_8, List.forall_mem_cons.mpr ⟨lo_9, List.forall_mem_cons.mpr ⟨lo_10, List.forall_mem_cons.mpr ⟨lo_11, List.forall_mem_cons.mpr ⟨lo_12, List.forall_mem_cons.mpr ⟨lo_13, List.forall_mem_cons.mpr ⟨lo_14, List.forall_mem_cons.mpr ⟨lo_15, List.forall_mem_cons.mpr ⟨lo_16, List.forall_mem_cons.mpr ⟨lo_17, List.forall_mem_cons.mpr ⟨lo_18, List.forall_mem_cons.mpr ⟨lo_19, List.forall_mem_cons.mpr ⟨lo_20, List.forall_mem_cons.mpr ⟨lo_21, List.forall_mem_cons.mpr ⟨lo_22, List.forall_mem_cons.mpr ⟨lo_23, List.forall_mem_cons.mpr ⟨lo_24, List.forall_mem_cons.mpr ⟨lo_25, List.forall_mem_cons.mpr ⟨lo_26, List.forall_mem_cons.mpr ⟨lo_27, List.forall_mem_cons.mpr ⟨lo_28, List.forall_mem_cons.mpr ⟨lo_29, List.forall_mem_cons.mpr ⟨lo_30, List.forall_mem_cons.mpr ⟨lo_31, List.forall_mem_cons.mpr ⟨lo_32, List.forall_mem_cons.mpr ⟨lo_33, List.forall_mem_cons.mpr ⟨lo_34, List.forall_mem_cons.mpr ⟨lo_35, List.forall_mem_cons.mpr ⟨lo_36, List.forall_mem_cons.mpr ⟨lo_37, fun _ h => by cases h⟩⟩⟩⟩⟩⟩⟩⟩⟩⟩⟩⟩⟩⟩⟩⟩⟩⟩⟩⟩⟩⟩⟩⟩⟩⟩⟩⟩⟩⟩⟩⟩⟩⟩⟩⟩⟩⟩
set_option maxRecDepth 100000 in
theorem law_sw : (match decode code 33 with
  | .ok (.tableswitch d lo hi offs, _) => (d == 1191) && (lo == 0) && (hi == 37) && decide (offs.toList = lawT.map fun q => (q.1 : Int) - 33)
  | _ => false) = true := by decide +kernel
