/-! ===== the law's cases: where they begin, how many ints, class's and reference's method, pool entries; printed by wip/whole/tools/mk_law.py ===== -/
abbrev Lw : Type := Nat × Nat × Nat × Nat × Nat × Nat × Nat × Nat
def lawT : List Lw := [(200, 3, 99, 169, 13, 17, 614, 1490), (243, 2, 100, 170, 18, 22, 641, 1505), (276, 2, 101, 172, 23, 26, 695, 1621), (309, 5, 102, 175, 27, 31, 699, 1636), (372, 1, 103, 176, 32, 36, 707, 1640), (395, 0, 104, 173, 37, 41, 711, 1628), (408, 0, 105, 174, 42, 45, 719, 1632), (421, 0, 106, 200, 46, 49, 723, 1644), (434, 0, 107, 274, 50, 53, 861, 1929), (447, 0, 108, 201, 54, 57, 966, 1735), (460, 0, 109, 273, 58, 61, 970, 1925), (473, 1, 110, 202, 62, 65, 974, 1739), (496, 3, 111, 231, 66, 69, 978, 1751), (539, 2, 112, 240, 70, 73, 984, 1763), (572, 1, 113, 241, 74, 77, 989, 1779), (595, 1, 114, 242, 78, 81, 994, 1791), (618, 1, 115, 243, 82, 85, 999, 1799), (641, 0, 116, 233, 86, 89, 1004, 1759), (654, 2, 117, 230, 90, 93, 1012, 1743), (687, 2, 118, 255, 94, 97, 1022, 1810), (720, 3, 119, 256, 98, 101, 1075, 1846), (763, 1, 120, 258, 102, 105, 1083, 1850), (786, 2, 121, 260, 106, 109, 1091, 1858), (819, 2, 122, 261, 110, 113, 1122, 1874), (852, 2, 123, 262, 114, 117, 1131, 1878), (885, 2, 124, 263, 118, 121, 1147, 1885), (918, 0, 125, 264, 122, 125, 1155, 1889), (931, 4, 126, 266, 126, 130, 1159, 1893), (984, 2, 127, 267, 131, 134, 1176, 1901), (1017, 1, 128, 268, 135, 138, 1184, 1905), (1040, 0, 129, 269, 139, 142, 1192, 1909), (1053, 1, 130, 272, 143, 146, 1196, 1913), (1076, 3, 131, 281, 147, 150, 1227, 1953), (1119, 1, 132, 282, 151, 154, 1249, 1964), (1142, 1, 133, 162, 155, 158, 1253, 1467), (1165, 1, 134, 163, 159, 162, 1258, 1482), (1188, 1, 135, 283, 163, 166, 1262, 1968), (1211, 0, 136, 284, 167, 170, 1266, 1972)]
def dcB (pc : Nat) (i : Instr) (n : Nat) : Bool := match decode code pc with
  | .ok (j, k) => decide (j = i) && (k == n)
  | _ => false
theorem dcB_ok {pc : Nat} {i : Instr} {n : Nat} (h : dcB pc i n = true) : decode code pc = .ok (i, n) := by
  unfold dcB at h
  split at h
  · rename_i j k hd
    simp only [Bool.and_eq_true, decide_eq_true_eq, beq_iff_eq] at h
    rw [hd, h.1, h.2]
  · cases h
def argB (pc i : Nat) : Bool := dcB pc (.aload_n 0) 1 && dcB (pc + 1) (.iload_n 3) 1 && dcB (pc + 2) (.iconst i) 1 && dcB (pc + 3) .iadd 1 && dcB (pc + 4) .iaload 1
def argsB : Nat → Nat → Nat → Bool
  | _, _, 0 => true
  | pc, i, n + 1 => argB pc i && argsB (pc + 5) (i + 1) n
def icB (pc : Nat) : Bool := dcB pc (.if_icmp .eq (1224 - (pc : Int))) 3
def lkB (n j ow : Nat) : Bool := decide (j < 285) && decide (n + 1 ≤ mN j) && (mS j == false) && decide ((mY j).name ≠ "<init>") && (mOw j == ow) && (n + 1 == mNa j)
def caseB (q : Lw) : Bool := match q with
  | (pc, n, jc, jm, ic, im, wc, wm) => dcB pc (.aload_n 1) 1 && argsB (pc + 1) 1 n && dcB (pc + 1 + 5 * n) (.invokevirtual ic) 3 && dcB (pc + 4 + 5 * n) (.aload_n 2) 1 && argsB (pc + 5 + 5 * n) 1 n && dcB (pc + 5 + 10 * n) (.invokevirtual im) 3 && icB (pc + 8 + 10 * n) && lkB n jc 11 && lkB n jm 12 && inT wc (.methodLink "NeckKnotsLaw" ic (mY jc)) && inT wm (.methodLink "NeckKnotsLaw" im (mY jm)) && decide (n ≤ 5)
set_option maxRecDepth 100000 in
theorem lo_0 : caseB (200, 3, 99, 169, 13, 17, 614, 1490) = true := by decide +kernel
set_option maxRecDepth 100000 in
theorem lo_1 : caseB (243, 2, 100, 170, 18, 22, 641, 1505) = true := by decide +kernel
set_option maxRecDepth 100000 in
theorem lo_2 : caseB (276, 2, 101, 172, 23, 26, 695, 1621) = true := by decide +kernel
set_option maxRecDepth 100000 in
theorem lo_3 : caseB (309, 5, 102, 175, 27, 31, 699, 1636) = true := by decide +kernel
set_option maxRecDepth 100000 in
theorem lo_4 : caseB (372, 1, 103, 176, 32, 36, 707, 1640) = true := by decide +kernel
set_option maxRecDepth 100000 in
theorem lo_5 : caseB (395, 0, 104, 173, 37, 41, 711, 1628) = true := by decide +kernel
set_option maxRecDepth 100000 in
theorem lo_6 : caseB (408, 0, 105, 174, 42, 45, 719, 1632) = true := by decide +kernel
set_option maxRecDepth 100000 in
theorem lo_7 : caseB (421, 0, 106, 200, 46, 49, 723, 1644) = true := by decide +kernel
set_option maxRecDepth 100000 in
theorem lo_8 : caseB (434, 0, 107, 274, 50, 53, 861, 1929) = true := by decide +kernel
set_option maxRecDepth 100000 in
theorem lo_9 : caseB (447, 0, 108, 201, 54, 57, 966, 1735) = true := by decide +kernel
set_option maxRecDepth 100000 in
theorem lo_10 : caseB (460, 0, 109, 273, 58, 61, 970, 1925) = true := by decide +kernel
set_option maxRecDepth 100000 in
theorem lo_11 : caseB (473, 1, 110, 202, 62, 65, 974, 1739) = true := by decide +kernel
set_option maxRecDepth 100000 in
theorem lo_12 : caseB (496, 3, 111, 231, 66, 69, 978, 1751) = true := by decide +kernel
set_option maxRecDepth 100000 in
theorem lo_13 : caseB (539, 2, 112, 240, 70, 73, 984, 1763) = true := by decide +kernel
set_option maxRecDepth 100000 in
theorem lo_14 : caseB (572, 1, 113, 241, 74, 77, 989, 1779) = true := by decide +kernel
set_option maxRecDepth 100000 in
theorem lo_15 : caseB (595, 1, 114, 242, 78, 81, 994, 1791) = true := by decide +kernel
set_option maxRecDepth 100000 in
theorem lo_16 : caseB (618, 1, 115, 243, 82, 85, 999, 1799) = true := by decide +kernel
set_option maxRecDepth 100000 in
theorem lo_17 : caseB (641, 0, 116, 233, 86, 89, 1004, 1759) = true := by decide +kernel
set_option maxRecDepth 100000 in
theorem lo_18 : caseB (654, 2, 117, 230, 90, 93, 1012, 1743) = true := by decide +kernel
set_option maxRecDepth 100000 in
theorem lo_19 : caseB (687, 2, 118, 255, 94, 97, 1022, 1810) = true := by decide +kernel
set_option maxRecDepth 100000 in
theorem lo_20 : caseB (720, 3, 119, 256, 98, 101, 1075, 1846) = true := by decide +kernel
set_option maxRecDepth 100000 in
theorem lo_21 : caseB (763, 1, 120, 258, 102, 105, 1083, 1850) = true := by decide +kernel
set_option maxRecDepth 100000 in
theorem lo_22 : caseB (786, 2, 121, 260, 106, 109, 1091, 1858) = true := by decide +kernel
set_option maxRecDepth 100000 in
theorem lo_23 : caseB (819, 2, 122, 261, 110, 113, 1122, 1874) = true := by decide +kernel
set_option maxRecDepth 100000 in
theorem lo_24 : caseB (852, 2, 123, 262, 114, 117, 1131, 1878) = true := by decide +kernel
set_option maxRecDepth 100000 in
theorem lo_25 : caseB (885, 2, 124, 263, 118, 121, 1147, 1885) = true := by decide +kernel
set_option maxRecDepth 100000 in
theorem lo_26 : caseB (918, 0, 125, 264, 122, 125, 1155, 1889) = true := by decide +kernel
set_option maxRecDepth 100000 in
theorem lo_27 : caseB (931, 4, 126, 266, 126, 130, 1159, 1893) = true := by decide +kernel
set_option maxRecDepth 100000 in
theorem lo_28 : caseB (984, 2, 127, 267, 131, 134, 1176, 1901) = true := by decide +kernel
set_option maxRecDepth 100000 in
theorem lo_29 : caseB (1017, 1, 128, 268, 135, 138, 1184, 1905) = true := by decide +kernel
set_option maxRecDepth 100000 in
theorem lo_30 : caseB (1040, 0, 129, 269, 139, 142, 1192, 1909) = true := by decide +kernel
set_option maxRecDepth 100000 in
theorem lo_31 : caseB (1053, 1, 130, 272, 143, 146, 1196, 1913) = true := by decide +kernel
set_option maxRecDepth 100000 in
theorem lo_32 : caseB (1076, 3, 131, 281, 147, 150, 1227, 1953) = true := by decide +kernel
set_option maxRecDepth 100000 in
theorem lo_33 : caseB (1119, 1, 132, 282, 151, 154, 1249, 1964) = true := by decide +kernel
set_option maxRecDepth 100000 in
theorem lo_34 : caseB (1142, 1, 133, 162, 155, 158, 1253, 1467) = true := by decide +kernel
set_option maxRecDepth 100000 in
theorem lo_35 : caseB (1165, 1, 134, 163, 159, 162, 1258, 1482) = true := by decide +kernel
set_option maxRecDepth 100000 in
theorem lo_36 : caseB (1188, 1, 135, 283, 163, 166, 1262, 1968) = true := by decide +kernel
set_option maxRecDepth 100000 in
theorem lo_37 : caseB (1211, 0, 136, 284, 167, 170, 1266, 1972) = true := by decide +kernel
theorem law_ok : ∀ q ∈ lawT, caseB q = true := List.forall_mem_cons.mpr ⟨lo_0, List.forall_mem_cons.mpr ⟨lo_1, List.forall_mem_cons.mpr ⟨lo_2, List.forall_mem_cons.mpr ⟨lo_3, List.forall_mem_cons.mpr ⟨lo_4, List.forall_mem_cons.mpr ⟨lo_5, List.forall_mem_cons.mpr ⟨lo_6, List.forall_mem_cons.mpr ⟨lo_7, List.forall_mem_cons.mpr ⟨lo_8, List.forall_mem_cons.mpr ⟨lo_9, List.forall_mem_cons.mpr ⟨lo_10, List.forall_mem_cons.mpr ⟨lo_11, List.forall_mem_cons.mpr ⟨lo_12, List.forall_mem_cons.mpr ⟨lo_13, List.forall_mem_cons.mpr ⟨lo_14, List.forall_mem_cons.mpr ⟨lo_15, List.forall_mem_cons.mpr ⟨lo_16, List.forall_mem_cons.mpr ⟨lo_17, List.forall_mem_cons.mpr ⟨lo_18, List.forall_mem_cons.mpr ⟨lo_19, List.forall_mem_cons.mpr ⟨lo_20, List.forall_mem_cons.mpr ⟨lo_21, List.forall_mem_cons.mpr ⟨lo_22, List.forall_mem_cons.mpr ⟨lo_23, List.forall_mem_cons.mpr ⟨lo_24, List.forall_mem_cons.mpr ⟨lo_25, List.forall_mem_cons.mpr ⟨lo_26, List.forall_mem_cons.mpr ⟨lo_27, List.forall_mem_cons.mpr ⟨lo_28, List.forall_mem_cons.mpr ⟨lo_29, List.forall_mem_cons.mpr ⟨lo_30, List.forall_mem_cons.mpr ⟨lo_31, List.forall_mem_cons.mpr ⟨lo_32, List.forall_mem_cons.mpr ⟨lo_33, List.forall_mem_cons.mpr ⟨lo_34, List.forall_mem_cons.mpr ⟨lo_35, List.forall_mem_cons.mpr ⟨lo_36, List.forall_mem_cons.mpr ⟨lo_37, fun _ h => by cases h⟩⟩⟩⟩⟩⟩⟩⟩⟩⟩⟩⟩⟩⟩⟩⟩⟩⟩⟩⟩⟩⟩⟩⟩⟩⟩⟩⟩⟩⟩⟩⟩⟩⟩⟩⟩⟩⟩
set_option maxRecDepth 100000 in
theorem law_sw : (match decode code 33 with
  | .ok (.tableswitch d lo hi offs, _) => (d == 1191) && (lo == 0) && (hi == 37) && decide (offs.toList = lawT.map fun q => (q.1 : Int) - 33)
  | _ => false) = true := by decide +kernel
