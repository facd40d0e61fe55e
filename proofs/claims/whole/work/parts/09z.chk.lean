theorem ck_get {n a j : Nat} (h : ((List.range n).all fun i => ckB (a + i)) = true) (h1 : a ≤ j) (h2 : j < a + n) : ckB j = true := by
  have := List.all_eq_true.mp h (j - a) (List.mem_range.mpr (by omega))
  rwa [show a + (j - a) = j by omega] at this
theorem ck_all : CkAll := by
  intro j hj
  have hb : ckB j = true := by
    rcases Nat.lt_or_ge j 142 with q4 | q4
    · rcases Nat.lt_or_ge j 66 with q6 | q6
      · rcases Nat.lt_or_ge j 39 with q8 | q8
        · rcases Nat.lt_or_ge j 16 with q10 | q10
          · rcases Nat.lt_or_ge j 9 with q12 | q12
            · rcases Nat.lt_or_ge j 5 with q14 | q14
              · exact ck_get ck_0 (by omega) (by omega)
              · exact ck_get ck_1 (by omega) (by omega)
            · rcases Nat.lt_or_ge j 13 with q14 | q14
              · exact ck_get ck_2 (by omega) (by omega)
              · exact ck_get ck_3 (by omega) (by omega)
          · rcases Nat.lt_or_ge j 26 with q12 | q12
            · rcases Nat.lt_or_ge j 21 with q14 | q14
              · exact ck_get ck_4 (by omega) (by omega)
              · exact ck_get ck_5 (by omega) (by omega)
            · rcases Nat.lt_or_ge j 29 with q14 | q14
              · exact ck_get ck_6 (by omega) (by omega)
              · rcases Nat.lt_or_ge j 34 with q16 | q16
                · exact ck_get ck_7 (by omega) (by omega)
                · exact ck_get ck_8 (by omega) (by omega)
        · rcases Nat.lt_or_ge j 52 with q10 | q10
          · rcases Nat.lt_or_ge j 46 with q12 | q12
            · rcases Nat.lt_or_ge j 43 with q14 | q14
              · exact ck_get ck_9 (by omega) (by omega)
              · exact ck_get ck_10 (by omega) (by omega)
            · rcases Nat.lt_or_ge j 50 with q14 | q14
              · exact ck_get ck_11 (by omega) (by omega)
              · exact ck_get ck_12 (by omega) (by omega)
          · rcases Nat.lt_or_ge j 62 with q12 | q12
            · rcases Nat.lt_or_ge j 57 with q14 | q14
              · exact ck_get ck_13 (by omega) (by omega)
              · exact ck_get ck_14 (by omega) (by omega)
            · rcases Nat.lt_or_ge j 63 with q14 | q14
              · exact ck_get ck_15 (by omega) (by omega)
              · rcases Nat.lt_or_ge j 65 with q16 | q16
                · exact ck_get ck_16 (by omega) (by omega)
                · exact ck_get ck_17 (by omega) (by omega)
      · rcases Nat.lt_or_ge j 95 with q8 | q8
        · rcases Nat.lt_or_ge j 76 with q10 | q10
          · rcases Nat.lt_or_ge j 71 with q12 | q12
            · rcases Nat.lt_or_ge j 69 with q14 | q14
              · exact ck_get ck_18 (by omega) (by omega)
              · exact ck_get ck_19 (by omega) (by omega)
            · rcases Nat.lt_or_ge j 73 with q14 | q14
              · exact ck_get ck_20 (by omega) (by omega)
              · exact ck_get ck_21 (by omega) (by omega)
          · rcases Nat.lt_or_ge j 82 with q12 | q12
            · rcases Nat.lt_or_ge j 77 with q14 | q14
              · exact ck_get ck_22 (by omega) (by omega)
              · exact ck_get ck_23 (by omega) (by omega)
            · rcases Nat.lt_or_ge j 87 with q14 | q14
              · exact ck_get ck_24 (by omega) (by omega)
              · rcases Nat.lt_or_ge j 92 with q16 | q16
                · exact ck_get ck_25 (by omega) (by omega)
                · exact ck_get ck_26 (by omega) (by omega)
        · rcases Nat.lt_or_ge j 117 with q10 | q10
          · rcases Nat.lt_or_ge j 102 with q12 | q12
            · rcases Nat.lt_or_ge j 99 with q14 | q14
              · exact ck_get ck_27 (by omega) (by omega)
              · exact ck_get ck_28 (by omega) (by omega)
            · rcases Nat.lt_or_ge j 107 with q14 | q14
              · exact ck_get ck_29 (by omega) (by omega)
              · rcases Nat.lt_or_ge j 112 with q16 | q16
                · exact ck_get ck_30 (by omega) (by omega)
                · exact ck_get ck_31 (by omega) (by omega)
          · rcases Nat.lt_or_ge j 127 with q12 | q12
            · rcases Nat.lt_or_ge j 122 with q14 | q14
              · exact ck_get ck_32 (by omega) (by omega)
              · exact ck_get ck_33 (by omega) (by omega)
            · rcases Nat.lt_or_ge j 132 with q14 | q14
              · exact ck_get ck_34 (by omega) (by omega)
              · rcases Nat.lt_or_ge j 137 with q16 | q16
                · exact ck_get ck_35 (by omega) (by omega)
                · exact ck_get ck_36 (by omega) (by omega)
    · rcases Nat.lt_or_ge j 217 with q6 | q6
      · rcases Nat.lt_or_ge j 180 with q8 | q8
        · rcases Nat.lt_or_ge j 161 with q10 | q10
          · rcases Nat.lt_or_ge j 152 with q12 | q12
            · rcases Nat.lt_or_ge j 147 with q14 | q14
              · exact ck_get ck_37 (by omega) (by omega)
              · exact ck_get ck_38 (by omega) (by omega)
            · rcases Nat.lt_or_ge j 157 with q14 | q14
              · exact ck_get ck_39 (by omega) (by omega)
              · exact ck_get ck_40 (by omega) (by omega)
          · rcases Nat.lt_or_ge j 167 with q12 | q12
            · rcases Nat.lt_or_ge j 162 with q14 | q14
              · exact ck_get ck_41 (by omega) (by omega)
              · exact ck_get ck_42 (by omega) (by omega)
            · rcases Nat.lt_or_ge j 172 with q14 | q14
              · exact ck_get ck_43 (by omega) (by omega)
              · rcases Nat.lt_or_ge j 175 with q16 | q16
                · exact ck_get ck_44 (by omega) (by omega)
                · exact ck_get ck_45 (by omega) (by omega)
        · rcases Nat.lt_or_ge j 197 with q10 | q10
          · rcases Nat.lt_or_ge j 188 with q12 | q12
            · rcases Nat.lt_or_ge j 183 with q14 | q14
              · exact ck_get ck_46 (by omega) (by omega)
              · exact ck_get ck_47 (by omega) (by omega)
            · rcases Nat.lt_or_ge j 193 with q14 | q14
              · exact ck_get ck_48 (by omega) (by omega)
              · exact ck_get ck_49 (by omega) (by omega)
          · rcases Nat.lt_or_ge j 207 with q12 | q12
            · rcases Nat.lt_or_ge j 202 with q14 | q14
              · exact ck_get ck_50 (by omega) (by omega)
              · exact ck_get ck_51 (by omega) (by omega)
            · rcases Nat.lt_or_ge j 209 with q14 | q14
              · exact ck_get ck_52 (by omega) (by omega)
              · rcases Nat.lt_or_ge j 213 with q16 | q16
                · exact ck_get ck_53 (by omega) (by omega)
                · exact ck_get ck_54 (by omega) (by omega)
      · rcases Nat.lt_or_ge j 258 with q8 | q8
        · rcases Nat.lt_or_ge j 235 with q10 | q10
          · rcases Nat.lt_or_ge j 227 with q12 | q12
            · rcases Nat.lt_or_ge j 222 with q14 | q14
              · exact ck_get ck_55 (by omega) (by omega)
              · exact ck_get ck_56 (by omega) (by omega)
            · rcases Nat.lt_or_ge j 231 with q14 | q14
              · exact ck_get ck_57 (by omega) (by omega)
              · exact ck_get ck_58 (by omega) (by omega)
          · rcases Nat.lt_or_ge j 243 with q12 | q12
            · rcases Nat.lt_or_ge j 238 with q14 | q14
              · exact ck_get ck_59 (by omega) (by omega)
              · exact ck_get ck_60 (by omega) (by omega)
            · rcases Nat.lt_or_ge j 248 with q14 | q14
              · exact ck_get ck_61 (by omega) (by omega)
              · rcases Nat.lt_or_ge j 253 with q16 | q16
                · exact ck_get ck_62 (by omega) (by omega)
                · exact ck_get ck_63 (by omega) (by omega)
        · rcases Nat.lt_or_ge j 274 with q10 | q10
          · rcases Nat.lt_or_ge j 263 with q12 | q12
            · rcases Nat.lt_or_ge j 261 with q14 | q14
              · exact ck_get ck_64 (by omega) (by omega)
              · exact ck_get ck_65 (by omega) (by omega)
            · rcases Nat.lt_or_ge j 267 with q14 | q14
              · exact ck_get ck_66 (by omega) (by omega)
              · rcases Nat.lt_or_ge j 270 with q16 | q16
                · exact ck_get ck_67 (by omega) (by omega)
                · exact ck_get ck_68 (by omega) (by omega)
          · rcases Nat.lt_or_ge j 276 with q12 | q12
            · rcases Nat.lt_or_ge j 275 with q14 | q14
              · exact ck_get ck_69 (by omega) (by omega)
              · exact ck_get ck_70 (by omega) (by omega)
            · rcases Nat.lt_or_ge j 279 with q14 | q14
              · exact ck_get ck_71 (by omega) (by omega)
              · rcases Nat.lt_or_ge j 282 with q16 | q16
                · exact ck_get ck_72 (by omega) (by omega)
                · exact ck_get ck_73 (by omega) (by omega)
  unfold ckB at hb
  rw [Bool.and_eq_true, beq_iff_eq] at hb
  exact hb
