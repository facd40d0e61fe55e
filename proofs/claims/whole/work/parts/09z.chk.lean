theorem ck_get {n a j : Nat} (h : ((List.range n).all fun i => ckB (a + i)) = true) (h1 : a ≤ j) (h2 : j < a + n) : ckB j = true := by
  have := List.all_eq_true.mp h (j - a) (List.mem_range.mpr (by omega))
  rwa [show a + (j - a) = j by omega] at this
theorem ck_all : CkAll := by
  intro j hj
  have hb : ckB j = true := by
    rcases Nat.lt_or_ge j 143 with q4 | q4
    · rcases Nat.lt_or_ge j 67 with q6 | q6
      · rcases Nat.lt_or_ge j 39 with q8 | q8
        · rcases Nat.lt_or_ge j 16 with q10 | q10
          · rcases Nat.lt_or_ge j 9 with q12 | q12
            · rcases Nat.lt_or_ge j 5 with q14 | q14
              · exact ck_get ck_0 (by omega) (by omega)
              · exact ck_get ck_1 (by omega) (by omega)
            · rcases Nat.lt_or_ge j 13 with q14 | q14
              · exact ck_get ck_2 (by omega) (by omega)
              · exact ck_get ck_3 (by omega) (by omega)
          · rcases Nat.lt_or_ge j 26 with q12 | q12
            · rcases Nat.lt_or_ge j 21 with q14 | q14
              · exact ck_get ck_4 (by omega) (by omega)
              · exact ck_get ck_5 (by omega) (by omega)
            · rcases Nat.lt_or_ge j 29 with q14 | q14
              · exact ck_get ck_6 (by omega) (by omega)
              · rcases Nat.lt_or_ge j 34 with q16 | q16
                · exact ck_get ck_7 (by omega) (by omega)
                · exact ck_get ck_8 (by omega) (by omega)
        · rcases Nat.lt_or_ge j 53 with q10 | q10
          · rcases Nat.lt_or_ge j 47 with q12 | q12
            · rcases Nat.lt_or_ge j 44 with q14 | q14
              · exact ck_get ck_9 (by omega) (by omega)
              · exact ck_get ck_10 (by omega) (by omega)
            · rcases Nat.lt_or_ge j 51 with q14 | q14
              · exact ck_get ck_11 (by omega) (by omega)
              · exact ck_get ck_12 (by omega) (by omega)
          · rcases Nat.lt_or_ge j 63 with q12 | q12
            · rcases Nat.lt_or_ge j 58 with q14 | q14
              · exact ck_get ck_13 (by omega) (by omega)
              · exact ck_get ck_14 (by omega) (by omega)
            · rcases Nat.lt_or_ge j 64 with q14 | q14
              · exact ck_get ck_15 (by omega) (by omega)
              · rcases Nat.lt_or_ge j 66 with q16 | q16
                · exact ck_get ck_16 (by omega) (by omega)
                · exact ck_get ck_17 (by omega) (by omega)
      · rcases Nat.lt_or_ge j 96 with q8 | q8
        · rcases Nat.lt_or_ge j 77 with q10 | q10
          · rcases Nat.lt_or_ge j 72 with q12 | q12
            · rcases Nat.lt_or_ge j 70 with q14 | q14
              · exact ck_get ck_18 (by omega) (by omega)
              · exact ck_get ck_19 (by omega) (by omega)
            · rcases Nat.lt_or_ge j 74 with q14 | q14
              · exact ck_get ck_20 (by omega) (by omega)
              · exact ck_get ck_21 (by omega) (by omega)
          · rcases Nat.lt_or_ge j 83 with q12 | q12
            · rcases Nat.lt_or_ge j 78 with q14 | q14
              · exact ck_get ck_22 (by omega) (by omega)
              · exact ck_get ck_23 (by omega) (by omega)
            · rcases Nat.lt_or_ge j 88 with q14 | q14
              · exact ck_get ck_24 (by omega) (by omega)
              · rcases Nat.lt_or_ge j 93 with q16 | q16
                · exact ck_get ck_25 (by omega) (by omega)
                · exact ck_get ck_26 (by omega) (by omega)
        · rcases Nat.lt_or_ge j 118 with q10 | q10
          · rcases Nat.lt_or_ge j 103 with q12 | q12
            · rcases Nat.lt_or_ge j 100 with q14 | q14
              · exact ck_get ck_27 (by omega) (by omega)
              · exact ck_get ck_28 (by omega) (by omega)
            · rcases Nat.lt_or_ge j 108 with q14 | q14
              · exact ck_get ck_29 (by omega) (by omega)
              · rcases Nat.lt_or_ge j 113 with q16 | q16
                · exact ck_get ck_30 (by omega) (by omega)
                · exact ck_get ck_31 (by omega) (by omega)
          · rcases Nat.lt_or_ge j 128 with q12 | q12
            · rcases Nat.lt_or_ge j 123 with q14 | q14
              · exact ck_get ck_32 (by omega) (by omega)
              · exact ck_get ck_33 (by omega) (by omega)
            · rcases Nat.lt_or_ge j 133 with q14 | q14
              · exact ck_get ck_34 (by omega) (by omega)
              · rcases Nat.lt_or_ge j 138 with q16 | q16
                · exact ck_get ck_35 (by omega) (by omega)
                · exact ck_get ck_36 (by omega) (by omega)
    · rcases Nat.lt_or_ge j 218 with q6 | q6
      · rcases Nat.lt_or_ge j 181 with q8 | q8
        · rcases Nat.lt_or_ge j 162 with q10 | q10
          · rcases Nat.lt_or_ge j 153 with q12 | q12
            · rcases Nat.lt_or_ge j 148 with q14 | q14
              · exact ck_get ck_37 (by omega) (by omega)
              · exact ck_get ck_38 (by omega) (by omega)
            · rcases Nat.lt_or_ge j 158 with q14 | q14
              · exact ck_get ck_39 (by omega) (by omega)
              · exact ck_get ck_40 (by omega) (by omega)
          · rcases Nat.lt_or_ge j 168 with q12 | q12
            · rcases Nat.lt_or_ge j 163 with q14 | q14
              · exact ck_get ck_41 (by omega) (by omega)
              · exact ck_get ck_42 (by omega) (by omega)
            · rcases Nat.lt_or_ge j 173 with q14 | q14
              · exact ck_get ck_43 (by omega) (by omega)
              · rcases Nat.lt_or_ge j 176 with q16 | q16
                · exact ck_get ck_44 (by omega) (by omega)
                · exact ck_get ck_45 (by omega) (by omega)
        · rcases Nat.lt_or_ge j 198 with q10 | q10
          · rcases Nat.lt_or_ge j 189 with q12 | q12
            · rcases Nat.lt_or_ge j 184 with q14 | q14
              · exact ck_get ck_46 (by omega) (by omega)
              · exact ck_get ck_47 (by omega) (by omega)
            · rcases Nat.lt_or_ge j 194 with q14 | q14
              · exact ck_get ck_48 (by omega) (by omega)
              · exact ck_get ck_49 (by omega) (by omega)
          · rcases Nat.lt_or_ge j 208 with q12 | q12
            · rcases Nat.lt_or_ge j 203 with q14 | q14
              · exact ck_get ck_50 (by omega) (by omega)
              · exact ck_get ck_51 (by omega) (by omega)
            · rcases Nat.lt_or_ge j 210 with q14 | q14
              · exact ck_get ck_52 (by omega) (by omega)
              · rcases Nat.lt_or_ge j 214 with q16 | q16
                · exact ck_get ck_53 (by omega) (by omega)
                · exact ck_get ck_54 (by omega) (by omega)
      · rcases Nat.lt_or_ge j 259 with q8 | q8
        · rcases Nat.lt_or_ge j 236 with q10 | q10
          · rcases Nat.lt_or_ge j 228 with q12 | q12
            · rcases Nat.lt_or_ge j 223 with q14 | q14
              · exact ck_get ck_55 (by omega) (by omega)
              · exact ck_get ck_56 (by omega) (by omega)
            · rcases Nat.lt_or_ge j 232 with q14 | q14
              · exact ck_get ck_57 (by omega) (by omega)
              · exact ck_get ck_58 (by omega) (by omega)
          · rcases Nat.lt_or_ge j 244 with q12 | q12
            · rcases Nat.lt_or_ge j 239 with q14 | q14
              · exact ck_get ck_59 (by omega) (by omega)
              · exact ck_get ck_60 (by omega) (by omega)
            · rcases Nat.lt_or_ge j 249 with q14 | q14
              · exact ck_get ck_61 (by omega) (by omega)
              · rcases Nat.lt_or_ge j 254 with q16 | q16
                · exact ck_get ck_62 (by omega) (by omega)
                · exact ck_get ck_63 (by omega) (by omega)
        · rcases Nat.lt_or_ge j 275 with q10 | q10
          · rcases Nat.lt_or_ge j 264 with q12 | q12
            · rcases Nat.lt_or_ge j 262 with q14 | q14
              · exact ck_get ck_64 (by omega) (by omega)
              · exact ck_get ck_65 (by omega) (by omega)
            · rcases Nat.lt_or_ge j 268 with q14 | q14
              · exact ck_get ck_66 (by omega) (by omega)
              · rcases Nat.lt_or_ge j 271 with q16 | q16
                · exact ck_get ck_67 (by omega) (by omega)
                · exact ck_get ck_68 (by omega) (by omega)
          · rcases Nat.lt_or_ge j 277 with q12 | q12
            · rcases Nat.lt_or_ge j 276 with q14 | q14
              · exact ck_get ck_69 (by omega) (by omega)
              · exact ck_get ck_70 (by omega) (by omega)
            · rcases Nat.lt_or_ge j 280 with q14 | q14
              · exact ck_get ck_71 (by omega) (by omega)
              · rcases Nat.lt_or_ge j 283 with q16 | q16
                · exact ck_get ck_72 (by omega) (by omega)
                · exact ck_get ck_73 (by omega) (by omega)
  unfold ckB at hb
  rw [Bool.and_eq_true, beq_iff_eq] at hb
  exact hb
