/-! ===== numbers: machine words and integers ===== -/
def rg (x : Int) : Prop := -2147483648 ≤ x ∧ x < 2147483648
def rl (x : Int) : Prop := -9223372036854775808 ≤ x ∧ x < 9223372036854775808
theorem bm_rg (x : Int) (n : Nat) (h : 0 < n) : -(n : Int) ≤ 2 * Int.bmod x n ∧ 2 * Int.bmod x n < n := by
  have h1 := Int.le_bmod (x := x) (m := n) h
  have h2 := Int.bmod_lt (x := x) (m := n) h
  omega
theorem rg_wi (x : Int) : rg (wi x) := by
  have := bm_rg x 4294967296 (by decide)
  unfold rg wi
  omega
theorem rl_wl (x : Int) : rl (wl x) := by
  have := bm_rg x 18446744073709551616 (by decide)
  unfold rl wl
  omega
theorem wb_rg (x : Int) : -128 ≤ wb x ∧ wb x < 128 := by
  have := bm_rg x 256 (by decide)
  unfold wb
  omega
theorem rg_wb (x : Int) : rg (wb x) := by
  have := wb_rg x
  unfold rg
  omega
theorem wi_id {x : Int} (h : rg x) : wi x = x := by
  unfold rg at h
  exact Int.bmod_eq_of_le (by omega) (by omega)
theorem wl_id {x : Int} (h : rl x) : wl x = x := by
  unfold rl at h
  exact Int.bmod_eq_of_le (by omega) (by omega)
theorem wb_id {x : Int} (h : -128 ≤ x ∧ x < 128) : wb x = x := Int.bmod_eq_of_le (by omega) (by omega)
theorem i_inj {x : Int} {z : Int32} (h : wi x = z.toInt) : Int32.ofInt x = z := (Int32.ofInt_eq_iff_bmod_eq_toInt x z).mpr h
theorem i_to {x : Int} (h : rg x) : (Int32.ofInt x).toInt = x := by
  unfold rg at h
  exact Int32.toInt_ofInt_of_le (by omega) (by omega)
theorem l_to {x : Int} (h : rl x) : (Int64.ofInt x).toInt = x := by
  unfold rl at h
  exact Int64.toInt_ofInt_of_le (by omega) (by omega)
theorem i_wi (x : Int) : Int32.ofInt (wi x) = Int32.ofInt x := by
  apply Int32.toInt_inj.mp
  rw [i_to (rg_wi x), Int32.toInt_ofInt]
  rfl
theorem l_wl (x : Int) : Int64.ofInt (wl x) = Int64.ofInt x := by
  apply Int64.toInt_inj.mp
  rw [l_to (rl_wl x), Int64.toInt_ofInt]
  rfl
theorem rg_i (z : Int32) : rg z.toInt := by
  have h1 := z.toInt_lt
  have h2 := z.le_toInt
  unfold rg
  omega
theorem rl_l (z : Int64) : rl z.toInt := by
  have h1 := z.toInt_lt
  have h2 := z.le_toInt
  unfold rl
  omega
theorem i_eq {x y : Int} (hx : rg x) (hy : rg y) : Int32.ofInt x = Int32.ofInt y ↔ x = y := by
  rw [← Int32.toInt_inj, i_to hx, i_to hy]
theorem i_lt {x y : Int} (hx : rg x) (hy : rg y) : Int32.ofInt x < Int32.ofInt y ↔ x < y := by
  rw [Int32.lt_iff_toInt_lt, i_to hx, i_to hy]
theorem i_le {x y : Int} (hx : rg x) (hy : rg y) : Int32.ofInt x ≤ Int32.ofInt y ↔ x ≤ y := by
  rw [Int32.le_iff_toInt_le, i_to hx, i_to hy]
theorem l_eq {x y : Int} (hx : rl x) (hy : rl y) : Int64.ofInt x = Int64.ofInt y ↔ x = y := by
  rw [← Int64.toInt_inj, l_to hx, l_to hy]
theorem l_lt {x y : Int} (hx : rl x) (hy : rl y) : Int64.ofInt x < Int64.ofInt y ↔ x < y := by
  rw [Int64.lt_iff_toInt_lt, l_to hx, l_to hy]
theorem rg0 : rg 0 := by unfold rg; omega
theorem rl0 : rl 0 := by unfold rl; omega
theorem rg_rl {x : Int} (h : rg x) : rl x := by unfold rg at h; unfold rl; omega
theorem i_add (x y : Int) : Int32.ofInt x + Int32.ofInt y = Int32.ofInt (wi (x + y)) := by rw [i_wi, Int32.ofInt_add]
theorem i_sub (x y : Int) : Int32.ofInt x - Int32.ofInt y = Int32.ofInt (wi (x - y)) := by rw [i_wi, Int32.ofInt_sub]
theorem i_mul (x y : Int) : Int32.ofInt x * Int32.ofInt y = Int32.ofInt (wi (x * y)) := by rw [i_wi, Int32.ofInt_mul]
theorem i_neg (x : Int) : -Int32.ofInt x = Int32.ofInt (wi (-x)) := by rw [i_wi, Int32.ofInt_neg]
theorem l_add (x y : Int) : Int64.ofInt x + Int64.ofInt y = Int64.ofInt (wl (x + y)) := by rw [l_wl, Int64.ofInt_add]
theorem l_sub (x y : Int) : Int64.ofInt x - Int64.ofInt y = Int64.ofInt (wl (x - y)) := by rw [l_wl, Int64.ofInt_sub]
theorem l_mul (x y : Int) : Int64.ofInt x * Int64.ofInt y = Int64.ofInt (wl (x * y)) := by rw [l_wl, Int64.ofInt_mul]
theorem i_div {x y : Int} (hx : rg x) (hy : rg y) : Int32.ofInt x / Int32.ofInt y = Int32.ofInt (wi (Int.tdiv x y)) := by
  rw [i_wi]
  refine (i_inj ?_).symm
  rw [Int32.toInt_div, i_to hx, i_to hy]
  rfl
theorem l_div {x y : Int} (hx : rl x) (hy : rl y) : Int64.ofInt x / Int64.ofInt y = Int64.ofInt (wl (Int.tdiv x y)) := by
  rw [l_wl]
  refine ((Int64.ofInt_eq_iff_bmod_eq_toInt _ _).mpr ?_).symm
  rw [Int64.toInt_div, l_to hx, l_to hy]
theorem tmod_abs (x y : Int) : (0 ≤ x → 0 ≤ Int.tmod x y ∧ Int.tmod x y ≤ x) ∧ (x < 0 → x ≤ Int.tmod x y ∧ Int.tmod x y ≤ 0) := by
  have hn := Int.natAbs_tmod x y
  have hm := Nat.mod_le x.natAbs y.natAbs
  refine ⟨fun h => ?_, fun h => ?_⟩
  · have := Int.tmod_nonneg y h
    omega
  · have h2 := Int.tmod_nonneg y (show 0 ≤ -x by omega)
    rw [Int.neg_tmod] at h2
    omega
theorem tmod_rg {x y : Int} (hx : rg x) : rg (Int.tmod x y) := by
  have h := tmod_abs x y
  unfold rg at *
  rcases Int.lt_or_le x 0 with q | q
  · have := h.2 q; omega
  · have := h.1 q; omega
theorem tmod_rl {x y : Int} (hx : rl x) : rl (Int.tmod x y) := by
  have h := tmod_abs x y
  unfold rl at *
  rcases Int.lt_or_le x 0 with q | q
  · have := h.2 q; omega
  · have := h.1 q; omega
theorem i_rem {x y : Int} (hx : rg x) (hy : rg y) : Int32.ofInt x - Int32.ofInt x / Int32.ofInt y * Int32.ofInt y = Int32.ofInt (Int.tmod x y) := by
  refine (i_inj ?_).symm
  rw [rem_toInt, i_to hx, i_to hy, wi_id (tmod_rg hx)]
theorem l_rem {x y : Int} (hx : rl x) (hy : rl y) : Int64.ofInt x - Int64.ofInt x / Int64.ofInt y * Int64.ofInt y = Int64.ofInt (Int.tmod x y) := by
  refine ((Int64.ofInt_eq_iff_bmod_eq_toInt _ _).mpr ?_).symm
  have e : (Int64.ofInt x - Int64.ofInt x / Int64.ofInt y * Int64.ofInt y).toInt = wl (x - wl (wl (Int.tdiv x y) * y)) := by
    rw [l_div hx hy]
    generalize hz : wl (Int.tdiv x y) = z
    rw [l_mul, l_sub, l_to (rl_wl _)]
  rw [e]
  have h1 : Int.bmod (Int.tmod x y) (2 ^ 64) = wl (Int.tmod x y) := rfl
  rw [h1]
  have h2 : Int.tmod x y = x - Int.tdiv x y * y := by
    have := Int.tmod_add_mul_tdiv x y
    rw [Int.mul_comm] at this
    omega
  rw [h2]
  unfold wl
  rw [Int.bmod_mul_bmod, Int.sub_bmod_bmod]
theorem i2l_ {x : Int} (hx : rg x) : (Int32.ofInt x).toInt64 = Int64.ofInt x := by
  apply Int64.toInt_inj.mp
  rw [Int32.toInt_toInt64, i_to hx, l_to (rg_rl hx)]
theorem l2i_ (x : Int) : (Int64.ofInt x).toInt32 = Int32.ofInt (wi x) := by rw [i_wi]; exact Int64.toInt32_ofInt
theorem i2b_ {x : Int} (hx : rg x) : (Int32.ofInt x).toInt8.toInt32 = Int32.ofInt (wb x) := by
  apply Int32.toInt_inj.mp
  rw [lg_i2b_toInt, i_to hx, i_to (rg_wb x)]
  rfl
theorem nar_b {x : Int} (hx : rg x) : vp_nar .byte (Int32.ofInt x) = Int32.ofInt (wb x) := by rw [vp_nar_byte, i2b_ hx]
theorem lcm_ {x y : Int} (hx : rl x) (hy : rl y) : lg_cmp (Int64.ofInt x) (Int64.ofInt y) = Int32.ofInt (lcm x y) := by
  unfold lg_cmp lcm
  by_cases h : y < x
  · rw [if_pos ((l_lt hy hx).mpr h), if_pos h]; rfl
  · rw [if_neg (fun z => h ((l_lt hy hx).mp z)), if_neg h]
    by_cases h2 : x = y
    · rw [if_pos ((l_eq hx hy).mpr h2), if_pos h2]; rfl
    · rw [if_neg (fun z => h2 ((l_eq hx hy).mp z)), if_neg h2]; rfl
theorem rg_lcm (x y : Int) : rg (lcm x y) := by
  unfold lcm rg
  split
  · omega
  · split <;> omega
theorem rg_and (x y : Int) : rg (andI x y) := rg_i _
theorem rg_or (x y : Int) : rg (orI x y) := rg_i _
theorem rg_shl (x y : Int) : rg (shlI x y) := rg_i _
theorem rg_shr (x y : Int) : rg (shrI x y) := rg_i _
theorem rg_ushr (x y : Int) : rg (ushrI x y) := rg_i _
theorem i_clamp {x : Int} (h0 : 0 ≤ x) (hx : rg x) : (Int32.ofInt x).toNatClampNeg = x.toNat := by
  rw [← Int32.toNat_toInt, i_to hx]
theorem i_in {x : Int} {n : Nat} (hx : rg x) (h0 : 0 ≤ x) (h1 : x < n) : vp_in (Int32.ofInt x) n := by
  rintro (h | h)
  · rw [show (0 : Int32) = Int32.ofInt 0 from rfl, i_lt hx rg0] at h
    omega
  · rw [i_clamp h0 hx] at h
    omega
