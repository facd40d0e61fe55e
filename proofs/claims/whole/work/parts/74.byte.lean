/-! ===== bytes of an int ===== -/
theorem and255 (x : Int) : andI x 255 = x % 256 := by
  unfold andI
  show (Int32.ofInt x &&& 255).toBitVec.toInt = _
  rw [Int32.toBitVec_and]
  have h1 : ((Int32.ofInt x).toBitVec &&& (255 : Int32).toBitVec).toNat = (Int32.ofInt x).toBitVec.toNat % 256 := by
    rw [BitVec.toNat_and]
    exact Nat.and_two_pow_sub_one_eq_mod _ 8
  rw [BitVec.toInt_eq_toNat_of_lt (by rw [h1]; omega), h1]
  show (((BitVec.ofInt 32 x).toNat % 256 : Nat) : Int) = _
  rw [BitVec.toNat_ofInt]
  omega
theorem shr_8 {x : Int} (hx : rg x) {k : Nat} (hk : k < 32) : shrI x k = x / 2 ^ k := by
  unfold shrI
  show (Int32.ofInt x >>> (Int32.ofInt (k : Int) &&& 31)).toBitVec.toInt = _
  rw [Int32.toBitVec_shiftRight]
  show ((Int32.ofInt x).toBitVec.sshiftRight (((Int32.ofInt (k : Int) &&& 31).toBitVec.smod 32).toNat)).toInt = _
  rw [sh_c k hk, BitVec.toInt_sshiftRight, Int.shiftRight_eq_div_pow]
  show (Int32.ofInt x).toInt / _ = _
  rw [i_to hx]
  norm_cast
theorem ushr_b {x : Int} {k : Nat} (hk : k = 0 ∨ k = 8 ∨ k = 16 ∨ k = 24) : andI (ushrI x k) 255 = x / 2 ^ k % 256 := by
  have h0 : (Int32.ofInt x).toUInt32.toNat = (x % 4294967296).toNat := by
    show (BitVec.ofInt 32 x).toNat = _
    rw [BitVec.toNat_ofInt]
    rfl
  have h1 : ∀ u : UInt32, andI u.toInt32.toInt 255 = ((u.toNat % 256 : Nat) : Int) := by
    intro u
    rw [and255]
    show u.toBitVec.toInt % 256 = _
    rw [BitVec.toInt_eq_toNat_bmod]
    show Int.bmod (u.toNat : Int) 4294967296 % 256 = _
    have := u.toNat_lt
    rw [Int.bmod_def]
    split <;> omega
  unfold ushrI
  rw [h1, UInt32.toNat_shiftRight, h0]
  rcases hk with rfl | rfl | rfl | rfl
  · show ((((x % 4294967296).toNat >>> 0) % 256 : Nat) : Int) = x / 1 % 256
    rw [Nat.shiftRight_eq_div_pow]
    omega
  · show ((((x % 4294967296).toNat >>> 8) % 256 : Nat) : Int) = x / 256 % 256
    rw [Nat.shiftRight_eq_div_pow]
    omega
  · show ((((x % 4294967296).toNat >>> 16) % 256 : Nat) : Int) = x / 65536 % 256
    rw [Nat.shiftRight_eq_div_pow]
    omega
  · show ((((x % 4294967296).toNat >>> 24) % 256 : Nat) : Int) = x / 16777216 % 256
    rw [Nat.shiftRight_eq_div_pow]
    omega
