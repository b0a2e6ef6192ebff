/-! Long.bitCount counts bits -/
theorem ush1 (x : Int64) : ((x.toUInt64 >>> ((1 : Int32).toInt64.toUInt64 &&& Int64.toUInt64 63)).toInt64).toBitVec.toNat = x.toBitVec.toNat / 2 := by
  have s : (((1 : Int32).toInt64.toUInt64 &&& Int64.toUInt64 63).toBitVec % 64).toNat = 1 := by decide +kernel
  show (x.toBitVec >>> (((1 : Int32).toInt64.toUInt64 &&& Int64.toUInt64 63).toBitVec % 64).toNat).toNat = _
  rw [s, BitVec.toNat_ushiftRight, Nat.shiftRight_eq_div_pow]
theorem ush2 (x : Int64) : ((x.toUInt64 >>> ((2 : Int32).toInt64.toUInt64 &&& Int64.toUInt64 63)).toInt64).toBitVec.toNat = x.toBitVec.toNat / 4 := by
  have s : (((2 : Int32).toInt64.toUInt64 &&& Int64.toUInt64 63).toBitVec % 64).toNat = 2 := by decide +kernel
  show (x.toBitVec >>> (((2 : Int32).toInt64.toUInt64 &&& Int64.toUInt64 63).toBitVec % 64).toNat).toNat = _
  rw [s, BitVec.toNat_ushiftRight, Nat.shiftRight_eq_div_pow]
theorem ush4 (x : Int64) : ((x.toUInt64 >>> ((4 : Int32).toInt64.toUInt64 &&& Int64.toUInt64 63)).toInt64).toBitVec.toNat = x.toBitVec.toNat / 16 := by
  have s : (((4 : Int32).toInt64.toUInt64 &&& Int64.toUInt64 63).toBitVec % 64).toNat = 4 := by decide +kernel
  show (x.toBitVec >>> (((4 : Int32).toInt64.toUInt64 &&& Int64.toUInt64 63).toBitVec % 64).toNat).toNat = _
  rw [s, BitVec.toNat_ushiftRight, Nat.shiftRight_eq_div_pow]
theorem ush8 (x : Int64) : ((x.toUInt64 >>> ((8 : Int32).toInt64.toUInt64 &&& Int64.toUInt64 63)).toInt64).toBitVec.toNat = x.toBitVec.toNat / 256 := by
  have s : (((8 : Int32).toInt64.toUInt64 &&& Int64.toUInt64 63).toBitVec % 64).toNat = 8 := by decide +kernel
  show (x.toBitVec >>> (((8 : Int32).toInt64.toUInt64 &&& Int64.toUInt64 63).toBitVec % 64).toNat).toNat = _
  rw [s, BitVec.toNat_ushiftRight, Nat.shiftRight_eq_div_pow]
theorem ush16 (x : Int64) : ((x.toUInt64 >>> ((16 : Int32).toInt64.toUInt64 &&& Int64.toUInt64 63)).toInt64).toBitVec.toNat = x.toBitVec.toNat / 65536 := by
  have s : (((16 : Int32).toInt64.toUInt64 &&& Int64.toUInt64 63).toBitVec % 64).toNat = 16 := by decide +kernel
  show (x.toBitVec >>> (((16 : Int32).toInt64.toUInt64 &&& Int64.toUInt64 63).toBitVec % 64).toNat).toNat = _
  rw [s, BitVec.toNat_ushiftRight, Nat.shiftRight_eq_div_pow]
theorem ush32 (x : Int64) : ((x.toUInt64 >>> ((32 : Int32).toInt64.toUInt64 &&& Int64.toUInt64 63)).toInt64).toBitVec.toNat = x.toBitVec.toNat / 4294967296 := by
  have s : (((32 : Int32).toInt64.toUInt64 &&& Int64.toUInt64 63).toBitVec % 64).toNat = 32 := by decide +kernel
  show (x.toBitVec >>> (((32 : Int32).toInt64.toUInt64 &&& Int64.toUInt64 63).toBitVec % 64).toNat).toNat = _
  rw [s, BitVec.toNat_ushiftRight, Nat.shiftRight_eq_div_pow]
theorem tn_and (x : Int64) (m : Int64) : (x &&& m).toBitVec.toNat = x.toBitVec.toNat &&& m.toBitVec.toNat := rfl
theorem tn_add {x y : Int64} (h : x.toBitVec.toNat + y.toBitVec.toNat < 2 ^ 64) : (x + y).toBitVec.toNat = x.toBitVec.toNat + y.toBitVec.toNat := by
  rw [Int64.toBitVec_add]; exact BitVec.toNat_add_of_lt h
theorem tn_sub {x y : Int64} (h : y.toBitVec.toNat ≤ x.toBitVec.toNat) : (x - y).toBitVec.toNat = x.toBitVec.toNat - y.toBitVec.toNat := by
  rw [Int64.toBitVec_sub]; exact BitVec.toNat_sub_of_le h
theorem i6_tn (x : Int64) : x = i6 (x.toBitVec.toNat : Int) := by
  apply Int64.toBitVec_inj.mp
  show x.toBitVec = (Int64.ofInt (x.toBitVec.toNat : Int)).toBitVec
  rw [Int64.toBitVec_ofInt]
  simp
theorem and127 (t : Nat) : i3 (t : Int) &&& 127 = i3 ((t % 128 : Nat) : Int) := by
  apply Int32.toBitVec_inj.mp
  rw [Int32.toBitVec_and]
  apply BitVec.eq_of_toNat_eq
  show (BitVec.ofInt 32 (t : Int) &&& 127#32).toNat = (BitVec.ofInt 32 ((t % 128 : Nat) : Int)).toNat
  rw [BitVec.ofInt_natCast, BitVec.ofInt_natCast, BitVec.toNat_and, BitVec.toNat_ofNat, BitVec.toNat_ofNat, BitVec.toNat_ofNat]
  have : (127 % 2 ^ 32 : Nat) = 2 ^ 7 - 1 := rfl
  rw [this, Nat.and_two_pow_sub_one_eq_mod]
  omega
theorem e324 (x : Int64) (Z : mjZt) : f324_bitCount x Z = some (i3 (cN (b6 x) 64)) := by
  obtain ⟨y, z, w, u, v, t, h1, h2, h3, h4, h5, h6, h7, h8, h9, h10, h11, h12, h13, h14⟩ := swar (X := x.toBitVec.toNat) x.toBitVec.isLt
  unfold f324_bitCount
  rw [let_eq]
  generalize g1 : x - ((x.toUInt64 >>> ((1 : Int32).toInt64.toUInt64 &&& Int64.toUInt64 63)).toInt64 &&& 6148914691236517205) = x1
  have k1 : x1.toBitVec.toNat = y := by
    rw [← g1, tn_sub (by rw [tn_and, ush1]; exact h2), tn_and, ush1, h1]; rfl
  rw [let_eq]
  generalize g2 : (x1 &&& 3689348814741910323) + ((x1.toUInt64 >>> ((2 : Int32).toInt64.toUInt64 &&& Int64.toUInt64 63)).toInt64 &&& 3689348814741910323) = x2
  have k2 : x2.toBitVec.toNat = z := by
    have e : (x1 &&& 3689348814741910323).toBitVec.toNat + ((x1.toUInt64 >>> ((2 : Int32).toInt64.toUInt64 &&& Int64.toUInt64 63)).toInt64 &&& 3689348814741910323).toBitVec.toNat = z := by
      rw [tn_and, tn_and, ush2, k1, h3]; rfl
    rw [← g2, tn_add (by rw [e]; exact Nat.lt_trans h4 (by decide)), e]
  rw [let_eq]
  generalize g3 : (x2 + (x2.toUInt64 >>> ((4 : Int32).toInt64.toUInt64 &&& Int64.toUInt64 63)).toInt64) &&& 1085102592571150095 = x3
  have k3 : x3.toBitVec.toNat = w := by
    rw [← g3, tn_and, tn_add (by rw [ush4, k2]; exact h6), ush4, k2, h5]; rfl
  rw [let_eq]
  generalize g4 : x3 + (x3.toUInt64 >>> ((8 : Int32).toInt64.toUInt64 &&& Int64.toUInt64 63)).toInt64 = x4
  have k4 : x4.toBitVec.toNat = u := by
    rw [← g4, tn_add (by rw [ush8, k3, ← h7]; exact h8), ush8, k3, h7]
  rw [let_eq]
  generalize g5 : x4 + (x4.toUInt64 >>> ((16 : Int32).toInt64.toUInt64 &&& Int64.toUInt64 63)).toInt64 = x5
  have k5 : x5.toBitVec.toNat = v := by
    rw [← g5, tn_add (by rw [ush16, k4, ← h9]; exact h10), ush16, k4, h9]
  rw [let_eq]
  generalize g6 : x5 + (x5.toUInt64 >>> ((32 : Int32).toInt64.toUInt64 &&& Int64.toUInt64 63)).toInt64 = x6
  have k6 : x6.toBitVec.toNat = t := by
    rw [← g6, tn_add (by rw [ush32, k5, ← h11]; exact h12), ush32, k5, h11]
  rw [i6_tn x6, k6, i63, and127, h13, cb_cN]
  rfl
/-- counts over longer rows -/
theorem cN_ext {p : Nat → Bool} {n : Nat} : ∀ m, n ≤ m → (∀ i, n ≤ i → i < m → p i = false) → cN p m = cN p n
  | 0, h, _ => by obtain rfl : n = 0 := by omega
                  rfl
  | m + 1, h, hp => by
    by_cases q : n = m + 1
    · subst q; rfl
    · rw [cN, cN_ext m (by omega) (fun i h1 h2 => hp i h1 (by omega)), hp m (by omega) (by omega)]
      simp
