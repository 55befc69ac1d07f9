/-! ===== division, shifts and masks of numbers that are not below 0 ===== -/
theorem bmod32 {x : Int} (h0 : -2147483648 ≤ x) (h1 : x < 2147483648) : x.bmod (2 ^ 32) = x := by
  have e : ((2 : Nat) ^ 32) = 4294967296 := rfl
  rw [e]
  unfold Int.bmod
  simp only
  split <;> omega
theorem wdiv_nn {a b : Int} (ha : 0 ≤ a) (ha1 : a < 2147483648) (hb : 0 < b) (hb1 : b < 2147483648) : wdiv a b = a / b := by
  unfold wdiv
  rw [Int32.toInt_div, w32_toInt (by omega), w32_toInt (by omega), Int.tdiv_eq_ediv_of_nonneg ha]
  have h1 : 0 ≤ a / b := Int.ediv_nonneg ha (by omega)
  have h2 : a / b ≤ a := Int.ediv_le_self b ha
  exact bmod32 (by omega) (by omega)
theorem wrem_nn {a b : Int} (ha : 0 ≤ a) (ha1 : a < 2147483648) (hb : 0 < b) (hb1 : b < 2147483648) : wrem a b = a % b := by
  have h1 := wdiv_nn ha ha1 hb hb1
  have h2 : Int32.ofInt a / Int32.ofInt b = Int32.ofInt (a / b) := by
    rw [← h1]
    unfold wdiv
    rw [Int32.ofInt_toInt]
  unfold wrem
  rw [h2, ← Int32.ofInt_mul, ← Int32.ofInt_sub, w32_eq]
  have e : a - a / b * b = a % b := by
    rw [Int.emod_def, Int.mul_comm]
  rw [e]
  have h3 : 0 ≤ a % b := Int.emod_nonneg a (by omega)
  have h4 : a % b < b := Int.emod_lt_of_pos a hb
  exact w32_id (by omega) (by omega)
theorem wlrem_nn {a b : Int} (ha : 0 ≤ a) (ha1 : a < 9223372036854775808) (hb : 0 < b) (hb1 : b < 9223372036854775808) : wlrem a b = a % b := by
  have h2 : Int64.ofInt a / Int64.ofInt b = Int64.ofInt (a / b) := by
    have e : (Int64.ofInt a / Int64.ofInt b).toInt = a / b := by
      rw [Int64.toInt_div, w64_toInt (by omega), w64_toInt (by omega), Int.tdiv_eq_ediv_of_nonneg ha]
      have h1 : 0 ≤ a / b := Int.ediv_nonneg ha (by omega)
      have h2 : a / b ≤ a := Int.ediv_le_self b ha
      have e : ((2 : Nat) ^ 64) = 18446744073709551616 := rfl
      rw [e]
      unfold Int.bmod
      simp only
      split <;> omega
    rw [← e, Int64.ofInt_toInt]
  unfold wlrem
  rw [h2, ← Int64.ofInt_mul, ← Int64.ofInt_sub, w64_eq]
  have e : a - a / b * b = a % b := by
    rw [Int.emod_def, Int.mul_comm]
  rw [e]
  have h3 : 0 ≤ a % b := Int.emod_nonneg a (by omega)
  have h4 : a % b < b := Int.emod_lt_of_pos a hb
  exact w64_id (by omega) (by omega)
theorem ms_sh31 : ∀ b : Nat, b < 32 → (Int32.ofInt (b : Int) &&& 31).toBitVec.smod 32#32 = BitVec.ofNat 32 b := by decide +kernel
theorem wshr_eq {a b : Int} (ha : -2147483648 ≤ a ∧ a < 2147483648) (hb0 : 0 ≤ b) (hb : b < 32) : wshr a b = a / 2 ^ b.toNat := by
  have hs := ms_sh31 b.toNat (by omega)
  rw [show ((b.toNat : Nat) : Int) = b by omega] at hs
  have e : (Int32.ofInt a >>> (Int32.ofInt b &&& 31)).toInt = (BitVec.sshiftRight' (Int32.ofInt a).toBitVec ((Int32.ofInt b &&& 31).toBitVec.smod 32#32)).toInt := rfl
  unfold wshr
  rw [e, hs, BitVec.sshiftRight_eq', BitVec.toInt_sshiftRight, Int32.toInt_toBitVec, w32_toInt ha, BitVec.toNat_ofNat, Nat.mod_eq_of_lt (by omega), Int.shiftRight_eq_div_pow]
  rfl
theorem wshl_eq {a b : Int} (ha : 0 ≤ a) (hb0 : 0 ≤ b) (hb : b < 32) (h : a * 2 ^ b.toNat < 2147483648) : wshl a b = a * 2 ^ b.toNat := by
  have hs := ms_sh31 b.toNat (by omega)
  rw [show ((b.toNat : Nat) : Int) = b by omega] at hs
  have hp : (1 : Int) ≤ 2 ^ b.toNat := by
    have : (0 : Int) < 2 ^ b.toNat := Int.pow_pos (by omega)
    omega
  have ha1 : a ≤ a * 2 ^ b.toNat := by
    have := Int.mul_le_mul_of_nonneg_left hp ha
    rw [Int.mul_one] at this
    exact this
  have e : (Int32.ofInt a <<< (Int32.ofInt b &&& 31)).toInt = ((Int32.ofInt a).toBitVec <<< ((Int32.ofInt b &&& 31).toBitVec.smod 32#32)).toInt := rfl
  unfold wshl
  rw [e, hs, BitVec.shiftLeft_eq', BitVec.toInt_shiftLeft, BitVec.toNat_ofNat, Nat.mod_eq_of_lt (by omega)]
  have hn : (Int32.ofInt a).toBitVec.toNat = a.toNat := by
    rw [Int32.toBitVec_ofInt, BitVec.toNat_ofInt]
    have : a % ((2 ^ 32 : Nat) : Int) = a := Int.emod_eq_of_lt ha (by omega)
    rw [this]
  rw [hn, Nat.shiftLeft_eq]
  have e2 : ((a.toNat * 2 ^ b.toNat : Nat) : Int) = a * 2 ^ b.toNat := by
    rw [Int.natCast_mul, Int.natCast_pow, show ((a.toNat : Nat) : Int) = a by omega]
    rfl
  rw [e2]
  exact bmod32 (by omega) h
theorem wand_mask {a m : Int} (k : Nat) (hk : k < 31) (hm : m = 2 ^ k - 1) : wand a m = a % 2 ^ k := by
  have hp : (2 : Int) ^ k ≤ 2 ^ 30 := by
    have : (2 : Nat) ^ k ≤ 2 ^ 30 := Nat.pow_le_pow_right (by omega) (by omega)
    have h2 : ((2 ^ k : Nat) : Int) ≤ ((2 ^ 30 : Nat) : Int) := Int.ofNat_le.mpr this
    rw [Int.natCast_pow, Int.natCast_pow] at h2
    exact h2
  have hp0 : (0 : Int) < 2 ^ k := Int.pow_pos (by omega)
  have hkn : ((2 ^ k : Nat) : Int) = 2 ^ k := by rw [Int.natCast_pow]; rfl
  have e : (Int32.ofInt a &&& Int32.ofInt m).toInt = ((Int32.ofInt a).toBitVec &&& (Int32.ofInt m).toBitVec).toInt := rfl
  have hmn : (Int32.ofInt m).toBitVec.toNat = 2 ^ k - 1 := by
    rw [Int32.toBitVec_ofInt, BitVec.toNat_ofInt]
    have : m % ((2 ^ 32 : Nat) : Int) = m := Int.emod_eq_of_lt (by omega) (by omega)
    rw [this]
    omega
  have han : (((Int32.ofInt a).toBitVec.toNat : Nat) : Int) = a % 4294967296 := by
    rw [Int32.toBitVec_ofInt, BitVec.toNat_ofInt]
    have : 0 ≤ a % ((2 ^ 32 : Nat) : Int) := Int.emod_nonneg a (by omega)
    omega
  have hn : ((Int32.ofInt a).toBitVec &&& (Int32.ofInt m).toBitVec).toNat = (Int32.ofInt a).toBitVec.toNat % 2 ^ k := by
    rw [BitVec.toNat_and, hmn, Nat.and_two_pow_sub_one_eq_mod]
  have hlt : (Int32.ofInt a).toBitVec.toNat % 2 ^ k < 2 ^ k := Nat.mod_lt _ (Nat.pow_pos (by omega))
  unfold wand
  rw [e, BitVec.toInt_eq_toNat_of_lt (by rw [hn]; omega), hn, Int.natCast_emod, han, hkn]
  have hd : (2 : Int) ^ k ∣ 4294967296 := by
    refine ⟨2 ^ (32 - k), ?_⟩
    rw [← Int.pow_add, show k + (32 - k) = 32 by omega]
    rfl
  rw [Int.emod_emod_of_dvd a hd]
