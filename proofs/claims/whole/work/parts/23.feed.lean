/-! ===== feed and clear ===== -/
/-- the i-th byte of a long, from the least -/
def byt (c : Int64) (i : Nat) : Nat := c.toBitVec.toNat / 2 ^ (8 * i) % 256
theorem byt_lt (c : Int64) (i : Nat) : byt c i < 256 := Nat.mod_lt _ (by decide)
theorem am_ushr_nat (x : Int64) {k : Nat} (hk : k < 64) : (am_ushr x (k : Int)).toBitVec.toNat = x.toBitVec.toNat / 2 ^ k := by
  unfold am_ushr
  rw [am_cu63 k hk]
  show ((x.toUInt64 >>> UInt64.ofNat k).toBitVec).toNat = _
  rw [UInt64.toBitVec_shiftRight]
  have e : (UInt64.ofNat k).toBitVec % 64 = BitVec.ofNat 64 k := by
    apply BitVec.eq_of_toNat_eq
    simp
    omega
  rw [e]
  have e2 : BitVec.toNat (BitVec.ofNat 64 k) = k := by simp; omega
  rw [BitVec.ushiftRight_eq', e2, BitVec.toNat_ushiftRight, Nat.shiftRight_eq_div_pow]
  rfl
theorem am_l2i_bv (y : Int64) : y.toInt32.toBitVec.toNat = y.toBitVec.toNat % 2 ^ 32 := by
  rw [Int64.toBitVec_toInt32, BitVec.signExtend_eq_setWidth_of_le _ (by decide), BitVec.toNat_setWidth]
theorem byt_class (c : Int64) {i : Nat} (hi : i < 8) : am_and (am_l2i (am_ushr c (8 * (i : Int)))) 255 = byt c i := by
  have e1 : 8 * (i : Int) = ((8 * i : Nat) : Int) := by omega
  unfold am_and am_l2i
  rw [Int32.ofInt_toInt, pk_and (m := Int32.ofInt 255) _ 8 (by decide), am_l2i_bv, e1, am_ushr_nat c (by omega)]
  have e2 : c.toBitVec.toNat / 2 ^ (8 * i) % 2 ^ 32 % 2 ^ 8 = byt c i := by
    unfold byt
    rw [Nat.mod_mod_of_dvd _ (by decide)]
  rw [e2, nI_toInt (by have := byt_lt c i; omega)]
theorem tb_shr (x : Int64) {k j : Nat} (h : k + j < 64) : tb (am_shr x (k : Int)) j = tb x (k + j) := by
  unfold tb am_shr
  rw [am_c63 k (by omega), Int64.toBitVec_shiftRight]
  have e : (Int64.ofNat k).toBitVec.smod 64 = BitVec.ofNat 64 k := by
    have h : ∀ k : Fin 64, (Int64.ofNat k.val).toBitVec.smod 64 = BitVec.ofNat 64 k.val := by decide +kernel
    exact h ⟨k, by omega⟩
  have e2 : BitVec.toNat (BitVec.ofNat 64 k) = k := by simp; omega
  rw [e, BitVec.sshiftRight_eq', e2, BitVec.getLsbD_sshiftRight]
  have h1 : j < 64 := by omega
  simp [h, h1]
theorem tb_255 (i : Nat) (hi : i < 64) : tb (Int64.ofNat 255) i = decide (i < 8) := by
  have h : ∀ k : Fin 64, tb (Int64.ofNat 255) k.val = decide (k.val < 8) := by decide +kernel
  exact h ⟨i, hi⟩
theorem am_l2i_small (y : Int64) (h : y.toBitVec.toNat < 2 ^ 31) : am_l2i y = y.toBitVec.toNat := by
  unfold am_l2i
  have e : y.toInt32 = nI y.toBitVec.toNat := by
    apply Int32.toBitVec_inj.mp
    apply BitVec.eq_of_toNat_eq
    rw [am_l2i_bv, pk_tn (by omega), Nat.mod_eq_of_lt (by omega)]
  rw [e, nI_toInt (by omega)]
theorem byt_model (c : Int64) {i : Nat} (hi : i < 8) : am_l2i ((am_shr c (8 * (i : Int))) &&& (Int64.ofNat 255)) = byt c i := by
  have e1 : 8 * (i : Int) = ((8 * i : Nat) : Int) := by omega
  have e : (am_shr c (8 * (i : Int))) &&& (Int64.ofNat 255) = (am_ushr c (8 * (i : Int))) &&& (Int64.ofNat 255) := by
    rw [e1]
    apply tb_ext
    intro j hj
    rw [tb_and, tb_and, tb_255 j hj]
    by_cases h8 : j < 8
    · rw [tb_shr c (by omega), tb_ushr c (by omega)]
    · simp [h8]
  have e3 : ((am_ushr c (8 * (i : Int))) &&& (Int64.ofNat 255)).toBitVec.toNat = byt c i := by
    rw [Int64.toBitVec_and, BitVec.toNat_and, e1, am_ushr_nat c (by omega)]
    show _ &&& (2 ^ 8 - 1) = _
    rw [Nat.and_two_pow_sub_one_eq_mod]
    rfl
  rw [e, am_l2i_small _ (by rw [e3]; have := byt_lt c i; omega), e3]
theorem byt_b (c : Int64) {i : Nat} (hi : i < 8) (h : byt c i ≤ 126) : am_i2b (am_l2i (am_ushr c (8 * (i : Int)))) = byt c i := by
  have e1 : 8 * (i : Int) = ((8 * i : Nat) : Int) := by omega
  unfold am_i2b am_l2i
  rw [Int32.ofInt_toInt]
  have e2 : (am_ushr c (8 * (i : Int))).toInt32.toInt8 = Int8.ofNat (byt c i) := by
    apply Int8.toBitVec_inj.mp
    apply BitVec.eq_of_toNat_eq
    rw [Int32.toBitVec_toInt8, BitVec.signExtend_eq_setWidth_of_le _ (by decide), BitVec.toNat_setWidth, am_l2i_bv, e1, am_ushr_nat c (by omega)]
    show c.toBitVec.toNat / 2 ^ (8 * i) % 2 ^ 32 % 2 ^ 8 = (BitVec.ofNat 8 (byt c i)).toNat
    rw [Nat.mod_mod_of_dvd _ (by decide), BitVec.toNat_ofNat]
    unfold byt
    rw [Nat.mod_mod]
  rw [e2]
  have h9 : ∀ k : Fin 127, (Int8.ofNat k.val).toInt32.toInt = (k.val : Int) := by decide +kernel
  exact h9 ⟨byt c i, by omega⟩
