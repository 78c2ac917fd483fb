/-! ===== bits of a long ===== -/
def tb (x : Int64) (i : Nat) : Bool := x.toBitVec.getLsbD i
theorem tb_ext {x y : Int64} (h : ∀ i, i < 64 → tb x i = tb y i) : x = y := Int64.toBitVec_inj.mp (BitVec.eq_of_getLsbD_eq (fun i hi => h i hi))
theorem tb_or (x y : Int64) (i : Nat) : tb (x ||| y) i = (tb x i || tb y i) := by unfold tb; rw [Int64.toBitVec_or, BitVec.getLsbD_or]
theorem tb_and (x y : Int64) (i : Nat) : tb (x &&& y) i = (tb x i && tb y i) := by unfold tb; rw [Int64.toBitVec_and, BitVec.getLsbD_and]
theorem tb_xor (x y : Int64) (i : Nat) : tb (x ^^^ y) i = (tb x i ^^ tb y i) := by unfold tb; rw [Int64.toBitVec_xor, BitVec.getLsbD_xor]
theorem tb_zero (i : Nat) : tb (Int64.ofNat 0) i = false := by
  unfold tb
  show (0#64).getLsbD i = false
  simp
theorem tb_big {x : Int64} {i : Nat} (h : 64 ≤ i) : tb x i = false := BitVec.getLsbD_of_ge _ _ h
theorem am_c63 : ∀ k : Nat, k < 64 → ((Int32.ofInt (k : Int)).toInt64 &&& 63) = Int64.ofNat k := by
  have h : ∀ k : Fin 64, ((Int32.ofInt ((k.val : Nat) : Int)).toInt64 &&& 63) = Int64.ofNat k.val := by decide +kernel
  exact fun k hk => h ⟨k, hk⟩
theorem am_cu63 : ∀ k : Nat, k < 64 → ((Int32.ofInt (k : Int)).toInt64.toUInt64 &&& Int64.toUInt64 63) = UInt64.ofNat k := by
  have h : ∀ k : Fin 64, ((Int32.ofInt ((k.val : Nat) : Int)).toInt64.toUInt64 &&& Int64.toUInt64 63) = UInt64.ofNat k.val := by decide +kernel
  exact fun k hk => h ⟨k, hk⟩
theorem tb_one_shl : ∀ k : Nat, k < 64 → ∀ i, i < 64 → tb (am_shl (Int64.ofNat 1) (k : Int)) i = decide (i = k) := by
  have h : ∀ k : Fin 64, (am_shl (Int64.ofNat 1) ((k.val : Nat) : Int)).toBitVec = BitVec.twoPow 64 k.val := by decide +kernel
  intro k hk i hi
  unfold tb
  rw [h ⟨k, hk⟩, BitVec.getLsbD_twoPow]
  simp [hk]
  omega
theorem tb_ushr (x : Int64) {k : Nat} (hk : k < 64) (i : Nat) : tb (am_ushr x (k : Int)) i = tb x (k + i) := by
  unfold tb am_ushr
  rw [am_cu63 k hk]
  show ((x.toUInt64 >>> UInt64.ofNat k).toBitVec).getLsbD i = _
  rw [UInt64.toBitVec_shiftRight]
  have e : (UInt64.ofNat k).toBitVec % 64 = BitVec.ofNat 64 k := by
    apply BitVec.eq_of_toNat_eq
    simp
    omega
  rw [e]
  have e2 : BitVec.toNat (BitVec.ofNat 64 k) = k := by simp; omega
  rw [BitVec.ushiftRight_eq', e2, BitVec.getLsbD_ushiftRight]
  rfl
theorem tb_one (i : Nat) : tb (Int64.ofNat 1) i = decide (i = 0) := by
  unfold tb
  show (1#64).getLsbD i = _
  rw [BitVec.getLsbD_one]
  simp
/-- the class's test of a bit -/
theorem tb_test (x : Int64) {k : Nat} (hk : k < 64) : ((am_ushr x (k : Int)) &&& (Int64.ofNat 1)) = Int64.ofNat 0 ↔ tb x k = false := by
  constructor
  · intro h
    have h1 : tb ((am_ushr x (k : Int)) &&& (Int64.ofNat 1)) 0 = tb (Int64.ofNat 0) 0 := by rw [h]
    rw [tb_and, tb_ushr x hk, tb_one, tb_zero] at h1
    simpa using h1
  · intro h
    apply tb_ext
    intro i hi
    rw [tb_and, tb_ushr x hk, tb_one, tb_zero]
    by_cases hi0 : i = 0
    · subst hi0; simp [h]
    · simp [hi0]
theorem tb_eq0 (x : Int64) : x = Int64.ofNat 0 ↔ ∀ i, i < 64 → tb x i = false := by
  constructor
  · intro h i _; rw [h, tb_zero]
  · intro h; apply tb_ext; intro i hi; rw [h i hi, tb_zero]
theorem tb_m1 (i : Nat) (hi : i < 64) : tb (Int64.ofNat 18446744073709551615) i = true := by
  have h : ∀ k : Fin 64, tb (Int64.ofNat 18446744073709551615) k.val = true := by decide +kernel
  exact h ⟨i, hi⟩
