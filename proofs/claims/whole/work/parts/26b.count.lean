def pcS : Nat → Nat → Nat
  | 0, _ => 0
  | k + 1, x => pcS k (x / 256) + bc8 (x % 256)
theorem pcS_cnt : ∀ k y (p : Nat → Bool), (∀ i, i < 8 * k → p i = y.testBit i) → cnt p (8 * k) = pcS k y := by
  intro k
  induction k with
  | zero => intro y p _; rfl
  | succ k ih =>
    intro y p h
    rw [show 8 * (k + 1) = 8 + 8 * k by omega, cnt_add, ih (y / 256) (fun i => p (8 + i))]
    · have e : cnt p 8 = bc8 (y % 256) := by
        unfold bc8
        apply cnt_congr
        intro i hi
        rw [h i (by omega), show y % 256 = y % 2 ^ 8 from rfl, Nat.testBit_mod_two_pow]
        simp [hi]
      rw [e, Nat.add_comm]
      rfl
    · intro i hi
      rw [h (8 + i) (by omega), show y / 256 = y / 2 ^ 8 from rfl, Nat.testBit_div_two_pow, Nat.add_comm]
theorem N_and (a b : Int64) : (a &&& b).toBitVec.toNat = a.toBitVec.toNat &&& b.toBitVec.toNat := by
  rw [Int64.toBitVec_and, BitVec.toNat_and]
theorem N_add (a b : Int64) (h : a.toBitVec.toNat + b.toBitVec.toNat < 18446744073709551616) : (a + b).toBitVec.toNat = a.toBitVec.toNat + b.toBitVec.toNat := by
  rw [Int64.toBitVec_add, BitVec.toNat_add, Nat.mod_eq_of_lt h]
theorem N_sub (a b : Int64) (h : b.toBitVec.toNat ≤ a.toBitVec.toNat) : (a - b).toBitVec.toNat = a.toBitVec.toNat - b.toBitVec.toNat := by
  rw [Int64.toBitVec_sub, BitVec.toNat_sub_of_le (BitVec.le_def.mpr h)]
theorem N_lt (a : Int64) : a.toBitVec.toNat < 18446744073709551616 := a.toBitVec.isLt
theorem l2i_and127 (y : Int64) : am_and (am_l2i y) 127 = (y.toBitVec.toNat % 128 : Nat) := by
  unfold am_and am_l2i
  rw [Int32.ofInt_toInt, pk_and (m := Int32.ofInt 127) _ 7 (by decide), am_l2i_bv]
  have e2 : y.toBitVec.toNat % 2 ^ 32 % 2 ^ 7 = y.toBitVec.toNat % 128 := Nat.mod_mod_of_dvd _ (by decide)
  rw [e2, nI_toInt (by omega)]
theorem N_a (x : Int64) : (x - ((am_ushr x 1) &&& (Int64.ofNat 6148914691236517205))).toBitVec.toNat = pcA x.toBitVec.toNat (pcM 85 8) := by
  have e : ((am_ushr x 1) &&& (Int64.ofNat 6148914691236517205)).toBitVec.toNat = (x.toBitVec.toNat / 2) &&& pcM 85 8 := by
    rw [N_and, show am_ushr x 1 = am_ushr x ((1 : Nat) : Int) from rfl, am_ushr_nat x (by decide)]
    rfl
  rw [N_sub _ _ (by rw [e]; exact pcA_le _ _), e]
  rfl
theorem N_b (y : Int64) : ((y &&& (Int64.ofNat 3689348814741910323)) + ((am_ushr y 2) &&& (Int64.ofNat 3689348814741910323))).toBitVec.toNat = pcB y.toBitVec.toNat (pcM 51 8) := by
  have e : ((am_ushr y 2) &&& (Int64.ofNat 3689348814741910323)).toBitVec.toNat = (y.toBitVec.toNat / 4) &&& 3689348814741910323 := by
    rw [N_and, show am_ushr y 2 = am_ushr y ((2 : Nat) : Int) from rfl, am_ushr_nat y (by decide)]
    rfl
  have e2 : (y &&& (Int64.ofNat 3689348814741910323)).toBitVec.toNat = y.toBitVec.toNat &&& 3689348814741910323 := by
    rw [N_and]
    rfl
  have l1 : (y.toBitVec.toNat / 4) &&& 3689348814741910323 ≤ 3689348814741910323 := Nat.and_le_right
  have l2 : y.toBitVec.toNat &&& 3689348814741910323 ≤ 3689348814741910323 := Nat.and_le_right
  rw [N_add _ _ (by rw [e, e2]; omega), e, e2]
  rfl
theorem pcB_le (y : Nat) : pcB y (pcM 51 8) ≤ 7378697629483820646 := by
  have l1 : (y / 4) &&& 3689348814741910323 ≤ 3689348814741910323 := Nat.and_le_right
  have l2 : y &&& 3689348814741910323 ≤ 3689348814741910323 := Nat.and_le_right
  show (y &&& 3689348814741910323) + ((y / 4) &&& 3689348814741910323) ≤ _
  omega
theorem N_c (z : Int64) (hz : z.toBitVec.toNat ≤ 7378697629483820646) : ((z + (am_ushr z 4)) &&& (Int64.ofNat 1085102592571150095)).toBitVec.toNat = pcC z.toBitVec.toNat (pcM 15 8) := by
  have e : (am_ushr z 4).toBitVec.toNat = z.toBitVec.toNat / 16 := by
    rw [show am_ushr z 4 = am_ushr z ((4 : Nat) : Int) from rfl, am_ushr_nat z (by decide)]
  rw [N_and, N_add _ _ (by rw [e]; omega), e]
  rfl
theorem N_s (w : Int64) (k : Nat) (hk : k < 64) (h : w.toBitVec.toNat < 9223372036854775808) : (w + am_ushr w (k : Int)).toBitVec.toNat = w.toBitVec.toNat + w.toBitVec.toNat / 2 ^ k := by
  have e := am_ushr_nat w hk
  have : w.toBitVec.toNat / 2 ^ k ≤ w.toBitVec.toNat := Nat.div_le_self _ _
  rw [N_add _ _ (by rw [e]; omega), e]
theorem dq (c q b : Nat) (h : c < b) : (c + b * q) / b = q := by
  rw [Nat.add_mul_div_left _ _ (by omega), Nat.div_eq_of_lt h, Nat.zero_add]
theorem pc_w8 (c0 c1 c2 c3 c4 c5 c6 c7 W : Nat) (b0 : c0 ≤ 8) (h : W = 256 * (256 * (256 * (256 * (256 * (256 * (256 * (256 * 0 + c7) + c6) + c5) + c4) + c3) + c2) + c1) + c0) : W + W / 2 ^ 8 = (c0 + c1) + 256 * ((c1 + c2) + 256 * ((c2 + c3) + 256 * ((c3 + c4) + 256 * ((c4 + c5) + 256 * ((c5 + c6) + 256 * ((c6 + c7) + 256 * c7)))))) := by
  have e : W = c0 + 2 ^ 8 * (c1 + 256 * (c2 + 256 * (c3 + 256 * (c4 + 256 * (c5 + 256 * (c6 + 256 * c7)))))) := by omega
  rw [e, dq _ _ _ (by omega)]
  omega
theorem pc_w16 (c0 c1 c2 c3 c4 c5 c6 c7 W : Nat) (b0 : c0 ≤ 16) (b1 : c1 ≤ 16) (h : W = c0 + 256 * (c1 + 256 * (c2 + 256 * (c3 + 256 * (c4 + 256 * (c5 + 256 * (c6 + 256 * c7))))))) : W + W / 2 ^ 16 = (c0 + c2) + 256 * ((c1 + c3) + 256 * ((c2 + c4) + 256 * ((c3 + c5) + 256 * ((c4 + c6) + 256 * ((c5 + c7) + 256 * (c6 + 256 * c7)))))) := by
  have e : W = (c0 + 256 * c1) + 2 ^ 16 * (c2 + 256 * (c3 + 256 * (c4 + 256 * (c5 + 256 * (c6 + 256 * c7))))) := by omega
  rw [e, dq _ _ _ (by omega)]
  omega
theorem pc_m32 (c0 A c4 B : Nat) : (c0 + 256 * A + 4294967296 * (c4 + 256 * B) + (c4 + 256 * B)) % 128 = (c0 + c4) % 128 := by omega
theorem pc_d32 (lo hi : Nat) (h : lo < 4294967296) : (lo + 4294967296 * hi) / 4294967296 = hi := dq _ _ _ h
theorem pc_w32 (c0 c1 c2 c3 c4 c5 c6 c7 W : Nat) (b0 : c0 ≤ 32) (b1 : c1 ≤ 32) (b2 : c2 ≤ 32) (b3 : c3 ≤ 32) (h : W = c0 + 256 * (c1 + 256 * (c2 + 256 * (c3 + 256 * (c4 + 256 * (c5 + 256 * (c6 + 256 * c7))))))) : (W + W / 4294967296) % 128 = (c0 + c4) % 128 := by
  have e : W = c0 + 256 * (c1 + 256 * (c2 + 256 * c3)) + 4294967296 * (c4 + 256 * (c5 + 256 * (c6 + 256 * c7))) := by omega
  have l : c0 + 256 * (c1 + 256 * (c2 + 256 * c3)) < 4294967296 := by omega
  have d : W / 4294967296 = c4 + 256 * (c5 + 256 * (c6 + 256 * c7)) := by rw [e]; exact pc_d32 _ _ l
  rw [d, e]
  exact pc_m32 _ _ _ _
theorem pc_lt (c0 c1 c2 c3 c4 c5 c6 c7 W : Nat) (b0 : c0 ≤ 32) (b1 : c1 ≤ 32) (b2 : c2 ≤ 32) (b3 : c3 ≤ 32) (b4 : c4 ≤ 32) (b5 : c5 ≤ 32) (b6 : c6 ≤ 32) (b7 : c7 ≤ 32) (h : W = c0 + 256 * (c1 + 256 * (c2 + 256 * (c3 + 256 * (c4 + 256 * (c5 + 256 * (c6 + 256 * c7))))))) : W < 9223372036854775808 := by
  have l6 : c6 + 256 * c7 ≤ 10000 := by omega
  have l5 : c5 + 256 * (c6 + 256 * c7) ≤ 2570000 := by omega
  clear l6
  generalize c5 + 256 * (c6 + 256 * c7) = q at *
  have l3 : c3 + 256 * (c4 + 256 * q) ≤ 200000000000 := by omega
  clear l5
  generalize c3 + 256 * (c4 + 256 * q) = r at *
  omega
theorem pc_lt8 (c0 c1 c2 c3 c4 c5 c6 c7 W : Nat) (h : W = 256 * (256 * (256 * (256 * (256 * (256 * (256 * (256 * 0 + c7) + c6) + c5) + c4) + c3) + c2) + c1) + c0) : W = c0 + 256 * (c1 + 256 * (c2 + 256 * (c3 + 256 * (c4 + 256 * (c5 + 256 * (c6 + 256 * c7)))))) := by
  omega
theorem pc_end (c0 c1 c2 c3 c4 c5 c6 c7 : Nat) (b0 : c0 ≤ 8) (b1 : c1 ≤ 8) (b2 : c2 ≤ 8) (b3 : c3 ≤ 8) (b4 : c4 ≤ 8) (b5 : c5 ≤ 8) (b6 : c6 ≤ 8) (b7 : c7 ≤ 8) : (c0 + c1 + (c2 + c3) + (c4 + c5 + (c6 + c7))) % 128 = c0 + c1 + c2 + c3 + c4 + c5 + c6 + c7 := by
  rw [Nat.mod_eq_of_lt (by omega)]
  omega
theorem bc_tail (c0 c1 c2 c3 c4 c5 c6 c7 : Nat) (b0 : c0 ≤ 8) (b1 : c1 ≤ 8) (b2 : c2 ≤ 8) (b3 : c3 ≤ 8) (b4 : c4 ≤ 8) (b5 : c5 ≤ 8) (b6 : c6 ≤ 8) (b7 : c7 ≤ 8) (w w1 w2 : Int64) (e1 : w1 = w + am_ushr w ((8 : Nat) : Int)) (e2 : w2 = w1 + am_ushr w1 ((16 : Nat) : Int)) (h3 : w.toBitVec.toNat = 256 * (256 * (256 * (256 * (256 * (256 * (256 * (256 * 0 + c7) + c6) + c5) + c4) + c3) + c2) + c1) + c0) : (w2 + am_ushr w2 ((32 : Nat) : Int)).toBitVec.toNat % 128 = c0 + c1 + c2 + c3 + c4 + c5 + c6 + c7 := by
  have w8 : ∀ {c : Nat}, c ≤ 8 → c ≤ 32 := fun h => Nat.le_trans h (by decide)
  have w16 : ∀ {c d : Nat}, c ≤ 8 → d ≤ 8 → c + d ≤ 16 := fun h k => Nat.add_le_add h k
  have x16 : ∀ {c d : Nat}, c ≤ 8 → d ≤ 8 → c + d ≤ 32 := fun h k => Nat.le_trans (Nat.add_le_add h k) (by decide)
  have w32 : ∀ {c d e f : Nat}, c ≤ 8 → d ≤ 8 → e ≤ 8 → f ≤ 8 → c + d + (e + f) ≤ 32 := fun h k l m => Nat.add_le_add (Nat.add_le_add h k) (Nat.add_le_add l m)
  have h4 := (N_s w 8 (by decide) (pc_lt c0 c1 c2 c3 c4 c5 c6 c7 _ (w8 b0) (w8 b1) (w8 b2) (w8 b3) (w8 b4) (w8 b5) (w8 b6) (w8 b7) (pc_lt8 _ _ _ _ _ _ _ _ _ h3))).trans (pc_w8 c0 c1 c2 c3 c4 c5 c6 c7 _ b0 h3)
  rw [← e1] at h4
  have h5 := (N_s w1 16 (by decide) (pc_lt _ _ _ _ _ _ _ _ _ (x16 b0 b1) (x16 b1 b2) (x16 b2 b3) (x16 b3 b4) (x16 b4 b5) (x16 b5 b6) (x16 b6 b7) (w8 b7) h4)).trans (pc_w16 _ _ _ _ _ _ _ _ _ (w16 b0 b1) (w16 b1 b2) h4)
  rw [← e2] at h5
  have h6 := N_s w2 32 (by decide) (pc_lt _ _ _ _ _ _ _ _ _ (w32 b0 b1 b2 b3) (w32 b1 b2 b3 b4) (w32 b2 b3 b4 b5) (w32 b3 b4 b5 b6) (w32 b4 b5 b6 b7) (Nat.le_trans (Nat.add_le_add (Nat.add_le_add b5 b6) b7) (by decide)) (x16 b6 b7) (w8 b7) h5)
  rw [h6]
  exact (pc_w32 _ _ _ _ _ _ _ _ _ (w32 b0 b1 b2 b3) (w32 b1 b2 b3 b4) (w32 b2 b3 b4 b5) (w32 b3 b4 b5 b6) h5).trans (pc_end _ _ _ _ _ _ _ _ b0 b1 b2 b3 b4 b5 b6 b7)
theorem pcL8 (X : Nat) : pcL 8 X = 256 * (256 * (256 * (256 * (256 * (256 * (256 * (256 * 0 + bc8 (X / 256 / 256 / 256 / 256 / 256 / 256 / 256 % 256)) + bc8 (X / 256 / 256 / 256 / 256 / 256 / 256 % 256)) + bc8 (X / 256 / 256 / 256 / 256 / 256 % 256)) + bc8 (X / 256 / 256 / 256 / 256 % 256)) + bc8 (X / 256 / 256 / 256 % 256)) + bc8 (X / 256 / 256 % 256)) + bc8 (X / 256 % 256)) + bc8 (X % 256) := by
  rfl
/-- the same, summed -/
theorem pcS8 (X : Nat) : pcS 8 X = bc8 (X % 256) + bc8 (X / 256 % 256) + bc8 (X / 256 / 256 % 256) + bc8 (X / 256 / 256 / 256 % 256) + bc8 (X / 256 / 256 / 256 / 256 % 256) + bc8 (X / 256 / 256 / 256 / 256 / 256 % 256) + bc8 (X / 256 / 256 / 256 / 256 / 256 / 256 % 256) + bc8 (X / 256 / 256 / 256 / 256 / 256 / 256 / 256 % 256) := by
  have h : pcS 8 X = 0 + bc8 (X / 256 / 256 / 256 / 256 / 256 / 256 / 256 % 256) + bc8 (X / 256 / 256 / 256 / 256 / 256 / 256 % 256) + bc8 (X / 256 / 256 / 256 / 256 / 256 % 256) + bc8 (X / 256 / 256 / 256 / 256 % 256) + bc8 (X / 256 / 256 / 256 % 256) + bc8 (X / 256 / 256 % 256) + bc8 (X / 256 % 256) + bc8 (X % 256) := rfl
  rw [h]
  generalize bc8 _ = c7
  generalize bc8 _ = c6
  generalize bc8 _ = c5
  generalize bc8 _ = c4
  generalize bc8 _ = c3
  generalize bc8 _ = c2
  generalize bc8 _ = c1
  generalize bc8 _ = c0
  omega
set_option maxHeartbeats 400000 in
theorem e_bitCount (x : Int64) (g : G2) : f_J_bitCount x g = some (((cnt (tb x) 64 : Nat) : Int), g) := by
  unfold f_J_bitCount
  have h1 := N_a x
  generalize x - ((am_ushr x 1) &&& (Int64.ofNat 6148914691236517205)) = y at h1 ⊢
  have h2 := N_b y
  generalize (y &&& (Int64.ofNat 3689348814741910323)) + ((am_ushr y 2) &&& (Int64.ofNat 3689348814741910323)) = z at h2 ⊢
  have h3 := N_c z (by rw [h2]; exact pcB_le _)
  generalize (z + (am_ushr z 4)) &&& (Int64.ofNat 1085102592571150095) = w at h3 ⊢
  rw [h2, h1, (pc_all 8 x.toBitVec.toNat (N_lt x)).2] at h3
  have hs : cnt (tb x) 64 = pcS 8 x.toBitVec.toNat := pcS_cnt 8 _ _ (fun i _ => rfl)
  rw [hs]
  generalize x.toBitVec.toNat = X at h3 ⊢
  rw [l2i_and127, pcS8]
  rw [pcL8] at h3
  have e := bc_tail _ _ _ _ _ _ _ _ (bc8_le _) (bc8_le _) (bc8_le _) (bc8_le _) (bc8_le _) (bc8_le _) (bc8_le _) (bc8_le _) w _ _ rfl rfl h3
  exact congrArg (fun k : Nat => some ((k : Int), g)) e
