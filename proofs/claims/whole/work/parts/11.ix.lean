/-! places in the arrays, by their lengths -/
theorem ix_1 {x : Int} (h : 0 ≤ x ∧ x < 1) : 0 ≤ x ∧ x < ((1 : Nat) : Int) ∧ ((1 : Nat) : Int) < 2147483648 := by omega
theorem ix_6 {x : Int} (h : 0 ≤ x ∧ x < 6) : 0 ≤ x ∧ x < ((6 : Nat) : Int) ∧ ((6 : Nat) : Int) < 2147483648 := by omega
theorem ix_16 {x : Int} (h : 0 ≤ x ∧ x < 16) : 0 ≤ x ∧ x < ((16 : Nat) : Int) ∧ ((16 : Nat) : Int) < 2147483648 := by omega
theorem ix_20 {x : Int} (h : 0 ≤ x ∧ x < 20) : 0 ≤ x ∧ x < ((20 : Nat) : Int) ∧ ((20 : Nat) : Int) < 2147483648 := by omega
theorem ix_24 {x : Int} (h : 0 ≤ x ∧ x < 24) : 0 ≤ x ∧ x < ((24 : Nat) : Int) ∧ ((24 : Nat) : Int) < 2147483648 := by omega
theorem ix_40 {x : Int} (h : 0 ≤ x ∧ x < 40) : 0 ≤ x ∧ x < ((40 : Nat) : Int) ∧ ((40 : Nat) : Int) < 2147483648 := by omega
theorem ix_41 {x : Int} (h : 0 ≤ x ∧ x < 41) : 0 ≤ x ∧ x < ((41 : Nat) : Int) ∧ ((41 : Nat) : Int) < 2147483648 := by omega
theorem ix_60 {x : Int} (h : 0 ≤ x ∧ x < 60) : 0 ≤ x ∧ x < ((60 : Nat) : Int) ∧ ((60 : Nat) : Int) < 2147483648 := by omega
theorem ix_384 {x : Int} (h : 0 ≤ x ∧ x < 384) : 0 ≤ x ∧ x < ((384 : Nat) : Int) ∧ ((384 : Nat) : Int) < 2147483648 := by omega
theorem ix_600 {x : Int} (h : 0 ≤ x ∧ x < 600) : 0 ≤ x ∧ x < ((600 : Nat) : Int) ∧ ((600 : Nat) : Int) < 2147483648 := by omega
theorem ix_801 {x : Int} (h : 0 ≤ x ∧ x < 801) : 0 ≤ x ∧ x < ((801 : Nat) : Int) ∧ ((801 : Nat) : Int) < 2147483648 := by omega
theorem ix_960 {x : Int} (h : 0 ≤ x ∧ x < 960) : 0 ≤ x ∧ x < ((960 : Nat) : Int) ∧ ((960 : Nat) : Int) < 2147483648 := by omega
theorem ix_1600 {x : Int} (h : 0 ≤ x ∧ x < 1600) : 0 ≤ x ∧ x < ((1600 : Nat) : Int) ∧ ((1600 : Nat) : Int) < 2147483648 := by omega
theorem ix_1640 {x : Int} (h : 0 ≤ x ∧ x < 1640) : 0 ≤ x ∧ x < ((1640 : Nat) : Int) ∧ ((1640 : Nat) : Int) < 2147483648 := by omega
theorem cp_24_384 {s d n : Int} (h : 0 ≤ s ∧ 0 ≤ d ∧ 0 ≤ n ∧ s + n ≤ 24 ∧ d + n ≤ 384) : 0 ≤ s ∧ 0 ≤ d ∧ 0 ≤ n ∧ s + n ≤ ((24 : Nat) : Int) ∧ d + n ≤ ((384 : Nat) : Int) ∧ ((24 : Nat) : Int) < 2147483648 ∧ ((384 : Nat) : Int) < 2147483648 := by omega
theorem cp_384_384 {s d n : Int} (h : 0 ≤ s ∧ 0 ≤ d ∧ 0 ≤ n ∧ s + n ≤ 384 ∧ d + n ≤ 384) : 0 ≤ s ∧ 0 ≤ d ∧ 0 ≤ n ∧ s + n ≤ ((384 : Nat) : Int) ∧ d + n ≤ ((384 : Nat) : Int) ∧ ((384 : Nat) : Int) < 2147483648 ∧ ((384 : Nat) : Int) < 2147483648 := by omega
theorem cp_960_384 {s d n : Int} (h : 0 ≤ s ∧ 0 ≤ d ∧ 0 ≤ n ∧ s + n ≤ 960 ∧ d + n ≤ 384) : 0 ≤ s ∧ 0 ≤ d ∧ 0 ≤ n ∧ s + n ≤ ((960 : Nat) : Int) ∧ d + n ≤ ((384 : Nat) : Int) ∧ ((960 : Nat) : Int) < 2147483648 ∧ ((384 : Nat) : Int) < 2147483648 := by omega
