/-! ===== counting ===== -/
def cnt (p : Nat → Bool) : Nat → Nat
  | 0 => 0
  | n + 1 => cnt p n + if p n = true then 1 else 0
theorem cnt_succ (p : Nat → Bool) (n : Nat) : cnt p (n + 1) = cnt p n + if p n = true then 1 else 0 := rfl
theorem cnt_le (p : Nat → Bool) (n : Nat) : cnt p n ≤ n := by
  induction n with
  | zero => exact Nat.le_refl 0
  | succ n ih => rw [cnt_succ]; split <;> omega
theorem cnt_congr {p q : Nat → Bool} {n : Nat} (h : ∀ i, i < n → p i = q i) : cnt p n = cnt q n := by
  induction n with
  | zero => rfl
  | succ n ih => rw [cnt_succ, cnt_succ, ih (fun i hi => h i (by omega)), h n (by omega)]
theorem cnt_add (p : Nat → Bool) (m : Nat) : ∀ n, cnt p (m + n) = cnt p m + cnt (fun i => p (m + i)) n := by
  intro n
  induction n with
  | zero => rfl
  | succ n ih => rw [← Nat.add_assoc, cnt_succ, cnt_succ, ih, Nat.add_assoc]
/-! the count of the set bits of a long, lane by lane -/
theorem and_lane (a b c d : Nat) (hb : b < 256) (hd : d < 256) : (256 * a + b) &&& (256 * c + d) = 256 * (a &&& c) + (b &&& d) := by
  have hbd : b &&& d < 2 ^ 8 := Nat.and_lt_two_pow _ hd
  apply Nat.eq_of_testBit_eq
  intro i
  rw [Nat.testBit_and]
  rw [show 256 * a + b = 2 ^ 8 * a + b from rfl, show 256 * c + d = 2 ^ 8 * c + d from rfl, show 256 * (a &&& c) + (b &&& d) = 2 ^ 8 * (a &&& c) + (b &&& d) from rfl]
  rw [Nat.testBit_two_pow_mul_add _ hb, Nat.testBit_two_pow_mul_add _ hd, Nat.testBit_two_pow_mul_add _ hbd]
  split
  · rw [Nat.testBit_and]
  · rw [Nat.testBit_and]
def pcA (x M : Nat) : Nat := x - ((x / 2) &&& M)
def pcB (x M : Nat) : Nat := (x &&& M) + ((x / 4) &&& M)
def pcC (x M : Nat) : Nat := (x + x / 16) &&& M
def bc8 (b : Nat) : Nat := cnt (fun i => b.testBit i) 8
theorem pcA_le (x M : Nat) : (x / 2) &&& M ≤ x := Nat.le_trans Nat.and_le_left (Nat.div_le_self _ _)
theorem pcA_lane (h l M : Nat) (hl : l < 256) : pcA (256 * h + l) (256 * M + 85) = 256 * pcA h M + pcA l 85 := by
  unfold pcA
  have e : (256 * h + l) / 2 = 256 * (h / 2) + (128 * (h % 2) + l / 2) := by omega
  rw [e, and_lane _ _ _ _ (by omega) (by decide)]
  have e2 : (128 * (h % 2) + l / 2) &&& 85 = (l / 2) &&& 85 := by
    have k : ∀ b : Fin 2, ∀ c : Fin 128, (128 * b.val + c.val) &&& 85 = c.val &&& 85 := by decide +kernel
    exact k ⟨h % 2, by omega⟩ ⟨l / 2, by omega⟩
  rw [e2]
  have := pcA_le h M
  have := pcA_le l 85
  omega
theorem pcB_lane (h l M : Nat) (hl : l < 256) : pcB (256 * h + l) (256 * M + 51) = 256 * pcB h M + pcB l 51 := by
  unfold pcB
  have e : (256 * h + l) / 4 = 256 * (h / 4) + (64 * (h % 4) + l / 4) := by omega
  rw [e, and_lane h l M 51 hl (by decide), and_lane (h / 4) _ M 51 (by omega) (by decide)]
  have e2 : (64 * (h % 4) + l / 4) &&& 51 = (l / 4) &&& 51 := by
    have k : ∀ b : Fin 4, ∀ c : Fin 64, (64 * b.val + c.val) &&& 51 = c.val &&& 51 := by decide +kernel
    exact k ⟨h % 4, by omega⟩ ⟨l / 4, by omega⟩
  rw [e2]
  omega
theorem pcC_lane (h l M : Nat) (hl : l ≤ 68) (hh : h % 16 ≤ 4) : pcC (256 * h + l) (256 * M + 15) = 256 * pcC h M + pcC l 15 := by
  unfold pcC
  have e : 256 * h + l + (256 * h + l) / 16 = 256 * (h + h / 16) + (l + (16 * (h % 16) + l / 16)) := by omega
  rw [e, and_lane _ _ _ _ (by omega) (by decide)]
  have e2 : (l + (16 * (h % 16) + l / 16)) &&& 15 = (l + l / 16) &&& 15 := by
    show _ &&& (2 ^ 4 - 1) = _ &&& (2 ^ 4 - 1)
    rw [Nat.and_two_pow_sub_one_eq_mod, Nat.and_two_pow_sub_one_eq_mod]
    omega
  rw [e2]
def pcM (d : Nat) : Nat → Nat
  | 0 => 0
  | k + 1 => 256 * pcM d k + d
def pcL : Nat → Nat → Nat
  | 0, _ => 0
  | k + 1, x => 256 * pcL k (x / 256) + bc8 (x % 256)
theorem pc8 : ∀ b : Fin 256, pcB (pcA b.val 85) 51 ≤ 68 ∧ pcB (pcA b.val 85) 51 % 16 ≤ 4 ∧ pcA b.val 85 < 256 ∧ pcC (pcB (pcA b.val 85) 51) 15 = bc8 b.val := by decide +kernel
theorem pc_all : ∀ k x : Nat, x < 256 ^ k → pcB (pcA x (pcM 85 k)) (pcM 51 k) % 16 ≤ 4 ∧ pcC (pcB (pcA x (pcM 85 k)) (pcM 51 k)) (pcM 15 k) = pcL k x := by
  intro k
  induction k with
  | zero =>
    intro x hx
    have : x = 0 := by omega
    subst this
    decide
  | succ k ih =>
    intro x hx
    obtain ⟨i1, i2⟩ := ih (x / 256) (by rw [Nat.pow_succ] at hx; omega)
    obtain ⟨j1, j2, j3, j4⟩ := pc8 ⟨x % 256, by omega⟩
    have e : x = 256 * (x / 256) + x % 256 := by omega
    have eA : pcA x (pcM 85 (k + 1)) = 256 * pcA (x / 256) (pcM 85 k) + pcA (x % 256) 85 := by
      conv => lhs; rw [e]
      exact pcA_lane _ _ _ (by omega)
    have eB : pcB (pcA x (pcM 85 (k + 1))) (pcM 51 (k + 1)) = 256 * pcB (pcA (x / 256) (pcM 85 k)) (pcM 51 k) + pcB (pcA (x % 256) 85) 51 := by
      rw [eA]
      exact pcB_lane _ _ _ j3
    have eC : pcC (pcB (pcA x (pcM 85 (k + 1))) (pcM 51 (k + 1))) (pcM 15 (k + 1)) = 256 * pcC (pcB (pcA (x / 256) (pcM 85 k)) (pcM 51 k)) (pcM 15 k) + pcC (pcB (pcA (x % 256) 85) 51) 15 := by
      rw [eB]
      exact pcC_lane _ _ _ j1 i1
    refine ⟨?_, ?_⟩
    · rw [eB]
      show _ % 16 ≤ 4
      have j2' : pcB (pcA (x % 256) 85) 51 % 16 ≤ 4 := j2
      omega
    · rw [eC, i2]
      have j4' : pcC (pcB (pcA (x % 256) 85) 51) 15 = bc8 (x % 256) := j4
      rw [j4']
      rfl
theorem bc8_le (b : Nat) : bc8 b ≤ 8 := cnt_le _ 8
