/-! hypothesis -/
theorem cnt_find (p : Nat → Bool) (y : Nat) : ∀ k, y < cnt p k → ∃ u, u < k ∧ p u = true ∧ cnt p u = y := by
  intro k
  induction k with
  | zero => intro h; exact (Nat.not_lt_zero _ h).elim
  | succ k ih =>
    intro h
    by_cases e : y < cnt p k
    · obtain ⟨u, h1, h2, h3⟩ := ih e
      exact ⟨u, by omega, h2, h3⟩
    · rw [cnt_succ] at h
      by_cases hp : p k = true
      · rw [if_pos hp] at h
        exact ⟨k, by omega, hp, by omega⟩
      · rw [if_neg hp] at h
        omega
theorem cnt_lt (p : Nat → Bool) (u : Nat) (hu : p u = true) : ∀ k, u < k → cnt p u < cnt p k := by
  intro k
  induction k with
  | zero => intro h; omega
  | succ k ih =>
    intro h
    rw [cnt_succ]
    by_cases e : u = k
    · subst e
      rw [if_pos hu]
      omega
    · have := ih (by omega)
      omega
/-- the model lists, for each assertion, the bits of the class's mask in their order -/
def R7 (g : G2) (a : Nat) : Prop := ∀ j : Nat, j < a → ∀ k : Nat, g.2.2.1 17 j = k → g.2.2.1 70 j = ((cnt (tb (g.2.2.2 14 k)) k : Nat) : Int) ∧ ∀ i : Nat, i < k → tb (g.2.2.2 14 k) i = true → g.2.2.1 69 (40 * j + cnt (tb (g.2.2.2 14 k)) i) = i
theorem e_isMand (g : G2) (k i : Nat) (hk : k < 40) (hi : i < 64) : f_Statements_isMandatory_8 k i g = some ((if tb (g.2.2.2 14 k) i = true then 1 else 0), g) := by
  unfold f_Statements_isMandatory_8
  rw [if_pos (by omega), show rB g 14 (k : Int) = g.2.2.2 14 k from rfl]
  by_cases h : tb (g.2.2.2 14 k) i = true
  · rw [if_neg (fun e => by rw [tb_test _ hi, h] at e; cases e), if_pos h]
  · rw [if_pos ((tb_test _ hi).mpr (Bool.eq_false_iff.mpr h)), if_neg h]
theorem e_findM (g : G2) (k : Nat) (hk : k < 40) (y : Int) (hy : ir y) : ∀ q m i : Nat, i + q = k → q < m → (∃ u : Nat, u < k ∧ tb (g.2.2.2 14 k) u = true ∧ ((cnt (tb (g.2.2.2 14 k)) u : Nat) : Int) = y ∧ l_Statements_findMandatory_8 m 0 k y ((cnt (tb (g.2.2.2 14 k)) i : Nat) : Int) (i : Int) g = some ((u : Int), g)) ∨ ((∀ u : Nat, i ≤ u → u < k → tb (g.2.2.2 14 k) u = true → ((cnt (tb (g.2.2.2 14 k)) u : Nat) : Int) ≠ y) ∧ l_Statements_findMandatory_8 m 0 k y ((cnt (tb (g.2.2.2 14 k)) i : Nat) : Int) (i : Int) g = some (-1, g)) := by
  intro q
  induction q with
  | zero =>
    intro m i hi hm
    obtain ⟨m, rfl⟩ : ∃ m', m = m' + 1 := ⟨m - 1, by omega⟩
    refine Or.inr ⟨fun u h1 h2 => by omega, ?_⟩
    rw [s_Statements_findMandatory_8_0]
    unfold b_Statements_findMandatory_8_0
    rw [if_pos (show ir (i : Int) by omega), if_pos (show ir (k : Int) by omega), if_neg (by omega)]
  | succ q ih =>
    intro m i hi hm
    obtain ⟨m, rfl⟩ : ∃ m', m = m' + 1 := ⟨m - 1, by omega⟩
    have ih' := ih m (i + 1) (by omega) (by omega)
    have hb := cnt_le (tb (g.2.2.2 14 k)) i
    rw [s_Statements_findMandatory_8_0]
    unfold b_Statements_findMandatory_8_0
    rw [if_pos (show ir (i : Int) by omega), if_pos (show ir (k : Int) by omega), if_pos (show (i : Int) < k by omega), bd_some (e_isMand g k i hk (by omega))]
    rw [cnt_succ] at ih'
    by_cases ht : tb (g.2.2.2 14 k) i = true
    · rw [if_pos ht] at ih' ⊢
      rw [if_pos ir_1, if_neg n10, if_pos (by omega), if_pos hy]
      by_cases e : ((cnt (tb (g.2.2.2 14 k)) i : Nat) : Int) = y
      · rw [if_pos e]
        exact Or.inl ⟨i, by omega, ht, e, rfl⟩
      · rw [if_neg e]
        rcases ih' with ⟨u, h1, h2, h3, h4⟩ | ⟨h1, h2⟩
        · exact Or.inl ⟨u, h1, h2, h3, h4⟩
        · refine Or.inr ⟨fun u u1 u2 u3 => ?_, h2⟩
          by_cases ui : u = i
          · subst ui; exact e
          · exact h1 u (by omega) u2 u3
    · rw [if_neg ht] at ih' ⊢
      rw [if_pos ir_0, if_pos rfl]
      rcases ih' with ⟨u, h1, h2, h3, h4⟩ | ⟨h1, h2⟩
      · exact Or.inl ⟨u, h1, h2, h3, h4⟩
      · refine Or.inr ⟨fun u u1 u2 u3 => ?_, h2⟩
        by_cases ui : u = i
        · subst ui; exact (ht u3).elim
        · exact h1 u (by omega) u2 u3
theorem q_hypothesis {g : G2} {n m a : Nat} (h0 : R0 g n m a) (h3 : R3 g n m) (h4 : R4 g m a) (h7 : R7 g a) (x y : Int) (hx : ir x) (hy : ir y) : ∃ r, f_L_hypothesis_1 x y g = some (r, g) ∧ f_M_hypothesis_50 x y g = some (r, g) := by
  obtain ⟨⟨n60, m40, a40⟩, ⟨t1, t2⟩, ⟨r1, r2⟩, ⟨s1, s2⟩⟩ := h0
  by_cases hin : 0 ≤ x ∧ x < (a : Int)
  · obtain ⟨j, rfl⟩ : ∃ j : Nat, x = (j : Int) := ⟨x.toNat, by omega⟩
    obtain ⟨⟨k, hk, k1, k2⟩, _⟩ := h4 j (by omega)
    obtain ⟨c1, c2⟩ := h7 j (by omega) k k1
    have cb := cnt_le (tb (g.2.2.2 14 k)) k
    have hf : f_Statements_findMandatory_8 (k : Int) y g = l_Statements_findMandatory_8 20000 0 k y ((cnt (tb (g.2.2.2 14 k)) 0 : Nat) : Int) ((0 : Nat) : Int) g := rfl
    rcases e_findM g k (by omega) y hy k 20000 0 (by omega) (by omega) with ⟨u, u1, u2, u3, u4⟩ | ⟨u1, u2⟩
    · obtain ⟨_, ⟨b, hb, b1, b2⟩, _⟩ := h3 u (by omega)
      have cl := cnt_lt _ u u2 k u1
      refine ⟨g.2.2.2 8 u, ?_, ?_⟩
      · unfold f_L_hypothesis_1
        rw [bd_some (e_has1 g _ a s1 a40 hin), if_pos ir_1, if_neg n10, if_pos (by omega), show rA g 17 (j : Int) = g.2.2.1 17 j from rfl, k1, bd_some (hf.trans u4), if_pos (by omega), if_neg (by omega), if_pos (by omega)]
        rfl
      · unfold f_M_hypothesis_50
        have e1 : 40 * (j : Int) + y = ((40 * j + cnt (tb (g.2.2.2 14 k)) u : Nat) : Int) := by omega
        rw [bd_some (e_isA1 g _ a s2 a40 hin), if_pos ir_1, if_neg n10, if_pos hy, if_neg (by omega), if_pos (by omega), show rA g 70 (j : Int) = g.2.2.1 70 j from rfl, c1, if_pos (by omega), if_pos (by omega), e1, if_pos (by omega), show rA g 69 ((40 * j + cnt (tb (g.2.2.2 14 k)) u : Nat) : Int) = g.2.2.1 69 (40 * j + cnt (tb (g.2.2.2 14 k)) u) from rfl, c2 u u1 u2, if_pos (by omega), show rA g 59 (u : Int) = g.2.2.1 59 u from rfl, b1, if_pos (by omega), b2]
        rfl
    · have out : y < 0 ∨ ((cnt (tb (g.2.2.2 14 k)) k : Nat) : Int) ≤ y := by
        by_cases z : y < 0
        · exact Or.inl z
        · by_cases w : ((cnt (tb (g.2.2.2 14 k)) k : Nat) : Int) ≤ y
          · exact Or.inr w
          · obtain ⟨v, v1, v2, v3⟩ := cnt_find (tb (g.2.2.2 14 k)) y.toNat k (by omega)
            exact (u1 v (by omega) v1 v2 (by omega)).elim
      refine ⟨Int64.ofNat 18446744073709551615, ?_, ?_⟩
      · unfold f_L_hypothesis_1
        rw [bd_some (e_has1 g _ a s1 a40 hin), if_pos ir_1, if_neg n10, if_pos (by omega), show rA g 17 (j : Int) = g.2.2.1 17 j from rfl, k1, bd_some (hf.trans u2), if_pos (by decide), if_pos (by decide)]
      · unfold f_M_hypothesis_50
        rw [bd_some (e_isA1 g _ a s2 a40 hin), if_pos ir_1, if_neg n10, if_pos hy]
        by_cases z : y < 0
        · rw [if_pos z]
        · rw [if_neg z, if_pos (by omega), show rA g 70 (j : Int) = g.2.2.1 70 j from rfl, c1, if_pos (by omega), if_neg (by omega)]
  · refine ⟨Int64.ofNat 18446744073709551615, ?_, ?_⟩
    · unfold f_L_hypothesis_1
      rw [bd_some (e_has0 g x a s1 a40 hx hin), if_pos ir_0, if_pos rfl]
    · unfold f_M_hypothesis_50
      rw [bd_some (e_isA0 g x a s2 a40 hx hin), if_pos ir_0, if_pos rfl]
