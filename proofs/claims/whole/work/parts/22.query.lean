/-! ===== the relation of the two sides that the questions need, and the questions ===== -/
theorem e_has1 (g : G2) (x : Int) (a : Nat) (h : rI g 16 8 = a) (ha : a ≤ 40) (hx : 0 ≤ x ∧ x < (a : Int)) : f_Assertions_has_17 x g = some (1, g) := by
  unfold f_Assertions_has_17
  repeat' split
  all_goals first | rfl | (exfalso; omega)
theorem e_has0 (g : G2) (x : Int) (a : Nat) (h : rI g 16 8 = a) (ha : a ≤ 40) (hr : ir x) (hx : ¬ (0 ≤ x ∧ x < (a : Int))) : f_Assertions_has_17 x g = some (0, g) := by
  unfold f_Assertions_has_17
  repeat' split
  all_goals first | rfl | (exfalso; omega)
theorem e_isA1 (g : G2) (x : Int) (a : Nat) (h : rI g 49 27 = a) (ha : a ≤ 40) (hx : 0 ≤ x ∧ x < (a : Int)) : f_M_isAssertion_50 x g = some (1, g) := by
  unfold f_M_isAssertion_50
  repeat' split
  all_goals first | rfl | (exfalso; omega)
theorem e_isA0 (g : G2) (x : Int) (a : Nat) (h : rI g 49 27 = a) (ha : a ≤ 40) (hr : ir x) (hx : ¬ (0 ≤ x ∧ x < (a : Int))) : f_M_isAssertion_50 x g = some (0, g) := by
  unfold f_M_isAssertion_50
  repeat' split
  all_goals first | rfl | (exfalso; omega)
theorem ir_1 : ir 1 := by decide
theorem ir_0 : ir 0 := by decide
theorem n10 : ¬ (1 : Int) = 0 := by decide
/-- sizes -/
def R0 (g : G2) (n m a : Nat) : Prop := (n ≤ 60 ∧ m ≤ 40 ∧ a ≤ 40) ∧ (rI g 3 3 = n ∧ rI g 49 8 = n) ∧ (rI g 10 4 = m ∧ rI g 49 15 = m) ∧ (rI g 16 8 = a ∧ rI g 49 27 = a)
/-- names: codes, and what a name is -/
def R1 (g : G2) (n : Nat) : Prop := (∀ i : Nat, i < n → g.2.2.2 4 i = g.2.2.2 53 i ∧ ((g.2.2.1 5 i = 0 ∧ g.2.2.1 54 i = 1) ∨ (g.2.2.1 5 i = 1 ∧ g.2.2.1 54 i = 2) ∨ (g.2.2.1 5 i = 2 ∧ g.2.2.1 54 i = 0))) ∧ (∀ i j : Nat, i < n → j < n → g.2.2.2 4 i = g.2.2.2 4 j → i = j)
/-- statements -/
def R3 (g : G2) (n m : Nat) : Prop := ∀ k : Nat, k < m → (0 ≤ g.2.2.1 9 k ∧ g.2.2.1 9 k ≤ 3 ∧ g.2.2.1 58 k = g.2.2.1 9 k + 4) ∧ (∃ b : Nat, b < n ∧ g.2.2.1 59 k = b ∧ g.2.2.2 8 k = g.2.2.2 53 b) ∧ (∃ l : Nat, 1 ≤ l ∧ l ≤ 24 ∧ g.2.2.1 12 k = l ∧ g.2.2.1 61 k = l ∧ ∀ i : Nat, i < l → g.2.2.1 11 (24 * k + i) = g.2.2.1 60 (24 * k + i) ∧ 0 ≤ g.2.2.1 60 (24 * k + i) ∧ g.2.2.1 60 (24 * k + i) < n)
/-- assertions -/
def R4 (g : G2) (m a : Nat) : Prop := ∀ j : Nat, j < a → (∃ k : Nat, k < m ∧ g.2.2.1 17 j = k ∧ g.2.2.1 68 j = k) ∧ (g.2.2.1 18 j = g.2.2.1 73 j ∧ ir (g.2.2.1 18 j) ∧ 0 ≤ g.2.2.1 18 j ∧ g.2.2.1 18 j ≤ 40) ∧ (g.2.2.1 20 j = g.2.2.1 74 j ∧ ir (g.2.2.1 20 j)) ∧ (g.2.2.1 21 j = g.2.2.1 75 j ∧ ir (g.2.2.1 21 j)) ∧ (∀ i : Nat, i < a → g.2.2.1 22 (40 * j + i) = g.2.2.1 76 (40 * j + i) ∧ ir (g.2.2.1 22 (40 * j + i))) ∧ (g.2.2.1 24 j = g.2.2.1 78 j ∧ (g.2.2.1 24 j = 0 ∨ g.2.2.1 24 j = 1))
theorem q_pairs {g : G2} {n m a : Nat} (h0 : R0 g n m a) (h4 : R4 g m a) (x : Int) (hx : ir x) : ∃ r, ir r ∧ f_L_pairs_1 x g = some (r, g) ∧ f_M_pairs_50 x g = some (r, g) := by
  obtain ⟨⟨b1, b2, b3⟩, -, -, ⟨c1, c2⟩⟩ := h0
  by_cases hk : 0 ≤ x ∧ x < (a : Int)
  · obtain ⟨j, rfl⟩ : ∃ j : Nat, x = j := ⟨x.toNat, by omega⟩
    obtain ⟨-, ⟨e1, e2, -⟩, -⟩ := h4 j (by omega)
    refine ⟨g.2.2.1 18 j, e2, ?_, ?_⟩
    · unfold f_L_pairs_1
      rw [bd_some (e_has1 g j a c1 b3 hk), if_pos ir_1, if_neg n10, if_pos (by omega)]
      rfl
    · unfold f_M_pairs_50
      rw [bd_some (e_isA1 g j a c2 b3 hk), if_pos ir_1, if_neg n10, if_pos (by omega), e1]
      rfl
  · refine ⟨-1, by decide, ?_, ?_⟩
    · unfold f_L_pairs_1
      rw [bd_some (e_has0 g x a c1 b3 hx hk), if_pos ir_0, if_pos rfl]
    · unfold f_M_pairs_50
      rw [bd_some (e_isA0 g x a c2 b3 hx hk), if_pos ir_0, if_pos rfl]
theorem q_steps {g : G2} {n m a : Nat} (h0 : R0 g n m a) (h4 : R4 g m a) (x : Int) (hx : ir x) : ∃ r, ir r ∧ f_L_steps_1 x g = some (r, g) ∧ f_M_steps_50 x g = some (r, g) := by
  obtain ⟨⟨b1, b2, b3⟩, -, -, ⟨c1, c2⟩⟩ := h0
  by_cases hk : 0 ≤ x ∧ x < (a : Int)
  · obtain ⟨j, rfl⟩ : ∃ j : Nat, x = j := ⟨x.toNat, by omega⟩
    obtain ⟨-, -, ⟨e1, e2⟩, -⟩ := h4 j (by omega)
    refine ⟨g.2.2.1 20 j, e2, ?_, ?_⟩
    · unfold f_L_steps_1
      rw [bd_some (e_has1 g j a c1 b3 hk), if_pos ir_1, if_neg n10, if_pos (by omega)]
      rfl
    · unfold f_M_steps_50
      rw [bd_some (e_isA1 g j a c2 b3 hk), if_pos ir_1, if_neg n10, if_pos (by omega), e1]
      rfl
  · refine ⟨-1, by decide, ?_, ?_⟩
    · unfold f_L_steps_1
      rw [bd_some (e_has0 g x a c1 b3 hx hk), if_pos ir_0, if_pos rfl]
    · unfold f_M_steps_50
      rw [bd_some (e_isA0 g x a c2 b3 hx hk), if_pos ir_0, if_pos rfl]
theorem q_depth {g : G2} {n m a : Nat} (h0 : R0 g n m a) (h4 : R4 g m a) (x : Int) (hx : ir x) : ∃ r, ir r ∧ f_L_depth_1 x g = some (r, g) ∧ f_M_depth_50 x g = some (r, g) := by
  obtain ⟨⟨b1, b2, b3⟩, -, -, ⟨c1, c2⟩⟩ := h0
  by_cases hk : 0 ≤ x ∧ x < (a : Int)
  · obtain ⟨j, rfl⟩ : ∃ j : Nat, x = j := ⟨x.toNat, by omega⟩
    obtain ⟨-, -, -, ⟨e1, e2⟩, -⟩ := h4 j (by omega)
    refine ⟨g.2.2.1 21 j, e2, ?_, ?_⟩
    · unfold f_L_depth_1
      rw [bd_some (e_has1 g j a c1 b3 hk), if_pos ir_1, if_neg n10, if_pos (by omega)]
      rfl
    · unfold f_M_depth_50
      rw [bd_some (e_isA1 g j a c2 b3 hk), if_pos ir_1, if_neg n10, if_pos (by omega), e1]
      rfl
  · refine ⟨-1, by decide, ?_, ?_⟩
    · unfold f_L_depth_1
      rw [bd_some (e_has0 g x a c1 b3 hx hk), if_pos ir_0, if_pos rfl]
    · unfold f_M_depth_50
      rw [bd_some (e_isA0 g x a c2 b3 hx hk), if_pos ir_0, if_pos rfl]
theorem q_place {g : G2} (h : rI g 0 5 = rI g 49 7) : f_L_place_1 g = some (rI g 0 5, g) ∧ f_M_place_50 g = some (rI g 0 5, g) := by
  refine ⟨rfl, ?_⟩
  rw [h]; rfl
theorem q_proved {g : G2} {n m a : Nat} (h0 : R0 g n m a) (h4 : R4 g m a) (x : Int) (hx : ir x) : ∃ r, ir r ∧ f_L_proved_1 x g = some (r, g) ∧ f_M_proved_50 x g = some (r, g) := by
  obtain ⟨⟨b1, b2, b3⟩, -, -, ⟨c1, c2⟩⟩ := h0
  by_cases hk : 0 ≤ x ∧ x < (a : Int)
  · obtain ⟨j, rfl⟩ : ∃ j : Nat, x = j := ⟨x.toNat, by omega⟩
    obtain ⟨-, -, -, -, -, ⟨e1, e2⟩⟩ := h4 j (by omega)
    have e3 : rA g 24 (j : Int) = g.2.2.1 24 j := rfl
    have e4 : rA g 78 (j : Int) = g.2.2.1 24 j := e1.symm
    refine ⟨g.2.2.1 24 j, by omega, ?_, ?_⟩
    · unfold f_L_proved_1
      rw [bd_some (e_has1 g j a c1 b3 hk), if_pos ir_1, if_neg n10, if_pos (by omega), e3, if_pos (by omega)]
      rcases e2 with e2 | e2
      · rw [if_pos e2, e2]
      · rw [if_neg (by omega), e2]
    · unfold f_M_proved_50
      rw [bd_some (e_isA1 g j a c2 b3 hk), if_pos ir_1, if_neg n10, if_pos (by omega), e4, if_pos (by omega)]
      rcases e2 with e2 | e2
      · rw [if_pos e2, e2]
      · rw [if_neg (by omega), e2]
  · refine ⟨0, by decide, ?_, ?_⟩
    · unfold f_L_proved_1
      rw [bd_some (e_has0 g x a c1 b3 hx hk), if_pos ir_0, if_pos rfl]
    · unfold f_M_proved_50
      rw [bd_some (e_isA0 g x a c2 b3 hx hk), if_pos ir_0, if_pos rfl]
theorem e_countUses (g : G2) (i j : Nat) (hj : j < 40) (hi : i < 40) : f_Assertions_countUses_17 j i g = some (g.2.2.1 22 (40 * j + i), g) := by
  unfold f_Assertions_countUses_17
  have e : ((j : Int) * 40 + i).toNat = 40 * j + i := by omega
  rw [if_pos (by omega)]
  show some (g.2.2.1 22 ((j : Int) * 40 + i).toNat, g) = _
  rw [e]
theorem q_uses {g : G2} {n m a : Nat} (h0 : R0 g n m a) (h4 : R4 g m a) (x y : Int) (hx : ir x) (hy : ir y) : ∃ r, ir r ∧ f_L_uses_1 x y g = some (r, g) ∧ f_M_uses_50 x y g = some (r, g) := by
  obtain ⟨⟨b1, b2, b3⟩, -, -, ⟨c1, c2⟩⟩ := h0
  by_cases hk : 0 ≤ x ∧ x < (a : Int)
  · obtain ⟨j, rfl⟩ : ∃ j : Nat, x = j := ⟨x.toNat, by omega⟩
    by_cases hk2 : 0 ≤ y ∧ y < (a : Int)
    · obtain ⟨i, rfl⟩ : ∃ i : Nat, y = i := ⟨y.toNat, by omega⟩
      obtain ⟨-, -, -, -, e, -⟩ := h4 j (by omega)
      obtain ⟨e1, e2⟩ := e i (by omega)
      have e5 : (40 * (j : Int) + i).toNat = 40 * j + i := by omega
      have e4 : rA g 76 (40 * (j : Int) + i) = g.2.2.1 76 (40 * j + i) := congrArg (g.2.2.1 76) e5
      refine ⟨g.2.2.1 22 (40 * j + i), e2, ?_, ?_⟩
      · unfold f_L_uses_1
        rw [bd_some (e_has1 g j a c1 b3 hk), if_pos ir_1, if_neg n10, bd_some (e_has1 g i a c1 b3 hk2), if_pos ir_1, if_neg n10, bd_some (e_countUses g i j (by omega) (by omega))]
      · unfold f_M_uses_50
        rw [bd_some (e_isA1 g j a c2 b3 hk), if_pos ir_1, if_neg n10, bd_some (e_isA1 g i a c2 b3 hk2), if_pos ir_1, if_neg n10, if_pos (by omega), e4, e1]
    · refine ⟨0, by decide, ?_, ?_⟩
      · unfold f_L_uses_1
        rw [bd_some (e_has1 g j a c1 b3 hk), if_pos ir_1, if_neg n10, bd_some (e_has0 g y a c1 b3 hy hk2), if_pos ir_0, if_pos rfl]
      · unfold f_M_uses_50
        rw [bd_some (e_isA1 g j a c2 b3 hk), if_pos ir_1, if_neg n10, bd_some (e_isA0 g y a c2 b3 hy hk2), if_pos ir_0, if_pos rfl]
  · refine ⟨-1, by decide, ?_, ?_⟩
    · unfold f_L_uses_1
      rw [bd_some (e_has0 g x a c1 b3 hx hk), if_pos ir_0, if_pos rfl]
    · unfold f_M_uses_50
      rw [bd_some (e_isA0 g x a c2 b3 hx hk), if_pos ir_0, if_pos rfl]
theorem q_label {g : G2} {n m a : Nat} (h0 : R0 g n m a) (h3 : R3 g n m) (h4 : R4 g m a) (x : Int) (hx : ir x) : ∃ r, f_L_label_1 x g = some (r, g) ∧ f_M_label_50 x g = some (r, g) := by
  obtain ⟨⟨b1, b2, b3⟩, -, -, ⟨c1, c2⟩⟩ := h0
  by_cases hk : 0 ≤ x ∧ x < (a : Int)
  · obtain ⟨j, rfl⟩ : ∃ j : Nat, x = j := ⟨x.toNat, by omega⟩
    obtain ⟨⟨k, k1, k2, k3⟩, -⟩ := h4 j (by omega)
    obtain ⟨-, ⟨b, d1, d2, d3⟩, -⟩ := h3 k k1
    have e1 : rA g 17 (j : Int) = k := k2
    have e2 : rA g 68 (j : Int) = k := k3
    have e3 : rA g 59 (k : Int) = b := d2
    refine ⟨g.2.2.2 8 k, ?_, ?_⟩
    · unfold f_L_label_1
      rw [bd_some (e_has1 g j a c1 b3 hk), if_pos ir_1, if_neg n10, if_pos (by omega), e1, if_pos (by omega)]
      rfl
    · unfold f_M_label_50
      rw [bd_some (e_isA1 g j a c2 b3 hk), if_pos ir_1, if_neg n10, if_pos (by omega), e2, if_pos (by omega), e3, if_pos (by omega), d3]
      rfl
  · refine ⟨Int64.ofNat 18446744073709551615, ?_, ?_⟩
    · unfold f_L_label_1
      rw [bd_some (e_has0 g x a c1 b3 hx hk), if_pos ir_0, if_pos rfl]
    · unfold f_M_label_50
      rw [bd_some (e_isA0 g x a c2 b3 hx hk), if_pos ir_0, if_pos rfl]
theorem e_symbolAt_11 (g : G2) (k i : Nat) (hk : k < 40) (hi : i < 24) : f_Expressions_symbolAt_11 k i g = some (g.2.2.1 11 (24 * k + i), g) := by
  unfold f_Expressions_symbolAt_11
  have e : ((k : Int) * 24 + i).toNat = 24 * k + i := by omega
  rw [if_pos (by omega)]
  show some (g.2.2.1 11 ((k : Int) * 24 + i).toNat, g) = _
  rw [e]
theorem q_symbol {g : G2} {n m a : Nat} (h0 : R0 g n m a) (h1 : R1 g n) (h3 : R3 g n m) (h4 : R4 g m a) (x y : Int) (hx : ir x) (hy : ir y) : ∃ r, f_L_symbol_1 x y g = some (r, g) ∧ f_M_symbol_50 x y g = some (r, g) := by
  obtain ⟨⟨b1, b2, b3⟩, -, -, ⟨c1, c2⟩⟩ := h0
  by_cases hk : 0 ≤ x ∧ x < (a : Int)
  · obtain ⟨j, rfl⟩ : ∃ j : Nat, x = j := ⟨x.toNat, by omega⟩
    obtain ⟨⟨k, k1, k2, k3⟩, -⟩ := h4 j (by omega)
    obtain ⟨-, -, ⟨l, l1, l2, l3, l4, l5⟩⟩ := h3 k k1
    have e1 : rA g 17 (j : Int) = k := k2
    have e2 : rA g 68 (j : Int) = k := k3
    have e3 : rA g 12 (k : Int) = l := l3
    have e4 : rA g 61 (k : Int) = l := l4
    by_cases hy0 : y < 0
    · refine ⟨Int64.ofNat 18446744073709551615, ?_, ?_⟩
      · unfold f_L_symbol_1
        rw [bd_some (e_has1 g j a c1 b3 hk), if_pos ir_1, if_neg n10, if_pos (by omega), if_pos hy, if_pos hy0]
      · unfold f_M_symbol_50
        rw [bd_some (e_isA1 g j a c2 b3 hk), if_pos ir_1, if_neg n10, if_pos hy, if_pos hy0]
    · by_cases hyl : y < (l : Int)
      · obtain ⟨i, rfl⟩ : ∃ i : Nat, y = i := ⟨y.toNat, by omega⟩
        obtain ⟨s1, s2, s3⟩ := l5 i (by omega)
        obtain ⟨q, hq⟩ : ∃ q : Nat, g.2.2.1 60 (24 * k + i) = q := ⟨(g.2.2.1 60 (24 * k + i)).toNat, by omega⟩
        rw [hq] at s1 s2 s3
        have f5 : (24 * (k : Int) + i).toNat = 24 * k + i := by omega
        have e6 : rA g 60 (24 * (k : Int) + i) = q := (congrArg (g.2.2.1 60) f5).trans hq
        refine ⟨g.2.2.2 4 q, ?_, ?_⟩
        · unfold f_L_symbol_1
          rw [bd_some (e_has1 g j a c1 b3 hk), if_pos ir_1, if_neg n10, if_pos (by omega), if_pos hy, if_neg hy0, e1, if_pos (by omega), e3, if_pos (by omega), if_pos hyl, bd_some (e_symbolAt_11 g k i (by omega) (by omega)), s1, if_pos (by omega)]
          rfl
        · unfold f_M_symbol_50
          rw [bd_some (e_isA1 g j a c2 b3 hk), if_pos ir_1, if_neg n10, if_pos hy, if_neg hy0, if_pos (by omega), e2, if_pos (by omega), e4, if_pos (by omega), if_pos hyl, if_pos (by omega), e6, if_pos (by omega), (h1.1 q (by omega)).1]
          rfl
      · refine ⟨Int64.ofNat 18446744073709551615, ?_, ?_⟩
        · unfold f_L_symbol_1
          rw [bd_some (e_has1 g j a c1 b3 hk), if_pos ir_1, if_neg n10, if_pos (by omega), if_pos hy, if_neg hy0, e1, if_pos (by omega), e3, if_pos (by omega), if_neg hyl]
        · unfold f_M_symbol_50
          rw [bd_some (e_isA1 g j a c2 b3 hk), if_pos ir_1, if_neg n10, if_pos hy, if_neg hy0, if_pos (by omega), e2, if_pos (by omega), e4, if_pos (by omega), if_neg hyl]
  · refine ⟨Int64.ofNat 18446744073709551615, ?_, ?_⟩
    · unfold f_L_symbol_1
      rw [bd_some (e_has0 g x a c1 b3 hx hk), if_pos ir_0, if_pos rfl]
    · unfold f_M_symbol_50
      rw [bd_some (e_isA0 g x a c2 b3 hx hk), if_pos ir_0, if_pos rfl]
