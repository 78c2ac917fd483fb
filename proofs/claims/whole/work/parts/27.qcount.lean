/-! count -/
/-- the counts by name: constants and variables -/
def R2 (g : G2) (n : Nat) : Prop := rI g 3 4 = ((cnt (fun i => decide (g.2.2.1 54 i = 1)) n : Nat) : Int) ∧ ∀ i : Nat, i < 64 → tb (rJ g 3 5) i = (decide (i < n) && decide (g.2.2.1 54 i = 2))
/-- the count of unfinished proofs -/
def R5 (g : G2) (m a : Nat) : Prop := (∀ j : Nat, j < a → ir (g.2.2.1 23 j)) ∧ (∀ k : Nat, k < m → g.2.2.1 58 k = 7 → ∃ j : Nat, j < a ∧ g.2.2.1 64 k = j ∧ ir (g.2.2.1 77 j)) ∧ cnt (fun j => !decide (g.2.2.1 23 j = 0)) a = cnt (fun k => decide (g.2.2.1 58 k = 7) && !decide (g.2.2.1 77 (g.2.2.1 64 k).toNat = 0)) m
theorem e_countNames (g : G2) (n : Nat) (hn : n ≤ 60) (h : rI g 49 8 = n) (c : Int) (hc : ir c) (hs : ∀ i : Nat, i < n → ir (g.2.2.1 54 i)) : ∀ k m i : Nat, i + k = n → k < m → l_M_countNames_50 m 0 c ((cnt (fun i => decide (g.2.2.1 54 i = c)) i : Nat) : Int) (i : Int) g = some (((cnt (fun i => decide (g.2.2.1 54 i = c)) n : Nat) : Int), g) := by
  intro k
  induction k with
  | zero =>
    intro m i hi hm
    obtain ⟨m, rfl⟩ : ∃ m', m = m' + 1 := ⟨m - 1, by omega⟩
    rw [s_M_countNames_50_0]
    unfold b_M_countNames_50_0
    have : i = n := by omega
    subst this
    rw [if_pos (show ir (i : Int) by omega), h, if_pos (show ir (i : Int) by omega), if_neg (by omega)]
  | succ k ih =>
    intro m i hi hm
    obtain ⟨m, rfl⟩ : ∃ m', m = m' + 1 := ⟨m - 1, by omega⟩
    have ih' := ih m (i + 1) (by omega) (by omega)
    rw [cnt_succ] at ih'
    rw [s_M_countNames_50_0]
    unfold b_M_countNames_50_0
    rw [if_pos (show ir (i : Int) by omega), h, if_pos (show ir (n : Int) by omega), if_pos (show (i : Int) < n by omega), if_pos (show 0 ≤ (i : Int) ∧ (i : Int) < 60 by omega), show rA g 54 (i : Int) = g.2.2.1 54 i from rfl, if_pos (hs i (by omega)), if_pos hc]
    by_cases e : g.2.2.1 54 i = c
    · rw [if_pos e]
      rw [if_pos (decide_eq_true e)] at ih'
      exact ih'
    · rw [if_neg e]
      rw [if_neg (by rw [decide_eq_false e]; decide)] at ih'
      exact ih'
theorem e_countKind (g : G2) (n : Nat) (hn : n ≤ 40) (h : rI g 10 4 = n) (c : Int) (hc : ir c) (hs : ∀ i : Nat, i < n → ir (g.2.2.1 9 i)) : ∀ k m i : Nat, i + k = n → k < m → l_Statements_countKind_8 m 0 c ((cnt (fun i => decide (g.2.2.1 9 i = c)) i : Nat) : Int) (i : Int) g = some (((cnt (fun i => decide (g.2.2.1 9 i = c)) n : Nat) : Int), g) := by
  intro k
  induction k with
  | zero =>
    intro m i hi hm
    obtain ⟨m, rfl⟩ : ∃ m', m = m' + 1 := ⟨m - 1, by omega⟩
    rw [s_Statements_countKind_8_0]
    unfold b_Statements_countKind_8_0
    have : i = n := by omega
    subst this
    rw [if_pos (show ir (i : Int) by omega), h, if_pos (show ir (i : Int) by omega), if_neg (by omega)]
  | succ k ih =>
    intro m i hi hm
    obtain ⟨m, rfl⟩ : ∃ m', m = m' + 1 := ⟨m - 1, by omega⟩
    have ih' := ih m (i + 1) (by omega) (by omega)
    rw [cnt_succ] at ih'
    rw [s_Statements_countKind_8_0]
    unfold b_Statements_countKind_8_0
    rw [if_pos (show ir (i : Int) by omega), h, if_pos (show ir (n : Int) by omega), if_pos (show (i : Int) < n by omega), if_pos (show 0 ≤ (i : Int) ∧ (i : Int) < 40 by omega), show rA g 9 (i : Int) = g.2.2.1 9 i from rfl, if_pos (hs i (by omega)), if_pos hc]
    by_cases e : g.2.2.1 9 i = c
    · rw [if_pos e]
      rw [if_pos (decide_eq_true e)] at ih'
      exact ih'
    · rw [if_neg e]
      rw [if_neg (by rw [decide_eq_false e]; decide)] at ih'
      exact ih'
theorem e_countInc (g : G2) (n : Nat) (hn : n ≤ 40) (h : rI g 16 8 = n) (hs : ∀ i : Nat, i < n → ir (g.2.2.1 23 i)) : ∀ k m i : Nat, i + k = n → k < m → l_Assertions_countIncomplete_17 m 0 ((cnt (fun i => !decide (g.2.2.1 23 i = 0)) i : Nat) : Int) (i : Int) g = some (((cnt (fun i => !decide (g.2.2.1 23 i = 0)) n : Nat) : Int), g) := by
  intro k
  induction k with
  | zero =>
    intro m i hi hm
    obtain ⟨m, rfl⟩ : ∃ m', m = m' + 1 := ⟨m - 1, by omega⟩
    rw [s_Assertions_countIncomplete_17_0]
    unfold b_Assertions_countIncomplete_17_0
    have : i = n := by omega
    subst this
    rw [if_pos (show ir (i : Int) by omega), h, if_pos (show ir (i : Int) by omega), if_neg (by omega)]
  | succ k ih =>
    intro m i hi hm
    obtain ⟨m, rfl⟩ : ∃ m', m = m' + 1 := ⟨m - 1, by omega⟩
    have ih' := ih m (i + 1) (by omega) (by omega)
    rw [cnt_succ] at ih'
    rw [s_Assertions_countIncomplete_17_0]
    unfold b_Assertions_countIncomplete_17_0
    rw [if_pos (show ir (i : Int) by omega), h, if_pos (show ir (n : Int) by omega), if_pos (show (i : Int) < n by omega), if_pos (show 0 ≤ (i : Int) ∧ (i : Int) < 40 by omega), show rA g 23 (i : Int) = g.2.2.1 23 i from rfl, if_pos (hs i (by omega))]
    by_cases e : g.2.2.1 23 i = 0
    · rw [if_pos e]
      rw [if_neg (by rw [decide_eq_true e]; decide)] at ih'
      exact ih'
    · rw [if_neg e]
      rw [if_pos (by rw [decide_eq_false e]; rfl)] at ih'
      exact ih'
/-- what the model's count takes in at statement k -/
def mcP (g : G2) (c : Int) (k : Nat) : Bool := if c = 6 then decide (g.2.2.1 58 k = 7) && !decide (g.2.2.1 77 (g.2.2.1 64 k).toNat = 0) else decide (g.2.2.1 58 k = c + 2)
theorem e_mcount (g : G2) (n a : Nat) (hn : n ≤ 40) (ha : a ≤ 40) (h : rI g 49 15 = n) (c : Int) (hc : 2 ≤ c ∧ c ≤ 6) (hs : ∀ i : Nat, i < n → ir (g.2.2.1 58 i)) (h5 : ∀ k : Nat, k < n → g.2.2.1 58 k = 7 → ∃ j : Nat, j < a ∧ g.2.2.1 64 k = j ∧ ir (g.2.2.1 77 j)) : ∀ k m i : Nat, i + k = n → k < m → l_M_count_50 m 0 c ((cnt (mcP g c) i : Nat) : Int) (i : Int) g = some (((cnt (mcP g c) n : Nat) : Int), g) := by
  intro k
  induction k with
  | zero =>
    intro m i hi hm
    obtain ⟨m, rfl⟩ : ∃ m', m = m' + 1 := ⟨m - 1, by omega⟩
    rw [s_M_count_50_0]
    unfold b_M_count_50_0
    have : i = n := by omega
    subst this
    rw [if_pos (show ir (i : Int) by omega), h, if_pos (show ir (i : Int) by omega), if_neg (by omega)]
  | succ k ih =>
    intro m i hi hm
    obtain ⟨m, rfl⟩ : ∃ m', m = m' + 1 := ⟨m - 1, by omega⟩
    have ih' := ih m (i + 1) (by omega) (by omega)
    rw [cnt_succ] at ih'
    rw [s_M_count_50_0]
    unfold b_M_count_50_0
    have i40 : 0 ≤ (i : Int) ∧ (i : Int) < 40 := by omega
    rw [if_pos (show ir (i : Int) by omega), h, if_pos (show ir (n : Int) by omega), if_pos (show (i : Int) < n by omega), if_pos (show ir c by omega), show rA g 58 (i : Int) = g.2.2.1 58 i from rfl, show rA g 64 (i : Int) = g.2.2.1 64 i from rfl]
    by_cases c6 : c = 6
    · rw [if_pos c6, if_pos i40, if_pos (hs i (by omega))]
      by_cases e : g.2.2.1 58 i = 7
      · obtain ⟨j, hj, ej, hr⟩ := h5 i (by omega) e
        rw [if_pos e, ej, if_pos (show 0 ≤ (j : Int) ∧ (j : Int) < 41 by omega), show rA g 77 (j : Int) = g.2.2.1 77 j from rfl, if_pos hr]
        have em : mcP g c i = !decide (g.2.2.1 77 j = 0) := by
          unfold mcP
          rw [if_pos c6, decide_eq_true e, ej, Bool.true_and]
          rfl
        rw [em] at ih'
        by_cases z : g.2.2.1 77 j = 0
        · rw [if_pos z]
          rw [if_neg (by rw [decide_eq_true z]; decide)] at ih'
          exact ih'
        · rw [if_neg z]
          rw [if_pos (by rw [decide_eq_false z]; rfl)] at ih'
          exact ih'
      · rw [if_neg e]
        have em : mcP g c i = false := by
          unfold mcP
          rw [if_pos c6, decide_eq_false e, Bool.false_and]
        rw [em, if_neg (by decide)] at ih'
        exact ih'
    · rw [if_neg c6, if_pos i40, if_pos (hs i (by omega)), if_pos (show ir (c + 2) by omega)]
      have em : mcP g c i = decide (g.2.2.1 58 i = c + 2) := by
        unfold mcP
        rw [if_neg c6]
      rw [em] at ih'
      by_cases e : g.2.2.1 58 i = c + 2
      · rw [if_pos e]
        rw [if_pos (decide_eq_true e)] at ih'
        exact ih'
      · rw [if_neg e]
        rw [if_neg (by rw [decide_eq_false e]; decide)] at ih'
        exact ih'
