theorem cnt_false {p : Nat → Bool} {n : Nat} (h : ∀ i, i < n → p i = false) : cnt p n = 0 := by
  induction n with
  | zero => rfl
  | succ n ih => rw [cnt_succ, ih (fun i hi => h i (by omega)), h n (by omega), if_neg (by decide)]
theorem cnt_bits {p q : Nat → Bool} {n : Nat} (hn : n ≤ 64) (h : ∀ i, i < 64 → p i = (decide (i < n) && q i)) : cnt p 64 = cnt q n := by
  have e : 64 = n + (64 - n) := by omega
  have z : cnt (fun i => p (n + i)) (64 - n) = 0 := by
    apply cnt_false
    intro i hi
    show p (n + i) = false
    rw [h (n + i) (by omega), decide_eq_false (by omega), Bool.false_and]
  have y : cnt p n = cnt q n := by
    apply cnt_congr
    intro i hi
    rw [h i (by omega), decide_eq_true hi, Bool.true_and]
  have w := cnt_add p n (64 - n)
  rw [← e, z, y] at w
  exact w
theorem q_kind {g : G2} {n m a : Nat} (h0 : R0 g n m a) (h3 : R3 g n m) (h5 : R5 g m a) (k : Nat) (hk : k ≤ 3) : f_Statements_countKind_8 (k : Int) g = some (((cnt (fun i => decide (g.2.2.1 9 i = (k : Int))) m : Nat) : Int), g) ∧ l_M_count_50 20000 0 ((k : Int) + 2) 0 0 g = some (((cnt (fun i => decide (g.2.2.1 9 i = (k : Int))) m : Nat) : Int), g) := by
  obtain ⟨⟨n60, m40, a40⟩, ⟨_, _⟩, ⟨r1, r2⟩, _⟩ := h0
  refine ⟨?_, ?_⟩
  · unfold f_Statements_countKind_8
    exact e_countKind g m m40 r1 (k : Int) (by omega) (fun i hi => by have := (h3 i hi).1; omega) m 20000 0 (by omega) (by omega)
  · have e := e_mcount g m a m40 a40 r2 ((k : Int) + 2) (by omega) (fun i hi => by have := (h3 i hi).1; omega) h5.2.1 m 20000 0 (by omega) (by omega)
    have e2 : cnt (mcP g ((k : Int) + 2)) m = cnt (fun i => decide (g.2.2.1 9 i = (k : Int))) m := by
      apply cnt_congr
      intro i hi
      have := (h3 i hi).1
      unfold mcP
      rw [if_neg (by omega)]
      show decide _ = decide _
      rw [decide_eq_decide]
      omega
    rw [e2] at e
    exact e
theorem q_count {g : G2} {n m a : Nat} (h0 : R0 g n m a) (h1 : R1 g n) (h2 : R2 g n) (h3 : R3 g n m) (h5 : R5 g m a) (x : Int) (hx : ir x) : ∃ r, ir r ∧ f_L_count_1 x g = some (r, g) ∧ f_M_count_50 x g = some (r, g) := by
  have hk := q_kind h0 h3 h5
  obtain ⟨⟨n60, m40, a40⟩, ⟨t1, t2⟩, ⟨r1, r2⟩, ⟨s1, s2⟩⟩ := h0
  have sort : ∀ i : Nat, i < n → ir (g.2.2.1 54 i) := fun i hi => by have := (h1.1 i hi).2; omega
  have names : ∀ c : Int, ir c → f_M_countNames_50 c g = some (((cnt (fun i => decide (g.2.2.1 54 i = c)) n : Nat) : Int), g) := fun c hc => by
    unfold f_M_countNames_50
    exact e_countNames g n n60 t2 c hc sort n 20000 0 (by omega) (by omega)
  by_cases x0 : x = 0
  · subst x0
    have b := cnt_le (fun i => decide (g.2.2.1 54 i = 1)) n
    refine ⟨((cnt (fun i => decide (g.2.2.1 54 i = 1)) n : Nat) : Int), by omega, ?_, ?_⟩
    · unfold f_L_count_1
      rw [if_pos hx, if_pos rfl, h2.1]
    · unfold f_M_count_50
      rw [if_pos hx, if_neg (by decide), if_neg (by decide), if_pos (by decide), bd_some (names (0 + 1) (by decide))]
      rfl
  by_cases x1 : x = 1
  · subst x1
    have b := cnt_le (fun i => decide (g.2.2.1 54 i = 2)) n
    refine ⟨((cnt (fun i => decide (g.2.2.1 54 i = 2)) n : Nat) : Int), by omega, ?_, ?_⟩
    · unfold f_L_count_1
      rw [if_pos hx, if_neg (by decide), if_pos rfl, bd_some (e_bitCount _ _), cnt_bits (by omega) h2.2]
    · unfold f_M_count_50
      rw [if_pos hx, if_neg (by decide), if_neg (by decide), if_pos (by decide), bd_some (names (1 + 1) (by decide))]
      rfl
  by_cases xk : 2 ≤ x ∧ x ≤ 5
  · obtain ⟨k, hk3, rfl⟩ : ∃ k : Nat, k ≤ 3 ∧ x = (k : Int) + 2 := ⟨(x - 2).toNat, by omega, by omega⟩
    obtain ⟨k1, k2⟩ := hk k hk3
    have b := cnt_le (fun i => decide (g.2.2.1 9 i = (k : Int))) m
    refine ⟨((cnt (fun i => decide (g.2.2.1 9 i = (k : Int))) m : Nat) : Int), by omega, ?_, ?_⟩
    · unfold f_L_count_1
      rw [if_pos hx, if_neg x0, if_neg x1]
      by_cases k0 : k = 0
      · subst k0
        rw [if_pos (by decide)]
        exact bd_some k1
      rw [if_neg (by omega)]
      by_cases k0 : k = 1
      · subst k0
        rw [if_pos (by decide)]
        exact bd_some k1
      rw [if_neg (by omega)]
      by_cases k0 : k = 2
      · subst k0
        rw [if_pos (by decide)]
        exact bd_some k1
      rw [if_neg (by omega)]
      have k0 : k = 3 := by omega
      subst k0
      rw [if_pos (by decide)]
      exact bd_some k1
    · unfold f_M_count_50
      rw [if_pos hx, if_neg (by omega), if_neg (by omega), if_neg (by omega)]
      exact k2
  by_cases x6 : x = 6
  · subst x6
    have b := cnt_le (fun j => !decide (g.2.2.1 23 j = 0)) a
    refine ⟨((cnt (fun j => !decide (g.2.2.1 23 j = 0)) a : Nat) : Int), by omega, ?_, ?_⟩
    · unfold f_L_count_1
      rw [if_pos hx, if_neg (by decide), if_neg (by decide), if_neg (by decide), if_neg (by decide), if_neg (by decide), if_neg (by decide), if_pos (by decide)]
      refine bd_some ?_
      unfold f_Assertions_countIncomplete_17
      exact e_countInc g a a40 s1 h5.1 a 20000 0 (by omega) (by omega)
    · unfold f_M_count_50
      rw [if_pos hx, if_neg (by decide), if_neg (by decide), if_neg (by decide), h5.2.2]
      have e := e_mcount g m a m40 a40 r2 6 (by decide) (fun i hi => by have := (h3 i hi).1; omega) h5.2.1 m 20000 0 (by omega) (by omega)
      have e2 : cnt (mcP g 6) m = cnt (fun k => decide (g.2.2.1 58 k = 7) && !decide (g.2.2.1 77 (g.2.2.1 64 k).toNat = 0)) m := by
        apply cnt_congr
        intro i hi
        unfold mcP
        rw [if_pos rfl]
      rw [e2] at e
      exact e
  refine ⟨-1, by decide, ?_, ?_⟩
  · unfold f_L_count_1
    rw [if_pos hx, if_neg x0, if_neg x1, if_neg (by omega), if_neg (by omega), if_neg (by omega), if_neg (by omega), if_neg x6]
  · unfold f_M_count_50
    rw [if_pos hx]
    by_cases z : x < 0
    · rw [if_pos z]
    · rw [if_neg z, if_pos (by omega)]
