/-! apart -/
def anyN (p : Nat → Bool) : Nat → Nat → Bool
  | 0, _ => false
  | k + 1, i => if p i = true then true else anyN p k (i + 1)
theorem anyN_yes {p : Nat → Bool} {k i : Nat} (h : p i = true) : anyN p (k + 1) i = true := by
  show (if p i = true then true else anyN p k (i + 1)) = true
  rw [if_pos h]
theorem anyN_no {p : Nat → Bool} {k i : Nat} (h : ¬ p i = true) : anyN p (k + 1) i = anyN p k (i + 1) := by
  show (if p i = true then true else anyN p k (i + 1)) = _
  rw [if_neg h]
theorem anyN_iff (p : Nat → Bool) : ∀ k i, anyN p k i = true ↔ ∃ u, i ≤ u ∧ u < i + k ∧ p u = true := by
  intro k
  induction k with
  | zero => intro i; exact ⟨fun h => (Bool.false_ne_true h).elim, fun ⟨u, h1, h2, _⟩ => by omega⟩
  | succ k ih =>
    intro i
    by_cases h : p i = true
    · rw [anyN_yes h]
      exact ⟨fun _ => ⟨i, by omega, by omega, h⟩, fun _ => rfl⟩
    · rw [anyN_no h, ih (i + 1)]
      constructor
      · exact fun ⟨u, h1, h2, h3⟩ => ⟨u, by omega, by omega, h3⟩
      · intro ⟨u, h1, h2, h3⟩
        by_cases e : u = i
        · subst e; exact (h h3).elim
        · exact ⟨u, by omega, by omega, h3⟩
/-- the class's pair u of assertion j is x, y in this order -/
def CP (g : G2) (j u x y : Nat) : Prop := g.2.2.1 19 (40 * j + u) = 60 * (x : Int) + y
def MP (g : G2) (j u x y : Nat) : Prop := g.2.2.1 71 (40 * j + u) = (x : Int) ∧ g.2.2.1 72 (40 * j + u) = (y : Int)
/-- both sides keep the same pairs with each assertion, as sets of unordered pairs -/
def R6 (g : G2) (n a : Nat) : Prop := ∀ j : Nat, j < a → ∃ p : Nat, p ≤ 40 ∧ g.2.2.1 18 j = p ∧ g.2.2.1 73 j = p ∧ (∀ u : Nat, u < p → ∃ x y : Nat, x < n ∧ y < n ∧ CP g j u x y) ∧ (∀ u : Nat, u < p → ∃ x y : Nat, x < n ∧ y < n ∧ MP g j u x y) ∧ ∀ x y : Nat, x < n → y < n → ((∃ u : Nat, u < p ∧ (CP g j u x y ∨ CP g j u y x)) ↔ (∃ u : Nat, u < p ∧ (MP g j u x y ∨ MP g j u y x)))
def cpB (g : G2) (j : Nat) (c d : Int64) (u : Nat) : Bool := decide ((g.2.2.2 4 (g.2.2.1 19 (40 * j + u) / 60).toNat = c ∧ g.2.2.2 4 (g.2.2.1 19 (40 * j + u) % 60).toNat = d) ∨ (g.2.2.2 4 (g.2.2.1 19 (40 * j + u) / 60).toNat = d ∧ g.2.2.2 4 (g.2.2.1 19 (40 * j + u) % 60).toNat = c))
def mpB (g : G2) (j : Nat) (x y : Int) (u : Nat) : Bool := decide ((g.2.2.1 71 (40 * j + u) = x ∧ g.2.2.1 72 (40 * j + u) = y) ∨ (g.2.2.1 71 (40 * j + u) = y ∧ g.2.2.1 72 (40 * j + u) = x))
theorem e_first (g : G2) (j u : Nat) (hj : j < 40) (hu : u < 40) (h : 0 ≤ g.2.2.1 19 (40 * j + u) ∧ g.2.2.1 19 (40 * j + u) < 3600) : f_Assertions_firstOfPair_17 j u g = some (g.2.2.1 19 (40 * j + u) / 60, g) := by
  unfold f_Assertions_firstOfPair_17
  have e : ((j : Int) * 40 + u).toNat = 40 * j + u := by omega
  have e2 : rA g 19 ((j : Int) * 40 + u) = g.2.2.1 19 (40 * j + u) := by show g.2.2.1 19 ((j : Int) * 40 + u).toNat = _; rw [e]
  rw [if_pos (by omega), e2]
  refine bd_some ?_
  unfold f_Context_firstOf
  rw [if_pos (by omega)]
theorem e_second (g : G2) (j u : Nat) (hj : j < 40) (hu : u < 40) (h : 0 ≤ g.2.2.1 19 (40 * j + u) ∧ g.2.2.1 19 (40 * j + u) < 3600) : f_Assertions_secondOfPair_17 j u g = some (g.2.2.1 19 (40 * j + u) % 60, g) := by
  unfold f_Assertions_secondOfPair_17
  have e : ((j : Int) * 40 + u).toNat = 40 * j + u := by omega
  have e2 : rA g 19 ((j : Int) * 40 + u) = g.2.2.1 19 (40 * j + u) := by show g.2.2.1 19 ((j : Int) * 40 + u).toNat = _; rw [e]
  rw [if_pos (by omega), e2]
  refine bd_some ?_
  unfold f_Context_secondOf
  rw [if_pos (by omega)]
theorem e_lapart (g : G2) (j p : Nat) (hj : j < 40) (hp : p ≤ 40) (h18 : g.2.2.1 18 j = p) (c d : Int64) (hr : ∀ u : Nat, u < p → 0 ≤ g.2.2.1 19 (40 * j + u) ∧ g.2.2.1 19 (40 * j + u) < 3600) : ∀ k m i : Nat, i + k = p → k < m → ∀ r : Int, r = (if anyN (cpB g j c d) k i = true then 1 else 0) → l_L_apart_1 m 0 (j : Int) c d (i : Int) g = some (r, g) := by
  intro k
  induction k with
  | zero =>
    intro m i hi hm r hrr
    obtain ⟨m, rfl⟩ : ∃ m', m = m' + 1 := ⟨m - 1, by omega⟩
    rw [if_neg (by show ¬ (false = true); decide)] at hrr
    subst hrr
    rw [s_L_apart_1_0]
    unfold b_L_apart_1_0
    rw [if_pos (by omega), if_pos (show ir (i : Int) by omega), show rA g 18 (j : Int) = g.2.2.1 18 j from rfl, h18, if_pos (show ir (p : Int) by omega), if_neg (by omega)]
  | succ k ih =>
    intro m i hi hm r hrr
    obtain ⟨m, rfl⟩ : ∃ m', m = m' + 1 := ⟨m - 1, by omega⟩
    have hv := hr i (by omega)
    have nxt : cpB g j c d i = false → l_L_apart_1 m 0 (j : Int) c d ((i : Int) + 1) g = some (r, g) := fun hb => ih m (i + 1) (by omega) (by omega) r (by rw [hrr, anyN_no (by rw [hb]; decide)])
    have yes : cpB g j c d i = true → some ((1 : Int), g) = some (r, g) := fun hb => by rw [hrr, anyN_yes hb, if_pos rfl]
    rw [s_L_apart_1_0]
    unfold b_L_apart_1_0
    rw [if_pos (by omega), if_pos (show ir (i : Int) by omega), show rA g 18 (j : Int) = g.2.2.1 18 j from rfl, h18, if_pos (show ir (p : Int) by omega), if_pos (by omega), bd_some (e_first g j i hj (by omega) hv), if_pos (by omega), bd_some (e_second g j i hj (by omega) hv), if_pos (by omega)]
    show (if g.2.2.2 4 (g.2.2.1 19 (40 * j + i) / 60).toNat = c then _ else _) = _
    unfold cpB at nxt yes
    generalize (g.2.2.1 19 (40 * j + i) / 60) = q at *
    have e2 : rB g 4 (g.2.2.1 19 (40 * j + i) % 60) = g.2.2.2 4 (g.2.2.1 19 (40 * j + i) % 60).toNat := rfl
    rw [e2]
    have e3 : rB g 4 q = g.2.2.2 4 q.toNat := rfl
    rw [e3]
    generalize g.2.2.2 4 q.toNat = A at *
    generalize g.2.2.2 4 (g.2.2.1 19 (40 * j + i) % 60).toNat = B at *
    by_cases h1 : A = c
    · rw [if_pos h1]
      by_cases h2 : B = d
      · rw [if_pos h2]
        exact yes (decide_eq_true (Or.inl ⟨h1, h2⟩))
      · rw [if_neg h2]
        by_cases h3 : A = d
        · rw [if_pos h3]
          by_cases h4 : B = c
          · rw [if_pos h4]
            exact yes (decide_eq_true (Or.inr ⟨h3, h4⟩))
          · rw [if_neg h4]
            exact nxt (decide_eq_false (fun h => h.elim (fun h => h2 h.2) (fun h => h4 h.2)))
        · rw [if_neg h3]
          exact nxt (decide_eq_false (fun h => h.elim (fun h => h2 h.2) (fun h => h3 h.1)))
    · rw [if_neg h1]
      by_cases h3 : A = d
      · rw [if_pos h3]
        by_cases h4 : B = c
        · rw [if_pos h4]
          exact yes (decide_eq_true (Or.inr ⟨h3, h4⟩))
        · rw [if_neg h4]
          exact nxt (decide_eq_false (fun h => h.elim (fun h => h1 h.1) (fun h => h4 h.2)))
      · rw [if_neg h3]
        exact nxt (decide_eq_false (fun h => h.elim (fun h => h1 h.1) (fun h => h3 h.1)))
