/-! ===== Names ===== -/
def fndN (f : Nat → Int64) (c : Int64) : Nat → Nat → Int
  | 0, _ => -1
  | k + 1, i => if f i = c then (i : Int) else fndN f c k (i + 1)
theorem am_cmp0 {x y : Int64} : am_cmp x y = 0 ↔ x = y := by
  unfold am_cmp
  by_cases h : y < x
  · rw [if_pos h]
    constructor
    · intro q; cases q
    · intro q; subst q; exact absurd h Int64.lt_irrefl
  · rw [if_neg h]
    by_cases h2 : x = y
    · simp [h2]
    · simp [h2]
theorem am_cmpIn (x y : Int64) : am_in (am_cmp x y) := by
  unfold am_cmp am_in
  split
  · omega
  · split <;> omega
theorem r_Names_find (d : Nat) (g : G2) (c : Int64) (n : Nat) (hn : g.1 3 3 = n) (h60 : n ≤ 60) : ∀ (k i : Nat), i + k = n → Rt d m_Names_find 2 [some (vR 4), some (vL c), none, some (vI i)] [] g (some (vI (fndN (g.2.2.2 4) c k i))) g := by
  intro k
  induction k with
  | zero =>
    intro i hi
    refine Rt.path ok_Names_find 5 [1] rfl ⟨⟨⟨⟨by omega, by omega⟩, ⟨by omega, by omega⟩⟩, ?_⟩, trivial⟩ ?_
    · show g.1 3 3 ≤ i
      omega
    · exact Rt.retI ok_Names_find rfl rfl
  | succ k ih =>
    intro i hi
    by_cases hc : g.2.2.2 4 i = c
    · refine Rt.path ok_Names_find 12 [0, 0] rfl ⟨⟨⟨⟨by omega, by omega⟩, ⟨by omega, by omega⟩⟩, ?_⟩, ⟨by omega, by omega, by omega⟩, ⟨am_cmpIn _ _, fun q => q (am_cmp0.mpr (by simpa using hc))⟩, trivial⟩ ?_
      · show ¬ g.1 3 3 ≤ i
        omega
      · rw [fndN, if_pos hc]
        exact Rt.retI ok_Names_find rfl rfl
    · refine Rt.path ok_Names_find 13 [0, 1] rfl ⟨⟨⟨⟨by omega, by omega⟩, ⟨by omega, by omega⟩⟩, ?_⟩, ⟨by omega, by omega, by omega⟩, ⟨am_cmpIn _ _, fun q => hc (by simpa using am_cmp0.mp q)⟩, trivial⟩ ?_
      · show ¬ g.1 3 3 ≤ i
        omega
      · rw [fndN, if_neg hc]
        exact ih (i + 1) (by omega)
theorem c_Names_find (d : Nat) (g : G2) (c : Int64) (n : Nat) (hn : g.1 3 3 = n) (h60 : n ≤ 60) : C2 d m_Names_find [vR 4, vL c] g (some (vI (fndN (g.2.2.2 4) c n 0))) g := by
  refine C2.of rfl rfl rfl (Nat.le_of_ble_eq_true rfl) ?_
  exact Rt.path ok_Names_find 2 [] rfl trivial (r_Names_find d g c n hn h60 n 0 (by omega))
