/-! ===== what the small functions answer ===== -/
/-- the first place from i on, of k places, that holds c; -1 if none does -/
def fndN (f : Nat → Int64) (c : Int64) : Nat → Nat → Int
  | 0, _ => -1
  | k + 1, i => if f i = c then (i : Int) else fndN f c k (i + 1)
theorem e_l_Names_find (g : G2) (c : Int64) (n : Nat) (hn : rI g 3 3 = n) (h60 : n ≤ 60) : ∀ k m i : Nat, i + k = n → k < m → l_Names_find_4 m 0 c (i : Int) g = some (fndN (g.2.2.2 4) c k i, g) := by
  intro k
  induction k with
  | zero =>
    intro m i hi hm
    obtain ⟨m, rfl⟩ : ∃ m', m = m' + 1 := ⟨m - 1, by omega⟩
    show b_Names_find_4_0 (l_Names_find_4 m) c i g = _
    unfold b_Names_find_4_0
    repeat' split
    all_goals first | rfl | (exfalso; omega)
  | succ k ih =>
    intro m i hi hm
    obtain ⟨m, rfl⟩ : ∃ m', m = m' + 1 := ⟨m - 1, by omega⟩
    have h := ih m (i + 1) (by omega) (by omega)
    show b_Names_find_4_0 (l_Names_find_4 m) c i g = _
    unfold b_Names_find_4_0
    repeat' split
    all_goals first | (exfalso; omega) | skip
    · next h1 => exact congrArg (fun z => some (z, g)) (if_pos h1).symm
    · next h1 => exact h.trans (congrArg (fun z => some (z, g)) (if_neg h1).symm)
theorem e_Names_find (g : G2) (c : Int64) (n : Nat) (hn : rI g 3 3 = n) (h60 : n ≤ 60) : f_Names_find_4 c g = some (fndN (g.2.2.2 4) c n 0, g) := e_l_Names_find g c n hn h60 n 20000 0 (by omega) (by omega)
theorem e_l_M_find (g : G2) (c : Int64) (n : Nat) (hn : rI g 49 8 = n) (h60 : n ≤ 60) : ∀ k m i : Nat, i + k = n → k < m → l_M_find_50 m 0 c (i : Int) g = some (fndN (g.2.2.2 53) c k i, g) := by
  intro k
  induction k with
  | zero =>
    intro m i hi hm
    obtain ⟨m, rfl⟩ : ∃ m', m = m' + 1 := ⟨m - 1, by omega⟩
    show b_M_find_50_0 (l_M_find_50 m) c i g = _
    unfold b_M_find_50_0
    repeat' split
    all_goals first | rfl | (exfalso; omega)
  | succ k ih =>
    intro m i hi hm
    obtain ⟨m, rfl⟩ : ∃ m', m = m' + 1 := ⟨m - 1, by omega⟩
    have h := ih m (i + 1) (by omega) (by omega)
    show b_M_find_50_0 (l_M_find_50 m) c i g = _
    unfold b_M_find_50_0
    repeat' split
    all_goals first | (exfalso; omega) | skip
    · next h1 => exact congrArg (fun z => some (z, g)) (if_pos h1).symm
    · next h1 => exact h.trans (congrArg (fun z => some (z, g)) (if_neg h1).symm)
theorem e_M_find (g : G2) (c : Int64) (n : Nat) (hn : rI g 49 8 = n) (h60 : n ≤ 60) : f_M_find_50 c g = some (fndN (g.2.2.2 53) c n 0, g) := e_l_M_find g c n hn h60 n 20000 0 (by omega) (by omega)
