def b_M_feed_50_0 (L : Nat → Int64 → Int → Int → G2 → Option (Int × G2)) (l1 : Int64) (i3 : Int) (i4 : Int) (g : G2) : Option (Int × G2) :=
  if ir i4 then
  if ir i3 then
  if i4 < i3 then
    if (am_l2i ((am_shr l1 (8 * i4)) &&& (Int64.ofNat 255))) < 32 then
      some ((-1), g)
    else
      if 126 < (am_l2i ((am_shr l1 (8 * i4)) &&& (Int64.ofNat 255))) then
        some ((-1), g)
      else
        L 0 l1 i3 (i4 + 1) g
  else
    L 1 l1 0 (i3 - 1) g
  else none
  else none
def b_M_feed_50_1 (L : Nat → Int64 → Int → Int → G2 → Option (Int × G2)) (l1 : Int64) (i3 : Int) (i4 : Int) (g : G2) : Option (Int × G2) :=
  if ir i4 then
  if i4 < 0 then
    some ((rI g 49 1), g)
  else
    if 0 ≤ (rI g 49 1) ∧ (rI g 49 1) < 1600 then
    L 1 l1 0 (i4 + (-1)) (gI (gA g 50 (rI g 49 1) (am_l2i ((am_shr l1 (8 * i4)) &&& (Int64.ofNat 255)))) 49 1 ((rI g 49 1) + 1))
    else none
  else none
def l_M_feed_50 : Nat → Nat → Int64 → Int → Int → G2 → Option (Int × G2)
  | 0 => fun _ _ _ _ _ => none
  | n + 1 => fun t l1 i3 i4 g => match t with
    | 0 => b_M_feed_50_0 (l_M_feed_50 n) l1 i3 i4 g
    | _ => b_M_feed_50_1 (l_M_feed_50 n) l1 i3 i4 g
set_option maxHeartbeats 4000000 in
set_option maxRecDepth 100000 in
theorem rl_M_feed_50 (d : Nat) : ∀ (n : Nat) (l1 : Int64) (i3 : Int) (i4 : Int) (g : G2) (r : Int) (g' : G2), (l_M_feed_50 n 0 l1 i3 i4 g = some (r, g') → Rt d m_M_feed 28 [some (vR 50), some (vL l1), none, some (vI i3), some (vI i4), none] [] g (some (vI r)) g') ∧ (l_M_feed_50 n 1 l1 i3 i4 g = some (r, g') → Rt d m_M_feed 75 [some (vR 50), some (vL l1), none, none, some (vI i4), none] [] g (some (vI r)) g') := by
  intro n
  induction n with
  | zero => intro l1 i3 i4 g r g'; exact ⟨fun hf => (by cases hf), fun hf => (by cases hf)⟩
  | succ n ih =>
    intro l1 i3 i4 g r g'
    refine ⟨?_, ?_⟩
    · intro hf
      replace hf : b_M_feed_50_0 (l_M_feed_50 n) l1 i3 i4 g = some (r, g') := hf
      unfold b_M_feed_50_0 at hf
      have h6 : ir i4 := by
        by_cases q : ir i4
        · exact q
        · rw [if_neg q] at hf; cases hf
      rw [if_pos h6] at hf
      have h7 : ir i3 := by
        by_cases q : ir i3
        · exact q
        · rw [if_neg q] at hf; cases hf
      rw [if_pos h7] at hf
      by_cases h8 : i4 < i3
      · rw [if_pos h8] at hf
        refine Rt.path ok_M_feed 3 [0] rfl ⟨⟨⟨h6, h7⟩, h8⟩, trivial⟩ ?_
        by_cases h9 : (am_l2i ((am_shr l1 (8 * i4)) &&& (Int64.ofNat 255))) < 32
        · rw [if_pos h9] at hf
          refine Rt.path ok_M_feed 12 [1] rfl ⟨⟨⟨(am_l2iIn _), (show ir 32 by decide)⟩, h9⟩, trivial⟩ ?_
          cases hf
          refine Rt.path ok_M_feed 1 [] rfl trivial ?_
          exact Rt.retI ok_M_feed rfl rfl
        · rw [if_neg h9] at hf
          refine Rt.path ok_M_feed 12 [0] rfl ⟨⟨⟨(am_l2iIn _), (show ir 32 by decide)⟩, (Int.not_lt.mp h9)⟩, trivial⟩ ?_
          by_cases h10 : 126 < (am_l2i ((am_shr l1 (8 * i4)) &&& (Int64.ofNat 255)))
          · rw [if_pos h10] at hf
            refine Rt.path ok_M_feed 3 [0] rfl ⟨⟨⟨(am_l2iIn _), (show ir 126 by decide)⟩, h10⟩, trivial⟩ ?_
            cases hf
            refine Rt.path ok_M_feed 1 [] rfl trivial ?_
            exact Rt.retI ok_M_feed rfl rfl
          · rw [if_neg h10] at hf
            refine Rt.path ok_M_feed 3 [1] rfl ⟨⟨⟨(am_l2iIn _), (show ir 126 by decide)⟩, (Int.not_lt.mp h10)⟩, trivial⟩ ?_
            refine Rt.path ok_M_feed 2 [] rfl trivial ?_
            exact Rt.weak ((ih _ _ _ _ _ _).1 hf) ⟨rfl, rfl, rfl, rfl, trivial⟩
      · rw [if_neg h8] at hf
        refine Rt.path ok_M_feed 3 [1] rfl ⟨⟨⟨h6, h7⟩, (Int.not_lt.mp h8)⟩, trivial⟩ ?_
        refine Rt.path ok_M_feed 4 [] rfl trivial ?_
        exact Rt.weak ((ih _ _ _ _ _ _).2 hf) ⟨rfl, rfl, rfl, trivial⟩
    · intro hf
      replace hf : b_M_feed_50_1 (l_M_feed_50 n) l1 i3 i4 g = some (r, g') := hf
      unfold b_M_feed_50_1 at hf
      have h11 : ir i4 := by
        by_cases q : ir i4
        · exact q
        · rw [if_neg q] at hf; cases hf
      rw [if_pos h11] at hf
      by_cases h12 : i4 < 0
      · rw [if_pos h12] at hf
        refine Rt.path ok_M_feed 2 [1] rfl ⟨⟨h11, h12⟩, trivial⟩ ?_
        cases hf
        refine Rt.path ok_M_feed 2 [] rfl trivial ?_
        exact Rt.retI ok_M_feed rfl rfl
      · rw [if_neg h12] at hf
        refine Rt.path ok_M_feed 2 [0] rfl ⟨⟨h11, (Int.not_lt.mp h12)⟩, trivial⟩ ?_
        have h13 : 0 ≤ (rI g 49 1) ∧ (rI g 49 1) < 1600 := by
          by_cases q : 0 ≤ (rI g 49 1) ∧ (rI g 49 1) < 1600
          · exact q
          · rw [if_neg q] at hf; cases hf
        rw [if_pos h13] at hf
        refine Rt.path ok_M_feed 21 [] rfl ⟨(ix_1600 h13), trivial⟩ ?_
        exact Rt.weak ((ih _ _ _ _ _ _).2 hf) ⟨rfl, rfl, rfl, trivial⟩
def f_M_feed_50 (a1 : Int64) (a3 : Int) (g : G2) : Option (Int × G2) :=
  if ir a3 then
  if a3 < 1 then
    some ((-1), g)
  else
    if 8 < a3 then
      some ((-1), g)
    else
      if ir ((rI g 49 1) + a3) then
      if 1600 < ((rI g 49 1) + a3) then
        some ((-1), g)
      else
        l_M_feed_50 20000 0 a1 a3 0 g
      else none
  else none
set_option maxHeartbeats 4000000 in
set_option maxRecDepth 100000 in
theorem c_M_feed_50 (d : Nat) (a1 : Int64) (a3 : Int) (g : G2) (r : Int) (g' : G2) (hf : f_M_feed_50 a1 a3 g = some (r, g')) : C2 d m_M_feed [vR 50, vL a1, vI a3] g (some (vI r)) g' := by
  unfold f_M_feed_50 at hf
  refine C2.of rfl rfl rfl (Nat.le_of_ble_eq_true rfl) ?_
  have h1 : ir a3 := by
    by_cases q : ir a3
    · exact q
    · rw [if_neg q] at hf; cases hf
  rw [if_pos h1] at hf
  by_cases h2 : a3 < 1
  · rw [if_pos h2] at hf
    refine Rt.path ok_M_feed 3 [1] rfl ⟨⟨⟨h1, (show ir 1 by decide)⟩, h2⟩, trivial⟩ ?_
    cases hf
    refine Rt.path ok_M_feed 1 [] rfl trivial ?_
    exact Rt.retI ok_M_feed rfl rfl
  · rw [if_neg h2] at hf
    refine Rt.path ok_M_feed 3 [0] rfl ⟨⟨⟨h1, (show ir 1 by decide)⟩, (Int.not_lt.mp h2)⟩, trivial⟩ ?_
    by_cases h3 : 8 < a3
    · rw [if_pos h3] at hf
      refine Rt.path ok_M_feed 3 [1] rfl ⟨⟨⟨h1, (show ir 8 by decide)⟩, h3⟩, trivial⟩ ?_
      cases hf
      refine Rt.path ok_M_feed 1 [] rfl trivial ?_
      exact Rt.retI ok_M_feed rfl rfl
    · rw [if_neg h3] at hf
      refine Rt.path ok_M_feed 3 [0] rfl ⟨⟨⟨h1, (show ir 8 by decide)⟩, (Int.not_lt.mp h3)⟩, trivial⟩ ?_
      have h4 : ir ((rI g 49 1) + a3) := by
        by_cases q : ir ((rI g 49 1) + a3)
        · exact q
        · rw [if_neg q] at hf; cases hf
      rw [if_pos h4] at hf
      by_cases h5 : 1600 < ((rI g 49 1) + a3)
      · rw [if_pos h5] at hf
        refine Rt.path ok_M_feed 6 [0] rfl ⟨⟨⟨h4, (show ir 1600 by decide)⟩, h5⟩, trivial⟩ ?_
        cases hf
        refine Rt.path ok_M_feed 1 [] rfl trivial ?_
        exact Rt.retI ok_M_feed rfl rfl
      · rw [if_neg h5] at hf
        refine Rt.path ok_M_feed 6 [1] rfl ⟨⟨⟨h4, (show ir 1600 by decide)⟩, (Int.not_lt.mp h5)⟩, trivial⟩ ?_
        refine Rt.path ok_M_feed 2 [] rfl trivial ?_
        exact Rt.weak ((rl_M_feed_50 d _ _ _ _ _ _ _).1 hf) ⟨rfl, rfl, rfl, rfl, trivial⟩
def f_M_clear_50  (g : G2) : Option (Int × G2) :=
  some ((rI g 49 1), (gI g 49 1 0))
set_option maxHeartbeats 4000000 in
set_option maxRecDepth 100000 in
theorem c_M_clear_50 (d : Nat)  (g : G2) (r : Int) (g' : G2) (hf : f_M_clear_50 g = some (r, g')) : C2 d m_M_clear [vR 50] g (some (vI r)) g' := by
  unfold f_M_clear_50 at hf
  refine C2.of rfl rfl rfl (Nat.le_of_ble_eq_true rfl) ?_
  cases hf
  refine Rt.path ok_M_clear 7 [] rfl trivial ?_
  exact Rt.retI ok_M_clear rfl rfl
def b_M_findWords_50_0 (L : Nat → Int → Int → G2 → Option (G2)) (i1 : Int) (i2 : Int) (g : G2) : Option (G2) :=
  if ir i2 then
  if ir (rI g 49 1) then
  if i2 < (rI g 49 1) then
    if 0 ≤ i2 ∧ i2 < 1600 then
    if ir (rA g 50 i2) then
    if (rA g 50 i2) = 32 then
      L 0 0 (i2 + 1) g
    else
      if ir i1 then
      if i1 = 0 then
        if 0 ≤ (rI g 49 4) ∧ (rI g 49 4) < 801 then
        if 0 ≤ (((rI g 49 4) + 1) - 1) ∧ (((rI g 49 4) + 1) - 1) < 801 then
        L 0 1 (i2 + 1) (gA (gI (gA (gA g 51 (rI g 49 4) i2) 52 (rI g 49 4) 0) 49 4 ((rI g 49 4) + 1)) 52 (((rI g 49 4) + 1) - 1) ((rA (gA g 52 (rI g 49 4) 0) 52 (((rI g 49 4) + 1) - 1)) + 1))
        else none
        else none
      else
        if 0 ≤ ((rI g 49 4) - 1) ∧ ((rI g 49 4) - 1) < 801 then
        L 0 1 (i2 + 1) (gA g 52 ((rI g 49 4) - 1) ((rA g 52 ((rI g 49 4) - 1)) + 1))
        else none
      else none
    else none
    else none
  else
    some g
  else none
  else none
def l_M_findWords_50 : Nat → Nat → Int → Int → G2 → Option (G2)
  | 0 => fun _ _ _ _ => none
  | n + 1 => fun t i1 i2 g => match t with
    | _ => b_M_findWords_50_0 (l_M_findWords_50 n) i1 i2 g
set_option maxHeartbeats 4000000 in
set_option maxRecDepth 100000 in
theorem rl_M_findWords_50 (d : Nat) : ∀ (n : Nat) (i1 : Int) (i2 : Int) (g : G2) (g' : G2), (l_M_findWords_50 n 0 i1 i2 g = some g' → Rt d m_M_findWords 9 [some (vR 50), some (vI i1), some (vI i2)] [] g none g') := by
  intro n
  induction n with
  | zero => intro i1 i2 g g'; exact fun hf => by cases hf
  | succ n ih =>
    intro i1 i2 g g'
    intro hf
    replace hf : b_M_findWords_50_0 (l_M_findWords_50 n) i1 i2 g = some g' := hf
    unfold b_M_findWords_50_0 at hf
    have h1 : ir i2 := by
      by_cases q : ir i2
      · exact q
      · rw [if_neg q] at hf; cases hf
    rw [if_pos h1] at hf
    have h2 : ir (rI g 49 1) := by
      by_cases q : ir (rI g 49 1)
      · exact q
      · rw [if_neg q] at hf; cases hf
    rw [if_pos h2] at hf
    by_cases h3 : i2 < (rI g 49 1)
    · rw [if_pos h3] at hf
      refine Rt.path ok_M_findWords 4 [0] rfl ⟨⟨⟨h1, h2⟩, h3⟩, trivial⟩ ?_
      have h4 : 0 ≤ i2 ∧ i2 < 1600 := by
        by_cases q : 0 ≤ i2 ∧ i2 < 1600
        · exact q
        · rw [if_neg q] at hf; cases hf
      rw [if_pos h4] at hf
      have h5 : ir (rA g 50 i2) := by
        by_cases q : ir (rA g 50 i2)
        · exact q
        · rw [if_neg q] at hf; cases hf
      rw [if_pos h5] at hf
      by_cases h6 : (rA g 50 i2) = 32
      · rw [if_pos h6] at hf
        refine Rt.path ok_M_findWords 6 [0] rfl ⟨(ix_1600 h4), ⟨⟨h5, (show ir 32 by decide)⟩, h6⟩, trivial⟩ ?_
        refine Rt.path ok_M_findWords 5 [] rfl trivial ?_
        exact Rt.weak ((ih _ _ _ _) hf) ⟨rfl, rfl, rfl, trivial⟩
      · rw [if_neg h6] at hf
        refine Rt.path ok_M_findWords 6 [1] rfl ⟨(ix_1600 h4), ⟨⟨h5, (show ir 32 by decide)⟩, h6⟩, trivial⟩ ?_
        have h7 : ir i1 := by
          by_cases q : ir i1
          · exact q
          · rw [if_neg q] at hf; cases hf
        rw [if_pos h7] at hf
        by_cases h8 : i1 = 0
        · rw [if_pos h8] at hf
          refine Rt.path ok_M_findWords 2 [0] rfl ⟨⟨h7, h8⟩, trivial⟩ ?_
          have h9 : 0 ≤ (rI g 49 4) ∧ (rI g 49 4) < 801 := by
            by_cases q : 0 ≤ (rI g 49 4) ∧ (rI g 49 4) < 801
            · exact q
            · rw [if_neg q] at hf; cases hf
          rw [if_pos h9] at hf
          have h10 : 0 ≤ (((rI g 49 4) + 1) - 1) ∧ (((rI g 49 4) + 1) - 1) < 801 := by
            by_cases q : 0 ≤ (((rI g 49 4) + 1) - 1) ∧ (((rI g 49 4) + 1) - 1) < 801
            · exact q
            · rw [if_neg q] at hf; cases hf
          rw [if_pos h10] at hf
          refine Rt.path ok_M_findWords 33 [] rfl ⟨(ix_801 h9), (ix_801 h9), (ix_801 h10), (ix_801 h10), trivial⟩ ?_
          exact Rt.weak ((ih _ _ _ _) hf) ⟨rfl, rfl, rfl, trivial⟩
        · rw [if_neg h8] at hf
          refine Rt.path ok_M_findWords 2 [1] rfl ⟨⟨h7, h8⟩, trivial⟩ ?_
          have h11 : 0 ≤ ((rI g 49 4) - 1) ∧ ((rI g 49 4) - 1) < 801 := by
            by_cases q : 0 ≤ ((rI g 49 4) - 1) ∧ ((rI g 49 4) - 1) < 801
            · exact q
            · rw [if_neg q] at hf; cases hf
          rw [if_pos h11] at hf
          refine Rt.path ok_M_findWords 15 [] rfl ⟨(ix_801 h11), (ix_801 h11), trivial⟩ ?_
          exact Rt.weak ((ih _ _ _ _) hf) ⟨rfl, rfl, rfl, trivial⟩
    · rw [if_neg h3] at hf
      refine Rt.path ok_M_findWords 4 [1] rfl ⟨⟨⟨h1, h2⟩, (Int.not_lt.mp h3)⟩, trivial⟩ ?_
      cases hf
      exact Rt.retV ok_M_findWords rfl rfl
def f_M_findWords_50  (g : G2) : Option (G2) :=
  l_M_findWords_50 20000 0 0 0 (gI g 49 4 0)
set_option maxHeartbeats 4000000 in
set_option maxRecDepth 100000 in
theorem c_M_findWords_50 (d : Nat)  (g : G2) (g' : G2) (hf : f_M_findWords_50 g = some g') : C2 d m_M_findWords [vR 50] g none g' := by
  unfold f_M_findWords_50 at hf
  refine C2.of rfl rfl rfl (Nat.le_of_ble_eq_true rfl) ?_
  refine Rt.path ok_M_findWords 7 [] rfl trivial ?_
  exact Rt.weak ((rl_M_findWords_50 d _ _ _ _ _) hf) ⟨rfl, rfl, rfl, trivial⟩
def f_M_letter_50 (a1 : Int) (a2 : Int) (g : G2) : Option (Int × G2) :=
  if 0 ≤ a1 ∧ a1 < 801 then
  if ir a2 then
  if ir (rA g 52 a1) then
  if a2 < (rA g 52 a1) then
    if 0 ≤ ((rA g 51 a1) + a2) ∧ ((rA g 51 a1) + a2) < 1600 then
    some ((rA g 50 ((rA g 51 a1) + a2)), g)
    else none
  else
    some (0, g)
  else none
  else none
  else none
set_option maxHeartbeats 4000000 in
set_option maxRecDepth 100000 in
theorem c_M_letter_50 (d : Nat) (a1 : Int) (a2 : Int) (g : G2) (r : Int) (g' : G2) (hf : f_M_letter_50 a1 a2 g = some (r, g')) : C2 d m_M_letter [vR 50, vI a1, vI a2] g (some (vI r)) g' := by
  unfold f_M_letter_50 at hf
  refine C2.of rfl rfl rfl (Nat.le_of_ble_eq_true rfl) ?_
  have h1 : 0 ≤ a1 ∧ a1 < 801 := by
    by_cases q : 0 ≤ a1 ∧ a1 < 801
    · exact q
    · rw [if_neg q] at hf; cases hf
  rw [if_pos h1] at hf
  have h2 : ir a2 := by
    by_cases q : ir a2
    · exact q
    · rw [if_neg q] at hf; cases hf
  rw [if_pos h2] at hf
  have h3 : ir (rA g 52 a1) := by
    by_cases q : ir (rA g 52 a1)
    · exact q
    · rw [if_neg q] at hf; cases hf
  rw [if_pos h3] at hf
  by_cases h4 : a2 < (rA g 52 a1)
  · rw [if_pos h4] at hf
    refine Rt.path ok_M_letter 6 [0] rfl ⟨(ix_801 h1), ⟨⟨h2, h3⟩, h4⟩, trivial⟩ ?_
    have h5 : 0 ≤ ((rA g 51 a1) + a2) ∧ ((rA g 51 a1) + a2) < 1600 := by
      by_cases q : 0 ≤ ((rA g 51 a1) + a2) ∧ ((rA g 51 a1) + a2) < 1600
      · exact q
      · rw [if_neg q] at hf; cases hf
    rw [if_pos h5] at hf
    cases hf
    refine Rt.path ok_M_letter 10 [] rfl ⟨(ix_801 h1), (ix_1600 h5), trivial⟩ ?_
    exact Rt.retI ok_M_letter rfl rfl
  · rw [if_neg h4] at hf
    refine Rt.path ok_M_letter 6 [1] rfl ⟨(ix_801 h1), ⟨⟨h2, h3⟩, (Int.not_lt.mp h4)⟩, trivial⟩ ?_
    cases hf
    refine Rt.path ok_M_letter 1 [] rfl trivial ?_
    exact Rt.retI ok_M_letter rfl rfl
def f_M_isTwo_50 (a1 : Int) (a2 : Int) (a3 : Int) (g : G2) : Option (Int × G2) :=
  if 0 ≤ a1 ∧ a1 < 801 then
  if ir (rA g 52 a1) then
  if (rA g 52 a1) = 2 then
    bd (f_M_letter_50 a1 0 g) fun r4 g4 =>
    if ir r4 then
    if ir a2 then
    if r4 = a2 then
      bd (f_M_letter_50 a1 1 g4) fun r8 g8 =>
      if ir r8 then
      if ir a3 then
      if r8 = a3 then
        some (1, g8)
      else
        some (0, g8)
      else none
      else none
    else
      some (0, g4)
    else none
    else none
  else
    some (0, g)
  else none
  else none
set_option maxHeartbeats 4000000 in
set_option maxRecDepth 100000 in
theorem c_M_isTwo_50 (d : Nat) (a1 : Int) (a2 : Int) (a3 : Int) (g : G2) (r : Int) (g' : G2) (hf : f_M_isTwo_50 a1 a2 a3 g = some (r, g')) : C2 (d + 1) m_M_isTwo [vR 50, vI a1, vI a2, vI a3] g (some (vI r)) g' := by
  unfold f_M_isTwo_50 at hf
  refine C2.of rfl rfl rfl (Nat.le_of_ble_eq_true rfl) ?_
  have h1 : 0 ≤ a1 ∧ a1 < 801 := by
    by_cases q : 0 ≤ a1 ∧ a1 < 801
    · exact q
    · rw [if_neg q] at hf; cases hf
  rw [if_pos h1] at hf
  have h2 : ir (rA g 52 a1) := by
    by_cases q : ir (rA g 52 a1)
    · exact q
    · rw [if_neg q] at hf; cases hf
  rw [if_pos h2] at hf
  by_cases h3 : (rA g 52 a1) = 2
  · rw [if_pos h3] at hf
    refine Rt.path ok_M_isTwo 6 [0] rfl ⟨(ix_801 h1), ⟨⟨h2, (show ir 2 by decide)⟩, h3⟩, trivial⟩ ?_
    obtain ⟨r4, g4, e4, hf⟩ := bd_inv hf
    refine Rt.path ok_M_isTwo 3 [] rfl trivial ?_
    refine Rt.callV ok_M_isTwo rfl ml_M_141 [vI _, vI _] cf_M_letter rfl rfl (c_M_letter_50 d _ _ _ _ _ e4) (Nat.le_of_ble_eq_true rfl) ?_
    have h5 : ir r4 := by
      by_cases q : ir r4
      · exact q
      · rw [if_neg q] at hf; cases hf
    rw [if_pos h5] at hf
    have h6 : ir a2 := by
      by_cases q : ir a2
      · exact q
      · rw [if_neg q] at hf; cases hf
    rw [if_pos h6] at hf
    by_cases h7 : r4 = a2
    · rw [if_pos h7] at hf
      refine Rt.path ok_M_isTwo 2 [0] rfl ⟨⟨⟨h5, h6⟩, h7⟩, trivial⟩ ?_
      obtain ⟨r8, g8, e8, hf⟩ := bd_inv hf
      refine Rt.path ok_M_isTwo 3 [] rfl trivial ?_
      refine Rt.callV ok_M_isTwo rfl ml_M_141 [vI _, vI _] cf_M_letter rfl rfl (c_M_letter_50 d _ _ _ _ _ e8) (Nat.le_of_ble_eq_true rfl) ?_
      have h9 : ir r8 := by
        by_cases q : ir r8
        · exact q
        · rw [if_neg q] at hf; cases hf
      rw [if_pos h9] at hf
      have h10 : ir a3 := by
        by_cases q : ir a3
        · exact q
        · rw [if_neg q] at hf; cases hf
      rw [if_pos h10] at hf
      by_cases h11 : r8 = a3
      · rw [if_pos h11] at hf
        refine Rt.path ok_M_isTwo 2 [0] rfl ⟨⟨⟨h9, h10⟩, h11⟩, trivial⟩ ?_
        cases hf
        refine Rt.path ok_M_isTwo 2 [] rfl trivial ?_
        exact Rt.retZ ok_M_isTwo (show (1 : Int) = 0 ∨ (1 : Int) = 1 by decide) rfl rfl
      · rw [if_neg h11] at hf
        refine Rt.path ok_M_isTwo 2 [1] rfl ⟨⟨⟨h9, h10⟩, h11⟩, trivial⟩ ?_
        cases hf
        refine Rt.path ok_M_isTwo 1 [] rfl trivial ?_
        exact Rt.retZ ok_M_isTwo (show (0 : Int) = 0 ∨ (0 : Int) = 1 by decide) rfl rfl
    · rw [if_neg h7] at hf
      refine Rt.path ok_M_isTwo 2 [1] rfl ⟨⟨⟨h5, h6⟩, h7⟩, trivial⟩ ?_
      cases hf
      refine Rt.path ok_M_isTwo 1 [] rfl trivial ?_
      exact Rt.retZ ok_M_isTwo (show (0 : Int) = 0 ∨ (0 : Int) = 1 by decide) rfl rfl
  · rw [if_neg h3] at hf
    refine Rt.path ok_M_isTwo 6 [1] rfl ⟨(ix_801 h1), ⟨⟨h2, (show ir 2 by decide)⟩, h3⟩, trivial⟩ ?_
    cases hf
    refine Rt.path ok_M_isTwo 1 [] rfl trivial ?_
    exact Rt.retZ ok_M_isTwo (show (0 : Int) = 0 ∨ (0 : Int) = 1 by decide) rfl rfl
def f_M_fail_50 (a1 : Int) (a2 : Int) (g : G2) : Option (G2) :=
  if ir (rI g 49 6) then
  if (rI g 49 6) = 0 then
    some (gI (gI g 49 6 a1) 49 7 a2)
  else
    some g
  else none
set_option maxHeartbeats 4000000 in
set_option maxRecDepth 100000 in
theorem c_M_fail_50 (d : Nat) (a1 : Int) (a2 : Int) (g : G2) (g' : G2) (hf : f_M_fail_50 a1 a2 g = some g') : C2 d m_M_fail [vR 50, vI a1, vI a2] g none g' := by
  unfold f_M_fail_50 at hf
  refine C2.of rfl rfl rfl (Nat.le_of_ble_eq_true rfl) ?_
  have h1 : ir (rI g 49 6) := by
    by_cases q : ir (rI g 49 6)
    · exact q
    · rw [if_neg q] at hf; cases hf
  rw [if_pos h1] at hf
  by_cases h2 : (rI g 49 6) = 0
  · rw [if_pos h2] at hf
    refine Rt.path ok_M_fail 3 [0] rfl ⟨⟨h1, h2⟩, trivial⟩ ?_
    cases hf
    refine Rt.path ok_M_fail 6 [] rfl trivial ?_
    exact Rt.retV ok_M_fail rfl rfl
  · rw [if_neg h2] at hf
    refine Rt.path ok_M_fail 3 [1] rfl ⟨⟨h1, h2⟩, trivial⟩ ?_
    cases hf
    exact Rt.retV ok_M_fail rfl rfl
def b_M_come_50_0 (L : Nat → G2 → Option (Int × G2))  (g : G2) : Option (Int × G2) :=
  if ir (rI g 49 5) then
  if ir (rI g 49 4) then
  if (rI g 49 5) < (rI g 49 4) then
    bd (f_M_isTwo_50 (rI g 49 5) 36 40 g) fun r4 g4 =>
    if ir r4 then
    if r4 = 0 then
      L 3 g4
    else
      L 1 g4
    else none
  else
    L 3 g
  else none
  else none
def b_M_come_50_1 (L : Nat → G2 → Option (Int × G2))  (g : G2) : Option (Int × G2) :=
  if ir (rI g 49 5) then
  if ir (rI g 49 4) then
  if (rI g 49 5) < (rI g 49 4) then
    bd (f_M_isTwo_50 (rI g 49 5) 36 41 g) fun r17 g17 =>
    if ir r17 then
    if r17 = 0 then
      L 1 (gI g17 49 5 ((rI g17 49 5) + 1))
    else
      L 2 g17
    else none
  else
    L 2 g
  else none
  else none
def b_M_come_50_2 (L : Nat → G2 → Option (Int × G2))  (g : G2) : Option (Int × G2) :=
  if ir (rI g 49 5) then
  if ir (rI g 49 4) then
  if (rI g 49 5) = (rI g 49 4) then
    (f_M_fail_50 (-2) (rI g 49 4) g).bind fun g26 =>
    some (0, g26)
  else
    L 0 (gI g 49 5 ((rI g 49 5) + 1))
  else none
  else none
def b_M_come_50_3 (L : Nat → G2 → Option (Int × G2))  (g : G2) : Option (Int × G2) :=
  if ir (rI g 49 5) then
  if ir (rI g 49 4) then
  if (rI g 49 5) < (rI g 49 4) then
    if 0 ≤ (rI g 49 5) ∧ (rI g 49 5) < 801 then
    if ir (rA g 52 (rI g 49 5)) then
    if 8 < (rA g 52 (rI g 49 5)) then
      (f_M_fail_50 (-3) (rI g 49 5) g).bind fun g13 =>
      some (0, g13)
    else
      L 4 g
    else none
    else none
  else
    L 4 g
  else none
  else none
def b_M_come_50_4 (L : Nat → G2 → Option (Int × G2))  (g : G2) : Option (Int × G2) :=
  if ir (rI g 49 5) then
  if ir (rI g 49 4) then
  if (rI g 49 5) < (rI g 49 4) then
    some (1, g)
  else
    some (0, g)
  else none
  else none
def l_M_come_50 : Nat → Nat → G2 → Option (Int × G2)
  | 0 => fun _ _ => none
  | n + 1 => fun t g => match t with
    | 0 => b_M_come_50_0 (l_M_come_50 n) g
    | 1 => b_M_come_50_1 (l_M_come_50 n) g
    | 2 => b_M_come_50_2 (l_M_come_50 n) g
    | 3 => b_M_come_50_3 (l_M_come_50 n) g
    | _ => b_M_come_50_4 (l_M_come_50 n) g
set_option maxHeartbeats 4000000 in
set_option maxRecDepth 100000 in
theorem rl_M_come_50 (d : Nat) : ∀ (n : Nat)  (g : G2) (r : Int) (g' : G2), (l_M_come_50 n 0 g = some (r, g') → Rt (d + 2) m_M_come 0 [some (vR 50)] [] g (some (vI r)) g') ∧ (l_M_come_50 n 1 g = some (r, g') → Rt (d + 2) m_M_come 26 [some (vR 50)] [] g (some (vI r)) g') ∧ (l_M_come_50 n 2 g = some (r, g') → Rt (d + 2) m_M_come 65 [some (vR 50)] [] g (some (vI r)) g') ∧ (l_M_come_50 n 3 g = some (r, g') → Rt (d + 2) m_M_come 101 [some (vR 50)] [] g (some (vI r)) g') ∧ (l_M_come_50 n 4 g = some (r, g') → Rt (d + 2) m_M_come 138 [some (vR 50)] [] g (some (vI r)) g') := by
  intro n
  induction n with
  | zero => intro  g r g'; exact ⟨fun hf => (by cases hf), fun hf => (by cases hf), fun hf => (by cases hf), fun hf => (by cases hf), fun hf => (by cases hf)⟩
  | succ n ih =>
    intro  g r g'
    refine ⟨?_, ?_, ?_, ?_, ?_⟩
    · intro hf
      replace hf : b_M_come_50_0 (l_M_come_50 n) g = some (r, g') := hf
      unfold b_M_come_50_0 at hf
      have h1 : ir (rI g 49 5) := by
        by_cases q : ir (rI g 49 5)
        · exact q
        · rw [if_neg q] at hf; cases hf
      rw [if_pos h1] at hf
      have h2 : ir (rI g 49 4) := by
        by_cases q : ir (rI g 49 4)
        · exact q
        · rw [if_neg q] at hf; cases hf
      rw [if_pos h2] at hf
      by_cases h3 : (rI g 49 5) < (rI g 49 4)
      · rw [if_pos h3] at hf
        refine Rt.path ok_M_come 5 [0] rfl ⟨⟨⟨h1, h2⟩, h3⟩, trivial⟩ ?_
        obtain ⟨r4, g4, e4, hf⟩ := bd_inv hf
        refine Rt.path ok_M_come 5 [] rfl trivial ?_
        refine Rt.callV ok_M_come rfl ml_M_153 [vI _, vI _, vI _] cf_M_isTwo rfl rfl (c_M_isTwo_50 d _ _ _ _ _ _ e4) (Nat.le_of_ble_eq_true rfl) ?_
        have h5 : ir r4 := by
          by_cases q : ir r4
          · exact q
          · rw [if_neg q] at hf; cases hf
        rw [if_pos h5] at hf
        by_cases h6 : r4 = 0
        · rw [if_pos h6] at hf
          refine Rt.path ok_M_come 1 [1] rfl ⟨⟨h5, h6⟩, trivial⟩ ?_
          exact Rt.weak ((ih _ _ _).2.2.2.1 hf) ⟨rfl, trivial⟩
        · rw [if_neg h6] at hf
          refine Rt.path ok_M_come 1 [0] rfl ⟨⟨h5, h6⟩, trivial⟩ ?_
          exact Rt.weak ((ih _ _ _).2.1 hf) ⟨rfl, trivial⟩
      · rw [if_neg h3] at hf
        refine Rt.path ok_M_come 5 [1] rfl ⟨⟨⟨h1, h2⟩, (Int.not_lt.mp h3)⟩, trivial⟩ ?_
        exact Rt.weak ((ih _ _ _).2.2.2.1 hf) ⟨rfl, trivial⟩
    · intro hf
      replace hf : b_M_come_50_1 (l_M_come_50 n) g = some (r, g') := hf
      unfold b_M_come_50_1 at hf
      have h14 : ir (rI g 49 5) := by
        by_cases q : ir (rI g 49 5)
        · exact q
        · rw [if_neg q] at hf; cases hf
      rw [if_pos h14] at hf
      have h15 : ir (rI g 49 4) := by
        by_cases q : ir (rI g 49 4)
        · exact q
        · rw [if_neg q] at hf; cases hf
      rw [if_pos h15] at hf
      by_cases h16 : (rI g 49 5) < (rI g 49 4)
      · rw [if_pos h16] at hf
        refine Rt.path ok_M_come 5 [0] rfl ⟨⟨⟨h14, h15⟩, h16⟩, trivial⟩ ?_
        obtain ⟨r17, g17, e17, hf⟩ := bd_inv hf
        refine Rt.path ok_M_come 5 [] rfl trivial ?_
        refine Rt.callV ok_M_come rfl ml_M_153 [vI _, vI _, vI _] cf_M_isTwo rfl rfl (c_M_isTwo_50 d _ _ _ _ _ _ e17) (Nat.le_of_ble_eq_true rfl) ?_
        have h18 : ir r17 := by
          by_cases q : ir r17
          · exact q
          · rw [if_neg q] at hf; cases hf
        rw [if_pos h18] at hf
        by_cases h19 : r17 = 0
        · rw [if_pos h19] at hf
          refine Rt.path ok_M_come 1 [0] rfl ⟨⟨h18, h19⟩, trivial⟩ ?_
          refine Rt.path ok_M_come 7 [] rfl trivial ?_
          exact Rt.weak ((ih _ _ _).2.1 hf) ⟨rfl, trivial⟩
        · rw [if_neg h19] at hf
          refine Rt.path ok_M_come 1 [1] rfl ⟨⟨h18, h19⟩, trivial⟩ ?_
          exact Rt.weak ((ih _ _ _).2.2.1 hf) ⟨rfl, trivial⟩
      · rw [if_neg h16] at hf
        refine Rt.path ok_M_come 5 [1] rfl ⟨⟨⟨h14, h15⟩, (Int.not_lt.mp h16)⟩, trivial⟩ ?_
        exact Rt.weak ((ih _ _ _).2.2.1 hf) ⟨rfl, trivial⟩
    · intro hf
      replace hf : b_M_come_50_2 (l_M_come_50 n) g = some (r, g') := hf
      unfold b_M_come_50_2 at hf
      have h23 : ir (rI g 49 5) := by
        by_cases q : ir (rI g 49 5)
        · exact q
        · rw [if_neg q] at hf; cases hf
      rw [if_pos h23] at hf
      have h24 : ir (rI g 49 4) := by
        by_cases q : ir (rI g 49 4)
        · exact q
        · rw [if_neg q] at hf; cases hf
      rw [if_pos h24] at hf
      by_cases h25 : (rI g 49 5) = (rI g 49 4)
      · rw [if_pos h25] at hf
        refine Rt.path ok_M_come 5 [0] rfl ⟨⟨⟨h23, h24⟩, h25⟩, trivial⟩ ?_
        obtain ⟨g26, e26, hf⟩ := Option.bind_eq_some_iff.mp hf
        refine Rt.path ok_M_come 4 [] rfl trivial ?_
        refine Rt.callV ok_M_come rfl ml_M_157 [vI _, vI _] cf_M_fail rfl rfl (c_M_fail_50 (d + 1) _ _ _ _ e26) (Nat.le_of_ble_eq_true rfl) ?_
        cases hf
        refine Rt.path ok_M_come 1 [] rfl trivial ?_
        exact Rt.retZ ok_M_come (show (0 : Int) = 0 ∨ (0 : Int) = 1 by decide) rfl rfl
      · rw [if_neg h25] at hf
        refine Rt.path ok_M_come 5 [1] rfl ⟨⟨⟨h23, h24⟩, h25⟩, trivial⟩ ?_
        refine Rt.path ok_M_come 7 [] rfl trivial ?_
        exact Rt.weak ((ih _ _ _).1 hf) ⟨rfl, trivial⟩
    · intro hf
      replace hf : b_M_come_50_3 (l_M_come_50 n) g = some (r, g') := hf
      unfold b_M_come_50_3 at hf
      have h7 : ir (rI g 49 5) := by
        by_cases q : ir (rI g 49 5)
        · exact q
        · rw [if_neg q] at hf; cases hf
      rw [if_pos h7] at hf
      have h8 : ir (rI g 49 4) := by
        by_cases q : ir (rI g 49 4)
        · exact q
        · rw [if_neg q] at hf; cases hf
      rw [if_pos h8] at hf
      by_cases h9 : (rI g 49 5) < (rI g 49 4)
      · rw [if_pos h9] at hf
        refine Rt.path ok_M_come 5 [0] rfl ⟨⟨⟨h7, h8⟩, h9⟩, trivial⟩ ?_
        have h10 : 0 ≤ (rI g 49 5) ∧ (rI g 49 5) < 801 := by
          by_cases q : 0 ≤ (rI g 49 5) ∧ (rI g 49 5) < 801
          · exact q
          · rw [if_neg q] at hf; cases hf
        rw [if_pos h10] at hf
        have h11 : ir (rA g 52 (rI g 49 5)) := by
          by_cases q : ir (rA g 52 (rI g 49 5))
          · exact q
          · rw [if_neg q] at hf; cases hf
        rw [if_pos h11] at hf
        by_cases h12 : 8 < (rA g 52 (rI g 49 5))
        · rw [if_pos h12] at hf
          refine Rt.path ok_M_come 7 [0] rfl ⟨(ix_801 h10), ⟨⟨h11, (show ir 8 by decide)⟩, h12⟩, trivial⟩ ?_
          obtain ⟨g13, e13, hf⟩ := Option.bind_eq_some_iff.mp hf
          refine Rt.path ok_M_come 4 [] rfl trivial ?_
          refine Rt.callV ok_M_come rfl ml_M_157 [vI _, vI _] cf_M_fail rfl rfl (c_M_fail_50 (d + 1) _ _ _ _ e13) (Nat.le_of_ble_eq_true rfl) ?_
          cases hf
          refine Rt.path ok_M_come 1 [] rfl trivial ?_
          exact Rt.retZ ok_M_come (show (0 : Int) = 0 ∨ (0 : Int) = 1 by decide) rfl rfl
        · rw [if_neg h12] at hf
          refine Rt.path ok_M_come 7 [1] rfl ⟨(ix_801 h10), ⟨⟨h11, (show ir 8 by decide)⟩, (Int.not_lt.mp h12)⟩, trivial⟩ ?_
          exact Rt.weak ((ih _ _ _).2.2.2.2 hf) ⟨rfl, trivial⟩
      · rw [if_neg h9] at hf
        refine Rt.path ok_M_come 5 [1] rfl ⟨⟨⟨h7, h8⟩, (Int.not_lt.mp h9)⟩, trivial⟩ ?_
        exact Rt.weak ((ih _ _ _).2.2.2.2 hf) ⟨rfl, trivial⟩
    · intro hf
      replace hf : b_M_come_50_4 (l_M_come_50 n) g = some (r, g') := hf
      unfold b_M_come_50_4 at hf
      have h20 : ir (rI g 49 5) := by
        by_cases q : ir (rI g 49 5)
        · exact q
        · rw [if_neg q] at hf; cases hf
      rw [if_pos h20] at hf
      have h21 : ir (rI g 49 4) := by
        by_cases q : ir (rI g 49 4)
        · exact q
        · rw [if_neg q] at hf; cases hf
      rw [if_pos h21] at hf
      by_cases h22 : (rI g 49 5) < (rI g 49 4)
      · rw [if_pos h22] at hf
        refine Rt.path ok_M_come 5 [0] rfl ⟨⟨⟨h20, h21⟩, h22⟩, trivial⟩ ?_
        cases hf
        refine Rt.path ok_M_come 2 [] rfl trivial ?_
        exact Rt.retZ ok_M_come (show (1 : Int) = 0 ∨ (1 : Int) = 1 by decide) rfl rfl
      · rw [if_neg h22] at hf
        refine Rt.path ok_M_come 5 [1] rfl ⟨⟨⟨h20, h21⟩, (Int.not_lt.mp h22)⟩, trivial⟩ ?_
        cases hf
        refine Rt.path ok_M_come 1 [] rfl trivial ?_
        exact Rt.retZ ok_M_come (show (0 : Int) = 0 ∨ (0 : Int) = 1 by decide) rfl rfl
def f_M_come_50  (g : G2) : Option (Int × G2) :=
  l_M_come_50 20000 0 g
set_option maxHeartbeats 4000000 in
set_option maxRecDepth 100000 in
theorem c_M_come_50 (d : Nat)  (g : G2) (r : Int) (g' : G2) (hf : f_M_come_50 g = some (r, g')) : C2 (d + 2) m_M_come [vR 50] g (some (vI r)) g' := by
  unfold f_M_come_50 at hf
  refine C2.of rfl rfl rfl (Nat.le_of_ble_eq_true rfl) ?_
  exact Rt.weak ((rl_M_come_50 d _ _ _ _).1 hf) ⟨rfl, trivial⟩
def b_M_whatIs_50_0 (L : Nat → Int → Int → Int → G2 → Option (Int × G2)) (i1 : Int) (i2 : Int) (i3 : Int) (g : G2) : Option (Int × G2) :=
  if 0 ≤ i1 ∧ i1 < 801 then
  if ir i3 then
  if ir (rA g 52 i1) then
  if i3 < (rA g 52 i1) then
    bd (f_M_letter_50 i1 i3 g) fun r5 g5 =>
    if ir r5 then
    if r5 = 36 then
      L 0 i1 (i2 + 1) (i3 + 1) g5
    else
      L 0 i1 i2 (i3 + 1) g5
    else none
  else
    if ir i2 then
    if i2 = 0 then
      some (0, g)
    else
      if (rA g 52 i1) = 2 then
        bd (f_M_letter_50 i1 0 g) fun r11 g11 =>
        if ir r11 then
        if r11 = 36 then
          bd (f_M_letter_50 i1 1 g11) fun r14 g14 =>
          if ir r14 then
          if r14 = 46 then
            some (9, g14)
          else
          if r14 = 61 then
            some (8, g14)
          else
          if r14 = 97 then
            some (6, g14)
          else
          if r14 = 99 then
            some (1, g14)
          else
          if r14 = 100 then
            some (3, g14)
          else
          if r14 = 101 then
            some (5, g14)
          else
          if r14 = 102 then
            some (4, g14)
          else
          if r14 = 112 then
            some (7, g14)
          else
          if r14 = 118 then
            some (2, g14)
          else
          if r14 = 123 then
            some (10, g14)
          else
          if r14 = 125 then
            some (11, g14)
          else
            some (12, g14)
          else none
        else
          L 1 0 0 0 g11
        else none
      else
        L 1 0 0 0 g
    else none
  else none
  else none
  else none
def b_M_whatIs_50_1 (L : Nat → Int → Int → Int → G2 → Option (Int × G2)) (i1 : Int) (i2 : Int) (i3 : Int) (g : G2) : Option (Int × G2) :=
  some (12, g)
def l_M_whatIs_50 : Nat → Nat → Int → Int → Int → G2 → Option (Int × G2)
  | 0 => fun _ _ _ _ _ => none
  | n + 1 => fun t i1 i2 i3 g => match t with
    | 0 => b_M_whatIs_50_0 (l_M_whatIs_50 n) i1 i2 i3 g
    | _ => b_M_whatIs_50_1 (l_M_whatIs_50 n) i1 i2 i3 g
set_option maxHeartbeats 4000000 in
set_option maxRecDepth 100000 in
theorem rl_M_whatIs_50 (d : Nat) : ∀ (n : Nat) (i1 : Int) (i2 : Int) (i3 : Int) (g : G2) (r : Int) (g' : G2), (l_M_whatIs_50 n 0 i1 i2 i3 g = some (r, g') → Rt (d + 1) m_M_whatIs 4 [some (vR 50), some (vI i1), some (vI i2), some (vI i3)] [] g (some (vI r)) g') ∧ (l_M_whatIs_50 n 1 i1 i2 i3 g = some (r, g') → Rt (d + 1) m_M_whatIs 66 [none, none, none, none] [] g (some (vI r)) g') := by
  intro n
  induction n with
  | zero => intro i1 i2 i3 g r g'; exact ⟨fun hf => (by cases hf), fun hf => (by cases hf)⟩
  | succ n ih =>
    intro i1 i2 i3 g r g'
    refine ⟨?_, ?_⟩
    · intro hf
      replace hf : b_M_whatIs_50_0 (l_M_whatIs_50 n) i1 i2 i3 g = some (r, g') := hf
      unfold b_M_whatIs_50_0 at hf
      have h1 : 0 ≤ i1 ∧ i1 < 801 := by
        by_cases q : 0 ≤ i1 ∧ i1 < 801
        · exact q
        · rw [if_neg q] at hf; cases hf
      rw [if_pos h1] at hf
      have h2 : ir i3 := by
        by_cases q : ir i3
        · exact q
        · rw [if_neg q] at hf; cases hf
      rw [if_pos h2] at hf
      have h3 : ir (rA g 52 i1) := by
        by_cases q : ir (rA g 52 i1)
        · exact q
        · rw [if_neg q] at hf; cases hf
      rw [if_pos h3] at hf
      by_cases h4 : i3 < (rA g 52 i1)
      · rw [if_pos h4] at hf
        refine Rt.path ok_M_whatIs 6 [0] rfl ⟨(ix_801 h1), ⟨⟨h2, h3⟩, h4⟩, trivial⟩ ?_
        obtain ⟨r5, g5, e5, hf⟩ := bd_inv hf
        refine Rt.path ok_M_whatIs 3 [] rfl trivial ?_
        refine Rt.callV ok_M_whatIs rfl ml_M_141 [vI _, vI _] cf_M_letter rfl rfl (c_M_letter_50 d _ _ _ _ _ e5) (Nat.le_of_ble_eq_true rfl) ?_
        have h6 : ir r5 := by
          by_cases q : ir r5
          · exact q
          · rw [if_neg q] at hf; cases hf
        rw [if_pos h6] at hf
        by_cases h7 : r5 = 36
        · rw [if_pos h7] at hf
          refine Rt.path ok_M_whatIs 2 [0] rfl ⟨⟨⟨h6, (show ir 36 by decide)⟩, h7⟩, trivial⟩ ?_
          refine Rt.path ok_M_whatIs 7 [] rfl trivial ?_
          exact Rt.weak ((ih _ _ _ _ _ _).1 hf) ⟨rfl, rfl, rfl, rfl, trivial⟩
        · rw [if_neg h7] at hf
          refine Rt.path ok_M_whatIs 2 [1] rfl ⟨⟨⟨h6, (show ir 36 by decide)⟩, h7⟩, trivial⟩ ?_
          refine Rt.path ok_M_whatIs 4 [] rfl trivial ?_
          exact Rt.weak ((ih _ _ _ _ _ _).1 hf) ⟨rfl, rfl, rfl, rfl, trivial⟩
      · rw [if_neg h4] at hf
        refine Rt.path ok_M_whatIs 6 [1] rfl ⟨(ix_801 h1), ⟨⟨h2, h3⟩, (Int.not_lt.mp h4)⟩, trivial⟩ ?_
        have h8 : ir i2 := by
          by_cases q : ir i2
          · exact q
          · rw [if_neg q] at hf; cases hf
        rw [if_pos h8] at hf
        by_cases h9 : i2 = 0
        · rw [if_pos h9] at hf
          refine Rt.path ok_M_whatIs 2 [0] rfl ⟨⟨h8, h9⟩, trivial⟩ ?_
          cases hf
          refine Rt.path ok_M_whatIs 1 [] rfl trivial ?_
          exact Rt.retI ok_M_whatIs rfl rfl
        · rw [if_neg h9] at hf
          refine Rt.path ok_M_whatIs 2 [1] rfl ⟨⟨h8, h9⟩, trivial⟩ ?_
          by_cases h10 : (rA g 52 i1) = 2
          · rw [if_pos h10] at hf
            refine Rt.path ok_M_whatIs 6 [0] rfl ⟨(ix_801 h1), ⟨⟨h3, (show ir 2 by decide)⟩, h10⟩, trivial⟩ ?_
            obtain ⟨r11, g11, e11, hf⟩ := bd_inv hf
            refine Rt.path ok_M_whatIs 3 [] rfl trivial ?_
            refine Rt.callV ok_M_whatIs rfl ml_M_141 [vI _, vI _] cf_M_letter rfl rfl (c_M_letter_50 d _ _ _ _ _ e11) (Nat.le_of_ble_eq_true rfl) ?_
            have h12 : ir r11 := by
              by_cases q : ir r11
              · exact q
              · rw [if_neg q] at hf; cases hf
            rw [if_pos h12] at hf
            by_cases h13 : r11 = 36
            · rw [if_pos h13] at hf
              refine Rt.path ok_M_whatIs 2 [1] rfl ⟨⟨⟨h12, (show ir 36 by decide)⟩, h13⟩, trivial⟩ ?_
              obtain ⟨r14, g14, e14, hf⟩ := bd_inv hf
              refine Rt.path ok_M_whatIs 3 [] rfl trivial ?_
              refine Rt.callV ok_M_whatIs rfl ml_M_141 [vI _, vI _] cf_M_letter rfl rfl (c_M_letter_50 d _ _ _ _ _ e14) (Nat.le_of_ble_eq_true rfl) ?_
              have h15 : ir r14 := by
                by_cases q : ir r14
                · exact q
                · rw [if_neg q] at hf; cases hf
              rw [if_pos h15] at hf
              by_cases h16_0 : r14 = 46
              · rw [if_pos h16_0] at hf
                refine Rt.path ok_M_whatIs 1 [0] rfl ⟨⟨h15, h16_0, by decide⟩, trivial⟩ ?_
                cases hf
                refine Rt.path ok_M_whatIs 1 [] rfl trivial ?_
                exact Rt.retI ok_M_whatIs rfl rfl
              · rw [if_neg h16_0] at hf
                by_cases h16_1 : r14 = 61
                · rw [if_pos h16_1] at hf
                  refine Rt.path ok_M_whatIs 1 [1] rfl ⟨⟨h15, ⟨h16_0, h16_1⟩, by decide⟩, trivial⟩ ?_
                  cases hf
                  refine Rt.path ok_M_whatIs 1 [] rfl trivial ?_
                  exact Rt.retI ok_M_whatIs rfl rfl
                · rw [if_neg h16_1] at hf
                  by_cases h16_2 : r14 = 97
                  · rw [if_pos h16_2] at hf
                    refine Rt.path ok_M_whatIs 1 [2] rfl ⟨⟨h15, ⟨h16_0, ⟨h16_1, h16_2⟩⟩, by decide⟩, trivial⟩ ?_
                    cases hf
                    refine Rt.path ok_M_whatIs 1 [] rfl trivial ?_
                    exact Rt.retI ok_M_whatIs rfl rfl
                  · rw [if_neg h16_2] at hf
                    by_cases h16_3 : r14 = 99
                    · rw [if_pos h16_3] at hf
                      refine Rt.path ok_M_whatIs 1 [3] rfl ⟨⟨h15, ⟨h16_0, ⟨h16_1, ⟨h16_2, h16_3⟩⟩⟩, by decide⟩, trivial⟩ ?_
                      cases hf
                      refine Rt.path ok_M_whatIs 1 [] rfl trivial ?_
                      exact Rt.retI ok_M_whatIs rfl rfl
                    · rw [if_neg h16_3] at hf
                      by_cases h16_4 : r14 = 100
                      · rw [if_pos h16_4] at hf
                        refine Rt.path ok_M_whatIs 1 [4] rfl ⟨⟨h15, ⟨h16_0, ⟨h16_1, ⟨h16_2, ⟨h16_3, h16_4⟩⟩⟩⟩, by decide⟩, trivial⟩ ?_
                        cases hf
                        refine Rt.path ok_M_whatIs 1 [] rfl trivial ?_
                        exact Rt.retI ok_M_whatIs rfl rfl
                      · rw [if_neg h16_4] at hf
                        by_cases h16_5 : r14 = 101
                        · rw [if_pos h16_5] at hf
                          refine Rt.path ok_M_whatIs 1 [5] rfl ⟨⟨h15, ⟨h16_0, ⟨h16_1, ⟨h16_2, ⟨h16_3, ⟨h16_4, h16_5⟩⟩⟩⟩⟩, by decide⟩, trivial⟩ ?_
                          cases hf
                          refine Rt.path ok_M_whatIs 1 [] rfl trivial ?_
                          exact Rt.retI ok_M_whatIs rfl rfl
                        · rw [if_neg h16_5] at hf
                          by_cases h16_6 : r14 = 102
                          · rw [if_pos h16_6] at hf
                            refine Rt.path ok_M_whatIs 1 [6] rfl ⟨⟨h15, ⟨h16_0, ⟨h16_1, ⟨h16_2, ⟨h16_3, ⟨h16_4, ⟨h16_5, h16_6⟩⟩⟩⟩⟩⟩, by decide⟩, trivial⟩ ?_
                            cases hf
                            refine Rt.path ok_M_whatIs 1 [] rfl trivial ?_
                            exact Rt.retI ok_M_whatIs rfl rfl
                          · rw [if_neg h16_6] at hf
                            by_cases h16_7 : r14 = 112
                            · rw [if_pos h16_7] at hf
                              refine Rt.path ok_M_whatIs 1 [7] rfl ⟨⟨h15, ⟨h16_0, ⟨h16_1, ⟨h16_2, ⟨h16_3, ⟨h16_4, ⟨h16_5, ⟨h16_6, h16_7⟩⟩⟩⟩⟩⟩⟩, by decide⟩, trivial⟩ ?_
                              cases hf
                              refine Rt.path ok_M_whatIs 1 [] rfl trivial ?_
                              exact Rt.retI ok_M_whatIs rfl rfl
                            · rw [if_neg h16_7] at hf
                              by_cases h16_8 : r14 = 118
                              · rw [if_pos h16_8] at hf
                                refine Rt.path ok_M_whatIs 1 [8] rfl ⟨⟨h15, ⟨h16_0, ⟨h16_1, ⟨h16_2, ⟨h16_3, ⟨h16_4, ⟨h16_5, ⟨h16_6, ⟨h16_7, h16_8⟩⟩⟩⟩⟩⟩⟩⟩, by decide⟩, trivial⟩ ?_
                                cases hf
                                refine Rt.path ok_M_whatIs 1 [] rfl trivial ?_
                                exact Rt.retI ok_M_whatIs rfl rfl
                              · rw [if_neg h16_8] at hf
                                by_cases h16_9 : r14 = 123
                                · rw [if_pos h16_9] at hf
                                  refine Rt.path ok_M_whatIs 1 [9] rfl ⟨⟨h15, ⟨h16_0, ⟨h16_1, ⟨h16_2, ⟨h16_3, ⟨h16_4, ⟨h16_5, ⟨h16_6, ⟨h16_7, ⟨h16_8, h16_9⟩⟩⟩⟩⟩⟩⟩⟩⟩, by decide⟩, trivial⟩ ?_
                                  cases hf
                                  refine Rt.path ok_M_whatIs 1 [] rfl trivial ?_
                                  exact Rt.retI ok_M_whatIs rfl rfl
                                · rw [if_neg h16_9] at hf
                                  by_cases h16_10 : r14 = 125
                                  · rw [if_pos h16_10] at hf
                                    refine Rt.path ok_M_whatIs 1 [10] rfl ⟨⟨h15, ⟨h16_0, ⟨h16_1, ⟨h16_2, ⟨h16_3, ⟨h16_4, ⟨h16_5, ⟨h16_6, ⟨h16_7, ⟨h16_8, ⟨h16_9, h16_10⟩⟩⟩⟩⟩⟩⟩⟩⟩⟩, by decide⟩, trivial⟩ ?_
                                    cases hf
                                    refine Rt.path ok_M_whatIs 1 [] rfl trivial ?_
                                    exact Rt.retI ok_M_whatIs rfl rfl
                                  · rw [if_neg h16_10] at hf
                                    refine Rt.path ok_M_whatIs 1 [11] rfl ⟨⟨h15, ⟨h16_0, ⟨h16_1, ⟨h16_2, ⟨h16_3, ⟨h16_4, ⟨h16_5, ⟨h16_6, ⟨h16_7, ⟨h16_8, ⟨h16_9, ⟨h16_10, trivial⟩⟩⟩⟩⟩⟩⟩⟩⟩⟩⟩, by decide⟩, trivial⟩ ?_
                                    cases hf
                                    refine Rt.path ok_M_whatIs 1 [] rfl trivial ?_
                                    exact Rt.retI ok_M_whatIs rfl rfl
            · rw [if_neg h13] at hf
              refine Rt.path ok_M_whatIs 2 [0] rfl ⟨⟨⟨h12, (show ir 36 by decide)⟩, h13⟩, trivial⟩ ?_
              exact Rt.weak ((ih _ _ _ _ _ _).2 hf) trivial
          · rw [if_neg h10] at hf
            refine Rt.path ok_M_whatIs 6 [1] rfl ⟨(ix_801 h1), ⟨⟨h3, (show ir 2 by decide)⟩, h10⟩, trivial⟩ ?_
            exact Rt.weak ((ih _ _ _ _ _ _).2 hf) trivial
    · intro hf
      replace hf : b_M_whatIs_50_1 (l_M_whatIs_50 n) i1 i2 i3 g = some (r, g') := hf
      unfold b_M_whatIs_50_1 at hf
      cases hf
      refine Rt.path ok_M_whatIs 1 [] rfl trivial ?_
      exact Rt.retI ok_M_whatIs rfl rfl
def f_M_whatIs_50 (a1 : Int) (g : G2) : Option (Int × G2) :=
  l_M_whatIs_50 20000 0 a1 0 0 g
set_option maxHeartbeats 4000000 in
set_option maxRecDepth 100000 in
theorem c_M_whatIs_50 (d : Nat) (a1 : Int) (g : G2) (r : Int) (g' : G2) (hf : f_M_whatIs_50 a1 g = some (r, g')) : C2 (d + 1) m_M_whatIs [vR 50, vI a1] g (some (vI r)) g' := by
  unfold f_M_whatIs_50 at hf
  refine C2.of rfl rfl rfl (Nat.le_of_ble_eq_true rfl) ?_
  refine Rt.path ok_M_whatIs 4 [] rfl trivial ?_
  exact Rt.weak ((rl_M_whatIs_50 d _ _ _ _ _ _ _).1 hf) ⟨rfl, rfl, rfl, rfl, trivial⟩
def b_M_codeOf_50_0 (L : Nat → Int → Int64 → Int → G2 → Option (Int64 × G2)) (i1 : Int) (l2 : Int64) (i4 : Int) (g : G2) : Option (Int64 × G2) :=
  if 0 ≤ i1 ∧ i1 < 801 then
  if ir i4 then
  if ir (rA g 52 i1) then
  if i4 < (rA g 52 i1) then
    bd (f_M_letter_50 i1 i4 g) fun r5 g5 =>
    L 0 i1 ((l2 * (Int64.ofNat 128)) + (am_i2l r5)) (i4 + 1) g5
  else
    some (l2, g)
  else none
  else none
  else none
def l_M_codeOf_50 : Nat → Nat → Int → Int64 → Int → G2 → Option (Int64 × G2)
  | 0 => fun _ _ _ _ _ => none
  | n + 1 => fun t i1 l2 i4 g => match t with
    | _ => b_M_codeOf_50_0 (l_M_codeOf_50 n) i1 l2 i4 g
set_option maxHeartbeats 4000000 in
set_option maxRecDepth 100000 in
theorem rl_M_codeOf_50 (d : Nat) : ∀ (n : Nat) (i1 : Int) (l2 : Int64) (i4 : Int) (g : G2) (r : Int64) (g' : G2), (l_M_codeOf_50 n 0 i1 l2 i4 g = some (r, g') → Rt (d + 1) m_M_codeOf 5 [some (vR 50), some (vI i1), some (vL l2), none, some (vI i4)] [] g (some (vL r)) g') := by
  intro n
  induction n with
  | zero => intro i1 l2 i4 g r g'; exact fun hf => by cases hf
  | succ n ih =>
    intro i1 l2 i4 g r g'
    intro hf
    replace hf : b_M_codeOf_50_0 (l_M_codeOf_50 n) i1 l2 i4 g = some (r, g') := hf
    unfold b_M_codeOf_50_0 at hf
    have h1 : 0 ≤ i1 ∧ i1 < 801 := by
      by_cases q : 0 ≤ i1 ∧ i1 < 801
      · exact q
      · rw [if_neg q] at hf; cases hf
    rw [if_pos h1] at hf
    have h2 : ir i4 := by
      by_cases q : ir i4
      · exact q
      · rw [if_neg q] at hf; cases hf
    rw [if_pos h2] at hf
    have h3 : ir (rA g 52 i1) := by
      by_cases q : ir (rA g 52 i1)
      · exact q
      · rw [if_neg q] at hf; cases hf
    rw [if_pos h3] at hf
    by_cases h4 : i4 < (rA g 52 i1)
    · rw [if_pos h4] at hf
      refine Rt.path ok_M_codeOf 6 [0] rfl ⟨(ix_801 h1), ⟨⟨h2, h3⟩, h4⟩, trivial⟩ ?_
      obtain ⟨r5, g5, e5, hf⟩ := bd_inv hf
      refine Rt.path ok_M_codeOf 6 [] rfl trivial ?_
      refine Rt.callV ok_M_codeOf rfl ml_M_141 [vI _, vI _] cf_M_letter rfl rfl (c_M_letter_50 d _ _ _ _ _ e5) (Nat.le_of_ble_eq_true rfl) ?_
      refine Rt.path ok_M_codeOf 5 [] rfl trivial ?_
      exact Rt.weak ((ih _ _ _ _ _ _) hf) ⟨rfl, rfl, rfl, rfl, trivial⟩
    · rw [if_neg h4] at hf
      refine Rt.path ok_M_codeOf 6 [1] rfl ⟨(ix_801 h1), ⟨⟨h2, h3⟩, (Int.not_lt.mp h4)⟩, trivial⟩ ?_
      cases hf
      refine Rt.path ok_M_codeOf 1 [] rfl trivial ?_
      exact Rt.retL ok_M_codeOf rfl rfl
def f_M_codeOf_50 (a1 : Int) (g : G2) : Option (Int64 × G2) :=
  l_M_codeOf_50 20000 0 a1 (Int64.ofNat 0) 0 g
set_option maxHeartbeats 4000000 in
set_option maxRecDepth 100000 in
theorem c_M_codeOf_50 (d : Nat) (a1 : Int) (g : G2) (r : Int64) (g' : G2) (hf : f_M_codeOf_50 a1 g = some (r, g')) : C2 (d + 1) m_M_codeOf [vR 50, vI a1] g (some (vL r)) g' := by
  unfold f_M_codeOf_50 at hf
  refine C2.of rfl rfl rfl (Nat.le_of_ble_eq_true rfl) ?_
  refine Rt.path ok_M_codeOf 4 [] rfl trivial ?_
  exact Rt.weak ((rl_M_codeOf_50 d _ _ _ _ _ _ _) hf) ⟨rfl, rfl, rfl, rfl, trivial⟩
def b_M_find_50_0 (L : Nat → Int64 → Int → G2 → Option (Int × G2)) (l1 : Int64) (i3 : Int) (g : G2) : Option (Int × G2) :=
  if ir i3 then
  if ir (rI g 49 8) then
  if i3 < (rI g 49 8) then
    if 0 ≤ i3 ∧ i3 < 60 then
    if (rB g 53 i3) = l1 then
      some (i3, g)
    else
      L 0 l1 (i3 + 1) g
    else none
  else
    some ((-1), g)
  else none
  else none
def l_M_find_50 : Nat → Nat → Int64 → Int → G2 → Option (Int × G2)
  | 0 => fun _ _ _ _ => none
  | n + 1 => fun t l1 i3 g => match t with
    | _ => b_M_find_50_0 (l_M_find_50 n) l1 i3 g
set_option maxHeartbeats 4000000 in
set_option maxRecDepth 100000 in
theorem rl_M_find_50 (d : Nat) : ∀ (n : Nat) (l1 : Int64) (i3 : Int) (g : G2) (r : Int) (g' : G2), (l_M_find_50 n 0 l1 i3 g = some (r, g') → Rt d m_M_find 2 [some (vR 50), some (vL l1), none, some (vI i3)] [] g (some (vI r)) g') := by
  intro n
  induction n with
  | zero => intro l1 i3 g r g'; exact fun hf => by cases hf
  | succ n ih =>
    intro l1 i3 g r g'
    intro hf
    replace hf : b_M_find_50_0 (l_M_find_50 n) l1 i3 g = some (r, g') := hf
    unfold b_M_find_50_0 at hf
    have h1 : ir i3 := by
      by_cases q : ir i3
      · exact q
      · rw [if_neg q] at hf; cases hf
    rw [if_pos h1] at hf
    have h2 : ir (rI g 49 8) := by
      by_cases q : ir (rI g 49 8)
      · exact q
      · rw [if_neg q] at hf; cases hf
    rw [if_pos h2] at hf
    by_cases h3 : i3 < (rI g 49 8)
    · rw [if_pos h3] at hf
      refine Rt.path ok_M_find 4 [0] rfl ⟨⟨⟨h1, h2⟩, h3⟩, trivial⟩ ?_
      have h4 : 0 ≤ i3 ∧ i3 < 60 := by
        by_cases q : 0 ≤ i3 ∧ i3 < 60
        · exact q
        · rw [if_neg q] at hf; cases hf
      rw [if_pos h4] at hf
      by_cases h5 : (rB g 53 i3) = l1
      · rw [if_pos h5] at hf
        refine Rt.path ok_M_find 7 [0] rfl ⟨(ix_60 h4), ⟨(am_cmpIn _ _), (am_cmp0.mpr h5)⟩, trivial⟩ ?_
        cases hf
        refine Rt.path ok_M_find 1 [] rfl trivial ?_
        exact Rt.retI ok_M_find rfl rfl
      · rw [if_neg h5] at hf
        refine Rt.path ok_M_find 7 [1] rfl ⟨(ix_60 h4), ⟨(am_cmpIn _ _), (fun q => h5 (am_cmp0.mp q))⟩, trivial⟩ ?_
        refine Rt.path ok_M_find 2 [] rfl trivial ?_
        exact Rt.weak ((ih _ _ _ _ _) hf) ⟨rfl, rfl, rfl, trivial⟩
    · rw [if_neg h3] at hf
      refine Rt.path ok_M_find 4 [1] rfl ⟨⟨⟨h1, h2⟩, (Int.not_lt.mp h3)⟩, trivial⟩ ?_
      cases hf
      refine Rt.path ok_M_find 1 [] rfl trivial ?_
      exact Rt.retI ok_M_find rfl rfl
def f_M_find_50 (a1 : Int64) (g : G2) : Option (Int × G2) :=
  l_M_find_50 20000 0 a1 0 g
set_option maxHeartbeats 4000000 in
set_option maxRecDepth 100000 in
theorem c_M_find_50 (d : Nat) (a1 : Int64) (g : G2) (r : Int) (g' : G2) (hf : f_M_find_50 a1 g = some (r, g')) : C2 d m_M_find [vR 50, vL a1] g (some (vI r)) g' := by
  unfold f_M_find_50 at hf
  refine C2.of rfl rfl rfl (Nat.le_of_ble_eq_true rfl) ?_
  refine Rt.path ok_M_find 2 [] rfl trivial ?_
  exact Rt.weak ((rl_M_find_50 d _ _ _ _ _ _) hf) ⟨rfl, rfl, rfl, trivial⟩
def f_M_need_50  (g : G2) : Option (Int × G2) :=
  bd (f_M_come_50 g) fun r1 g1 =>
  if ir r1 then
  if r1 = 0 then
    (f_M_fail_50 (-2) (rI g1 49 4) g1).bind fun g4 =>
    some ((-1), g4)
  else
    bd (f_M_whatIs_50 (rI g1 49 5) g1) fun r5 g5 =>
    some (r5, g5)
  else none
set_option maxHeartbeats 4000000 in
set_option maxRecDepth 100000 in
theorem c_M_need_50 (d : Nat)  (g : G2) (r : Int) (g' : G2) (hf : f_M_need_50 g = some (r, g')) : C2 (d + 3) m_M_need [vR 50] g (some (vI r)) g' := by
  unfold f_M_need_50 at hf
  refine C2.of rfl rfl rfl (Nat.le_of_ble_eq_true rfl) ?_
  obtain ⟨r1, g1, e1, hf⟩ := bd_inv hf
  refine Rt.path ok_M_need 1 [] rfl trivial ?_
  refine Rt.callV ok_M_need rfl ml_M_161 [] cf_M_come rfl rfl (c_M_come_50 d _ _ _ e1) (Nat.le_of_ble_eq_true rfl) ?_
  have h2 : ir r1 := by
    by_cases q : ir r1
    · exact q
    · rw [if_neg q] at hf; cases hf
  rw [if_pos h2] at hf
  by_cases h3 : r1 = 0
  · rw [if_pos h3] at hf
    refine Rt.path ok_M_need 1 [0] rfl ⟨⟨h2, h3⟩, trivial⟩ ?_
    obtain ⟨g4, e4, hf⟩ := Option.bind_eq_some_iff.mp hf
    refine Rt.path ok_M_need 4 [] rfl trivial ?_
    refine Rt.callV ok_M_need rfl ml_M_157 [vI _, vI _] cf_M_fail rfl rfl (c_M_fail_50 (d + 2) _ _ _ _ e4) (Nat.le_of_ble_eq_true rfl) ?_
    cases hf
    refine Rt.path ok_M_need 1 [] rfl trivial ?_
    exact Rt.retI ok_M_need rfl rfl
  · rw [if_neg h3] at hf
    refine Rt.path ok_M_need 1 [1] rfl ⟨⟨h2, h3⟩, trivial⟩ ?_
    obtain ⟨r5, g5, e5, hf⟩ := bd_inv hf
    refine Rt.path ok_M_need 3 [] rfl trivial ?_
    refine Rt.callV ok_M_need rfl ml_M_165 [vI _] cf_M_whatIs rfl rfl (c_M_whatIs_50 (d + 1) _ _ _ _ e5) (Nat.le_of_ble_eq_true rfl) ?_
    cases hf
    exact Rt.retI ok_M_need rfl rfl
def f_M_needName_50  (g : G2) : Option (Int × G2) :=
  bd (f_M_need_50 g) fun r1 g1 =>
  if ir r1 then
  if 0 < r1 then
    (f_M_fail_50 (-3) (rI g1 49 5) g1).bind fun g4 =>
    if r1 = 0 then
      some (1, g4)
    else
      some (0, g4)
  else
    if r1 = 0 then
      some (1, g1)
    else
      some (0, g1)
  else none
set_option maxHeartbeats 4000000 in
set_option maxRecDepth 100000 in
theorem c_M_needName_50 (d : Nat)  (g : G2) (r : Int) (g' : G2) (hf : f_M_needName_50 g = some (r, g')) : C2 (d + 4) m_M_needName [vR 50] g (some (vI r)) g' := by
  unfold f_M_needName_50 at hf
  refine C2.of rfl rfl rfl (Nat.le_of_ble_eq_true rfl) ?_
  obtain ⟨r1, g1, e1, hf⟩ := bd_inv hf
  refine Rt.path ok_M_needName 1 [] rfl trivial ?_
  refine Rt.callV ok_M_needName rfl ml_M_169 [] cf_M_need rfl rfl (c_M_need_50 d _ _ _ e1) (Nat.le_of_ble_eq_true rfl) ?_
  have h2 : ir r1 := by
    by_cases q : ir r1
    · exact q
    · rw [if_neg q] at hf; cases hf
  rw [if_pos h2] at hf
  by_cases h3 : 0 < r1
  · rw [if_pos h3] at hf
    refine Rt.path ok_M_needName 3 [0] rfl ⟨⟨h2, h3⟩, trivial⟩ ?_
    obtain ⟨g4, e4, hf⟩ := Option.bind_eq_some_iff.mp hf
    refine Rt.path ok_M_needName 4 [] rfl trivial ?_
    refine Rt.callV ok_M_needName rfl ml_M_157 [vI _, vI _] cf_M_fail rfl rfl (c_M_fail_50 (d + 3) _ _ _ _ e4) (Nat.le_of_ble_eq_true rfl) ?_
    by_cases h5 : r1 = 0
    · rw [if_pos h5] at hf
      refine Rt.path ok_M_needName 2 [0] rfl ⟨⟨h2, h5⟩, trivial⟩ ?_
      cases hf
      refine Rt.path ok_M_needName 2 [] rfl trivial ?_
      exact Rt.retZ ok_M_needName (show (1 : Int) = 0 ∨ (1 : Int) = 1 by decide) rfl rfl
    · rw [if_neg h5] at hf
      refine Rt.path ok_M_needName 2 [1] rfl ⟨⟨h2, h5⟩, trivial⟩ ?_
      cases hf
      refine Rt.path ok_M_needName 1 [] rfl trivial ?_
      exact Rt.retZ ok_M_needName (show (0 : Int) = 0 ∨ (0 : Int) = 1 by decide) rfl rfl
  · rw [if_neg h3] at hf
    refine Rt.path ok_M_needName 3 [1] rfl ⟨⟨h2, (Int.not_lt.mp h3)⟩, trivial⟩ ?_
    by_cases h6 : r1 = 0
    · rw [if_pos h6] at hf
      refine Rt.path ok_M_needName 2 [0] rfl ⟨⟨h2, h6⟩, trivial⟩ ?_
      cases hf
      refine Rt.path ok_M_needName 2 [] rfl trivial ?_
      exact Rt.retZ ok_M_needName (show (1 : Int) = 0 ∨ (1 : Int) = 1 by decide) rfl rfl
    · rw [if_neg h6] at hf
      refine Rt.path ok_M_needName 2 [1] rfl ⟨⟨h2, h6⟩, trivial⟩ ?_
      cases hf
      refine Rt.path ok_M_needName 1 [] rfl trivial ?_
      exact Rt.retZ ok_M_needName (show (0 : Int) = 0 ∨ (0 : Int) = 1 by decide) rfl rfl
def f_M_findWord_50  (g : G2) : Option (Int × G2) :=
  bd (f_M_codeOf_50 (rI g 49 5) g) fun r1 g1 =>
  bd (f_M_find_50 r1 g1) fun r2 g2 =>
  some (r2, g2)
set_option maxHeartbeats 4000000 in
set_option maxRecDepth 100000 in
theorem c_M_findWord_50 (d : Nat)  (g : G2) (r : Int) (g' : G2) (hf : f_M_findWord_50 g = some (r, g')) : C2 (d + 2) m_M_findWord [vR 50] g (some (vI r)) g' := by
  unfold f_M_findWord_50 at hf
  refine C2.of rfl rfl rfl (Nat.le_of_ble_eq_true rfl) ?_
  obtain ⟨r1, g1, e1, hf⟩ := bd_inv hf
  refine Rt.path ok_M_findWord 4 [] rfl trivial ?_
  refine Rt.callV ok_M_findWord rfl ml_M_176 [vI _] cf_M_codeOf rfl rfl (c_M_codeOf_50 d _ _ _ _ e1) (Nat.le_of_ble_eq_true rfl) ?_
  obtain ⟨r2, g2, e2, hf⟩ := bd_inv hf
  refine Rt.callV ok_M_findWord rfl ml_M_180 [vL _] cf_M_find rfl rfl (c_M_find_50 (d + 1) _ _ _ _ e2) (Nat.le_of_ble_eq_true rfl) ?_
  cases hf
  exact Rt.retI ok_M_findWord rfl rfl
def f_M_isConstant_50 (a1 : Int) (g : G2) : Option (Int × G2) :=
  if ir a1 then
  if a1 < 0 then
    some (0, g)
  else
    if 0 ≤ a1 ∧ a1 < 60 then
    if ir (rA g 54 a1) then
    if (rA g 54 a1) = 1 then
      some (1, g)
    else
      some (0, g)
    else none
    else none
  else none
set_option maxHeartbeats 4000000 in
set_option maxRecDepth 100000 in
theorem c_M_isConstant_50 (d : Nat) (a1 : Int) (g : G2) (r : Int) (g' : G2) (hf : f_M_isConstant_50 a1 g = some (r, g')) : C2 d m_M_isConstant [vR 50, vI a1] g (some (vI r)) g' := by
  unfold f_M_isConstant_50 at hf
  refine C2.of rfl rfl rfl (Nat.le_of_ble_eq_true rfl) ?_
  have h1 : ir a1 := by
    by_cases q : ir a1
    · exact q
    · rw [if_neg q] at hf; cases hf
  rw [if_pos h1] at hf
  by_cases h2 : a1 < 0
  · rw [if_pos h2] at hf
    refine Rt.path ok_M_isConstant 2 [1] rfl ⟨⟨h1, h2⟩, trivial⟩ ?_
    cases hf
    refine Rt.path ok_M_isConstant 1 [] rfl trivial ?_
    exact Rt.retZ ok_M_isConstant (show (0 : Int) = 0 ∨ (0 : Int) = 1 by decide) rfl rfl
  · rw [if_neg h2] at hf
    refine Rt.path ok_M_isConstant 2 [0] rfl ⟨⟨h1, (Int.not_lt.mp h2)⟩, trivial⟩ ?_
    have h3 : 0 ≤ a1 ∧ a1 < 60 := by
      by_cases q : 0 ≤ a1 ∧ a1 < 60
      · exact q
      · rw [if_neg q] at hf; cases hf
    rw [if_pos h3] at hf
    have h4 : ir (rA g 54 a1) := by
      by_cases q : ir (rA g 54 a1)
      · exact q
      · rw [if_neg q] at hf; cases hf
    rw [if_pos h4] at hf
    by_cases h5 : (rA g 54 a1) = 1
    · rw [if_pos h5] at hf
      refine Rt.path ok_M_isConstant 6 [0] rfl ⟨(ix_60 h3), ⟨⟨h4, (show ir 1 by decide)⟩, h5⟩, trivial⟩ ?_
      cases hf
      refine Rt.path ok_M_isConstant 2 [] rfl trivial ?_
      exact Rt.retZ ok_M_isConstant (show (1 : Int) = 0 ∨ (1 : Int) = 1 by decide) rfl rfl
    · rw [if_neg h5] at hf
      refine Rt.path ok_M_isConstant 6 [1] rfl ⟨(ix_60 h3), ⟨⟨h4, (show ir 1 by decide)⟩, h5⟩, trivial⟩ ?_
      cases hf
      refine Rt.path ok_M_isConstant 1 [] rfl trivial ?_
      exact Rt.retZ ok_M_isConstant (show (0 : Int) = 0 ∨ (0 : Int) = 1 by decide) rfl rfl
def f_M_isLive_50 (a1 : Int) (g : G2) : Option (Int × G2) :=
  if ir a1 then
  if a1 < 0 then
    some (0, g)
  else
    if 0 ≤ a1 ∧ a1 < 60 then
    if ir (rA g 54 a1) then
    if (rA g 54 a1) = 2 then
      if ir (rA g 55 a1) then
      if (rA g 55 a1) = 0 then
        some (0, g)
      else
        some (1, g)
      else none
    else
      some (0, g)
    else none
    else none
  else none
set_option maxHeartbeats 4000000 in
set_option maxRecDepth 100000 in
theorem c_M_isLive_50 (d : Nat) (a1 : Int) (g : G2) (r : Int) (g' : G2) (hf : f_M_isLive_50 a1 g = some (r, g')) : C2 d m_M_isLive [vR 50, vI a1] g (some (vI r)) g' := by
  unfold f_M_isLive_50 at hf
  refine C2.of rfl rfl rfl (Nat.le_of_ble_eq_true rfl) ?_
  have h1 : ir a1 := by
    by_cases q : ir a1
    · exact q
    · rw [if_neg q] at hf; cases hf
  rw [if_pos h1] at hf
  by_cases h2 : a1 < 0
  · rw [if_pos h2] at hf
    refine Rt.path ok_M_isLive 2 [1] rfl ⟨⟨h1, h2⟩, trivial⟩ ?_
    cases hf
    refine Rt.path ok_M_isLive 1 [] rfl trivial ?_
    exact Rt.retZ ok_M_isLive (show (0 : Int) = 0 ∨ (0 : Int) = 1 by decide) rfl rfl
  · rw [if_neg h2] at hf
    refine Rt.path ok_M_isLive 2 [0] rfl ⟨⟨h1, (Int.not_lt.mp h2)⟩, trivial⟩ ?_
    have h3 : 0 ≤ a1 ∧ a1 < 60 := by
      by_cases q : 0 ≤ a1 ∧ a1 < 60
      · exact q
      · rw [if_neg q] at hf; cases hf
    rw [if_pos h3] at hf
    have h4 : ir (rA g 54 a1) := by
      by_cases q : ir (rA g 54 a1)
      · exact q
      · rw [if_neg q] at hf; cases hf
    rw [if_pos h4] at hf
    by_cases h5 : (rA g 54 a1) = 2
    · rw [if_pos h5] at hf
      refine Rt.path ok_M_isLive 6 [0] rfl ⟨(ix_60 h3), ⟨⟨h4, (show ir 2 by decide)⟩, h5⟩, trivial⟩ ?_
      have h6 : ir (rA g 55 a1) := by
        by_cases q : ir (rA g 55 a1)
        · exact q
        · rw [if_neg q] at hf; cases hf
      rw [if_pos h6] at hf
      by_cases h7 : (rA g 55 a1) = 0
      · rw [if_pos h7] at hf
        refine Rt.path ok_M_isLive 5 [1] rfl ⟨(ix_60 h3), ⟨h6, h7⟩, trivial⟩ ?_
        cases hf
        refine Rt.path ok_M_isLive 1 [] rfl trivial ?_
        exact Rt.retZ ok_M_isLive (show (0 : Int) = 0 ∨ (0 : Int) = 1 by decide) rfl rfl
      · rw [if_neg h7] at hf
        refine Rt.path ok_M_isLive 5 [0] rfl ⟨(ix_60 h3), ⟨h6, h7⟩, trivial⟩ ?_
        cases hf
        refine Rt.path ok_M_isLive 2 [] rfl trivial ?_
        exact Rt.retZ ok_M_isLive (show (1 : Int) = 0 ∨ (1 : Int) = 1 by decide) rfl rfl
    · rw [if_neg h5] at hf
      refine Rt.path ok_M_isLive 6 [1] rfl ⟨(ix_60 h3), ⟨⟨h4, (show ir 2 by decide)⟩, h5⟩, trivial⟩ ?_
      cases hf
      refine Rt.path ok_M_isLive 1 [] rfl trivial ?_
      exact Rt.retZ ok_M_isLive (show (0 : Int) = 0 ∨ (0 : Int) = 1 by decide) rfl rfl
