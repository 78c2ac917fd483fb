def b_M_isNeeded_50_0 (L : Nat → Int → Int → Int → Int → G2 → Option (Int × G2)) (i1 : Int) (i2 : Int) (i3 : Int) (i4 : Int) (g : G2) : Option (Int × G2) :=
  if 0 ≤ i1 ∧ i1 < 41 then
  if ir i4 then
  if ir ((40 * i1) + (rA g 73 i1)) then
  if i4 < ((40 * i1) + (rA g 73 i1)) then
    if 0 ≤ i4 ∧ i4 < 1640 then
    if ir (rA g 71 i4) then
    if ir i2 then
    if (rA g 71 i4) = i2 then
      if ir (rA g 72 i4) then
      if ir i3 then
      if (rA g 72 i4) = i3 then
        some (1, g)
      else
        if (rA g 71 i4) = i3 then
          if (rA g 72 i4) = i2 then
            some (1, g)
          else
            L 0 i1 i2 i3 (i4 + 1) g
        else
          L 0 i1 i2 i3 (i4 + 1) g
      else none
      else none
    else
      if ir i3 then
      if (rA g 71 i4) = i3 then
        if ir (rA g 72 i4) then
        if (rA g 72 i4) = i2 then
          some (1, g)
        else
          L 0 i1 i2 i3 (i4 + 1) g
        else none
      else
        L 0 i1 i2 i3 (i4 + 1) g
      else none
    else none
    else none
    else none
  else
    some (0, g)
  else none
  else none
  else none
def l_M_isNeeded_50 : Nat → Nat → Int → Int → Int → Int → G2 → Option (Int × G2)
  | 0 => fun _ _ _ _ _ _ => none
  | n + 1 => fun t i1 i2 i3 i4 g => match t with
    | _ => b_M_isNeeded_50_0 (l_M_isNeeded_50 n) i1 i2 i3 i4 g
set_option maxHeartbeats 4000000 in
set_option maxRecDepth 100000 in
theorem rl_M_isNeeded_50 (d : Nat) : ∀ (n : Nat) (i1 : Int) (i2 : Int) (i3 : Int) (i4 : Int) (g : G2) (r : Int) (g' : G2), (l_M_isNeeded_50 n 0 i1 i2 i3 i4 g = some (r, g') → Rt d m_M_isNeeded 6 [some (vR 50), some (vI i1), some (vI i2), some (vI i3), some (vI i4)] [] g (some (vI r)) g') := by
  intro n
  induction n with
  | zero => intro i1 i2 i3 i4 g r g'; exact fun hf => by cases hf
  | succ n ih =>
    intro i1 i2 i3 i4 g r g'
    intro hf
    replace hf : b_M_isNeeded_50_0 (l_M_isNeeded_50 n) i1 i2 i3 i4 g = some (r, g') := hf
    unfold b_M_isNeeded_50_0 at hf
    have h1 : 0 ≤ i1 ∧ i1 < 41 := by
      by_cases q : 0 ≤ i1 ∧ i1 < 41
      · exact q
      · rw [if_neg q] at hf; cases hf
    rw [if_pos h1] at hf
    have h2 : ir i4 := by
      by_cases q : ir i4
      · exact q
      · rw [if_neg q] at hf; cases hf
    rw [if_pos h2] at hf
    have h3 : ir ((40 * i1) + (rA g 73 i1)) := by
      by_cases q : ir ((40 * i1) + (rA g 73 i1))
      · exact q
      · rw [if_neg q] at hf; cases hf
    rw [if_pos h3] at hf
    by_cases h4 : i4 < ((40 * i1) + (rA g 73 i1))
    · rw [if_pos h4] at hf
      refine Rt.path ok_M_isNeeded 10 [0] rfl ⟨(ix_41 h1), ⟨⟨h2, h3⟩, h4⟩, trivial⟩ ?_
      have h5 : 0 ≤ i4 ∧ i4 < 1640 := by
        by_cases q : 0 ≤ i4 ∧ i4 < 1640
        · exact q
        · rw [if_neg q] at hf; cases hf
      rw [if_pos h5] at hf
      have h6 : ir (rA g 71 i4) := by
        by_cases q : ir (rA g 71 i4)
        · exact q
        · rw [if_neg q] at hf; cases hf
      rw [if_pos h6] at hf
      have h7 : ir i2 := by
        by_cases q : ir i2
        · exact q
        · rw [if_neg q] at hf; cases hf
      rw [if_pos h7] at hf
      by_cases h8 : (rA g 71 i4) = i2
      · rw [if_pos h8] at hf
        refine Rt.path ok_M_isNeeded 6 [0] rfl ⟨(ix_1640 h5), ⟨⟨h6, h7⟩, h8⟩, trivial⟩ ?_
        have h9 : ir (rA g 72 i4) := by
          by_cases q : ir (rA g 72 i4)
          · exact q
          · rw [if_neg q] at hf; cases hf
        rw [if_pos h9] at hf
        have h10 : ir i3 := by
          by_cases q : ir i3
          · exact q
          · rw [if_neg q] at hf; cases hf
        rw [if_pos h10] at hf
        by_cases h11 : (rA g 72 i4) = i3
        · rw [if_pos h11] at hf
          refine Rt.path ok_M_isNeeded 6 [1] rfl ⟨(ix_1640 h5), ⟨⟨h9, h10⟩, h11⟩, trivial⟩ ?_
          cases hf
          refine Rt.path ok_M_isNeeded 1 [] rfl trivial ?_
          exact Rt.retZ ok_M_isNeeded (show (1 : Int) = 0 ∨ (1 : Int) = 1 by decide) rfl rfl
        · rw [if_neg h11] at hf
          refine Rt.path ok_M_isNeeded 6 [0] rfl ⟨(ix_1640 h5), ⟨⟨h9, h10⟩, h11⟩, trivial⟩ ?_
          by_cases h12 : (rA g 71 i4) = i3
          · rw [if_pos h12] at hf
            refine Rt.path ok_M_isNeeded 6 [0] rfl ⟨(ix_1640 h5), ⟨⟨h6, h10⟩, h12⟩, trivial⟩ ?_
            by_cases h13 : (rA g 72 i4) = i2
            · rw [if_pos h13] at hf
              refine Rt.path ok_M_isNeeded 6 [0] rfl ⟨(ix_1640 h5), ⟨⟨h9, h7⟩, h13⟩, trivial⟩ ?_
              cases hf
              refine Rt.path ok_M_isNeeded 1 [] rfl trivial ?_
              exact Rt.retZ ok_M_isNeeded (show (1 : Int) = 0 ∨ (1 : Int) = 1 by decide) rfl rfl
            · rw [if_neg h13] at hf
              refine Rt.path ok_M_isNeeded 6 [1] rfl ⟨(ix_1640 h5), ⟨⟨h9, h7⟩, h13⟩, trivial⟩ ?_
              refine Rt.path ok_M_isNeeded 2 [] rfl trivial ?_
              exact Rt.weak ((ih _ _ _ _ _ _ _) hf) ⟨rfl, rfl, rfl, rfl, rfl, trivial⟩
          · rw [if_neg h12] at hf
            refine Rt.path ok_M_isNeeded 6 [1] rfl ⟨(ix_1640 h5), ⟨⟨h6, h10⟩, h12⟩, trivial⟩ ?_
            refine Rt.path ok_M_isNeeded 2 [] rfl trivial ?_
            exact Rt.weak ((ih _ _ _ _ _ _ _) hf) ⟨rfl, rfl, rfl, rfl, rfl, trivial⟩
      · rw [if_neg h8] at hf
        refine Rt.path ok_M_isNeeded 6 [1] rfl ⟨(ix_1640 h5), ⟨⟨h6, h7⟩, h8⟩, trivial⟩ ?_
        have h14 : ir i3 := by
          by_cases q : ir i3
          · exact q
          · rw [if_neg q] at hf; cases hf
        rw [if_pos h14] at hf
        by_cases h15 : (rA g 71 i4) = i3
        · rw [if_pos h15] at hf
          refine Rt.path ok_M_isNeeded 6 [0] rfl ⟨(ix_1640 h5), ⟨⟨h6, h14⟩, h15⟩, trivial⟩ ?_
          have h16 : ir (rA g 72 i4) := by
            by_cases q : ir (rA g 72 i4)
            · exact q
            · rw [if_neg q] at hf; cases hf
          rw [if_pos h16] at hf
          by_cases h17 : (rA g 72 i4) = i2
          · rw [if_pos h17] at hf
            refine Rt.path ok_M_isNeeded 6 [0] rfl ⟨(ix_1640 h5), ⟨⟨h16, h7⟩, h17⟩, trivial⟩ ?_
            cases hf
            refine Rt.path ok_M_isNeeded 1 [] rfl trivial ?_
            exact Rt.retZ ok_M_isNeeded (show (1 : Int) = 0 ∨ (1 : Int) = 1 by decide) rfl rfl
          · rw [if_neg h17] at hf
            refine Rt.path ok_M_isNeeded 6 [1] rfl ⟨(ix_1640 h5), ⟨⟨h16, h7⟩, h17⟩, trivial⟩ ?_
            refine Rt.path ok_M_isNeeded 2 [] rfl trivial ?_
            exact Rt.weak ((ih _ _ _ _ _ _ _) hf) ⟨rfl, rfl, rfl, rfl, rfl, trivial⟩
        · rw [if_neg h15] at hf
          refine Rt.path ok_M_isNeeded 6 [1] rfl ⟨(ix_1640 h5), ⟨⟨h6, h14⟩, h15⟩, trivial⟩ ?_
          refine Rt.path ok_M_isNeeded 2 [] rfl trivial ?_
          exact Rt.weak ((ih _ _ _ _ _ _ _) hf) ⟨rfl, rfl, rfl, rfl, rfl, trivial⟩
    · rw [if_neg h4] at hf
      refine Rt.path ok_M_isNeeded 10 [1] rfl ⟨(ix_41 h1), ⟨⟨h2, h3⟩, (Int.not_lt.mp h4)⟩, trivial⟩ ?_
      cases hf
      refine Rt.path ok_M_isNeeded 1 [] rfl trivial ?_
      exact Rt.retZ ok_M_isNeeded (show (0 : Int) = 0 ∨ (0 : Int) = 1 by decide) rfl rfl
def f_M_isNeeded_50 (a1 : Int) (a2 : Int) (a3 : Int) (g : G2) : Option (Int × G2) :=
  l_M_isNeeded_50 20000 0 a1 a2 a3 (40 * a1) g
set_option maxHeartbeats 4000000 in
set_option maxRecDepth 100000 in
theorem c_M_isNeeded_50 (d : Nat) (a1 : Int) (a2 : Int) (a3 : Int) (g : G2) (r : Int) (g' : G2) (hf : f_M_isNeeded_50 a1 a2 a3 g = some (r, g')) : C2 d m_M_isNeeded [vR 50, vI a1, vI a2, vI a3] g (some (vI r)) g' := by
  unfold f_M_isNeeded_50 at hf
  refine C2.of rfl rfl rfl (Nat.le_of_ble_eq_true rfl) ?_
  refine Rt.path ok_M_isNeeded 4 [] rfl trivial ?_
  exact Rt.weak ((rl_M_isNeeded_50 d _ _ _ _ _ _ _ _) hf) ⟨rfl, rfl, rfl, rfl, rfl, trivial⟩
def b_M_findNeeds_50_0 (L : Nat → Int → Int → G2 → Option (G2)) (i1 : Int) (i2 : Int) (g : G2) : Option (G2) :=
  if ir i2 then
  if ir (rI g 49 8) then
  if i2 < (rI g 49 8) then
    if 0 ≤ i2 ∧ i2 < 60 then
    L 0 i1 (i2 + 1) (gA g 80 i2 0)
    else none
  else
    (f_M_mark_50 0 (rI g 49 40) 1 g).bind fun g5 =>
    L 1 i1 0 g5
  else none
  else none
def b_M_findNeeds_50_1 (L : Nat → Int → Int → G2 → Option (G2)) (i1 : Int) (i2 : Int) (g : G2) : Option (G2) :=
  if ir i2 then
  if ir (rI g 49 15) then
  if i2 < (rI g 49 15) then
    if 0 ≤ i2 ∧ i2 < 40 then
    if ir (rA g 62 i2) then
    if (rA g 62 i2) = 0 then
      L 2 i1 i2 g
    else
      if ir (rA g 58 i2) then
      if (rA g 58 i2) = 5 then
        (f_M_mark_50 (24 * i2) (rA g 61 i2) 0 g).bind fun g14 =>
        L 2 i1 i2 g14
      else
        L 2 i1 i2 g
      else none
    else none
    else none
  else
    if 0 ≤ i1 ∧ i1 < 41 then
    L 3 i1 0 (gA g 70 i1 0)
    else none
  else none
  else none
def b_M_findNeeds_50_2 (L : Nat → Int → Int → G2 → Option (G2)) (i1 : Int) (i2 : Int) (g : G2) : Option (G2) :=
  L 1 i1 (i2 + 1) g
def b_M_findNeeds_50_3 (L : Nat → Int → Int → G2 → Option (G2)) (i1 : Int) (i2 : Int) (g : G2) : Option (G2) :=
  if ir i2 then
  if ir (rI g 49 15) then
  if i2 < (rI g 49 15) then
    if 0 ≤ i2 ∧ i2 < 40 then
    if ir (rA g 62 i2) then
    if (rA g 62 i2) = 0 then
      L 5 i1 i2 g
    else
      if ir (rA g 58 i2) then
      if (rA g 58 i2) = 5 then
        L 4 i1 i2 g
      else
        if 0 ≤ ((24 * i2) + 1) ∧ ((24 * i2) + 1) < 960 then
        if 0 ≤ (rA g 60 ((24 * i2) + 1)) ∧ (rA g 60 ((24 * i2) + 1)) < 60 then
        if ir (rA g 80 (rA g 60 ((24 * i2) + 1))) then
        if (rA g 80 (rA g 60 ((24 * i2) + 1))) = 0 then
          L 5 i1 i2 g
        else
          L 4 i1 i2 g
        else none
        else none
        else none
      else none
    else none
    else none
  else
    if 0 ≤ i1 ∧ i1 < 41 then
    L 6 i1 0 (gA g 73 i1 0)
    else none
  else none
  else none
def b_M_findNeeds_50_4 (L : Nat → Int → Int → G2 → Option (G2)) (i1 : Int) (i2 : Int) (g : G2) : Option (G2) :=
  if 0 ≤ i1 ∧ i1 < 41 then
  if 0 ≤ ((40 * i1) + (rA g 70 i1)) ∧ ((40 * i1) + (rA g 70 i1)) < 1640 then
  L 5 i1 i2 (gA (gA g 69 ((40 * i1) + (rA g 70 i1)) i2) 70 i1 ((rA g 70 i1) + 1))
  else none
  else none
def b_M_findNeeds_50_5 (L : Nat → Int → Int → G2 → Option (G2)) (i1 : Int) (i2 : Int) (g : G2) : Option (G2) :=
  L 3 i1 (i2 + 1) g
def b_M_findNeeds_50_6 (L : Nat → Int → Int → G2 → Option (G2)) (i1 : Int) (i2 : Int) (g : G2) : Option (G2) :=
  if ir i2 then
  if ir (rI g 49 23) then
  if i2 < (rI g 49 23) then
    if 0 ≤ i2 ∧ i2 < 40 then
    if 0 ≤ (rA g 65 i2) ∧ (rA g 65 i2) < 60 then
    if ir (rA g 80 (rA g 65 i2)) then
    if (rA g 80 (rA g 65 i2)) = 0 then
      L 7 i1 i2 g
    else
      if 0 ≤ (rA g 66 i2) ∧ (rA g 66 i2) < 60 then
      if ir (rA g 80 (rA g 66 i2)) then
      if (rA g 80 (rA g 66 i2)) = 0 then
        L 7 i1 i2 g
      else
        bd (f_M_isNeeded_50 i1 (rA g 65 i2) (rA g 66 i2) g) fun r41 g41 =>
        if ir r41 then
        if r41 = 0 then
          if 0 ≤ i1 ∧ i1 < 41 then
          if 0 ≤ ((40 * i1) + (rA g41 73 i1)) ∧ ((40 * i1) + (rA g41 73 i1)) < 1640 then
          L 8 i1 i2 (gA (gA (gA g41 71 ((40 * i1) + (rA g41 73 i1)) (rA g41 65 i2)) 72 ((40 * i1) + (rA g41 73 i1)) (rA g41 66 i2)) 73 i1 ((rA g41 73 i1) + 1))
          else none
          else none
        else
          L 8 i1 i2 g41
        else none
      else none
      else none
    else none
    else none
    else none
  else
    some g
  else none
  else none
def b_M_findNeeds_50_7 (L : Nat → Int → Int → G2 → Option (G2)) (i1 : Int) (i2 : Int) (g : G2) : Option (G2) :=
  L 8 i1 i2 g
def b_M_findNeeds_50_8 (L : Nat → Int → Int → G2 → Option (G2)) (i1 : Int) (i2 : Int) (g : G2) : Option (G2) :=
  L 6 i1 (i2 + 1) g
def l_M_findNeeds_50 : Nat → Nat → Int → Int → G2 → Option (G2)
  | 0 => fun _ _ _ _ => none
  | n + 1 => fun t i1 i2 g => match t with
    | 0 => b_M_findNeeds_50_0 (l_M_findNeeds_50 n) i1 i2 g
    | 1 => b_M_findNeeds_50_1 (l_M_findNeeds_50 n) i1 i2 g
    | 2 => b_M_findNeeds_50_2 (l_M_findNeeds_50 n) i1 i2 g
    | 3 => b_M_findNeeds_50_3 (l_M_findNeeds_50 n) i1 i2 g
    | 4 => b_M_findNeeds_50_4 (l_M_findNeeds_50 n) i1 i2 g
    | 5 => b_M_findNeeds_50_5 (l_M_findNeeds_50 n) i1 i2 g
    | 6 => b_M_findNeeds_50_6 (l_M_findNeeds_50 n) i1 i2 g
    | 7 => b_M_findNeeds_50_7 (l_M_findNeeds_50 n) i1 i2 g
    | _ => b_M_findNeeds_50_8 (l_M_findNeeds_50 n) i1 i2 g
set_option maxHeartbeats 4000000 in
set_option maxRecDepth 100000 in
theorem rl_M_findNeeds_50 (d : Nat) : ∀ (n : Nat) (i1 : Int) (i2 : Int) (g : G2) (g' : G2), (l_M_findNeeds_50 n 0 i1 i2 g = some g' → Rt (d + 1) m_M_findNeeds 7 [some (vR 50), some (vI i1), some (vI i2), none] [] g none g') ∧ (l_M_findNeeds_50 n 1 i1 i2 g = some g' → Rt (d + 1) m_M_findNeeds 40 [some (vR 50), some (vI i1), some (vI i2), none] [] g none g') ∧ (l_M_findNeeds_50 n 2 i1 i2 g = some g' → Rt (d + 1) m_M_findNeeds 82 [some (vR 50), some (vI i1), some (vI i2), none] [] g none g') ∧ (l_M_findNeeds_50 n 3 i1 i2 g = some g' → Rt (d + 1) m_M_findNeeds 97 [some (vR 50), some (vI i1), some (vI i2), none] [] g none g') ∧ (l_M_findNeeds_50 n 4 i1 i2 g = some g' → Rt (d + 1) m_M_findNeeds 143 [some (vR 50), some (vI i1), some (vI i2), none] [] g none g') ∧ (l_M_findNeeds_50 n 5 i1 i2 g = some g' → Rt (d + 1) m_M_findNeeds 170 [some (vR 50), some (vI i1), some (vI i2), none] [] g none g') ∧ (l_M_findNeeds_50 n 6 i1 i2 g = some g' → Rt (d + 1) m_M_findNeeds 185 [some (vR 50), some (vI i1), some (vI i2), none] [] g none g') ∧ (l_M_findNeeds_50 n 7 i1 i2 g = some g' → Rt (d + 1) m_M_findNeeds 225 [some (vR 50), some (vI i1), some (vI i2), none] [] g none g') ∧ (l_M_findNeeds_50 n 8 i1 i2 g = some g' → Rt (d + 1) m_M_findNeeds 305 [some (vR 50), some (vI i1), some (vI i2), none] [] g none g') := by
  intro n
  induction n with
  | zero => intro i1 i2 g g'; exact ⟨fun hf => (by cases hf), fun hf => (by cases hf), fun hf => (by cases hf), fun hf => (by cases hf), fun hf => (by cases hf), fun hf => (by cases hf), fun hf => (by cases hf), fun hf => (by cases hf), fun hf => (by cases hf)⟩
  | succ n ih =>
    intro i1 i2 g g'
    refine ⟨?_, ?_, ?_, ?_, ?_, ?_, ?_, ?_, ?_⟩
    · intro hf
      replace hf : b_M_findNeeds_50_0 (l_M_findNeeds_50 n) i1 i2 g = some g' := hf
      unfold b_M_findNeeds_50_0 at hf
      have h1 : ir i2 := by
        by_cases q : ir i2
        · exact q
        · rw [if_neg q] at hf; cases hf
      rw [if_pos h1] at hf
      have h2 : ir (rI g 49 8) := by
        by_cases q : ir (rI g 49 8)
        · exact q
        · rw [if_neg q] at hf; cases hf
      rw [if_pos h2] at hf
      by_cases h3 : i2 < (rI g 49 8)
      · rw [if_pos h3] at hf
        refine Rt.path ok_M_findNeeds 4 [0] rfl ⟨⟨⟨h1, h2⟩, h3⟩, trivial⟩ ?_
        have h4 : 0 ≤ i2 ∧ i2 < 60 := by
          by_cases q : 0 ≤ i2 ∧ i2 < 60
          · exact q
          · rw [if_neg q] at hf; cases hf
        rw [if_pos h4] at hf
        refine Rt.path ok_M_findNeeds 7 [] rfl ⟨⟨(ix_60 h4), (show (0 : Int) = 0 ∨ (0 : Int) = 1 by decide)⟩, trivial⟩ ?_
        exact Rt.weak ((ih _ _ _ _).1 hf) ⟨rfl, rfl, rfl, trivial⟩
      · rw [if_neg h3] at hf
        refine Rt.path ok_M_findNeeds 4 [1] rfl ⟨⟨⟨h1, h2⟩, (Int.not_lt.mp h3)⟩, trivial⟩ ?_
        obtain ⟨g5, e5, hf⟩ := Option.bind_eq_some_iff.mp hf
        refine Rt.path ok_M_findNeeds 5 [] rfl trivial ?_
        refine Rt.callV ok_M_findNeeds rfl ml_M_229 [vI _, vI _, vI _] cf_M_mark rfl rfl (c_M_mark_50 d _ _ _ _ _ e5) (Nat.le_of_ble_eq_true rfl) ?_
        refine Rt.path ok_M_findNeeds 2 [] rfl trivial ?_
        exact Rt.weak ((ih _ _ _ _).2.1 hf) ⟨rfl, rfl, rfl, trivial⟩
    · intro hf
      replace hf : b_M_findNeeds_50_1 (l_M_findNeeds_50 n) i1 i2 g = some g' := hf
      unfold b_M_findNeeds_50_1 at hf
      have h6 : ir i2 := by
        by_cases q : ir i2
        · exact q
        · rw [if_neg q] at hf; cases hf
      rw [if_pos h6] at hf
      have h7 : ir (rI g 49 15) := by
        by_cases q : ir (rI g 49 15)
        · exact q
        · rw [if_neg q] at hf; cases hf
      rw [if_pos h7] at hf
      by_cases h8 : i2 < (rI g 49 15)
      · rw [if_pos h8] at hf
        refine Rt.path ok_M_findNeeds 4 [0] rfl ⟨⟨⟨h6, h7⟩, h8⟩, trivial⟩ ?_
        have h9 : 0 ≤ i2 ∧ i2 < 40 := by
          by_cases q : 0 ≤ i2 ∧ i2 < 40
          · exact q
          · rw [if_neg q] at hf; cases hf
        rw [if_pos h9] at hf
        have h10 : ir (rA g 62 i2) := by
          by_cases q : ir (rA g 62 i2)
          · exact q
          · rw [if_neg q] at hf; cases hf
        rw [if_pos h10] at hf
        by_cases h11 : (rA g 62 i2) = 0
        · rw [if_pos h11] at hf
          refine Rt.path ok_M_findNeeds 5 [1] rfl ⟨(ix_40 h9), ⟨h10, h11⟩, trivial⟩ ?_
          exact Rt.weak ((ih _ _ _ _).2.2.1 hf) ⟨rfl, rfl, rfl, trivial⟩
        · rw [if_neg h11] at hf
          refine Rt.path ok_M_findNeeds 5 [0] rfl ⟨(ix_40 h9), ⟨h10, h11⟩, trivial⟩ ?_
          have h12 : ir (rA g 58 i2) := by
            by_cases q : ir (rA g 58 i2)
            · exact q
            · rw [if_neg q] at hf; cases hf
          rw [if_pos h12] at hf
          by_cases h13 : (rA g 58 i2) = 5
          · rw [if_pos h13] at hf
            refine Rt.path ok_M_findNeeds 6 [0] rfl ⟨(ix_40 h9), ⟨⟨h12, (show ir 5 by decide)⟩, h13⟩, trivial⟩ ?_
            obtain ⟨g14, e14, hf⟩ := Option.bind_eq_some_iff.mp hf
            refine Rt.path ok_M_findNeeds 9 [] rfl ⟨(ix_40 h9), trivial⟩ ?_
            refine Rt.callV ok_M_findNeeds rfl ml_M_229 [vI _, vI _, vI _] cf_M_mark rfl rfl (c_M_mark_50 d _ _ _ _ _ e14) (Nat.le_of_ble_eq_true rfl) ?_
            exact Rt.weak ((ih _ _ _ _).2.2.1 hf) ⟨rfl, rfl, rfl, trivial⟩
          · rw [if_neg h13] at hf
            refine Rt.path ok_M_findNeeds 6 [1] rfl ⟨(ix_40 h9), ⟨⟨h12, (show ir 5 by decide)⟩, h13⟩, trivial⟩ ?_
            exact Rt.weak ((ih _ _ _ _).2.2.1 hf) ⟨rfl, rfl, rfl, trivial⟩
      · rw [if_neg h8] at hf
        refine Rt.path ok_M_findNeeds 4 [1] rfl ⟨⟨⟨h6, h7⟩, (Int.not_lt.mp h8)⟩, trivial⟩ ?_
        have h15 : 0 ≤ i1 ∧ i1 < 41 := by
          by_cases q : 0 ≤ i1 ∧ i1 < 41
          · exact q
          · rw [if_neg q] at hf; cases hf
        rw [if_pos h15] at hf
        refine Rt.path ok_M_findNeeds 7 [] rfl ⟨(ix_41 h15), trivial⟩ ?_
        exact Rt.weak ((ih _ _ _ _).2.2.2.1 hf) ⟨rfl, rfl, rfl, trivial⟩
    · intro hf
      replace hf : b_M_findNeeds_50_2 (l_M_findNeeds_50 n) i1 i2 g = some g' := hf
      unfold b_M_findNeeds_50_2 at hf
      refine Rt.path ok_M_findNeeds 2 [] rfl trivial ?_
      exact Rt.weak ((ih _ _ _ _).2.1 hf) ⟨rfl, rfl, rfl, trivial⟩
    · intro hf
      replace hf : b_M_findNeeds_50_3 (l_M_findNeeds_50 n) i1 i2 g = some g' := hf
      unfold b_M_findNeeds_50_3 at hf
      have h16 : ir i2 := by
        by_cases q : ir i2
        · exact q
        · rw [if_neg q] at hf; cases hf
      rw [if_pos h16] at hf
      have h17 : ir (rI g 49 15) := by
        by_cases q : ir (rI g 49 15)
        · exact q
        · rw [if_neg q] at hf; cases hf
      rw [if_pos h17] at hf
      by_cases h18 : i2 < (rI g 49 15)
      · rw [if_pos h18] at hf
        refine Rt.path ok_M_findNeeds 4 [0] rfl ⟨⟨⟨h16, h17⟩, h18⟩, trivial⟩ ?_
        have h19 : 0 ≤ i2 ∧ i2 < 40 := by
          by_cases q : 0 ≤ i2 ∧ i2 < 40
          · exact q
          · rw [if_neg q] at hf; cases hf
        rw [if_pos h19] at hf
        have h20 : ir (rA g 62 i2) := by
          by_cases q : ir (rA g 62 i2)
          · exact q
          · rw [if_neg q] at hf; cases hf
        rw [if_pos h20] at hf
        by_cases h21 : (rA g 62 i2) = 0
        · rw [if_pos h21] at hf
          refine Rt.path ok_M_findNeeds 5 [1] rfl ⟨(ix_40 h19), ⟨h20, h21⟩, trivial⟩ ?_
          exact Rt.weak ((ih _ _ _ _).2.2.2.2.2.1 hf) ⟨rfl, rfl, rfl, trivial⟩
        · rw [if_neg h21] at hf
          refine Rt.path ok_M_findNeeds 5 [0] rfl ⟨(ix_40 h19), ⟨h20, h21⟩, trivial⟩ ?_
          have h22 : ir (rA g 58 i2) := by
            by_cases q : ir (rA g 58 i2)
            · exact q
            · rw [if_neg q] at hf; cases hf
          rw [if_pos h22] at hf
          by_cases h23 : (rA g 58 i2) = 5
          · rw [if_pos h23] at hf
            refine Rt.path ok_M_findNeeds 6 [1] rfl ⟨(ix_40 h19), ⟨⟨h22, (show ir 5 by decide)⟩, h23⟩, trivial⟩ ?_
            exact Rt.weak ((ih _ _ _ _).2.2.2.2.1 hf) ⟨rfl, rfl, rfl, trivial⟩
          · rw [if_neg h23] at hf
            refine Rt.path ok_M_findNeeds 6 [0] rfl ⟨(ix_40 h19), ⟨⟨h22, (show ir 5 by decide)⟩, h23⟩, trivial⟩ ?_
            have h24 : 0 ≤ ((24 * i2) + 1) ∧ ((24 * i2) + 1) < 960 := by
              by_cases q : 0 ≤ ((24 * i2) + 1) ∧ ((24 * i2) + 1) < 960
              · exact q
              · rw [if_neg q] at hf; cases hf
            rw [if_pos h24] at hf
            have h25 : 0 ≤ (rA g 60 ((24 * i2) + 1)) ∧ (rA g 60 ((24 * i2) + 1)) < 60 := by
              by_cases q : 0 ≤ (rA g 60 ((24 * i2) + 1)) ∧ (rA g 60 ((24 * i2) + 1)) < 60
              · exact q
              · rw [if_neg q] at hf; cases hf
            rw [if_pos h25] at hf
            have h26 : ir (rA g 80 (rA g 60 ((24 * i2) + 1))) := by
              by_cases q : ir (rA g 80 (rA g 60 ((24 * i2) + 1)))
              · exact q
              · rw [if_neg q] at hf; cases hf
            rw [if_pos h26] at hf
            by_cases h27 : (rA g 80 (rA g 60 ((24 * i2) + 1))) = 0
            · rw [if_pos h27] at hf
              refine Rt.path ok_M_findNeeds 12 [1] rfl ⟨(ix_960 h24), (ix_60 h25), ⟨h26, h27⟩, trivial⟩ ?_
              exact Rt.weak ((ih _ _ _ _).2.2.2.2.2.1 hf) ⟨rfl, rfl, rfl, trivial⟩
            · rw [if_neg h27] at hf
              refine Rt.path ok_M_findNeeds 12 [0] rfl ⟨(ix_960 h24), (ix_60 h25), ⟨h26, h27⟩, trivial⟩ ?_
              exact Rt.weak ((ih _ _ _ _).2.2.2.2.1 hf) ⟨rfl, rfl, rfl, trivial⟩
      · rw [if_neg h18] at hf
        refine Rt.path ok_M_findNeeds 4 [1] rfl ⟨⟨⟨h16, h17⟩, (Int.not_lt.mp h18)⟩, trivial⟩ ?_
        have h28 : 0 ≤ i1 ∧ i1 < 41 := by
          by_cases q : 0 ≤ i1 ∧ i1 < 41
          · exact q
          · rw [if_neg q] at hf; cases hf
        rw [if_pos h28] at hf
        refine Rt.path ok_M_findNeeds 7 [] rfl ⟨(ix_41 h28), trivial⟩ ?_
        exact Rt.weak ((ih _ _ _ _).2.2.2.2.2.2.1 hf) ⟨rfl, rfl, rfl, trivial⟩
    · intro hf
      replace hf : b_M_findNeeds_50_4 (l_M_findNeeds_50 n) i1 i2 g = some g' := hf
      unfold b_M_findNeeds_50_4 at hf
      have h29 : 0 ≤ i1 ∧ i1 < 41 := by
        by_cases q : 0 ≤ i1 ∧ i1 < 41
        · exact q
        · rw [if_neg q] at hf; cases hf
      rw [if_pos h29] at hf
      have h30 : 0 ≤ ((40 * i1) + (rA g 70 i1)) ∧ ((40 * i1) + (rA g 70 i1)) < 1640 := by
        by_cases q : 0 ≤ ((40 * i1) + (rA g 70 i1)) ∧ ((40 * i1) + (rA g 70 i1)) < 1640
        · exact q
        · rw [if_neg q] at hf; cases hf
      rw [if_pos h30] at hf
      refine Rt.path ok_M_findNeeds 20 [] rfl ⟨(ix_41 h29), (ix_1640 h30), (ix_41 h29), (ix_41 h29), trivial⟩ ?_
      exact Rt.weak ((ih _ _ _ _).2.2.2.2.2.1 hf) ⟨rfl, rfl, rfl, trivial⟩
    · intro hf
      replace hf : b_M_findNeeds_50_5 (l_M_findNeeds_50 n) i1 i2 g = some g' := hf
      unfold b_M_findNeeds_50_5 at hf
      refine Rt.path ok_M_findNeeds 2 [] rfl trivial ?_
      exact Rt.weak ((ih _ _ _ _).2.2.2.1 hf) ⟨rfl, rfl, rfl, trivial⟩
    · intro hf
      replace hf : b_M_findNeeds_50_6 (l_M_findNeeds_50 n) i1 i2 g = some g' := hf
      unfold b_M_findNeeds_50_6 at hf
      have h31 : ir i2 := by
        by_cases q : ir i2
        · exact q
        · rw [if_neg q] at hf; cases hf
      rw [if_pos h31] at hf
      have h32 : ir (rI g 49 23) := by
        by_cases q : ir (rI g 49 23)
        · exact q
        · rw [if_neg q] at hf; cases hf
      rw [if_pos h32] at hf
      by_cases h33 : i2 < (rI g 49 23)
      · rw [if_pos h33] at hf
        refine Rt.path ok_M_findNeeds 4 [0] rfl ⟨⟨⟨h31, h32⟩, h33⟩, trivial⟩ ?_
        have h34 : 0 ≤ i2 ∧ i2 < 40 := by
          by_cases q : 0 ≤ i2 ∧ i2 < 40
          · exact q
          · rw [if_neg q] at hf; cases hf
        rw [if_pos h34] at hf
        have h35 : 0 ≤ (rA g 65 i2) ∧ (rA g 65 i2) < 60 := by
          by_cases q : 0 ≤ (rA g 65 i2) ∧ (rA g 65 i2) < 60
          · exact q
          · rw [if_neg q] at hf; cases hf
        rw [if_pos h35] at hf
        have h36 : ir (rA g 80 (rA g 65 i2)) := by
          by_cases q : ir (rA g 80 (rA g 65 i2))
          · exact q
          · rw [if_neg q] at hf; cases hf
        rw [if_pos h36] at hf
        by_cases h37 : (rA g 80 (rA g 65 i2)) = 0
        · rw [if_pos h37] at hf
          refine Rt.path ok_M_findNeeds 8 [1] rfl ⟨(ix_40 h34), (ix_60 h35), ⟨h36, h37⟩, trivial⟩ ?_
          exact Rt.weak ((ih _ _ _ _).2.2.2.2.2.2.2.1 hf) ⟨rfl, rfl, rfl, trivial⟩
        · rw [if_neg h37] at hf
          refine Rt.path ok_M_findNeeds 8 [0] rfl ⟨(ix_40 h34), (ix_60 h35), ⟨h36, h37⟩, trivial⟩ ?_
          have h38 : 0 ≤ (rA g 66 i2) ∧ (rA g 66 i2) < 60 := by
            by_cases q : 0 ≤ (rA g 66 i2) ∧ (rA g 66 i2) < 60
            · exact q
            · rw [if_neg q] at hf; cases hf
          rw [if_pos h38] at hf
          have h39 : ir (rA g 80 (rA g 66 i2)) := by
            by_cases q : ir (rA g 80 (rA g 66 i2))
            · exact q
            · rw [if_neg q] at hf; cases hf
          rw [if_pos h39] at hf
          by_cases h40 : (rA g 80 (rA g 66 i2)) = 0
          · rw [if_pos h40] at hf
            refine Rt.path ok_M_findNeeds 8 [1] rfl ⟨(ix_40 h34), (ix_60 h38), ⟨h39, h40⟩, trivial⟩ ?_
            exact Rt.weak ((ih _ _ _ _).2.2.2.2.2.2.2.1 hf) ⟨rfl, rfl, rfl, trivial⟩
          · rw [if_neg h40] at hf
            refine Rt.path ok_M_findNeeds 8 [0] rfl ⟨(ix_40 h34), (ix_60 h38), ⟨h39, h40⟩, trivial⟩ ?_
            obtain ⟨r41, g41, e41, hf⟩ := bd_inv hf
            refine Rt.path ok_M_findNeeds 15 [0] rfl ⟨⟨(show ir 1 by decide), (show ¬ (1 : Int) = (0 : Int) by decide)⟩, (ix_40 h34), (ix_40 h34), trivial⟩ ?_
            refine Rt.callV ok_M_findNeeds rfl ml_M_233 [vI _, vI _, vI _] cf_M_isNeeded rfl rfl (c_M_isNeeded_50 d _ _ _ _ _ _ e41) (Nat.le_of_ble_eq_true rfl) ?_
            have h42 : ir r41 := by
              by_cases q : ir r41
              · exact q
              · rw [if_neg q] at hf; cases hf
            rw [if_pos h42] at hf
            by_cases h43 : r41 = 0
            · rw [if_pos h43] at hf
              refine Rt.path ok_M_findNeeds 1 [0] rfl ⟨⟨h42, h43⟩, trivial⟩ ?_
              have h44 : 0 ≤ i1 ∧ i1 < 41 := by
                by_cases q : 0 ≤ i1 ∧ i1 < 41
                · exact q
                · rw [if_neg q] at hf; cases hf
              rw [if_pos h44] at hf
              have h45 : 0 ≤ ((40 * i1) + (rA g41 73 i1)) ∧ ((40 * i1) + (rA g41 73 i1)) < 1640 := by
                by_cases q : 0 ≤ ((40 * i1) + (rA g41 73 i1)) ∧ ((40 * i1) + (rA g41 73 i1)) < 1640
                · exact q
                · rw [if_neg q] at hf; cases hf
              rw [if_pos h45] at hf
              refine Rt.path ok_M_findNeeds 38 [] rfl ⟨(ix_41 h44), (ix_40 h34), (ix_1640 h45), (ix_41 h44), (ix_40 h34), (ix_1640 h45), (ix_41 h44), (ix_41 h44), trivial⟩ ?_
              exact Rt.weak ((ih _ _ _ _).2.2.2.2.2.2.2.2 hf) ⟨rfl, rfl, rfl, trivial⟩
            · rw [if_neg h43] at hf
              refine Rt.path ok_M_findNeeds 1 [1] rfl ⟨⟨h42, h43⟩, trivial⟩ ?_
              exact Rt.weak ((ih _ _ _ _).2.2.2.2.2.2.2.2 hf) ⟨rfl, rfl, rfl, trivial⟩
      · rw [if_neg h33] at hf
        refine Rt.path ok_M_findNeeds 4 [1] rfl ⟨⟨⟨h31, h32⟩, (Int.not_lt.mp h33)⟩, trivial⟩ ?_
        cases hf
        exact Rt.retV ok_M_findNeeds rfl rfl
    · intro hf
      replace hf : b_M_findNeeds_50_7 (l_M_findNeeds_50 n) i1 i2 g = some g' := hf
      unfold b_M_findNeeds_50_7 at hf
      refine Rt.path ok_M_findNeeds 4 [1] rfl ⟨⟨(show ir 0 by decide), (show (0 : Int) = (0 : Int) by decide)⟩, trivial⟩ ?_
      exact Rt.weak ((ih _ _ _ _).2.2.2.2.2.2.2.2 hf) ⟨rfl, rfl, rfl, trivial⟩
    · intro hf
      replace hf : b_M_findNeeds_50_8 (l_M_findNeeds_50 n) i1 i2 g = some g' := hf
      unfold b_M_findNeeds_50_8 at hf
      refine Rt.path ok_M_findNeeds 2 [] rfl trivial ?_
      exact Rt.weak ((ih _ _ _ _).2.2.2.2.2.2.1 hf) ⟨rfl, rfl, rfl, trivial⟩
def f_M_findNeeds_50  (g : G2) : Option (G2) :=
  l_M_findNeeds_50 20000 0 (rI g 49 27) 0 g
set_option maxHeartbeats 4000000 in
set_option maxRecDepth 100000 in
theorem c_M_findNeeds_50 (d : Nat)  (g : G2) (g' : G2) (hf : f_M_findNeeds_50 g = some g') : C2 (d + 1) m_M_findNeeds [vR 50] g none g' := by
  unfold f_M_findNeeds_50 at hf
  refine C2.of rfl rfl rfl (Nat.le_of_ble_eq_true rfl) ?_
  refine Rt.path ok_M_findNeeds 5 [] rfl trivial ?_
  exact Rt.weak ((rl_M_findNeeds_50 d _ _ _ _ _).1 hf) ⟨rfl, rfl, rfl, trivial⟩
def b_M_begin_50_0 (L : Nat → Int → Int → G2 → Option (G2)) (i1 : Int) (i2 : Int) (g : G2) : Option (G2) :=
  if ir i2 then
  if i2 < 40 then
    if 0 ≤ ((40 * i1) + i2) ∧ ((40 * i1) + i2) < 1640 then
    L 0 i1 (i2 + 1) (gA g 76 ((40 * i1) + i2) 0)
    else none
  else
    some (gI (gI (gI g 49 45 0) 49 48 0) 49 51 0)
  else none
def l_M_begin_50 : Nat → Nat → Int → Int → G2 → Option (G2)
  | 0 => fun _ _ _ _ => none
  | n + 1 => fun t i1 i2 g => match t with
    | _ => b_M_begin_50_0 (l_M_begin_50 n) i1 i2 g
set_option maxHeartbeats 4000000 in
set_option maxRecDepth 100000 in
theorem rl_M_begin_50 (d : Nat) : ∀ (n : Nat) (i1 : Int) (i2 : Int) (g : G2) (g' : G2), (l_M_begin_50 n 0 i1 i2 g = some g' → Rt d m_M_begin 23 [some (vR 50), some (vI i1), some (vI i2)] [] g none g') := by
  intro n
  induction n with
  | zero => intro i1 i2 g g'; exact fun hf => by cases hf
  | succ n ih =>
    intro i1 i2 g g'
    intro hf
    replace hf : b_M_begin_50_0 (l_M_begin_50 n) i1 i2 g = some g' := hf
    unfold b_M_begin_50_0 at hf
    have h2 : ir i2 := by
      by_cases q : ir i2
      · exact q
      · rw [if_neg q] at hf; cases hf
    rw [if_pos h2] at hf
    by_cases h3 : i2 < 40
    · rw [if_pos h3] at hf
      refine Rt.path ok_M_begin 3 [0] rfl ⟨⟨⟨h2, (show ir 40 by decide)⟩, h3⟩, trivial⟩ ?_
      have h4 : 0 ≤ ((40 * i1) + i2) ∧ ((40 * i1) + i2) < 1640 := by
        by_cases q : 0 ≤ ((40 * i1) + i2) ∧ ((40 * i1) + i2) < 1640
        · exact q
        · rw [if_neg q] at hf; cases hf
      rw [if_pos h4] at hf
      refine Rt.path ok_M_begin 11 [] rfl ⟨(ix_1640 h4), trivial⟩ ?_
      exact Rt.weak ((ih _ _ _ _) hf) ⟨rfl, rfl, rfl, trivial⟩
    · rw [if_neg h3] at hf
      refine Rt.path ok_M_begin 3 [1] rfl ⟨⟨⟨h2, (show ir 40 by decide)⟩, (Int.not_lt.mp h3)⟩, trivial⟩ ?_
      cases hf
      refine Rt.path ok_M_begin 9 [] rfl ⟨(show (0 : Int) = 0 ∨ (0 : Int) = 1 by decide), trivial⟩ ?_
      exact Rt.retV ok_M_begin rfl rfl
def f_M_begin_50 (a1 : Int) (g : G2) : Option (G2) :=
  if 0 ≤ a1 ∧ a1 < 41 then
  l_M_begin_50 20000 0 a1 0 (gA (gA (gA g 74 a1 0) 75 a1 0) 77 a1 0)
  else none
set_option maxHeartbeats 4000000 in
set_option maxRecDepth 100000 in
theorem c_M_begin_50 (d : Nat) (a1 : Int) (g : G2) (g' : G2) (hf : f_M_begin_50 a1 g = some g') : C2 d m_M_begin [vR 50, vI a1] g none g' := by
  unfold f_M_begin_50 at hf
  refine C2.of rfl rfl rfl (Nat.le_of_ble_eq_true rfl) ?_
  have h1 : 0 ≤ a1 ∧ a1 < 41 := by
    by_cases q : 0 ≤ a1 ∧ a1 < 41
    · exact q
    · rw [if_neg q] at hf; cases hf
  rw [if_pos h1] at hf
  refine Rt.path ok_M_begin 17 [] rfl ⟨(ix_41 h1), (ix_41 h1), ⟨(ix_41 h1), (show (0 : Int) = 0 ∨ (0 : Int) = 1 by decide)⟩, trivial⟩ ?_
  exact Rt.weak ((rl_M_begin_50 d _ _ _ _ _) hf) ⟨rfl, rfl, rfl, trivial⟩
def f_M_isWord_50 (a1 : Int) (g : G2) : Option (Int × G2) :=
  if 0 ≤ (rI g 49 5) ∧ (rI g 49 5) < 801 then
  if ir (rA g 52 (rI g 49 5)) then
  if (rA g 52 (rI g 49 5)) = 1 then
    bd (f_M_letter_50 (rI g 49 5) 0 g) fun r4 g4 =>
    if ir r4 then
    if ir a1 then
    if r4 = a1 then
      some (1, g4)
    else
      some (0, g4)
    else none
    else none
  else
    some (0, g)
  else none
  else none
set_option maxHeartbeats 4000000 in
set_option maxRecDepth 100000 in
theorem c_M_isWord_50 (d : Nat) (a1 : Int) (g : G2) (r : Int) (g' : G2) (hf : f_M_isWord_50 a1 g = some (r, g')) : C2 (d + 1) m_M_isWord [vR 50, vI a1] g (some (vI r)) g' := by
  unfold f_M_isWord_50 at hf
  refine C2.of rfl rfl rfl (Nat.le_of_ble_eq_true rfl) ?_
  have h1 : 0 ≤ (rI g 49 5) ∧ (rI g 49 5) < 801 := by
    by_cases q : 0 ≤ (rI g 49 5) ∧ (rI g 49 5) < 801
    · exact q
    · rw [if_neg q] at hf; cases hf
  rw [if_pos h1] at hf
  have h2 : ir (rA g 52 (rI g 49 5)) := by
    by_cases q : ir (rA g 52 (rI g 49 5))
    · exact q
    · rw [if_neg q] at hf; cases hf
  rw [if_pos h2] at hf
  by_cases h3 : (rA g 52 (rI g 49 5)) = 1
  · rw [if_pos h3] at hf
    refine Rt.path ok_M_isWord 7 [0] rfl ⟨(ix_801 h1), ⟨⟨h2, (show ir 1 by decide)⟩, h3⟩, trivial⟩ ?_
    obtain ⟨r4, g4, e4, hf⟩ := bd_inv hf
    refine Rt.path ok_M_isWord 4 [] rfl trivial ?_
    refine Rt.callV ok_M_isWord rfl ml_M_141 [vI _, vI _] cf_M_letter rfl rfl (c_M_letter_50 d _ _ _ _ _ e4) (Nat.le_of_ble_eq_true rfl) ?_
    have h5 : ir r4 := by
      by_cases q : ir r4
      · exact q
      · rw [if_neg q] at hf; cases hf
    rw [if_pos h5] at hf
    have h6 : ir a1 := by
      by_cases q : ir a1
      · exact q
      · rw [if_neg q] at hf; cases hf
    rw [if_pos h6] at hf
    by_cases h7 : r4 = a1
    · rw [if_pos h7] at hf
      refine Rt.path ok_M_isWord 2 [0] rfl ⟨⟨⟨h5, h6⟩, h7⟩, trivial⟩ ?_
      cases hf
      refine Rt.path ok_M_isWord 2 [] rfl trivial ?_
      exact Rt.retZ ok_M_isWord (show (1 : Int) = 0 ∨ (1 : Int) = 1 by decide) rfl rfl
    · rw [if_neg h7] at hf
      refine Rt.path ok_M_isWord 2 [1] rfl ⟨⟨⟨h5, h6⟩, h7⟩, trivial⟩ ?_
      cases hf
      refine Rt.path ok_M_isWord 1 [] rfl trivial ?_
      exact Rt.retZ ok_M_isWord (show (0 : Int) = 0 ∨ (0 : Int) = 1 by decide) rfl rfl
  · rw [if_neg h3] at hf
    refine Rt.path ok_M_isWord 7 [1] rfl ⟨(ix_801 h1), ⟨⟨h2, (show ir 1 by decide)⟩, h3⟩, trivial⟩ ?_
    cases hf
    refine Rt.path ok_M_isWord 1 [] rfl trivial ?_
    exact Rt.retZ ok_M_isWord (show (0 : Int) = 0 ∨ (0 : Int) = 1 by decide) rfl rfl
def f_M_lookUp_50  (g : G2) : Option (Int × G2) :=
  bd (f_M_findWord_50 g) fun r1 g1 =>
  if ir r1 then
  if r1 < 0 then
    (f_M_fail_50 (-8) (rI g1 49 5) g1).bind fun g4 =>
    some ((-1), g4)
  else
    if 0 ≤ r1 ∧ r1 < 60 then
    if ir (rA g1 57 r1) then
    if (rA g1 57 r1) < 0 then
      (f_M_fail_50 (-8) (rI g1 49 5) g1).bind fun g8 =>
      some ((-1), g8)
    else
      if 0 ≤ (rA g1 57 r1) ∧ (rA g1 57 r1) < 40 then
      if ir (rA g1 64 (rA g1 57 r1)) then
      if (rA g1 64 (rA g1 57 r1)) < 0 then
        if ir (rA g1 62 (rA g1 57 r1)) then
        if (rA g1 62 (rA g1 57 r1)) = 0 then
          (f_M_fail_50 (-8) (rI g1 49 5) g1).bind fun g14 =>
          some ((-1), g14)
        else
          some ((rA g1 57 r1), g1)
        else none
      else
        some ((rA g1 57 r1), g1)
      else none
      else none
    else none
    else none
  else none
set_option maxHeartbeats 4000000 in
set_option maxRecDepth 100000 in
theorem c_M_lookUp_50 (d : Nat)  (g : G2) (r : Int) (g' : G2) (hf : f_M_lookUp_50 g = some (r, g')) : C2 (d + 3) m_M_lookUp [vR 50] g (some (vI r)) g' := by
  unfold f_M_lookUp_50 at hf
  refine C2.of rfl rfl rfl (Nat.le_of_ble_eq_true rfl) ?_
  obtain ⟨r1, g1, e1, hf⟩ := bd_inv hf
  refine Rt.path ok_M_lookUp 1 [] rfl trivial ?_
  refine Rt.callV ok_M_lookUp rfl ml_M_190 [] cf_M_findWord rfl rfl (c_M_findWord_50 d _ _ _ e1) (Nat.le_of_ble_eq_true rfl) ?_
  have h2 : ir r1 := by
    by_cases q : ir r1
    · exact q
    · rw [if_neg q] at hf; cases hf
  rw [if_pos h2] at hf
  by_cases h3 : r1 < 0
  · rw [if_pos h3] at hf
    refine Rt.path ok_M_lookUp 3 [0] rfl ⟨⟨h2, h3⟩, trivial⟩ ?_
    obtain ⟨g4, e4, hf⟩ := Option.bind_eq_some_iff.mp hf
    refine Rt.path ok_M_lookUp 9 [1] rfl ⟨⟨(show ir (-1) by decide), (show (-1 : Int) < (0 : Int) by decide)⟩, trivial⟩ ?_
    refine Rt.callV ok_M_lookUp rfl ml_M_157 [vI _, vI _] cf_M_fail rfl rfl (c_M_fail_50 (d + 2) _ _ _ _ e4) (Nat.le_of_ble_eq_true rfl) ?_
    cases hf
    refine Rt.path ok_M_lookUp 1 [] rfl trivial ?_
    exact Rt.retI ok_M_lookUp rfl rfl
  · rw [if_neg h3] at hf
    refine Rt.path ok_M_lookUp 3 [1] rfl ⟨⟨h2, (Int.not_lt.mp h3)⟩, trivial⟩ ?_
    have h5 : 0 ≤ r1 ∧ r1 < 60 := by
      by_cases q : 0 ≤ r1 ∧ r1 < 60
      · exact q
      · rw [if_neg q] at hf; cases hf
    rw [if_pos h5] at hf
    have h6 : ir (rA g1 57 r1) := by
      by_cases q : ir (rA g1 57 r1)
      · exact q
      · rw [if_neg q] at hf; cases hf
    rw [if_pos h6] at hf
    by_cases h7 : (rA g1 57 r1) < 0
    · rw [if_pos h7] at hf
      refine Rt.path ok_M_lookUp 7 [1] rfl ⟨(ix_60 h5), ⟨h6, h7⟩, trivial⟩ ?_
      obtain ⟨g8, e8, hf⟩ := Option.bind_eq_some_iff.mp hf
      refine Rt.path ok_M_lookUp 4 [] rfl trivial ?_
      refine Rt.callV ok_M_lookUp rfl ml_M_157 [vI _, vI _] cf_M_fail rfl rfl (c_M_fail_50 (d + 2) _ _ _ _ e8) (Nat.le_of_ble_eq_true rfl) ?_
      cases hf
      refine Rt.path ok_M_lookUp 1 [] rfl trivial ?_
      exact Rt.retI ok_M_lookUp rfl rfl
    · rw [if_neg h7] at hf
      refine Rt.path ok_M_lookUp 7 [0] rfl ⟨(ix_60 h5), ⟨h6, (Int.not_lt.mp h7)⟩, trivial⟩ ?_
      have h9 : 0 ≤ (rA g1 57 r1) ∧ (rA g1 57 r1) < 40 := by
        by_cases q : 0 ≤ (rA g1 57 r1) ∧ (rA g1 57 r1) < 40
        · exact q
        · rw [if_neg q] at hf; cases hf
      rw [if_pos h9] at hf
      have h10 : ir (rA g1 64 (rA g1 57 r1)) := by
        by_cases q : ir (rA g1 64 (rA g1 57 r1))
        · exact q
        · rw [if_neg q] at hf; cases hf
      rw [if_pos h10] at hf
      by_cases h11 : (rA g1 64 (rA g1 57 r1)) < 0
      · rw [if_pos h11] at hf
        refine Rt.path ok_M_lookUp 5 [0] rfl ⟨(ix_40 h9), ⟨h10, h11⟩, trivial⟩ ?_
        have h12 : ir (rA g1 62 (rA g1 57 r1)) := by
          by_cases q : ir (rA g1 62 (rA g1 57 r1))
          · exact q
          · rw [if_neg q] at hf; cases hf
        rw [if_pos h12] at hf
        by_cases h13 : (rA g1 62 (rA g1 57 r1)) = 0
        · rw [if_pos h13] at hf
          refine Rt.path ok_M_lookUp 5 [0] rfl ⟨(ix_40 h9), ⟨h12, h13⟩, trivial⟩ ?_
          obtain ⟨g14, e14, hf⟩ := Option.bind_eq_some_iff.mp hf
          refine Rt.path ok_M_lookUp 4 [] rfl trivial ?_
          refine Rt.callV ok_M_lookUp rfl ml_M_157 [vI _, vI _] cf_M_fail rfl rfl (c_M_fail_50 (d + 2) _ _ _ _ e14) (Nat.le_of_ble_eq_true rfl) ?_
          cases hf
          refine Rt.path ok_M_lookUp 1 [] rfl trivial ?_
          exact Rt.retI ok_M_lookUp rfl rfl
        · rw [if_neg h13] at hf
          refine Rt.path ok_M_lookUp 5 [1] rfl ⟨(ix_40 h9), ⟨h12, h13⟩, trivial⟩ ?_
          cases hf
          refine Rt.path ok_M_lookUp 1 [] rfl trivial ?_
          exact Rt.retI ok_M_lookUp rfl rfl
      · rw [if_neg h11] at hf
        refine Rt.path ok_M_lookUp 5 [1] rfl ⟨(ix_40 h9), ⟨h10, (Int.not_lt.mp h11)⟩, trivial⟩ ?_
        cases hf
        refine Rt.path ok_M_lookUp 1 [] rfl trivial ?_
        exact Rt.retI ok_M_lookUp rfl rfl
def f_M_hasRoom_50  (g : G2) : Option (Int × G2) :=
  if ir (rI g 49 45) then
  if (rI g 49 45) = 16 then
    (f_M_fail_50 (-7) (rI g 49 5) g).bind fun g3 =>
    if ir (rI g3 49 45) then
    if (rI g3 49 45) < 16 then
      some (1, g3)
    else
      some (0, g3)
    else none
  else
    if (rI g 49 45) < 16 then
      some (1, g)
    else
      some (0, g)
  else none
set_option maxHeartbeats 4000000 in
set_option maxRecDepth 100000 in
theorem c_M_hasRoom_50 (d : Nat)  (g : G2) (r : Int) (g' : G2) (hf : f_M_hasRoom_50 g = some (r, g')) : C2 (d + 1) m_M_hasRoom [vR 50] g (some (vI r)) g' := by
  unfold f_M_hasRoom_50 at hf
  refine C2.of rfl rfl rfl (Nat.le_of_ble_eq_true rfl) ?_
  have h1 : ir (rI g 49 45) := by
    by_cases q : ir (rI g 49 45)
    · exact q
    · rw [if_neg q] at hf; cases hf
  rw [if_pos h1] at hf
  by_cases h2 : (rI g 49 45) = 16
  · rw [if_pos h2] at hf
    refine Rt.path ok_M_hasRoom 4 [0] rfl ⟨⟨⟨h1, (show ir 16 by decide)⟩, h2⟩, trivial⟩ ?_
    obtain ⟨g3, e3, hf⟩ := Option.bind_eq_some_iff.mp hf
    refine Rt.path ok_M_hasRoom 4 [] rfl trivial ?_
    refine Rt.callV ok_M_hasRoom rfl ml_M_157 [vI _, vI _] cf_M_fail rfl rfl (c_M_fail_50 d _ _ _ _ e3) (Nat.le_of_ble_eq_true rfl) ?_
    have h4 : ir (rI g3 49 45) := by
      by_cases q : ir (rI g3 49 45)
      · exact q
      · rw [if_neg q] at hf; cases hf
    rw [if_pos h4] at hf
    by_cases h5 : (rI g3 49 45) < 16
    · rw [if_pos h5] at hf
      refine Rt.path ok_M_hasRoom 4 [0] rfl ⟨⟨⟨h4, (show ir 16 by decide)⟩, h5⟩, trivial⟩ ?_
      cases hf
      refine Rt.path ok_M_hasRoom 2 [] rfl trivial ?_
      exact Rt.retZ ok_M_hasRoom (show (1 : Int) = 0 ∨ (1 : Int) = 1 by decide) rfl rfl
    · rw [if_neg h5] at hf
      refine Rt.path ok_M_hasRoom 4 [1] rfl ⟨⟨⟨h4, (show ir 16 by decide)⟩, (Int.not_lt.mp h5)⟩, trivial⟩ ?_
      cases hf
      refine Rt.path ok_M_hasRoom 1 [] rfl trivial ?_
      exact Rt.retZ ok_M_hasRoom (show (0 : Int) = 0 ∨ (0 : Int) = 1 by decide) rfl rfl
  · rw [if_neg h2] at hf
    refine Rt.path ok_M_hasRoom 4 [1] rfl ⟨⟨⟨h1, (show ir 16 by decide)⟩, h2⟩, trivial⟩ ?_
    by_cases h6 : (rI g 49 45) < 16
    · rw [if_pos h6] at hf
      refine Rt.path ok_M_hasRoom 4 [0] rfl ⟨⟨⟨h1, (show ir 16 by decide)⟩, h6⟩, trivial⟩ ?_
      cases hf
      refine Rt.path ok_M_hasRoom 2 [] rfl trivial ?_
      exact Rt.retZ ok_M_hasRoom (show (1 : Int) = 0 ∨ (1 : Int) = 1 by decide) rfl rfl
    · rw [if_neg h6] at hf
      refine Rt.path ok_M_hasRoom 4 [1] rfl ⟨⟨⟨h1, (show ir 16 by decide)⟩, (Int.not_lt.mp h6)⟩, trivial⟩ ?_
      cases hf
      refine Rt.path ok_M_hasRoom 1 [] rfl trivial ?_
      exact Rt.retZ ok_M_hasRoom (show (0 : Int) = 0 ∨ (0 : Int) = 1 by decide) rfl rfl
def b_M_pushHypothesis_50_0 (L : Nat → Int → Int → G2 → Option (G2)) (i1 : Int) (i2 : Int) (g : G2) : Option (G2) :=
  if 0 ≤ i1 ∧ i1 < 40 then
  if ir i2 then
  if ir (rA g 61 i1) then
  if i2 < (rA g 61 i1) then
    if 0 ≤ ((24 * i1) + i2) ∧ ((24 * i1) + i2) < 960 then
    if 0 ≤ ((24 * (rI g 49 45)) + i2) ∧ ((24 * (rI g 49 45)) + i2) < 384 then
    L 0 i1 (i2 + 1) (gA g 82 ((24 * (rI g 49 45)) + i2) (rA g 60 ((24 * i1) + i2)))
    else none
    else none
  else
    if 0 ≤ (rI g 49 45) ∧ (rI g 49 45) < 16 then
    some (gI (gA g 83 (rI g 49 45) (rA g 61 i1)) 49 45 ((rI g 49 45) + 1))
    else none
  else none
  else none
  else none
def l_M_pushHypothesis_50 : Nat → Nat → Int → Int → G2 → Option (G2)
  | 0 => fun _ _ _ _ => none
  | n + 1 => fun t i1 i2 g => match t with
    | _ => b_M_pushHypothesis_50_0 (l_M_pushHypothesis_50 n) i1 i2 g
set_option maxHeartbeats 4000000 in
set_option maxRecDepth 100000 in
theorem rl_M_pushHypothesis_50 (d : Nat) : ∀ (n : Nat) (i1 : Int) (i2 : Int) (g : G2) (g' : G2), (l_M_pushHypothesis_50 n 0 i1 i2 g = some g' → Rt (d + 2) m_M_pushHypothesis 9 [some (vR 50), some (vI i1), some (vI i2)] [] g none g') := by
  intro n
  induction n with
  | zero => intro i1 i2 g g'; exact fun hf => by cases hf
  | succ n ih =>
    intro i1 i2 g g'
    intro hf
    replace hf : b_M_pushHypothesis_50_0 (l_M_pushHypothesis_50 n) i1 i2 g = some g' := hf
    unfold b_M_pushHypothesis_50_0 at hf
    have h4 : 0 ≤ i1 ∧ i1 < 40 := by
      by_cases q : 0 ≤ i1 ∧ i1 < 40
      · exact q
      · rw [if_neg q] at hf; cases hf
    rw [if_pos h4] at hf
    have h5 : ir i2 := by
      by_cases q : ir i2
      · exact q
      · rw [if_neg q] at hf; cases hf
    rw [if_pos h5] at hf
    have h6 : ir (rA g 61 i1) := by
      by_cases q : ir (rA g 61 i1)
      · exact q
      · rw [if_neg q] at hf; cases hf
    rw [if_pos h6] at hf
    by_cases h7 : i2 < (rA g 61 i1)
    · rw [if_pos h7] at hf
      refine Rt.path ok_M_pushHypothesis 6 [0] rfl ⟨(ix_40 h4), ⟨⟨h5, h6⟩, h7⟩, trivial⟩ ?_
      have h8 : 0 ≤ ((24 * i1) + i2) ∧ ((24 * i1) + i2) < 960 := by
        by_cases q : 0 ≤ ((24 * i1) + i2) ∧ ((24 * i1) + i2) < 960
        · exact q
        · rw [if_neg q] at hf; cases hf
      rw [if_pos h8] at hf
      have h9 : 0 ≤ ((24 * (rI g 49 45)) + i2) ∧ ((24 * (rI g 49 45)) + i2) < 384 := by
        by_cases q : 0 ≤ ((24 * (rI g 49 45)) + i2) ∧ ((24 * (rI g 49 45)) + i2) < 384
        · exact q
        · rw [if_neg q] at hf; cases hf
      rw [if_pos h9] at hf
      refine Rt.path ok_M_pushHypothesis 19 [] rfl ⟨(ix_960 h8), (ix_384 h9), trivial⟩ ?_
      exact Rt.weak ((ih _ _ _ _) hf) ⟨rfl, rfl, rfl, trivial⟩
    · rw [if_neg h7] at hf
      refine Rt.path ok_M_pushHypothesis 6 [1] rfl ⟨(ix_40 h4), ⟨⟨h5, h6⟩, (Int.not_lt.mp h7)⟩, trivial⟩ ?_
      have h10 : 0 ≤ (rI g 49 45) ∧ (rI g 49 45) < 16 := by
        by_cases q : 0 ≤ (rI g 49 45) ∧ (rI g 49 45) < 16
        · exact q
        · rw [if_neg q] at hf; cases hf
      rw [if_pos h10] at hf
      cases hf
      refine Rt.path ok_M_pushHypothesis 15 [] rfl ⟨(ix_40 h4), (ix_16 h10), trivial⟩ ?_
      exact Rt.retV ok_M_pushHypothesis rfl rfl
def f_M_pushHypothesis_50 (a1 : Int) (g : G2) : Option (G2) :=
  bd (f_M_hasRoom_50 g) fun r1 g1 =>
  if ir r1 then
  if r1 = 0 then
    some g1
  else
    l_M_pushHypothesis_50 20000 0 a1 0 g1
  else none
set_option maxHeartbeats 4000000 in
set_option maxRecDepth 100000 in
theorem c_M_pushHypothesis_50 (d : Nat) (a1 : Int) (g : G2) (g' : G2) (hf : f_M_pushHypothesis_50 a1 g = some g') : C2 (d + 2) m_M_pushHypothesis [vR 50, vI a1] g none g' := by
  unfold f_M_pushHypothesis_50 at hf
  refine C2.of rfl rfl rfl (Nat.le_of_ble_eq_true rfl) ?_
  obtain ⟨r1, g1, e1, hf⟩ := bd_inv hf
  refine Rt.path ok_M_pushHypothesis 1 [] rfl trivial ?_
  refine Rt.callV ok_M_pushHypothesis rfl ml_M_266 [] cf_M_hasRoom rfl rfl (c_M_hasRoom_50 d _ _ _ e1) (Nat.le_of_ble_eq_true rfl) ?_
  have h2 : ir r1 := by
    by_cases q : ir r1
    · exact q
    · rw [if_neg q] at hf; cases hf
  rw [if_pos h2] at hf
  by_cases h3 : r1 = 0
  · rw [if_pos h3] at hf
    refine Rt.path ok_M_pushHypothesis 1 [1] rfl ⟨⟨h2, h3⟩, trivial⟩ ?_
    cases hf
    exact Rt.retV ok_M_pushHypothesis rfl rfl
  · rw [if_neg h3] at hf
    refine Rt.path ok_M_pushHypothesis 1 [0] rfl ⟨⟨h2, h3⟩, trivial⟩ ?_
    refine Rt.path ok_M_pushHypothesis 2 [] rfl trivial ?_
    exact Rt.weak ((rl_M_pushHypothesis_50 d _ _ _ _ _) hf) ⟨rfl, rfl, rfl, trivial⟩
def f_M_tally_50 (a1 : Int) (g : G2) : Option (G2) :=
  if 0 ≤ a1 ∧ a1 < 41 then
  if ir (rI g 49 45) then
  if ir (rA g 75 a1) then
  if (rA g 75 a1) < (rI g 49 45) then
    some (gA (gA g 74 a1 ((rA g 74 a1) + 1)) 75 a1 (rI g 49 45))
  else
    some (gA (gA g 74 a1 ((rA g 74 a1) + 1)) 75 a1 (rA g 75 a1))
  else none
  else none
  else none
set_option maxHeartbeats 4000000 in
set_option maxRecDepth 100000 in
theorem c_M_tally_50 (d : Nat) (a1 : Int) (g : G2) (g' : G2) (hf : f_M_tally_50 a1 g = some g') : C2 d m_M_tally [vR 50, vI a1] g none g' := by
  unfold f_M_tally_50 at hf
  refine C2.of rfl rfl rfl (Nat.le_of_ble_eq_true rfl) ?_
  have h1 : 0 ≤ a1 ∧ a1 < 41 := by
    by_cases q : 0 ≤ a1 ∧ a1 < 41
    · exact q
    · rw [if_neg q] at hf; cases hf
  rw [if_pos h1] at hf
  have h2 : ir (rI g 49 45) := by
    by_cases q : ir (rI g 49 45)
    · exact q
    · rw [if_neg q] at hf; cases hf
  rw [if_pos h2] at hf
  have h3 : ir (rA g 75 a1) := by
    by_cases q : ir (rA g 75 a1)
    · exact q
    · rw [if_neg q] at hf; cases hf
  rw [if_pos h3] at hf
  by_cases h4 : (rA g 75 a1) < (rI g 49 45)
  · rw [if_pos h4] at hf
    refine Rt.path ok_M_tally 18 [0] rfl ⟨(ix_41 h1), (ix_41 h1), (ix_41 h1), ⟨⟨h2, h3⟩, h4⟩, trivial⟩ ?_
    cases hf
    refine Rt.path ok_M_tally 4 [] rfl ⟨(ix_41 h1), trivial⟩ ?_
    exact Rt.retV ok_M_tally rfl rfl
  · rw [if_neg h4] at hf
    refine Rt.path ok_M_tally 18 [1] rfl ⟨(ix_41 h1), (ix_41 h1), (ix_41 h1), ⟨⟨h2, h3⟩, (Int.not_lt.mp h4)⟩, trivial⟩ ?_
    cases hf
    refine Rt.path ok_M_tally 5 [] rfl ⟨(ix_41 h1), (ix_41 h1), trivial⟩ ?_
    exact Rt.retV ok_M_tally rfl rfl
def b_M_replace_50_0 (L : Nat → Int → Int → Int → Int → Int → G2 → Option (Int × G2)) (i1 : Int) (i2 : Int) (i3 : Int) (i5 : Int) (i6 : Int) (g : G2) : Option (Int × G2) :=
  if 0 ≤ i1 ∧ i1 < 40 then
  if ir i3 then
  if ir (rA g 61 i1) then
  if i3 < (rA g 61 i1) then
    if 0 ≤ ((24 * i1) + i3) ∧ ((24 * i1) + i3) < 960 then
    if 0 ≤ (rA g 60 ((24 * i1) + i3)) ∧ (rA g 60 ((24 * i1) + i3)) < 60 then
    if ir (rA g 54 (rA g 60 ((24 * i1) + i3))) then
    if (rA g 54 (rA g 60 ((24 * i1) + i3))) = 2 then
      L 1 i1 i2 i3 (rA g 86 (rA g 60 ((24 * i1) + i3))) 1 g
    else
      if 0 ≤ i2 ∧ i2 < 600 then
      L 0 i1 (i2 + 1) (i3 + 1) 0 0 (gA g 87 i2 (rA g 60 ((24 * i1) + i3)))
      else none
    else none
    else none
    else none
  else
    some (i2, g)
  else none
  else none
  else none
def b_M_replace_50_1 (L : Nat → Int → Int → Int → Int → Int → G2 → Option (Int × G2)) (i1 : Int) (i2 : Int) (i3 : Int) (i5 : Int) (i6 : Int) (g : G2) : Option (Int × G2) :=
  if 0 ≤ i5 ∧ i5 < 16 then
  if ir i6 then
  if ir (rA g 83 i5) then
  if i6 < (rA g 83 i5) then
    if 0 ≤ ((24 * i5) + i6) ∧ ((24 * i5) + i6) < 384 then
    if 0 ≤ i2 ∧ i2 < 600 then
    L 1 i1 (i2 + 1) i3 i5 (i6 + 1) (gA g 87 i2 (rA g 82 ((24 * i5) + i6)))
    else none
    else none
  else
    L 0 i1 i2 (i3 + 1) 0 0 g
  else none
  else none
  else none
def l_M_replace_50 : Nat → Nat → Int → Int → Int → Int → Int → G2 → Option (Int × G2)
  | 0 => fun _ _ _ _ _ _ _ => none
  | n + 1 => fun t i1 i2 i3 i5 i6 g => match t with
    | 0 => b_M_replace_50_0 (l_M_replace_50 n) i1 i2 i3 i5 i6 g
    | _ => b_M_replace_50_1 (l_M_replace_50 n) i1 i2 i3 i5 i6 g
set_option maxHeartbeats 4000000 in
set_option maxRecDepth 100000 in
theorem rl_M_replace_50 (d : Nat) : ∀ (n : Nat) (i1 : Int) (i2 : Int) (i3 : Int) (i5 : Int) (i6 : Int) (g : G2) (r : Int) (g' : G2), (l_M_replace_50 n 0 i1 i2 i3 i5 i6 g = some (r, g') → Rt d m_M_replace 4 [some (vR 50), some (vI i1), some (vI i2), some (vI i3), none, none, none] [] g (some (vI r)) g') ∧ (l_M_replace_50 n 1 i1 i2 i3 i5 i6 g = some (r, g') → Rt d m_M_replace 50 [some (vR 50), some (vI i1), some (vI i2), some (vI i3), none, some (vI i5), some (vI i6)] [] g (some (vI r)) g') := by
  intro n
  induction n with
  | zero => intro i1 i2 i3 i5 i6 g r g'; exact ⟨fun hf => (by cases hf), fun hf => (by cases hf)⟩
  | succ n ih =>
    intro i1 i2 i3 i5 i6 g r g'
    refine ⟨?_, ?_⟩
    · intro hf
      replace hf : b_M_replace_50_0 (l_M_replace_50 n) i1 i2 i3 i5 i6 g = some (r, g') := hf
      unfold b_M_replace_50_0 at hf
      have h1 : 0 ≤ i1 ∧ i1 < 40 := by
        by_cases q : 0 ≤ i1 ∧ i1 < 40
        · exact q
        · rw [if_neg q] at hf; cases hf
      rw [if_pos h1] at hf
      have h2 : ir i3 := by
        by_cases q : ir i3
        · exact q
        · rw [if_neg q] at hf; cases hf
      rw [if_pos h2] at hf
      have h3 : ir (rA g 61 i1) := by
        by_cases q : ir (rA g 61 i1)
        · exact q
        · rw [if_neg q] at hf; cases hf
      rw [if_pos h3] at hf
      by_cases h4 : i3 < (rA g 61 i1)
      · rw [if_pos h4] at hf
        refine Rt.path ok_M_replace 6 [0] rfl ⟨(ix_40 h1), ⟨⟨h2, h3⟩, h4⟩, trivial⟩ ?_
        have h5 : 0 ≤ ((24 * i1) + i3) ∧ ((24 * i1) + i3) < 960 := by
          by_cases q : 0 ≤ ((24 * i1) + i3) ∧ ((24 * i1) + i3) < 960
          · exact q
          · rw [if_neg q] at hf; cases hf
        rw [if_pos h5] at hf
        have h6 : 0 ≤ (rA g 60 ((24 * i1) + i3)) ∧ (rA g 60 ((24 * i1) + i3)) < 60 := by
          by_cases q : 0 ≤ (rA g 60 ((24 * i1) + i3)) ∧ (rA g 60 ((24 * i1) + i3)) < 60
          · exact q
          · rw [if_neg q] at hf; cases hf
        rw [if_pos h6] at hf
        have h7 : ir (rA g 54 (rA g 60 ((24 * i1) + i3))) := by
          by_cases q : ir (rA g 54 (rA g 60 ((24 * i1) + i3)))
          · exact q
          · rw [if_neg q] at hf; cases hf
        rw [if_pos h7] at hf
        by_cases h8 : (rA g 54 (rA g 60 ((24 * i1) + i3))) = 2
        · rw [if_pos h8] at hf
          refine Rt.path ok_M_replace 15 [0] rfl ⟨(ix_960 h5), (ix_60 h6), ⟨⟨h7, (show ir 2 by decide)⟩, h8⟩, trivial⟩ ?_
          refine Rt.path ok_M_replace 7 [] rfl ⟨(ix_60 h6), trivial⟩ ?_
          exact Rt.weak ((ih _ _ _ _ _ _ _ _).2 hf) ⟨rfl, rfl, rfl, rfl, rfl, rfl, trivial⟩
        · rw [if_neg h8] at hf
          refine Rt.path ok_M_replace 15 [1] rfl ⟨(ix_960 h5), (ix_60 h6), ⟨⟨h7, (show ir 2 by decide)⟩, h8⟩, trivial⟩ ?_
          have h9 : 0 ≤ i2 ∧ i2 < 600 := by
            by_cases q : 0 ≤ i2 ∧ i2 < 600
            · exact q
            · rw [if_neg q] at hf; cases hf
          rw [if_pos h9] at hf
          refine Rt.path ok_M_replace 8 [] rfl ⟨(ix_600 h9), trivial⟩ ?_
          exact Rt.weak ((ih _ _ _ _ _ _ _ _).1 hf) ⟨rfl, rfl, rfl, rfl, trivial⟩
      · rw [if_neg h4] at hf
        refine Rt.path ok_M_replace 6 [1] rfl ⟨(ix_40 h1), ⟨⟨h2, h3⟩, (Int.not_lt.mp h4)⟩, trivial⟩ ?_
        cases hf
        refine Rt.path ok_M_replace 1 [] rfl trivial ?_
        exact Rt.retI ok_M_replace rfl rfl
    · intro hf
      replace hf : b_M_replace_50_1 (l_M_replace_50 n) i1 i2 i3 i5 i6 g = some (r, g') := hf
      unfold b_M_replace_50_1 at hf
      have h10 : 0 ≤ i5 ∧ i5 < 16 := by
        by_cases q : 0 ≤ i5 ∧ i5 < 16
        · exact q
        · rw [if_neg q] at hf; cases hf
      rw [if_pos h10] at hf
      have h11 : ir i6 := by
        by_cases q : ir i6
        · exact q
        · rw [if_neg q] at hf; cases hf
      rw [if_pos h11] at hf
      have h12 : ir (rA g 83 i5) := by
        by_cases q : ir (rA g 83 i5)
        · exact q
        · rw [if_neg q] at hf; cases hf
      rw [if_pos h12] at hf
      by_cases h13 : i6 < (rA g 83 i5)
      · rw [if_pos h13] at hf
        refine Rt.path ok_M_replace 6 [0] rfl ⟨(ix_16 h10), ⟨⟨h11, h12⟩, h13⟩, trivial⟩ ?_
        have h14 : 0 ≤ ((24 * i5) + i6) ∧ ((24 * i5) + i6) < 384 := by
          by_cases q : 0 ≤ ((24 * i5) + i6) ∧ ((24 * i5) + i6) < 384
          · exact q
          · rw [if_neg q] at hf; cases hf
        rw [if_pos h14] at hf
        have h15 : 0 ≤ i2 ∧ i2 < 600 := by
          by_cases q : 0 ≤ i2 ∧ i2 < 600
          · exact q
          · rw [if_neg q] at hf; cases hf
        rw [if_pos h15] at hf
        refine Rt.path ok_M_replace 15 [] rfl ⟨(ix_384 h14), (ix_600 h15), trivial⟩ ?_
        exact Rt.weak ((ih _ _ _ _ _ _ _ _).2 hf) ⟨rfl, rfl, rfl, rfl, rfl, rfl, trivial⟩
      · rw [if_neg h13] at hf
        refine Rt.path ok_M_replace 6 [1] rfl ⟨(ix_16 h10), ⟨⟨h11, h12⟩, (Int.not_lt.mp h13)⟩, trivial⟩ ?_
        refine Rt.path ok_M_replace 3 [] rfl trivial ?_
        exact Rt.weak ((ih _ _ _ _ _ _ _ _).1 hf) ⟨rfl, rfl, rfl, rfl, trivial⟩
def f_M_replace_50 (a1 : Int) (g : G2) : Option (Int × G2) :=
  l_M_replace_50 20000 0 a1 0 0 0 0 g
set_option maxHeartbeats 4000000 in
set_option maxRecDepth 100000 in
theorem c_M_replace_50 (d : Nat) (a1 : Int) (g : G2) (r : Int) (g' : G2) (hf : f_M_replace_50 a1 g = some (r, g')) : C2 d m_M_replace [vR 50, vI a1] g (some (vI r)) g' := by
  unfold f_M_replace_50 at hf
  refine C2.of rfl rfl rfl (Nat.le_of_ble_eq_true rfl) ?_
  refine Rt.path ok_M_replace 4 [] rfl trivial ?_
  exact Rt.weak ((rl_M_replace_50 d _ _ _ _ _ _ _ _ _).1 hf) ⟨rfl, rfl, rfl, rfl, trivial⟩
