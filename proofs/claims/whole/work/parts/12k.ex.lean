def b_M_isMade_50_0 (L : Nat → Int → Int → Int → Int → G2 → Option (Int × G2)) (i1 : Int) (i2 : Int) (i3 : Int) (i4 : Int) (g : G2) : Option (Int × G2) :=
  if ir i4 then
  if ir i2 then
  if i4 < i2 then
    if ir i3 then
    if i3 = 0 then
      if i3 = 0 ∨ i3 = 1 then
      some (i3, g)
      else none
    else
      if 0 ≤ ((24 * i1) + i4) ∧ ((24 * i1) + i4) < 384 then
      if 0 ≤ i4 ∧ i4 < 600 then
      if ir (rA g 82 ((24 * i1) + i4)) then
      if ir (rA g 87 i4) then
      if (rA g 82 ((24 * i1) + i4)) = (rA g 87 i4) then
        L 0 i1 i2 1 (i4 + 1) g
      else
        L 0 i1 i2 0 (i4 + 1) g
      else none
      else none
      else none
      else none
    else none
  else
    if i3 = 0 ∨ i3 = 1 then
    some (i3, g)
    else none
  else none
  else none
def l_M_isMade_50 : Nat → Nat → Int → Int → Int → Int → G2 → Option (Int × G2)
  | 0 => fun _ _ _ _ _ _ => none
  | n + 1 => fun t i1 i2 i3 i4 g => match t with
    | _ => b_M_isMade_50_0 (l_M_isMade_50 n) i1 i2 i3 i4 g
set_option maxHeartbeats 4000000 in
set_option maxRecDepth 100000 in
theorem rl_M_isMade_50 (d : Nat) : ∀ (n : Nat) (i1 : Int) (i2 : Int) (i3 : Int) (i4 : Int) (g : G2) (r : Int) (g' : G2), (l_M_isMade_50 n 0 i1 i2 i3 i4 g = some (r, g') → Rt d m_M_isMade 19 [some (vR 50), some (vI i1), some (vI i2), some (vI i3), some (vI i4)] [] g (some (vI r)) g') := by
  intro n
  induction n with
  | zero => intro i1 i2 i3 i4 g r g'; exact fun hf => by cases hf
  | succ n ih =>
    intro i1 i2 i3 i4 g r g'
    intro hf
    replace hf : b_M_isMade_50_0 (l_M_isMade_50 n) i1 i2 i3 i4 g = some (r, g') := hf
    unfold b_M_isMade_50_0 at hf
    have h5 : ir i4 := by
      by_cases q : ir i4
      · exact q
      · rw [if_neg q] at hf; cases hf
    rw [if_pos h5] at hf
    have h6 : ir i2 := by
      by_cases q : ir i2
      · exact q
      · rw [if_neg q] at hf; cases hf
    rw [if_pos h6] at hf
    by_cases h7 : i4 < i2
    · rw [if_pos h7] at hf
      refine Rt.path ok_M_isMade 3 [0] rfl ⟨⟨⟨h5, h6⟩, h7⟩, trivial⟩ ?_
      have h8 : ir i3 := by
        by_cases q : ir i3
        · exact q
        · rw [if_neg q] at hf; cases hf
      rw [if_pos h8] at hf
      by_cases h9 : i3 = 0
      · rw [if_pos h9] at hf
        refine Rt.path ok_M_isMade 2 [1] rfl ⟨⟨h8, h9⟩, trivial⟩ ?_
        have h15 : i3 = 0 ∨ i3 = 1 := by
          by_cases q : i3 = 0 ∨ i3 = 1
          · exact q
          · rw [if_neg q] at hf; cases hf
        rw [if_pos h15] at hf
        cases hf
        refine Rt.path ok_M_isMade 1 [] rfl trivial ?_
        exact Rt.retZ ok_M_isMade (h15) rfl rfl
      · rw [if_neg h9] at hf
        refine Rt.path ok_M_isMade 2 [0] rfl ⟨⟨h8, h9⟩, trivial⟩ ?_
        have h10 : 0 ≤ ((24 * i1) + i4) ∧ ((24 * i1) + i4) < 384 := by
          by_cases q : 0 ≤ ((24 * i1) + i4) ∧ ((24 * i1) + i4) < 384
          · exact q
          · rw [if_neg q] at hf; cases hf
        rw [if_pos h10] at hf
        have h11 : 0 ≤ i4 ∧ i4 < 600 := by
          by_cases q : 0 ≤ i4 ∧ i4 < 600
          · exact q
          · rw [if_neg q] at hf; cases hf
        rw [if_pos h11] at hf
        have h12 : ir (rA g 82 ((24 * i1) + i4)) := by
          by_cases q : ir (rA g 82 ((24 * i1) + i4))
          · exact q
          · rw [if_neg q] at hf; cases hf
        rw [if_pos h12] at hf
        have h13 : ir (rA g 87 i4) := by
          by_cases q : ir (rA g 87 i4)
          · exact q
          · rw [if_neg q] at hf; cases hf
        rw [if_pos h13] at hf
        by_cases h14 : (rA g 82 ((24 * i1) + i4)) = (rA g 87 i4)
        · rw [if_pos h14] at hf
          refine Rt.path ok_M_isMade 13 [0] rfl ⟨(ix_384 h10), (ix_600 h11), ⟨⟨h12, h13⟩, h14⟩, trivial⟩ ?_
          refine Rt.path ok_M_isMade 5 [] rfl trivial ?_
          exact Rt.weak ((ih _ _ _ _ _ _ _) hf) ⟨rfl, rfl, rfl, rfl, rfl, trivial⟩
        · rw [if_neg h14] at hf
          refine Rt.path ok_M_isMade 13 [1] rfl ⟨(ix_384 h10), (ix_600 h11), ⟨⟨h12, h13⟩, h14⟩, trivial⟩ ?_
          refine Rt.path ok_M_isMade 4 [] rfl trivial ?_
          exact Rt.weak ((ih _ _ _ _ _ _ _) hf) ⟨rfl, rfl, rfl, rfl, rfl, trivial⟩
    · rw [if_neg h7] at hf
      refine Rt.path ok_M_isMade 3 [1] rfl ⟨⟨⟨h5, h6⟩, (Int.not_lt.mp h7)⟩, trivial⟩ ?_
      have h16 : i3 = 0 ∨ i3 = 1 := by
        by_cases q : i3 = 0 ∨ i3 = 1
        · exact q
        · rw [if_neg q] at hf; cases hf
      rw [if_pos h16] at hf
      cases hf
      refine Rt.path ok_M_isMade 1 [] rfl trivial ?_
      exact Rt.retZ ok_M_isMade (h16) rfl rfl
def f_M_isMade_50 (a1 : Int) (a2 : Int) (g : G2) : Option (Int × G2) :=
  if 0 ≤ a1 ∧ a1 < 16 then
  if ir (rA g 83 a1) then
  if ir a2 then
  if (rA g 83 a1) = a2 then
    l_M_isMade_50 20000 0 a1 a2 1 0 g
  else
    l_M_isMade_50 20000 0 a1 a2 0 0 g
  else none
  else none
  else none
set_option maxHeartbeats 4000000 in
set_option maxRecDepth 100000 in
theorem c_M_isMade_50 (d : Nat) (a1 : Int) (a2 : Int) (g : G2) (r : Int) (g' : G2) (hf : f_M_isMade_50 a1 a2 g = some (r, g')) : C2 d m_M_isMade [vR 50, vI a1, vI a2] g (some (vI r)) g' := by
  unfold f_M_isMade_50 at hf
  refine C2.of rfl rfl rfl (Nat.le_of_ble_eq_true rfl) ?_
  have h1 : 0 ≤ a1 ∧ a1 < 16 := by
    by_cases q : 0 ≤ a1 ∧ a1 < 16
    · exact q
    · rw [if_neg q] at hf; cases hf
  rw [if_pos h1] at hf
  have h2 : ir (rA g 83 a1) := by
    by_cases q : ir (rA g 83 a1)
    · exact q
    · rw [if_neg q] at hf; cases hf
  rw [if_pos h2] at hf
  have h3 : ir a2 := by
    by_cases q : ir a2
    · exact q
    · rw [if_neg q] at hf; cases hf
  rw [if_pos h3] at hf
  by_cases h4 : (rA g 83 a1) = a2
  · rw [if_pos h4] at hf
    refine Rt.path ok_M_isMade 6 [0] rfl ⟨(ix_16 h1), ⟨⟨h2, h3⟩, h4⟩, trivial⟩ ?_
    refine Rt.path ok_M_isMade 5 [] rfl trivial ?_
    exact Rt.weak ((rl_M_isMade_50 d _ _ _ _ _ _ _ _) hf) ⟨rfl, rfl, rfl, rfl, rfl, trivial⟩
  · rw [if_neg h4] at hf
    refine Rt.path ok_M_isMade 6 [1] rfl ⟨(ix_16 h1), ⟨⟨h2, h3⟩, h4⟩, trivial⟩ ?_
    refine Rt.path ok_M_isMade 4 [] rfl trivial ?_
    exact Rt.weak ((rl_M_isMade_50 d _ _ _ _ _ _ _ _) hf) ⟨rfl, rfl, rfl, rfl, rfl, trivial⟩
def b_M_areApart_50_0 (L : Nat → Int → Int → Int → G2 → Option (Int × G2)) (i1 : Int) (i2 : Int) (i3 : Int) (g : G2) : Option (Int × G2) :=
  if ir i3 then
  if ir (rI g 49 23) then
  if i3 < (rI g 49 23) then
    if 0 ≤ i3 ∧ i3 < 40 then
    if ir (rA g 65 i3) then
    if ir i1 then
    if (rA g 65 i3) = i1 then
      if ir (rA g 66 i3) then
      if ir i2 then
      if (rA g 66 i3) = i2 then
        some (1, g)
      else
        if (rA g 65 i3) = i2 then
          if (rA g 66 i3) = i1 then
            some (1, g)
          else
            L 0 i1 i2 (i3 + 1) g
        else
          L 0 i1 i2 (i3 + 1) g
      else none
      else none
    else
      if ir i2 then
      if (rA g 65 i3) = i2 then
        if ir (rA g 66 i3) then
        if (rA g 66 i3) = i1 then
          some (1, g)
        else
          L 0 i1 i2 (i3 + 1) g
        else none
      else
        L 0 i1 i2 (i3 + 1) g
      else none
    else none
    else none
    else none
  else
    some (0, g)
  else none
  else none
def l_M_areApart_50 : Nat → Nat → Int → Int → Int → G2 → Option (Int × G2)
  | 0 => fun _ _ _ _ _ => none
  | n + 1 => fun t i1 i2 i3 g => match t with
    | _ => b_M_areApart_50_0 (l_M_areApart_50 n) i1 i2 i3 g
set_option maxHeartbeats 4000000 in
set_option maxRecDepth 100000 in
theorem rl_M_areApart_50 (d : Nat) : ∀ (n : Nat) (i1 : Int) (i2 : Int) (i3 : Int) (g : G2) (r : Int) (g' : G2), (l_M_areApart_50 n 0 i1 i2 i3 g = some (r, g') → Rt d m_M_areApart 2 [some (vR 50), some (vI i1), some (vI i2), some (vI i3)] [] g (some (vI r)) g') := by
  intro n
  induction n with
  | zero => intro i1 i2 i3 g r g'; exact fun hf => by cases hf
  | succ n ih =>
    intro i1 i2 i3 g r g'
    intro hf
    replace hf : b_M_areApart_50_0 (l_M_areApart_50 n) i1 i2 i3 g = some (r, g') := hf
    unfold b_M_areApart_50_0 at hf
    have h1 : ir i3 := by
      by_cases q : ir i3
      · exact q
      · rw [if_neg q] at hf; cases hf
    rw [if_pos h1] at hf
    have h2 : ir (rI g 49 23) := by
      by_cases q : ir (rI g 49 23)
      · exact q
      · rw [if_neg q] at hf; cases hf
    rw [if_pos h2] at hf
    by_cases h3 : i3 < (rI g 49 23)
    · rw [if_pos h3] at hf
      refine Rt.path ok_M_areApart 4 [0] rfl ⟨⟨⟨h1, h2⟩, h3⟩, trivial⟩ ?_
      have h4 : 0 ≤ i3 ∧ i3 < 40 := by
        by_cases q : 0 ≤ i3 ∧ i3 < 40
        · exact q
        · rw [if_neg q] at hf; cases hf
      rw [if_pos h4] at hf
      have h5 : ir (rA g 65 i3) := by
        by_cases q : ir (rA g 65 i3)
        · exact q
        · rw [if_neg q] at hf; cases hf
      rw [if_pos h5] at hf
      have h6 : ir i1 := by
        by_cases q : ir i1
        · exact q
        · rw [if_neg q] at hf; cases hf
      rw [if_pos h6] at hf
      by_cases h7 : (rA g 65 i3) = i1
      · rw [if_pos h7] at hf
        refine Rt.path ok_M_areApart 6 [0] rfl ⟨(ix_40 h4), ⟨⟨h5, h6⟩, h7⟩, trivial⟩ ?_
        have h8 : ir (rA g 66 i3) := by
          by_cases q : ir (rA g 66 i3)
          · exact q
          · rw [if_neg q] at hf; cases hf
        rw [if_pos h8] at hf
        have h9 : ir i2 := by
          by_cases q : ir i2
          · exact q
          · rw [if_neg q] at hf; cases hf
        rw [if_pos h9] at hf
        by_cases h10 : (rA g 66 i3) = i2
        · rw [if_pos h10] at hf
          refine Rt.path ok_M_areApart 6 [1] rfl ⟨(ix_40 h4), ⟨⟨h8, h9⟩, h10⟩, trivial⟩ ?_
          cases hf
          refine Rt.path ok_M_areApart 1 [] rfl trivial ?_
          exact Rt.retZ ok_M_areApart (show (1 : Int) = 0 ∨ (1 : Int) = 1 by decide) rfl rfl
        · rw [if_neg h10] at hf
          refine Rt.path ok_M_areApart 6 [0] rfl ⟨(ix_40 h4), ⟨⟨h8, h9⟩, h10⟩, trivial⟩ ?_
          by_cases h11 : (rA g 65 i3) = i2
          · rw [if_pos h11] at hf
            refine Rt.path ok_M_areApart 6 [0] rfl ⟨(ix_40 h4), ⟨⟨h5, h9⟩, h11⟩, trivial⟩ ?_
            by_cases h12 : (rA g 66 i3) = i1
            · rw [if_pos h12] at hf
              refine Rt.path ok_M_areApart 6 [0] rfl ⟨(ix_40 h4), ⟨⟨h8, h6⟩, h12⟩, trivial⟩ ?_
              cases hf
              refine Rt.path ok_M_areApart 1 [] rfl trivial ?_
              exact Rt.retZ ok_M_areApart (show (1 : Int) = 0 ∨ (1 : Int) = 1 by decide) rfl rfl
            · rw [if_neg h12] at hf
              refine Rt.path ok_M_areApart 6 [1] rfl ⟨(ix_40 h4), ⟨⟨h8, h6⟩, h12⟩, trivial⟩ ?_
              refine Rt.path ok_M_areApart 2 [] rfl trivial ?_
              exact Rt.weak ((ih _ _ _ _ _ _) hf) ⟨rfl, rfl, rfl, rfl, trivial⟩
          · rw [if_neg h11] at hf
            refine Rt.path ok_M_areApart 6 [1] rfl ⟨(ix_40 h4), ⟨⟨h5, h9⟩, h11⟩, trivial⟩ ?_
            refine Rt.path ok_M_areApart 2 [] rfl trivial ?_
            exact Rt.weak ((ih _ _ _ _ _ _) hf) ⟨rfl, rfl, rfl, rfl, trivial⟩
      · rw [if_neg h7] at hf
        refine Rt.path ok_M_areApart 6 [1] rfl ⟨(ix_40 h4), ⟨⟨h5, h6⟩, h7⟩, trivial⟩ ?_
        have h13 : ir i2 := by
          by_cases q : ir i2
          · exact q
          · rw [if_neg q] at hf; cases hf
        rw [if_pos h13] at hf
        by_cases h14 : (rA g 65 i3) = i2
        · rw [if_pos h14] at hf
          refine Rt.path ok_M_areApart 6 [0] rfl ⟨(ix_40 h4), ⟨⟨h5, h13⟩, h14⟩, trivial⟩ ?_
          have h15 : ir (rA g 66 i3) := by
            by_cases q : ir (rA g 66 i3)
            · exact q
            · rw [if_neg q] at hf; cases hf
          rw [if_pos h15] at hf
          by_cases h16 : (rA g 66 i3) = i1
          · rw [if_pos h16] at hf
            refine Rt.path ok_M_areApart 6 [0] rfl ⟨(ix_40 h4), ⟨⟨h15, h6⟩, h16⟩, trivial⟩ ?_
            cases hf
            refine Rt.path ok_M_areApart 1 [] rfl trivial ?_
            exact Rt.retZ ok_M_areApart (show (1 : Int) = 0 ∨ (1 : Int) = 1 by decide) rfl rfl
          · rw [if_neg h16] at hf
            refine Rt.path ok_M_areApart 6 [1] rfl ⟨(ix_40 h4), ⟨⟨h15, h6⟩, h16⟩, trivial⟩ ?_
            refine Rt.path ok_M_areApart 2 [] rfl trivial ?_
            exact Rt.weak ((ih _ _ _ _ _ _) hf) ⟨rfl, rfl, rfl, rfl, trivial⟩
        · rw [if_neg h14] at hf
          refine Rt.path ok_M_areApart 6 [1] rfl ⟨(ix_40 h4), ⟨⟨h5, h13⟩, h14⟩, trivial⟩ ?_
          refine Rt.path ok_M_areApart 2 [] rfl trivial ?_
          exact Rt.weak ((ih _ _ _ _ _ _) hf) ⟨rfl, rfl, rfl, rfl, trivial⟩
    · rw [if_neg h3] at hf
      refine Rt.path ok_M_areApart 4 [1] rfl ⟨⟨⟨h1, h2⟩, (Int.not_lt.mp h3)⟩, trivial⟩ ?_
      cases hf
      refine Rt.path ok_M_areApart 1 [] rfl trivial ?_
      exact Rt.retZ ok_M_areApart (show (0 : Int) = 0 ∨ (0 : Int) = 1 by decide) rfl rfl
def f_M_areApart_50 (a1 : Int) (a2 : Int) (g : G2) : Option (Int × G2) :=
  l_M_areApart_50 20000 0 a1 a2 0 g
set_option maxHeartbeats 4000000 in
set_option maxRecDepth 100000 in
theorem c_M_areApart_50 (d : Nat) (a1 : Int) (a2 : Int) (g : G2) (r : Int) (g' : G2) (hf : f_M_areApart_50 a1 a2 g = some (r, g')) : C2 d m_M_areApart [vR 50, vI a1, vI a2] g (some (vI r)) g' := by
  unfold f_M_areApart_50 at hf
  refine C2.of rfl rfl rfl (Nat.le_of_ble_eq_true rfl) ?_
  refine Rt.path ok_M_areApart 2 [] rfl trivial ?_
  exact Rt.weak ((rl_M_areApart_50 d _ _ _ _ _ _ _) hf) ⟨rfl, rfl, rfl, rfl, trivial⟩
def b_M_allApart_50_0 (L : Nat → Int → Int → Int → Int → G2 → Option (Int × G2)) (i1 : Int) (i2 : Int) (i3 : Int) (i4 : Int) (g : G2) : Option (Int × G2) :=
  if 0 ≤ i1 ∧ i1 < 16 then
  if ir i3 then
  if ir (rA g 83 i1) then
  if i3 < (rA g 83 i1) then
    L 1 i1 i2 i3 1 g
  else
    some (1, g)
  else none
  else none
  else none
def b_M_allApart_50_1 (L : Nat → Int → Int → Int → Int → G2 → Option (Int × G2)) (i1 : Int) (i2 : Int) (i3 : Int) (i4 : Int) (g : G2) : Option (Int × G2) :=
  if 0 ≤ i2 ∧ i2 < 16 then
  if ir i4 then
  if ir (rA g 83 i2) then
  if i4 < (rA g 83 i2) then
    if 0 ≤ ((24 * i1) + i3) ∧ ((24 * i1) + i3) < 384 then
    if 0 ≤ ((24 * i2) + i4) ∧ ((24 * i2) + i4) < 384 then
    if 0 ≤ (rA g 82 ((24 * i1) + i3)) ∧ (rA g 82 ((24 * i1) + i3)) < 60 then
    if ir (rA g 54 (rA g 82 ((24 * i1) + i3))) then
    if (rA g 54 (rA g 82 ((24 * i1) + i3))) = 2 then
      if 0 ≤ (rA g 82 ((24 * i2) + i4)) ∧ (rA g 82 ((24 * i2) + i4)) < 60 then
      if ir (rA g 54 (rA g 82 ((24 * i2) + i4))) then
      if (rA g 54 (rA g 82 ((24 * i2) + i4))) = 2 then
        if ir (rA g 82 ((24 * i1) + i3)) then
        if ir (rA g 82 ((24 * i2) + i4)) then
        if (rA g 82 ((24 * i1) + i3)) = (rA g 82 ((24 * i2) + i4)) then
          L 2 0 0 0 0 g
        else
          bd (f_M_areApart_50 (rA g 82 ((24 * i1) + i3)) (rA g 82 ((24 * i2) + i4)) g) fun r20 g20 =>
          if ir r20 then
          if r20 = 0 then
            L 2 0 0 0 0 g20
          else
            L 3 i1 i2 i3 i4 g20
          else none
        else none
        else none
      else
        L 3 i1 i2 i3 i4 g
      else none
      else none
    else
      L 3 i1 i2 i3 i4 g
    else none
    else none
    else none
    else none
  else
    L 0 i1 i2 (i3 + 1) 0 g
  else none
  else none
  else none
def b_M_allApart_50_2 (L : Nat → Int → Int → Int → Int → G2 → Option (Int × G2)) (i1 : Int) (i2 : Int) (i3 : Int) (i4 : Int) (g : G2) : Option (Int × G2) :=
  some (0, g)
def b_M_allApart_50_3 (L : Nat → Int → Int → Int → Int → G2 → Option (Int × G2)) (i1 : Int) (i2 : Int) (i3 : Int) (i4 : Int) (g : G2) : Option (Int × G2) :=
  L 1 i1 i2 i3 (i4 + 1) g
def l_M_allApart_50 : Nat → Nat → Int → Int → Int → Int → G2 → Option (Int × G2)
  | 0 => fun _ _ _ _ _ _ => none
  | n + 1 => fun t i1 i2 i3 i4 g => match t with
    | 0 => b_M_allApart_50_0 (l_M_allApart_50 n) i1 i2 i3 i4 g
    | 1 => b_M_allApart_50_1 (l_M_allApart_50 n) i1 i2 i3 i4 g
    | 2 => b_M_allApart_50_2 (l_M_allApart_50 n) i1 i2 i3 i4 g
    | _ => b_M_allApart_50_3 (l_M_allApart_50 n) i1 i2 i3 i4 g
set_option maxHeartbeats 4000000 in
set_option maxRecDepth 100000 in
theorem rl_M_allApart_50 (d : Nat) : ∀ (n : Nat) (i1 : Int) (i2 : Int) (i3 : Int) (i4 : Int) (g : G2) (r : Int) (g' : G2), (l_M_allApart_50 n 0 i1 i2 i3 i4 g = some (r, g') → Rt (d + 1) m_M_allApart 2 [some (vR 50), some (vI i1), some (vI i2), some (vI i3), none, none, none] [] g (some (vI r)) g') ∧ (l_M_allApart_50 n 1 i1 i2 i3 i4 g = some (r, g') → Rt (d + 1) m_M_allApart 15 [some (vR 50), some (vI i1), some (vI i2), some (vI i3), some (vI i4), none, none] [] g (some (vI r)) g') ∧ (l_M_allApart_50 n 2 i1 i2 i3 i4 g = some (r, g') → Rt (d + 1) m_M_allApart 93 [none, none, none, none, none, none, none] [] g (some (vI r)) g') ∧ (l_M_allApart_50 n 3 i1 i2 i3 i4 g = some (r, g') → Rt (d + 1) m_M_allApart 95 [some (vR 50), some (vI i1), some (vI i2), some (vI i3), some (vI i4), none, none] [] g (some (vI r)) g') := by
  intro n
  induction n with
  | zero => intro i1 i2 i3 i4 g r g'; exact ⟨fun hf => (by cases hf), fun hf => (by cases hf), fun hf => (by cases hf), fun hf => (by cases hf)⟩
  | succ n ih =>
    intro i1 i2 i3 i4 g r g'
    refine ⟨?_, ?_, ?_, ?_⟩
    · intro hf
      replace hf : b_M_allApart_50_0 (l_M_allApart_50 n) i1 i2 i3 i4 g = some (r, g') := hf
      unfold b_M_allApart_50_0 at hf
      have h1 : 0 ≤ i1 ∧ i1 < 16 := by
        by_cases q : 0 ≤ i1 ∧ i1 < 16
        · exact q
        · rw [if_neg q] at hf; cases hf
      rw [if_pos h1] at hf
      have h2 : ir i3 := by
        by_cases q : ir i3
        · exact q
        · rw [if_neg q] at hf; cases hf
      rw [if_pos h2] at hf
      have h3 : ir (rA g 83 i1) := by
        by_cases q : ir (rA g 83 i1)
        · exact q
        · rw [if_neg q] at hf; cases hf
      rw [if_pos h3] at hf
      by_cases h4 : i3 < (rA g 83 i1)
      · rw [if_pos h4] at hf
        refine Rt.path ok_M_allApart 6 [0] rfl ⟨(ix_16 h1), ⟨⟨h2, h3⟩, h4⟩, trivial⟩ ?_
        refine Rt.path ok_M_allApart 2 [] rfl trivial ?_
        exact Rt.weak ((ih _ _ _ _ _ _ _).2.1 hf) ⟨rfl, rfl, rfl, rfl, rfl, trivial⟩
      · rw [if_neg h4] at hf
        refine Rt.path ok_M_allApart 6 [1] rfl ⟨(ix_16 h1), ⟨⟨h2, h3⟩, (Int.not_lt.mp h4)⟩, trivial⟩ ?_
        cases hf
        refine Rt.path ok_M_allApart 1 [] rfl trivial ?_
        exact Rt.retZ ok_M_allApart (show (1 : Int) = 0 ∨ (1 : Int) = 1 by decide) rfl rfl
    · intro hf
      replace hf : b_M_allApart_50_1 (l_M_allApart_50 n) i1 i2 i3 i4 g = some (r, g') := hf
      unfold b_M_allApart_50_1 at hf
      have h5 : 0 ≤ i2 ∧ i2 < 16 := by
        by_cases q : 0 ≤ i2 ∧ i2 < 16
        · exact q
        · rw [if_neg q] at hf; cases hf
      rw [if_pos h5] at hf
      have h6 : ir i4 := by
        by_cases q : ir i4
        · exact q
        · rw [if_neg q] at hf; cases hf
      rw [if_pos h6] at hf
      have h7 : ir (rA g 83 i2) := by
        by_cases q : ir (rA g 83 i2)
        · exact q
        · rw [if_neg q] at hf; cases hf
      rw [if_pos h7] at hf
      by_cases h8 : i4 < (rA g 83 i2)
      · rw [if_pos h8] at hf
        refine Rt.path ok_M_allApart 6 [0] rfl ⟨(ix_16 h5), ⟨⟨h6, h7⟩, h8⟩, trivial⟩ ?_
        have h9 : 0 ≤ ((24 * i1) + i3) ∧ ((24 * i1) + i3) < 384 := by
          by_cases q : 0 ≤ ((24 * i1) + i3) ∧ ((24 * i1) + i3) < 384
          · exact q
          · rw [if_neg q] at hf; cases hf
        rw [if_pos h9] at hf
        have h10 : 0 ≤ ((24 * i2) + i4) ∧ ((24 * i2) + i4) < 384 := by
          by_cases q : 0 ≤ ((24 * i2) + i4) ∧ ((24 * i2) + i4) < 384
          · exact q
          · rw [if_neg q] at hf; cases hf
        rw [if_pos h10] at hf
        have h11 : 0 ≤ (rA g 82 ((24 * i1) + i3)) ∧ (rA g 82 ((24 * i1) + i3)) < 60 := by
          by_cases q : 0 ≤ (rA g 82 ((24 * i1) + i3)) ∧ (rA g 82 ((24 * i1) + i3)) < 60
          · exact q
          · rw [if_neg q] at hf; cases hf
        rw [if_pos h11] at hf
        have h12 : ir (rA g 54 (rA g 82 ((24 * i1) + i3))) := by
          by_cases q : ir (rA g 54 (rA g 82 ((24 * i1) + i3)))
          · exact q
          · rw [if_neg q] at hf; cases hf
        rw [if_pos h12] at hf
        by_cases h13 : (rA g 54 (rA g 82 ((24 * i1) + i3))) = 2
        · rw [if_pos h13] at hf
          refine Rt.path ok_M_allApart 24 [0] rfl ⟨(ix_384 h9), (ix_384 h10), (ix_60 h11), ⟨⟨h12, (show ir 2 by decide)⟩, h13⟩, trivial⟩ ?_
          have h14 : 0 ≤ (rA g 82 ((24 * i2) + i4)) ∧ (rA g 82 ((24 * i2) + i4)) < 60 := by
            by_cases q : 0 ≤ (rA g 82 ((24 * i2) + i4)) ∧ (rA g 82 ((24 * i2) + i4)) < 60
            · exact q
            · rw [if_neg q] at hf; cases hf
          rw [if_pos h14] at hf
          have h15 : ir (rA g 54 (rA g 82 ((24 * i2) + i4))) := by
            by_cases q : ir (rA g 54 (rA g 82 ((24 * i2) + i4)))
            · exact q
            · rw [if_neg q] at hf; cases hf
          rw [if_pos h15] at hf
          by_cases h16 : (rA g 54 (rA g 82 ((24 * i2) + i4))) = 2
          · rw [if_pos h16] at hf
            refine Rt.path ok_M_allApart 6 [0] rfl ⟨(ix_60 h14), ⟨⟨h15, (show ir 2 by decide)⟩, h16⟩, trivial⟩ ?_
            have h17 : ir (rA g 82 ((24 * i1) + i3)) := by
              by_cases q : ir (rA g 82 ((24 * i1) + i3))
              · exact q
              · rw [if_neg q] at hf; cases hf
            rw [if_pos h17] at hf
            have h18 : ir (rA g 82 ((24 * i2) + i4)) := by
              by_cases q : ir (rA g 82 ((24 * i2) + i4))
              · exact q
              · rw [if_neg q] at hf; cases hf
            rw [if_pos h18] at hf
            by_cases h19 : (rA g 82 ((24 * i1) + i3)) = (rA g 82 ((24 * i2) + i4))
            · rw [if_pos h19] at hf
              refine Rt.path ok_M_allApart 3 [1] rfl ⟨⟨⟨h17, h18⟩, h19⟩, trivial⟩ ?_
              exact Rt.weak ((ih _ _ _ _ _ _ _).2.2.1 hf) trivial
            · rw [if_neg h19] at hf
              refine Rt.path ok_M_allApart 3 [0] rfl ⟨⟨⟨h17, h18⟩, h19⟩, trivial⟩ ?_
              obtain ⟨r20, g20, e20, hf⟩ := bd_inv hf
              refine Rt.path ok_M_allApart 3 [] rfl trivial ?_
              refine Rt.callV ok_M_allApart rfl ml_M_269 [vI _, vI _] cf_M_areApart rfl rfl (c_M_areApart_50 d _ _ _ _ _ e20) (Nat.le_of_ble_eq_true rfl) ?_
              have h21 : ir r20 := by
                by_cases q : ir r20
                · exact q
                · rw [if_neg q] at hf; cases hf
              rw [if_pos h21] at hf
              by_cases h22 : r20 = 0
              · rw [if_pos h22] at hf
                refine Rt.path ok_M_allApart 1 [0] rfl ⟨⟨h21, h22⟩, trivial⟩ ?_
                exact Rt.weak ((ih _ _ _ _ _ _ _).2.2.1 hf) trivial
              · rw [if_neg h22] at hf
                refine Rt.path ok_M_allApart 1 [1] rfl ⟨⟨h21, h22⟩, trivial⟩ ?_
                exact Rt.weak ((ih _ _ _ _ _ _ _).2.2.2 hf) ⟨rfl, rfl, rfl, rfl, rfl, trivial⟩
          · rw [if_neg h16] at hf
            refine Rt.path ok_M_allApart 6 [1] rfl ⟨(ix_60 h14), ⟨⟨h15, (show ir 2 by decide)⟩, h16⟩, trivial⟩ ?_
            exact Rt.weak ((ih _ _ _ _ _ _ _).2.2.2 hf) ⟨rfl, rfl, rfl, rfl, rfl, trivial⟩
        · rw [if_neg h13] at hf
          refine Rt.path ok_M_allApart 24 [1] rfl ⟨(ix_384 h9), (ix_384 h10), (ix_60 h11), ⟨⟨h12, (show ir 2 by decide)⟩, h13⟩, trivial⟩ ?_
          exact Rt.weak ((ih _ _ _ _ _ _ _).2.2.2 hf) ⟨rfl, rfl, rfl, rfl, rfl, trivial⟩
      · rw [if_neg h8] at hf
        refine Rt.path ok_M_allApart 6 [1] rfl ⟨(ix_16 h5), ⟨⟨h6, h7⟩, (Int.not_lt.mp h8)⟩, trivial⟩ ?_
        refine Rt.path ok_M_allApart 2 [] rfl trivial ?_
        exact Rt.weak ((ih _ _ _ _ _ _ _).1 hf) ⟨rfl, rfl, rfl, rfl, trivial⟩
    · intro hf
      replace hf : b_M_allApart_50_2 (l_M_allApart_50 n) i1 i2 i3 i4 g = some (r, g') := hf
      unfold b_M_allApart_50_2 at hf
      cases hf
      refine Rt.path ok_M_allApart 1 [] rfl trivial ?_
      exact Rt.retZ ok_M_allApart (show (0 : Int) = 0 ∨ (0 : Int) = 1 by decide) rfl rfl
    · intro hf
      replace hf : b_M_allApart_50_3 (l_M_allApart_50 n) i1 i2 i3 i4 g = some (r, g') := hf
      unfold b_M_allApart_50_3 at hf
      refine Rt.path ok_M_allApart 2 [] rfl trivial ?_
      exact Rt.weak ((ih _ _ _ _ _ _ _).2.1 hf) ⟨rfl, rfl, rfl, rfl, rfl, trivial⟩
def f_M_allApart_50 (a1 : Int) (a2 : Int) (g : G2) : Option (Int × G2) :=
  l_M_allApart_50 20000 0 a1 a2 1 0 g
set_option maxHeartbeats 4000000 in
set_option maxRecDepth 100000 in
theorem c_M_allApart_50 (d : Nat) (a1 : Int) (a2 : Int) (g : G2) (r : Int) (g' : G2) (hf : f_M_allApart_50 a1 a2 g = some (r, g')) : C2 (d + 1) m_M_allApart [vR 50, vI a1, vI a2] g (some (vI r)) g' := by
  unfold f_M_allApart_50 at hf
  refine C2.of rfl rfl rfl (Nat.le_of_ble_eq_true rfl) ?_
  refine Rt.path ok_M_allApart 2 [] rfl trivial ?_
  exact Rt.weak ((rl_M_allApart_50 d _ _ _ _ _ _ _ _).1 hf) ⟨rfl, rfl, rfl, rfl, trivial⟩
def b_M_apply_50_0 (L : Nat → Int → Int → Int → Int → Int → G2 → Option (Int × G2)) (i1 : Int) (i2 : Int) (i3 : Int) (i4 : Int) (i5 : Int) (g : G2) : Option (Int × G2) :=
  if ir i4 then
  if ir i2 then
  if i4 < i2 then
    if 0 ≤ ((40 * i1) + i4) ∧ ((40 * i1) + i4) < 1640 then
    if 0 ≤ (rA g 69 ((40 * i1) + i4)) ∧ (rA g 69 ((40 * i1) + i4)) < 40 then
    if ir (rA g 58 (rA g 69 ((40 * i1) + i4))) then
    if (rA g 58 (rA g 69 ((40 * i1) + i4))) = 4 then
      if 0 ≤ (24 * (i3 + i4)) ∧ (24 * (i3 + i4)) < 384 then
      if 0 ≤ (24 * (rA g 69 ((40 * i1) + i4))) ∧ (24 * (rA g 69 ((40 * i1) + i4))) < 960 then
      if ir (rA g 82 (24 * (i3 + i4))) then
      if ir (rA g 60 (24 * (rA g 69 ((40 * i1) + i4)))) then
      if (rA g 82 (24 * (i3 + i4))) = (rA g 60 (24 * (rA g 69 ((40 * i1) + i4)))) then
        if 0 ≤ ((24 * (rA g 69 ((40 * i1) + i4))) + 1) ∧ ((24 * (rA g 69 ((40 * i1) + i4))) + 1) < 960 then
        if 0 ≤ (rA g 60 ((24 * (rA g 69 ((40 * i1) + i4))) + 1)) ∧ (rA g 60 ((24 * (rA g 69 ((40 * i1) + i4))) + 1)) < 60 then
        L 1 i1 i2 i3 i4 0 (gA g 86 (rA g 60 ((24 * (rA g 69 ((40 * i1) + i4))) + 1)) (i3 + i4))
        else none
        else none
      else
        some ((-10), g)
      else none
      else none
      else none
      else none
    else
      bd (f_M_replace_50 (rA g 69 ((40 * i1) + i4)) g) fun r19 g19 =>
      bd (f_M_isMade_50 (i3 + i4) r19 g19) fun r20 g20 =>
      if ir r20 then
      if r20 = 0 then
        some ((-10), g20)
      else
        L 1 i1 i2 i3 i4 0 g20
      else none
    else none
    else none
    else none
  else
    L 2 i1 0 i3 (40 * i1) 0 g
  else none
  else none
def b_M_apply_50_1 (L : Nat → Int → Int → Int → Int → Int → G2 → Option (Int × G2)) (i1 : Int) (i2 : Int) (i3 : Int) (i4 : Int) (i5 : Int) (g : G2) : Option (Int × G2) :=
  L 0 i1 i2 i3 (i4 + 1) 0 g
def b_M_apply_50_2 (L : Nat → Int → Int → Int → Int → Int → G2 → Option (Int × G2)) (i1 : Int) (i2 : Int) (i3 : Int) (i4 : Int) (i5 : Int) (g : G2) : Option (Int × G2) :=
  if 0 ≤ i1 ∧ i1 < 41 then
  if ir i4 then
  if ir ((40 * i1) + (rA g 73 i1)) then
  if i4 < ((40 * i1) + (rA g 73 i1)) then
    if 0 ≤ i4 ∧ i4 < 1640 then
    if 0 ≤ (rA g 71 i4) ∧ (rA g 71 i4) < 60 then
    if 0 ≤ (rA g 72 i4) ∧ (rA g 72 i4) < 60 then
    bd (f_M_allApart_50 (rA g 86 (rA g 71 i4)) (rA g 86 (rA g 72 i4)) g) fun r30 g30 =>
    if ir r30 then
    if r30 = 0 then
      some ((-11), g30)
    else
      L 2 i1 0 i3 (i4 + 1) 0 g30
    else none
    else none
    else none
    else none
  else
    bd (f_M_replace_50 (rA g 68 i1) g) fun r33 g33 =>
    if ir r33 then
    if 24 < r33 then
      L 3 0 0 0 0 0 g33
    else
      if ir i3 then
      if i3 = 16 then
        L 3 0 0 0 0 0 g33
      else
        L 4 0 0 i3 r33 0 g33
      else none
    else none
  else none
  else none
  else none
def b_M_apply_50_3 (L : Nat → Int → Int → Int → Int → Int → G2 → Option (Int × G2)) (i1 : Int) (i2 : Int) (i3 : Int) (i4 : Int) (i5 : Int) (g : G2) : Option (Int × G2) :=
  some ((-7), g)
def b_M_apply_50_4 (L : Nat → Int → Int → Int → Int → Int → G2 → Option (Int × G2)) (i1 : Int) (i2 : Int) (i3 : Int) (i4 : Int) (i5 : Int) (g : G2) : Option (Int × G2) :=
  if ir i5 then
  if ir i4 then
  if i5 < i4 then
    if 0 ≤ i5 ∧ i5 < 600 then
    if 0 ≤ ((24 * i3) + i5) ∧ ((24 * i3) + i5) < 384 then
    L 4 0 0 i3 i4 (i5 + 1) (gA g 82 ((24 * i3) + i5) (rA g 87 i5))
    else none
    else none
  else
    if 0 ≤ i3 ∧ i3 < 16 then
    some (0, (gI (gA g 83 i3 i4) 49 45 (i3 + 1)))
    else none
  else none
  else none
def l_M_apply_50 : Nat → Nat → Int → Int → Int → Int → Int → G2 → Option (Int × G2)
  | 0 => fun _ _ _ _ _ _ _ => none
  | n + 1 => fun t i1 i2 i3 i4 i5 g => match t with
    | 0 => b_M_apply_50_0 (l_M_apply_50 n) i1 i2 i3 i4 i5 g
    | 1 => b_M_apply_50_1 (l_M_apply_50 n) i1 i2 i3 i4 i5 g
    | 2 => b_M_apply_50_2 (l_M_apply_50 n) i1 i2 i3 i4 i5 g
    | 3 => b_M_apply_50_3 (l_M_apply_50 n) i1 i2 i3 i4 i5 g
    | _ => b_M_apply_50_4 (l_M_apply_50 n) i1 i2 i3 i4 i5 g
set_option maxHeartbeats 4000000 in
set_option maxRecDepth 100000 in
theorem rl_M_apply_50 (d : Nat) : ∀ (n : Nat) (i1 : Int) (i2 : Int) (i3 : Int) (i4 : Int) (i5 : Int) (g : G2) (r : Int) (g' : G2), (l_M_apply_50 n 0 i1 i2 i3 i4 i5 g = some (r, g') → Rt (d + 2) m_M_apply 28 [some (vR 50), some (vI i1), some (vI i2), some (vI i3), some (vI i4), none, none] [] g (some (vI r)) g') ∧ (l_M_apply_50 n 1 i1 i2 i3 i4 i5 g = some (r, g') → Rt (d + 2) m_M_apply 135 [some (vR 50), some (vI i1), some (vI i2), some (vI i3), some (vI i4), none, none] [] g (some (vI r)) g') ∧ (l_M_apply_50 n 2 i1 i2 i3 i4 i5 g = some (r, g') → Rt (d + 2) m_M_apply 147 [some (vR 50), some (vI i1), none, some (vI i3), some (vI i4), none, none] [] g (some (vI r)) g') ∧ (l_M_apply_50 n 3 i1 i2 i3 i4 i5 g = some (r, g') → Rt (d + 2) m_M_apply 228 [none, none, none, none, none, none, none] [] g (some (vI r)) g') ∧ (l_M_apply_50 n 4 i1 i2 i3 i4 i5 g = some (r, g') → Rt (d + 2) m_M_apply 234 [some (vR 50), none, none, some (vI i3), some (vI i4), some (vI i5), none] [] g (some (vI r)) g') := by
  intro n
  induction n with
  | zero => intro i1 i2 i3 i4 i5 g r g'; exact ⟨fun hf => (by cases hf), fun hf => (by cases hf), fun hf => (by cases hf), fun hf => (by cases hf), fun hf => (by cases hf)⟩
  | succ n ih =>
    intro i1 i2 i3 i4 i5 g r g'
    refine ⟨?_, ?_, ?_, ?_, ?_⟩
    · intro hf
      replace hf : b_M_apply_50_0 (l_M_apply_50 n) i1 i2 i3 i4 i5 g = some (r, g') := hf
      unfold b_M_apply_50_0 at hf
      have h5 : ir i4 := by
        by_cases q : ir i4
        · exact q
        · rw [if_neg q] at hf; cases hf
      rw [if_pos h5] at hf
      have h6 : ir i2 := by
        by_cases q : ir i2
        · exact q
        · rw [if_neg q] at hf; cases hf
      rw [if_pos h6] at hf
      by_cases h7 : i4 < i2
      · rw [if_pos h7] at hf
        refine Rt.path ok_M_apply 3 [0] rfl ⟨⟨⟨h5, h6⟩, h7⟩, trivial⟩ ?_
        have h8 : 0 ≤ ((40 * i1) + i4) ∧ ((40 * i1) + i4) < 1640 := by
          by_cases q : 0 ≤ ((40 * i1) + i4) ∧ ((40 * i1) + i4) < 1640
          · exact q
          · rw [if_neg q] at hf; cases hf
        rw [if_pos h8] at hf
        have h9 : 0 ≤ (rA g 69 ((40 * i1) + i4)) ∧ (rA g 69 ((40 * i1) + i4)) < 40 := by
          by_cases q : 0 ≤ (rA g 69 ((40 * i1) + i4)) ∧ (rA g 69 ((40 * i1) + i4)) < 40
          · exact q
          · rw [if_neg q] at hf; cases hf
        rw [if_pos h9] at hf
        have h10 : ir (rA g 58 (rA g 69 ((40 * i1) + i4))) := by
          by_cases q : ir (rA g 58 (rA g 69 ((40 * i1) + i4)))
          · exact q
          · rw [if_neg q] at hf; cases hf
        rw [if_pos h10] at hf
        by_cases h11 : (rA g 58 (rA g 69 ((40 * i1) + i4))) = 4
        · rw [if_pos h11] at hf
          refine Rt.path ok_M_apply 15 [0] rfl ⟨(ix_1640 h8), (ix_40 h9), ⟨⟨h10, (show ir 4 by decide)⟩, h11⟩, trivial⟩ ?_
          have h12 : 0 ≤ (24 * (i3 + i4)) ∧ (24 * (i3 + i4)) < 384 := by
            by_cases q : 0 ≤ (24 * (i3 + i4)) ∧ (24 * (i3 + i4)) < 384
            · exact q
            · rw [if_neg q] at hf; cases hf
          rw [if_pos h12] at hf
          have h13 : 0 ≤ (24 * (rA g 69 ((40 * i1) + i4))) ∧ (24 * (rA g 69 ((40 * i1) + i4))) < 960 := by
            by_cases q : 0 ≤ (24 * (rA g 69 ((40 * i1) + i4))) ∧ (24 * (rA g 69 ((40 * i1) + i4))) < 960
            · exact q
            · rw [if_neg q] at hf; cases hf
          rw [if_pos h13] at hf
          have h14 : ir (rA g 82 (24 * (i3 + i4))) := by
            by_cases q : ir (rA g 82 (24 * (i3 + i4)))
            · exact q
            · rw [if_neg q] at hf; cases hf
          rw [if_pos h14] at hf
          have h15 : ir (rA g 60 (24 * (rA g 69 ((40 * i1) + i4)))) := by
            by_cases q : ir (rA g 60 (24 * (rA g 69 ((40 * i1) + i4))))
            · exact q
            · rw [if_neg q] at hf; cases hf
          rw [if_pos h15] at hf
          by_cases h16 : (rA g 82 (24 * (i3 + i4))) = (rA g 60 (24 * (rA g 69 ((40 * i1) + i4))))
          · rw [if_pos h16] at hf
            refine Rt.path ok_M_apply 15 [1] rfl ⟨(ix_384 h12), (ix_960 h13), ⟨⟨h14, h15⟩, h16⟩, trivial⟩ ?_
            have h17 : 0 ≤ ((24 * (rA g 69 ((40 * i1) + i4))) + 1) ∧ ((24 * (rA g 69 ((40 * i1) + i4))) + 1) < 960 := by
              by_cases q : 0 ≤ ((24 * (rA g 69 ((40 * i1) + i4))) + 1) ∧ ((24 * (rA g 69 ((40 * i1) + i4))) + 1) < 960
              · exact q
              · rw [if_neg q] at hf; cases hf
            rw [if_pos h17] at hf
            have h18 : 0 ≤ (rA g 60 ((24 * (rA g 69 ((40 * i1) + i4))) + 1)) ∧ (rA g 60 ((24 * (rA g 69 ((40 * i1) + i4))) + 1)) < 60 := by
              by_cases q : 0 ≤ (rA g 60 ((24 * (rA g 69 ((40 * i1) + i4))) + 1)) ∧ (rA g 60 ((24 * (rA g 69 ((40 * i1) + i4))) + 1)) < 60
              · exact q
              · rw [if_neg q] at hf; cases hf
            rw [if_pos h18] at hf
            refine Rt.path ok_M_apply 15 [] rfl ⟨(ix_960 h17), (ix_60 h18), trivial⟩ ?_
            exact Rt.weak ((ih _ _ _ _ _ _ _ _).2.1 hf) ⟨rfl, rfl, rfl, rfl, rfl, trivial⟩
          · rw [if_neg h16] at hf
            refine Rt.path ok_M_apply 15 [0] rfl ⟨(ix_384 h12), (ix_960 h13), ⟨⟨h14, h15⟩, h16⟩, trivial⟩ ?_
            cases hf
            refine Rt.path ok_M_apply 1 [] rfl trivial ?_
            exact Rt.retI ok_M_apply rfl rfl
        · rw [if_neg h11] at hf
          refine Rt.path ok_M_apply 15 [1] rfl ⟨(ix_1640 h8), (ix_40 h9), ⟨⟨h10, (show ir 4 by decide)⟩, h11⟩, trivial⟩ ?_
          obtain ⟨r19, g19, e19, hf⟩ := bd_inv hf
          refine Rt.path ok_M_apply 2 [] rfl trivial ?_
          refine Rt.callV ok_M_apply rfl ml_M_272 [vI _] cf_M_replace rfl rfl (c_M_replace_50 (d + 1) _ _ _ _ e19) (Nat.le_of_ble_eq_true rfl) ?_
          obtain ⟨r20, g20, e20, hf⟩ := bd_inv hf
          refine Rt.path ok_M_apply 6 [] rfl trivial ?_
          refine Rt.callV ok_M_apply rfl ml_M_275 [vI _, vI _] cf_M_isMade rfl rfl (c_M_isMade_50 (d + 1) _ _ _ _ _ e20) (Nat.le_of_ble_eq_true rfl) ?_
          have h21 : ir r20 := by
            by_cases q : ir r20
            · exact q
            · rw [if_neg q] at hf; cases hf
          rw [if_pos h21] at hf
          by_cases h22 : r20 = 0
          · rw [if_pos h22] at hf
            refine Rt.path ok_M_apply 1 [0] rfl ⟨⟨h21, h22⟩, trivial⟩ ?_
            cases hf
            refine Rt.path ok_M_apply 1 [] rfl trivial ?_
            exact Rt.retI ok_M_apply rfl rfl
          · rw [if_neg h22] at hf
            refine Rt.path ok_M_apply 1 [1] rfl ⟨⟨h21, h22⟩, trivial⟩ ?_
            exact Rt.weak ((ih _ _ _ _ _ _ _ _).2.1 hf) ⟨rfl, rfl, rfl, rfl, rfl, trivial⟩
      · rw [if_neg h7] at hf
        refine Rt.path ok_M_apply 3 [1] rfl ⟨⟨⟨h5, h6⟩, (Int.not_lt.mp h7)⟩, trivial⟩ ?_
        refine Rt.path ok_M_apply 4 [] rfl trivial ?_
        exact Rt.weak ((ih _ _ _ _ _ _ _ _).2.2.1 hf) ⟨rfl, rfl, rfl, rfl, trivial⟩
    · intro hf
      replace hf : b_M_apply_50_1 (l_M_apply_50 n) i1 i2 i3 i4 i5 g = some (r, g') := hf
      unfold b_M_apply_50_1 at hf
      refine Rt.path ok_M_apply 2 [] rfl trivial ?_
      exact Rt.weak ((ih _ _ _ _ _ _ _ _).1 hf) ⟨rfl, rfl, rfl, rfl, rfl, trivial⟩
    · intro hf
      replace hf : b_M_apply_50_2 (l_M_apply_50 n) i1 i2 i3 i4 i5 g = some (r, g') := hf
      unfold b_M_apply_50_2 at hf
      have h23 : 0 ≤ i1 ∧ i1 < 41 := by
        by_cases q : 0 ≤ i1 ∧ i1 < 41
        · exact q
        · rw [if_neg q] at hf; cases hf
      rw [if_pos h23] at hf
      have h24 : ir i4 := by
        by_cases q : ir i4
        · exact q
        · rw [if_neg q] at hf; cases hf
      rw [if_pos h24] at hf
      have h25 : ir ((40 * i1) + (rA g 73 i1)) := by
        by_cases q : ir ((40 * i1) + (rA g 73 i1))
        · exact q
        · rw [if_neg q] at hf; cases hf
      rw [if_pos h25] at hf
      by_cases h26 : i4 < ((40 * i1) + (rA g 73 i1))
      · rw [if_pos h26] at hf
        refine Rt.path ok_M_apply 10 [0] rfl ⟨(ix_41 h23), ⟨⟨h24, h25⟩, h26⟩, trivial⟩ ?_
        have h27 : 0 ≤ i4 ∧ i4 < 1640 := by
          by_cases q : 0 ≤ i4 ∧ i4 < 1640
          · exact q
          · rw [if_neg q] at hf; cases hf
        rw [if_pos h27] at hf
        have h28 : 0 ≤ (rA g 71 i4) ∧ (rA g 71 i4) < 60 := by
          by_cases q : 0 ≤ (rA g 71 i4) ∧ (rA g 71 i4) < 60
          · exact q
          · rw [if_neg q] at hf; cases hf
        rw [if_pos h28] at hf
        have h29 : 0 ≤ (rA g 72 i4) ∧ (rA g 72 i4) < 60 := by
          by_cases q : 0 ≤ (rA g 72 i4) ∧ (rA g 72 i4) < 60
          · exact q
          · rw [if_neg q] at hf; cases hf
        rw [if_pos h29] at hf
        obtain ⟨r30, g30, e30, hf⟩ := bd_inv hf
        refine Rt.path ok_M_apply 15 [] rfl ⟨(ix_1640 h27), (ix_60 h28), (ix_1640 h27), (ix_60 h29), trivial⟩ ?_
        refine Rt.callV ok_M_apply rfl ml_M_278 [vI _, vI _] cf_M_allApart rfl rfl (c_M_allApart_50 d _ _ _ _ _ e30) (Nat.le_of_ble_eq_true rfl) ?_
        have h31 : ir r30 := by
          by_cases q : ir r30
          · exact q
          · rw [if_neg q] at hf; cases hf
        rw [if_pos h31] at hf
        by_cases h32 : r30 = 0
        · rw [if_pos h32] at hf
          refine Rt.path ok_M_apply 1 [0] rfl ⟨⟨h31, h32⟩, trivial⟩ ?_
          cases hf
          refine Rt.path ok_M_apply 1 [] rfl trivial ?_
          exact Rt.retI ok_M_apply rfl rfl
        · rw [if_neg h32] at hf
          refine Rt.path ok_M_apply 1 [1] rfl ⟨⟨h31, h32⟩, trivial⟩ ?_
          refine Rt.path ok_M_apply 2 [] rfl trivial ?_
          exact Rt.weak ((ih _ _ _ _ _ _ _ _).2.2.1 hf) ⟨rfl, rfl, rfl, rfl, trivial⟩
      · rw [if_neg h26] at hf
        refine Rt.path ok_M_apply 10 [1] rfl ⟨(ix_41 h23), ⟨⟨h24, h25⟩, (Int.not_lt.mp h26)⟩, trivial⟩ ?_
        obtain ⟨r33, g33, e33, hf⟩ := bd_inv hf
        refine Rt.path ok_M_apply 5 [] rfl ⟨(ix_41 h23), trivial⟩ ?_
        refine Rt.callV ok_M_apply rfl ml_M_272 [vI _] cf_M_replace rfl rfl (c_M_replace_50 (d + 1) _ _ _ _ e33) (Nat.le_of_ble_eq_true rfl) ?_
        have h34 : ir r33 := by
          by_cases q : ir r33
          · exact q
          · rw [if_neg q] at hf; cases hf
        rw [if_pos h34] at hf
        by_cases h35 : 24 < r33
        · rw [if_pos h35] at hf
          refine Rt.path ok_M_apply 4 [1] rfl ⟨⟨⟨h34, (show ir 24 by decide)⟩, h35⟩, trivial⟩ ?_
          exact Rt.weak ((ih _ _ _ _ _ _ _ _).2.2.2.1 hf) trivial
        · rw [if_neg h35] at hf
          refine Rt.path ok_M_apply 4 [0] rfl ⟨⟨⟨h34, (show ir 24 by decide)⟩, (Int.not_lt.mp h35)⟩, trivial⟩ ?_
          have h36 : ir i3 := by
            by_cases q : ir i3
            · exact q
            · rw [if_neg q] at hf; cases hf
          rw [if_pos h36] at hf
          by_cases h37 : i3 = 16
          · rw [if_pos h37] at hf
            refine Rt.path ok_M_apply 3 [0] rfl ⟨⟨⟨h36, (show ir 16 by decide)⟩, h37⟩, trivial⟩ ?_
            exact Rt.weak ((ih _ _ _ _ _ _ _ _).2.2.2.1 hf) trivial
          · rw [if_neg h37] at hf
            refine Rt.path ok_M_apply 3 [1] rfl ⟨⟨⟨h36, (show ir 16 by decide)⟩, h37⟩, trivial⟩ ?_
            refine Rt.path ok_M_apply 2 [] rfl trivial ?_
            exact Rt.weak ((ih _ _ _ _ _ _ _ _).2.2.2.2 hf) ⟨rfl, rfl, rfl, rfl, trivial⟩
    · intro hf
      replace hf : b_M_apply_50_3 (l_M_apply_50 n) i1 i2 i3 i4 i5 g = some (r, g') := hf
      unfold b_M_apply_50_3 at hf
      cases hf
      refine Rt.path ok_M_apply 1 [] rfl trivial ?_
      exact Rt.retI ok_M_apply rfl rfl
    · intro hf
      replace hf : b_M_apply_50_4 (l_M_apply_50 n) i1 i2 i3 i4 i5 g = some (r, g') := hf
      unfold b_M_apply_50_4 at hf
      have h38 : ir i5 := by
        by_cases q : ir i5
        · exact q
        · rw [if_neg q] at hf; cases hf
      rw [if_pos h38] at hf
      have h39 : ir i4 := by
        by_cases q : ir i4
        · exact q
        · rw [if_neg q] at hf; cases hf
      rw [if_pos h39] at hf
      by_cases h40 : i5 < i4
      · rw [if_pos h40] at hf
        refine Rt.path ok_M_apply 3 [0] rfl ⟨⟨⟨h38, h39⟩, h40⟩, trivial⟩ ?_
        have h41 : 0 ≤ i5 ∧ i5 < 600 := by
          by_cases q : 0 ≤ i5 ∧ i5 < 600
          · exact q
          · rw [if_neg q] at hf; cases hf
        rw [if_pos h41] at hf
        have h42 : 0 ≤ ((24 * i3) + i5) ∧ ((24 * i3) + i5) < 384 := by
          by_cases q : 0 ≤ ((24 * i3) + i5) ∧ ((24 * i3) + i5) < 384
          · exact q
          · rw [if_neg q] at hf; cases hf
        rw [if_pos h42] at hf
        refine Rt.path ok_M_apply 14 [] rfl ⟨(ix_600 h41), (ix_384 h42), trivial⟩ ?_
        exact Rt.weak ((ih _ _ _ _ _ _ _ _).2.2.2.2 hf) ⟨rfl, rfl, rfl, rfl, trivial⟩
      · rw [if_neg h40] at hf
        refine Rt.path ok_M_apply 3 [1] rfl ⟨⟨⟨h38, h39⟩, (Int.not_lt.mp h40)⟩, trivial⟩ ?_
        have h43 : 0 ≤ i3 ∧ i3 < 16 := by
          by_cases q : 0 ≤ i3 ∧ i3 < 16
          · exact q
          · rw [if_neg q] at hf; cases hf
        rw [if_pos h43] at hf
        cases hf
        refine Rt.path ok_M_apply 11 [] rfl ⟨(ix_16 h43), trivial⟩ ?_
        exact Rt.retI ok_M_apply rfl rfl
def f_M_apply_50 (a1 : Int) (g : G2) : Option (Int × G2) :=
  if 0 ≤ a1 ∧ a1 < 41 then
  if ir (rI g 49 45) then
  if ir (rA g 70 a1) then
  if (rI g 49 45) < (rA g 70 a1) then
    some ((-9), g)
  else
    l_M_apply_50 20000 0 a1 (rA g 70 a1) ((rI g 49 45) - (rA g 70 a1)) 0 0 g
  else none
  else none
  else none
set_option maxHeartbeats 4000000 in
set_option maxRecDepth 100000 in
theorem c_M_apply_50 (d : Nat) (a1 : Int) (g : G2) (r : Int) (g' : G2) (hf : f_M_apply_50 a1 g = some (r, g')) : C2 (d + 2) m_M_apply [vR 50, vI a1] g (some (vI r)) g' := by
  unfold f_M_apply_50 at hf
  refine C2.of rfl rfl rfl (Nat.le_of_ble_eq_true rfl) ?_
  have h1 : 0 ≤ a1 ∧ a1 < 41 := by
    by_cases q : 0 ≤ a1 ∧ a1 < 41
    · exact q
    · rw [if_neg q] at hf; cases hf
  rw [if_pos h1] at hf
  have h2 : ir (rI g 49 45) := by
    by_cases q : ir (rI g 49 45)
    · exact q
    · rw [if_neg q] at hf; cases hf
  rw [if_pos h2] at hf
  have h3 : ir (rA g 70 a1) := by
    by_cases q : ir (rA g 70 a1)
    · exact q
    · rw [if_neg q] at hf; cases hf
  rw [if_pos h3] at hf
  by_cases h4 : (rI g 49 45) < (rA g 70 a1)
  · rw [if_pos h4] at hf
    refine Rt.path ok_M_apply 9 [0] rfl ⟨(ix_41 h1), ⟨⟨h2, h3⟩, h4⟩, trivial⟩ ?_
    cases hf
    refine Rt.path ok_M_apply 1 [] rfl trivial ?_
    exact Rt.retI ok_M_apply rfl rfl
  · rw [if_neg h4] at hf
    refine Rt.path ok_M_apply 9 [1] rfl ⟨(ix_41 h1), ⟨⟨h2, h3⟩, (Int.not_lt.mp h4)⟩, trivial⟩ ?_
    refine Rt.path ok_M_apply 7 [] rfl trivial ?_
    exact Rt.weak ((rl_M_apply_50 d _ _ _ _ _ _ _ _ _).1 hf) ⟨rfl, rfl, rfl, rfl, rfl, trivial⟩
def f_M_step_50 (a1 : Int) (a2 : Int) (g : G2) : Option (G2) :=
  if ir (rI g 49 51) then
  if (rI g 49 51) = 0 then
    if 0 ≤ a2 ∧ a2 < 40 then
    if ir (rA g 64 a2) then
    if (rA g 64 a2) < 0 then
      (f_M_pushHypothesis_50 a2 g).bind fun g6 =>
      (f_M_tally_50 a1 g6).bind fun g7 =>
      some g7
    else
      bd (f_M_apply_50 (rA g 64 a2) g) fun r8 g8 =>
      if ir r8 then
      if r8 = 0 then
        if 0 ≤ ((40 * a1) + (rA g8 64 a2)) ∧ ((40 * a1) + (rA g8 64 a2)) < 1640 then
        (f_M_tally_50 a1 (gA g8 76 ((40 * a1) + (rA g8 64 a2)) ((rA g8 76 ((40 * a1) + (rA g8 64 a2))) + 1))).bind fun g12 =>
        some g12
        else none
      else
        (f_M_fail_50 r8 (rI g8 49 5) g8).bind fun g13 =>
        if 0 ≤ ((40 * a1) + (rA g13 64 a2)) ∧ ((40 * a1) + (rA g13 64 a2)) < 1640 then
        (f_M_tally_50 a1 (gA g13 76 ((40 * a1) + (rA g13 64 a2)) ((rA g13 76 ((40 * a1) + (rA g13 64 a2))) + 1))).bind fun g15 =>
        some g15
        else none
      else none
    else none
    else none
  else
    some g
  else none
set_option maxHeartbeats 4000000 in
set_option maxRecDepth 100000 in
theorem c_M_step_50 (d : Nat) (a1 : Int) (a2 : Int) (g : G2) (g' : G2) (hf : f_M_step_50 a1 a2 g = some g') : C2 (d + 3) m_M_step [vR 50, vI a1, vI a2] g none g' := by
  unfold f_M_step_50 at hf
  refine C2.of rfl rfl rfl (Nat.le_of_ble_eq_true rfl) ?_
  have h1 : ir (rI g 49 51) := by
    by_cases q : ir (rI g 49 51)
    · exact q
    · rw [if_neg q] at hf; cases hf
  rw [if_pos h1] at hf
  by_cases h2 : (rI g 49 51) = 0
  · rw [if_pos h2] at hf
    refine Rt.path ok_M_step 3 [1] rfl ⟨⟨h1, h2⟩, trivial⟩ ?_
    have h3 : 0 ≤ a2 ∧ a2 < 40 := by
      by_cases q : 0 ≤ a2 ∧ a2 < 40
      · exact q
      · rw [if_neg q] at hf; cases hf
    rw [if_pos h3] at hf
    have h4 : ir (rA g 64 a2) := by
      by_cases q : ir (rA g 64 a2)
      · exact q
      · rw [if_neg q] at hf; cases hf
    rw [if_pos h4] at hf
    by_cases h5 : (rA g 64 a2) < 0
    · rw [if_pos h5] at hf
      refine Rt.path ok_M_step 5 [0] rfl ⟨(ix_40 h3), ⟨h4, h5⟩, trivial⟩ ?_
      obtain ⟨g6, e6, hf⟩ := Option.bind_eq_some_iff.mp hf
      refine Rt.path ok_M_step 2 [] rfl trivial ?_
      refine Rt.callV ok_M_step rfl ml_M_281 [vI _] cf_M_pushHypothesis rfl rfl (c_M_pushHypothesis_50 d _ _ _ e6) (Nat.le_of_ble_eq_true rfl) ?_
      obtain ⟨g7, e7, hf⟩ := Option.bind_eq_some_iff.mp hf
      refine Rt.path ok_M_step 3 [] rfl trivial ?_
      refine Rt.callV ok_M_step rfl ml_M_287 [vI _] cf_M_tally rfl rfl (c_M_tally_50 (d + 2) _ _ _ e7) (Nat.le_of_ble_eq_true rfl) ?_
      cases hf
      exact Rt.retV ok_M_step rfl rfl
    · rw [if_neg h5] at hf
      refine Rt.path ok_M_step 5 [1] rfl ⟨(ix_40 h3), ⟨h4, (Int.not_lt.mp h5)⟩, trivial⟩ ?_
      obtain ⟨r8, g8, e8, hf⟩ := bd_inv hf
      refine Rt.path ok_M_step 5 [] rfl ⟨(ix_40 h3), trivial⟩ ?_
      refine Rt.callV ok_M_step rfl ml_M_284 [vI _] cf_M_apply rfl rfl (c_M_apply_50 d _ _ _ _ e8) (Nat.le_of_ble_eq_true rfl) ?_
      have h9 : ir r8 := by
        by_cases q : ir r8
        · exact q
        · rw [if_neg q] at hf; cases hf
      rw [if_pos h9] at hf
      by_cases h10 : r8 = 0
      · rw [if_pos h10] at hf
        refine Rt.path ok_M_step 3 [1] rfl ⟨⟨h9, h10⟩, trivial⟩ ?_
        have h11 : 0 ≤ ((40 * a1) + (rA g8 64 a2)) ∧ ((40 * a1) + (rA g8 64 a2)) < 1640 := by
          by_cases q : 0 ≤ ((40 * a1) + (rA g8 64 a2)) ∧ ((40 * a1) + (rA g8 64 a2)) < 1640
          · exact q
          · rw [if_neg q] at hf; cases hf
        rw [if_pos h11] at hf
        obtain ⟨g12, e12, hf⟩ := Option.bind_eq_some_iff.mp hf
        refine Rt.path ok_M_step 17 [] rfl ⟨(ix_40 h3), (ix_1640 h11), (ix_1640 h11), trivial⟩ ?_
        refine Rt.callV ok_M_step rfl ml_M_287 [vI _] cf_M_tally rfl rfl (c_M_tally_50 (d + 2) _ _ _ e12) (Nat.le_of_ble_eq_true rfl) ?_
        cases hf
        exact Rt.retV ok_M_step rfl rfl
      · rw [if_neg h10] at hf
        refine Rt.path ok_M_step 3 [0] rfl ⟨⟨h9, h10⟩, trivial⟩ ?_
        obtain ⟨g13, e13, hf⟩ := Option.bind_eq_some_iff.mp hf
        refine Rt.path ok_M_step 4 [] rfl trivial ?_
        refine Rt.callV ok_M_step rfl ml_M_157 [vI _, vI _] cf_M_fail rfl rfl (c_M_fail_50 (d + 2) _ _ _ _ e13) (Nat.le_of_ble_eq_true rfl) ?_
        have h14 : 0 ≤ ((40 * a1) + (rA g13 64 a2)) ∧ ((40 * a1) + (rA g13 64 a2)) < 1640 := by
          by_cases q : 0 ≤ ((40 * a1) + (rA g13 64 a2)) ∧ ((40 * a1) + (rA g13 64 a2)) < 1640
          · exact q
          · rw [if_neg q] at hf; cases hf
        rw [if_pos h14] at hf
        obtain ⟨g15, e15, hf⟩ := Option.bind_eq_some_iff.mp hf
        refine Rt.path ok_M_step 17 [] rfl ⟨(ix_40 h3), (ix_1640 h14), (ix_1640 h14), trivial⟩ ?_
        refine Rt.callV ok_M_step rfl ml_M_287 [vI _] cf_M_tally rfl rfl (c_M_tally_50 (d + 2) _ _ _ e15) (Nat.le_of_ble_eq_true rfl) ?_
        cases hf
        exact Rt.retV ok_M_step rfl rfl
  · rw [if_neg h2] at hf
    refine Rt.path ok_M_step 3 [0] rfl ⟨⟨h1, h2⟩, trivial⟩ ?_
    cases hf
    exact Rt.retV ok_M_step rfl rfl
def b_M_readSteps_50_0 (L : Nat → Int → G2 → Option (G2)) (i1 : Int) (g : G2) : Option (G2) :=
  if ir (rI g 49 6) then
  if (rI g 49 6) = 0 then
    bd (f_M_need_50 g) fun r3 g3 =>
    if ir r3 then
    if r3 = 9 then
      some g3
    else
      if r3 = 0 then
        bd (f_M_isWord_50 63 g3) fun r7 g7 =>
        if ir r7 then
        if r7 = 0 then
          bd (f_M_lookUp_50 g7) fun r10 g10 =>
          if ir r10 then
          if r10 < 0 then
            L 0 i1 (gI g10 49 5 ((rI g10 49 5) + 1))
          else
            (f_M_step_50 i1 r10 g10).bind fun g13 =>
            L 0 i1 (gI g13 49 5 ((rI g13 49 5) + 1))
          else none
        else
          L 0 i1 (gI (gI g7 49 51 1) 49 5 ((rI g7 49 5) + 1))
        else none
      else
        (f_M_fail_50 (-3) (rI g3 49 5) g3).bind fun g14 =>
        L 0 i1 g14
    else none
  else
    some g
  else none
def l_M_readSteps_50 : Nat → Nat → Int → G2 → Option (G2)
  | 0 => fun _ _ _ => none
  | n + 1 => fun t i1 g => match t with
    | _ => b_M_readSteps_50_0 (l_M_readSteps_50 n) i1 g
set_option maxHeartbeats 4000000 in
set_option maxRecDepth 100000 in
theorem rl_M_readSteps_50 (d : Nat) : ∀ (n : Nat) (i1 : Int) (g : G2) (g' : G2), (l_M_readSteps_50 n 0 i1 g = some g' → Rt (d + 4) m_M_readSteps 0 [some (vR 50), some (vI i1), none, none] [] g none g') := by
  intro n
  induction n with
  | zero => intro i1 g g'; exact fun hf => by cases hf
  | succ n ih =>
    intro i1 g g'
    intro hf
    replace hf : b_M_readSteps_50_0 (l_M_readSteps_50 n) i1 g = some g' := hf
    unfold b_M_readSteps_50_0 at hf
    have h1 : ir (rI g 49 6) := by
      by_cases q : ir (rI g 49 6)
      · exact q
      · rw [if_neg q] at hf; cases hf
    rw [if_pos h1] at hf
    by_cases h2 : (rI g 49 6) = 0
    · rw [if_pos h2] at hf
      refine Rt.path ok_M_readSteps 3 [0] rfl ⟨⟨h1, h2⟩, trivial⟩ ?_
      obtain ⟨r3, g3, e3, hf⟩ := bd_inv hf
      refine Rt.path ok_M_readSteps 1 [] rfl trivial ?_
      refine Rt.callV ok_M_readSteps rfl ml_M_169 [] cf_M_need rfl rfl (c_M_need_50 d _ _ _ e3) (Nat.le_of_ble_eq_true rfl) ?_
      have h4 : ir r3 := by
        by_cases q : ir r3
        · exact q
        · rw [if_neg q] at hf; cases hf
      rw [if_pos h4] at hf
      by_cases h5 : r3 = 9
      · rw [if_pos h5] at hf
        refine Rt.path ok_M_readSteps 4 [0] rfl ⟨⟨⟨h4, (show ir 9 by decide)⟩, h5⟩, trivial⟩ ?_
        cases hf
        exact Rt.retV ok_M_readSteps rfl rfl
      · rw [if_neg h5] at hf
        refine Rt.path ok_M_readSteps 4 [1] rfl ⟨⟨⟨h4, (show ir 9 by decide)⟩, h5⟩, trivial⟩ ?_
        by_cases h6 : r3 = 0
        · rw [if_pos h6] at hf
          refine Rt.path ok_M_readSteps 2 [1] rfl ⟨⟨h4, h6⟩, trivial⟩ ?_
          obtain ⟨r7, g7, e7, hf⟩ := bd_inv hf
          refine Rt.path ok_M_readSteps 2 [] rfl trivial ?_
          refine Rt.callV ok_M_readSteps rfl ml_M_290 [vI _] cf_M_isWord rfl rfl (c_M_isWord_50 (d + 2) _ _ _ _ e7) (Nat.le_of_ble_eq_true rfl) ?_
          have h8 : ir r7 := by
            by_cases q : ir r7
            · exact q
            · rw [if_neg q] at hf; cases hf
          rw [if_pos h8] at hf
          by_cases h9 : r7 = 0
          · rw [if_pos h9] at hf
            refine Rt.path ok_M_readSteps 1 [1] rfl ⟨⟨h8, h9⟩, trivial⟩ ?_
            obtain ⟨r10, g10, e10, hf⟩ := bd_inv hf
            refine Rt.path ok_M_readSteps 1 [] rfl trivial ?_
            refine Rt.callV ok_M_readSteps rfl ml_M_305 [] cf_M_lookUp rfl rfl (c_M_lookUp_50 d _ _ _ e10) (Nat.le_of_ble_eq_true rfl) ?_
            have h11 : ir r10 := by
              by_cases q : ir r10
              · exact q
              · rw [if_neg q] at hf; cases hf
            rw [if_pos h11] at hf
            by_cases h12 : r10 < 0
            · rw [if_pos h12] at hf
              refine Rt.path ok_M_readSteps 3 [1] rfl ⟨⟨h11, h12⟩, trivial⟩ ?_
              refine Rt.path ok_M_readSteps 7 [] rfl trivial ?_
              exact Rt.weak ((ih _ _ _) hf) ⟨rfl, rfl, trivial⟩
            · rw [if_neg h12] at hf
              refine Rt.path ok_M_readSteps 3 [0] rfl ⟨⟨h11, (Int.not_lt.mp h12)⟩, trivial⟩ ?_
              obtain ⟨g13, e13, hf⟩ := Option.bind_eq_some_iff.mp hf
              refine Rt.path ok_M_readSteps 3 [] rfl trivial ?_
              refine Rt.callV ok_M_readSteps rfl ml_M_308 [vI _, vI _] cf_M_step rfl rfl (c_M_step_50 d _ _ _ _ e13) (Nat.le_of_ble_eq_true rfl) ?_
              refine Rt.path ok_M_readSteps 7 [] rfl trivial ?_
              exact Rt.weak ((ih _ _ _) hf) ⟨rfl, rfl, trivial⟩
          · rw [if_neg h9] at hf
            refine Rt.path ok_M_readSteps 1 [0] rfl ⟨⟨h8, h9⟩, trivial⟩ ?_
            refine Rt.path ok_M_readSteps 11 [] rfl ⟨(show (1 : Int) = 0 ∨ (1 : Int) = 1 by decide), trivial⟩ ?_
            exact Rt.weak ((ih _ _ _) hf) ⟨rfl, rfl, trivial⟩
        · rw [if_neg h6] at hf
          refine Rt.path ok_M_readSteps 2 [0] rfl ⟨⟨h4, h6⟩, trivial⟩ ?_
          obtain ⟨g14, e14, hf⟩ := Option.bind_eq_some_iff.mp hf
          refine Rt.path ok_M_readSteps 4 [] rfl trivial ?_
          refine Rt.callV ok_M_readSteps rfl ml_M_157 [vI _, vI _] cf_M_fail rfl rfl (c_M_fail_50 (d + 3) _ _ _ _ e14) (Nat.le_of_ble_eq_true rfl) ?_
          refine Rt.path ok_M_readSteps 2 [] rfl trivial ?_
          exact Rt.weak ((ih _ _ _) hf) ⟨rfl, rfl, trivial⟩
    · rw [if_neg h2] at hf
      refine Rt.path ok_M_readSteps 3 [1] rfl ⟨⟨h1, h2⟩, trivial⟩ ?_
      cases hf
      exact Rt.retV ok_M_readSteps rfl rfl
def f_M_readSteps_50 (a1 : Int) (g : G2) : Option (G2) :=
  l_M_readSteps_50 20000 0 a1 g
set_option maxHeartbeats 4000000 in
set_option maxRecDepth 100000 in
theorem c_M_readSteps_50 (d : Nat) (a1 : Int) (g : G2) (g' : G2) (hf : f_M_readSteps_50 a1 g = some g') : C2 (d + 4) m_M_readSteps [vR 50, vI a1] g none g' := by
  unfold f_M_readSteps_50 at hf
  refine C2.of rfl rfl rfl (Nat.le_of_ble_eq_true rfl) ?_
  exact Rt.weak ((rl_M_readSteps_50 d _ _ _ _) hf) ⟨rfl, rfl, trivial⟩
