def b_M_finish_50_0 (L : Nat → Int → Int → G2 → Option (G2)) (i1 : Int) (i2 : Int) (g : G2) : Option (G2) :=
  if ir i2 then
  if ir (rI g 49 40) then
  if i2 < (rI g 49 40) then
    if ir i1 then
    if i1 = 0 then
      if i1 = 0 then
        (f_M_fail_50 (-10) (rI g 49 5) g).bind fun g15 =>
        some (gI g15 49 5 ((rI g15 49 5) + 1))
      else
        some (gI g 49 5 ((rI g 49 5) + 1))
    else
      if 0 ≤ i2 ∧ i2 < 384 then
      if 0 ≤ i2 ∧ i2 < 24 then
      if ir (rA g 82 i2) then
      if ir (rA g 79 i2) then
      if (rA g 82 i2) = (rA g 79 i2) then
        L 0 1 (i2 + 1) g
      else
        L 0 0 (i2 + 1) g
      else none
      else none
      else none
      else none
    else none
  else
    if ir i1 then
    if i1 = 0 then
      (f_M_fail_50 (-10) (rI g 49 5) g).bind fun g23 =>
      some (gI g23 49 5 ((rI g23 49 5) + 1))
    else
      some (gI g 49 5 ((rI g 49 5) + 1))
    else none
  else none
  else none
def l_M_finish_50 : Nat → Nat → Int → Int → G2 → Option (G2)
  | 0 => fun _ _ _ _ => none
  | n + 1 => fun t i1 i2 g => match t with
    | _ => b_M_finish_50_0 (l_M_finish_50 n) i1 i2 g
set_option maxHeartbeats 4000000 in
set_option maxRecDepth 100000 in
theorem rl_M_finish_50 (d : Nat) : ∀ (n : Nat) (i1 : Int) (i2 : Int) (g : G2) (g' : G2), (l_M_finish_50 n 0 i1 i2 g = some g' → Rt (d + 1) m_M_finish 47 [some (vR 50), some (vI i1), some (vI i2)] [] g none g') := by
  intro n
  induction n with
  | zero => intro i1 i2 g g'; exact fun hf => by cases hf
  | succ n ih =>
    intro i1 i2 g g'
    intro hf
    replace hf : b_M_finish_50_0 (l_M_finish_50 n) i1 i2 g = some g' := hf
    unfold b_M_finish_50_0 at hf
    have h9 : ir i2 := by
      by_cases q : ir i2
      · exact q
      · rw [if_neg q] at hf; cases hf
    rw [if_pos h9] at hf
    have h10 : ir (rI g 49 40) := by
      by_cases q : ir (rI g 49 40)
      · exact q
      · rw [if_neg q] at hf; cases hf
    rw [if_pos h10] at hf
    by_cases h11 : i2 < (rI g 49 40)
    · rw [if_pos h11] at hf
      refine Rt.path ok_M_finish 4 [0] rfl ⟨⟨⟨h9, h10⟩, h11⟩, trivial⟩ ?_
      have h12 : ir i1 := by
        by_cases q : ir i1
        · exact q
        · rw [if_neg q] at hf; cases hf
      rw [if_pos h12] at hf
      by_cases h13 : i1 = 0
      · rw [if_pos h13] at hf
        refine Rt.path ok_M_finish 2 [1] rfl ⟨⟨h12, h13⟩, trivial⟩ ?_
        by_cases h14 : i1 = 0
        · rw [if_pos h14] at hf
          refine Rt.path ok_M_finish 2 [0] rfl ⟨⟨h12, h14⟩, trivial⟩ ?_
          obtain ⟨g15, e15, hf⟩ := Option.bind_eq_some_iff.mp hf
          refine Rt.path ok_M_finish 4 [] rfl trivial ?_
          refine Rt.callV ok_M_finish rfl ml_M_157 [vI _, vI _] cf_M_fail rfl rfl (c_M_fail_50 d _ _ _ _ e15) (Nat.le_of_ble_eq_true rfl) ?_
          cases hf
          refine Rt.path ok_M_finish 6 [] rfl trivial ?_
          exact Rt.retV ok_M_finish rfl rfl
        · rw [if_neg h14] at hf
          refine Rt.path ok_M_finish 2 [1] rfl ⟨⟨h12, h14⟩, trivial⟩ ?_
          cases hf
          refine Rt.path ok_M_finish 6 [] rfl trivial ?_
          exact Rt.retV ok_M_finish rfl rfl
      · rw [if_neg h13] at hf
        refine Rt.path ok_M_finish 2 [0] rfl ⟨⟨h12, h13⟩, trivial⟩ ?_
        have h16 : 0 ≤ i2 ∧ i2 < 384 := by
          by_cases q : 0 ≤ i2 ∧ i2 < 384
          · exact q
          · rw [if_neg q] at hf; cases hf
        rw [if_pos h16] at hf
        have h17 : 0 ≤ i2 ∧ i2 < 24 := by
          by_cases q : 0 ≤ i2 ∧ i2 < 24
          · exact q
          · rw [if_neg q] at hf; cases hf
        rw [if_pos h17] at hf
        have h18 : ir (rA g 82 i2) := by
          by_cases q : ir (rA g 82 i2)
          · exact q
          · rw [if_neg q] at hf; cases hf
        rw [if_pos h18] at hf
        have h19 : ir (rA g 79 i2) := by
          by_cases q : ir (rA g 79 i2)
          · exact q
          · rw [if_neg q] at hf; cases hf
        rw [if_pos h19] at hf
        by_cases h20 : (rA g 82 i2) = (rA g 79 i2)
        · rw [if_pos h20] at hf
          refine Rt.path ok_M_finish 9 [0] rfl ⟨(ix_384 h16), (ix_24 h17), ⟨⟨h18, h19⟩, h20⟩, trivial⟩ ?_
          refine Rt.path ok_M_finish 5 [] rfl trivial ?_
          exact Rt.weak ((ih _ _ _ _) hf) ⟨rfl, rfl, rfl, trivial⟩
        · rw [if_neg h20] at hf
          refine Rt.path ok_M_finish 9 [1] rfl ⟨(ix_384 h16), (ix_24 h17), ⟨⟨h18, h19⟩, h20⟩, trivial⟩ ?_
          refine Rt.path ok_M_finish 4 [] rfl trivial ?_
          exact Rt.weak ((ih _ _ _ _) hf) ⟨rfl, rfl, rfl, trivial⟩
    · rw [if_neg h11] at hf
      refine Rt.path ok_M_finish 4 [1] rfl ⟨⟨⟨h9, h10⟩, (Int.not_lt.mp h11)⟩, trivial⟩ ?_
      have h21 : ir i1 := by
        by_cases q : ir i1
        · exact q
        · rw [if_neg q] at hf; cases hf
      rw [if_pos h21] at hf
      by_cases h22 : i1 = 0
      · rw [if_pos h22] at hf
        refine Rt.path ok_M_finish 2 [0] rfl ⟨⟨h21, h22⟩, trivial⟩ ?_
        obtain ⟨g23, e23, hf⟩ := Option.bind_eq_some_iff.mp hf
        refine Rt.path ok_M_finish 4 [] rfl trivial ?_
        refine Rt.callV ok_M_finish rfl ml_M_157 [vI _, vI _] cf_M_fail rfl rfl (c_M_fail_50 d _ _ _ _ e23) (Nat.le_of_ble_eq_true rfl) ?_
        cases hf
        refine Rt.path ok_M_finish 6 [] rfl trivial ?_
        exact Rt.retV ok_M_finish rfl rfl
      · rw [if_neg h22] at hf
        refine Rt.path ok_M_finish 2 [1] rfl ⟨⟨h21, h22⟩, trivial⟩ ?_
        cases hf
        refine Rt.path ok_M_finish 6 [] rfl trivial ?_
        exact Rt.retV ok_M_finish rfl rfl
def f_M_finish_50  (g : G2) : Option (G2) :=
  if ir (rI g 49 51) then
  if (rI g 49 51) = 0 then
    if ir (rI g 49 45) then
    if (rI g 49 45) = 1 then
      if ir (rA g 83 0) then
      if ir (rI g 49 40) then
      if (rA g 83 0) = (rI g 49 40) then
        l_M_finish_50 20000 0 1 0 g
      else
        l_M_finish_50 20000 0 0 0 g
      else none
      else none
    else
      (f_M_fail_50 (-9) (rI g 49 5) g).bind fun g8 =>
      some g8
    else none
  else
    some (gI g 49 5 ((rI g 49 5) + 1))
  else none
set_option maxHeartbeats 4000000 in
set_option maxRecDepth 100000 in
theorem c_M_finish_50 (d : Nat)  (g : G2) (g' : G2) (hf : f_M_finish_50 g = some g') : C2 (d + 1) m_M_finish [vR 50] g none g' := by
  unfold f_M_finish_50 at hf
  refine C2.of rfl rfl rfl (Nat.le_of_ble_eq_true rfl) ?_
  have h1 : ir (rI g 49 51) := by
    by_cases q : ir (rI g 49 51)
    · exact q
    · rw [if_neg q] at hf; cases hf
  rw [if_pos h1] at hf
  by_cases h2 : (rI g 49 51) = 0
  · rw [if_pos h2] at hf
    refine Rt.path ok_M_finish 3 [0] rfl ⟨⟨h1, h2⟩, trivial⟩ ?_
    have h3 : ir (rI g 49 45) := by
      by_cases q : ir (rI g 49 45)
      · exact q
      · rw [if_neg q] at hf; cases hf
    rw [if_pos h3] at hf
    by_cases h4 : (rI g 49 45) = 1
    · rw [if_pos h4] at hf
      refine Rt.path ok_M_finish 4 [1] rfl ⟨⟨⟨h3, (show ir 1 by decide)⟩, h4⟩, trivial⟩ ?_
      have h5 : ir (rA g 83 0) := by
        by_cases q : ir (rA g 83 0)
        · exact q
        · rw [if_neg q] at hf; cases hf
      rw [if_pos h5] at hf
      have h6 : ir (rI g 49 40) := by
        by_cases q : ir (rI g 49 40)
        · exact q
        · rw [if_neg q] at hf; cases hf
      rw [if_pos h6] at hf
      by_cases h7 : (rA g 83 0) = (rI g 49 40)
      · rw [if_pos h7] at hf
        refine Rt.path ok_M_finish 7 [0] rfl ⟨(show 0 ≤ (0 : Int) ∧ (0 : Int) < ((16 : Nat) : Int) ∧ ((16 : Nat) : Int) < 2147483648 by omega), ⟨⟨h5, h6⟩, h7⟩, trivial⟩ ?_
        refine Rt.path ok_M_finish 5 [] rfl trivial ?_
        exact Rt.weak ((rl_M_finish_50 d _ _ _ _ _) hf) ⟨rfl, rfl, rfl, trivial⟩
      · rw [if_neg h7] at hf
        refine Rt.path ok_M_finish 7 [1] rfl ⟨(show 0 ≤ (0 : Int) ∧ (0 : Int) < ((16 : Nat) : Int) ∧ ((16 : Nat) : Int) < 2147483648 by omega), ⟨⟨h5, h6⟩, h7⟩, trivial⟩ ?_
        refine Rt.path ok_M_finish 4 [] rfl trivial ?_
        exact Rt.weak ((rl_M_finish_50 d _ _ _ _ _) hf) ⟨rfl, rfl, rfl, trivial⟩
    · rw [if_neg h4] at hf
      refine Rt.path ok_M_finish 4 [0] rfl ⟨⟨⟨h3, (show ir 1 by decide)⟩, h4⟩, trivial⟩ ?_
      obtain ⟨g8, e8, hf⟩ := Option.bind_eq_some_iff.mp hf
      refine Rt.path ok_M_finish 4 [] rfl trivial ?_
      refine Rt.callV ok_M_finish rfl ml_M_157 [vI _, vI _] cf_M_fail rfl rfl (c_M_fail_50 d _ _ _ _ e8) (Nat.le_of_ble_eq_true rfl) ?_
      cases hf
      exact Rt.retV ok_M_finish rfl rfl
  · rw [if_neg h2] at hf
    refine Rt.path ok_M_finish 3 [1] rfl ⟨⟨h1, h2⟩, trivial⟩ ?_
    cases hf
    refine Rt.path ok_M_finish 6 [] rfl trivial ?_
    exact Rt.retV ok_M_finish rfl rfl
def b_M_isMandatory_50_0 (L : Nat → Int → Int → Int → G2 → Option (Int × G2)) (i1 : Int) (i2 : Int) (i3 : Int) (g : G2) : Option (Int × G2) :=
  if 0 ≤ i1 ∧ i1 < 41 then
  if ir i3 then
  if ir (rA g 70 i1) then
  if i3 < (rA g 70 i1) then
    if 0 ≤ ((40 * i1) + i3) ∧ ((40 * i1) + i3) < 1640 then
    if ir (rA g 69 ((40 * i1) + i3)) then
    if ir i2 then
    if (rA g 69 ((40 * i1) + i3)) = i2 then
      some (1, g)
    else
      L 0 i1 i2 (i3 + 1) g
    else none
    else none
    else none
  else
    some (0, g)
  else none
  else none
  else none
def l_M_isMandatory_50 : Nat → Nat → Int → Int → Int → G2 → Option (Int × G2)
  | 0 => fun _ _ _ _ _ => none
  | n + 1 => fun t i1 i2 i3 g => match t with
    | _ => b_M_isMandatory_50_0 (l_M_isMandatory_50 n) i1 i2 i3 g
set_option maxHeartbeats 4000000 in
set_option maxRecDepth 100000 in
theorem rl_M_isMandatory_50 (d : Nat) : ∀ (n : Nat) (i1 : Int) (i2 : Int) (i3 : Int) (g : G2) (r : Int) (g' : G2), (l_M_isMandatory_50 n 0 i1 i2 i3 g = some (r, g') → Rt d m_M_isMandatory 2 [some (vR 50), some (vI i1), some (vI i2), some (vI i3)] [] g (some (vI r)) g') := by
  intro n
  induction n with
  | zero => intro i1 i2 i3 g r g'; exact fun hf => by cases hf
  | succ n ih =>
    intro i1 i2 i3 g r g'
    intro hf
    replace hf : b_M_isMandatory_50_0 (l_M_isMandatory_50 n) i1 i2 i3 g = some (r, g') := hf
    unfold b_M_isMandatory_50_0 at hf
    have h1 : 0 ≤ i1 ∧ i1 < 41 := by
      by_cases q : 0 ≤ i1 ∧ i1 < 41
      · exact q
      · rw [if_neg q] at hf; cases hf
    rw [if_pos h1] at hf
    have h2 : ir i3 := by
      by_cases q : ir i3
      · exact q
      · rw [if_neg q] at hf; cases hf
    rw [if_pos h2] at hf
    have h3 : ir (rA g 70 i1) := by
      by_cases q : ir (rA g 70 i1)
      · exact q
      · rw [if_neg q] at hf; cases hf
    rw [if_pos h3] at hf
    by_cases h4 : i3 < (rA g 70 i1)
    · rw [if_pos h4] at hf
      refine Rt.path ok_M_isMandatory 6 [0] rfl ⟨(ix_41 h1), ⟨⟨h2, h3⟩, h4⟩, trivial⟩ ?_
      have h5 : 0 ≤ ((40 * i1) + i3) ∧ ((40 * i1) + i3) < 1640 := by
        by_cases q : 0 ≤ ((40 * i1) + i3) ∧ ((40 * i1) + i3) < 1640
        · exact q
        · rw [if_neg q] at hf; cases hf
      rw [if_pos h5] at hf
      have h6 : ir (rA g 69 ((40 * i1) + i3)) := by
        by_cases q : ir (rA g 69 ((40 * i1) + i3))
        · exact q
        · rw [if_neg q] at hf; cases hf
      rw [if_pos h6] at hf
      have h7 : ir i2 := by
        by_cases q : ir i2
        · exact q
        · rw [if_neg q] at hf; cases hf
      rw [if_pos h7] at hf
      by_cases h8 : (rA g 69 ((40 * i1) + i3)) = i2
      · rw [if_pos h8] at hf
        refine Rt.path ok_M_isMandatory 10 [0] rfl ⟨(ix_1640 h5), ⟨⟨h6, h7⟩, h8⟩, trivial⟩ ?_
        cases hf
        refine Rt.path ok_M_isMandatory 1 [] rfl trivial ?_
        exact Rt.retZ ok_M_isMandatory (show (1 : Int) = 0 ∨ (1 : Int) = 1 by decide) rfl rfl
      · rw [if_neg h8] at hf
        refine Rt.path ok_M_isMandatory 10 [1] rfl ⟨(ix_1640 h5), ⟨⟨h6, h7⟩, h8⟩, trivial⟩ ?_
        refine Rt.path ok_M_isMandatory 2 [] rfl trivial ?_
        exact Rt.weak ((ih _ _ _ _ _ _) hf) ⟨rfl, rfl, rfl, rfl, trivial⟩
    · rw [if_neg h4] at hf
      refine Rt.path ok_M_isMandatory 6 [1] rfl ⟨(ix_41 h1), ⟨⟨h2, h3⟩, (Int.not_lt.mp h4)⟩, trivial⟩ ?_
      cases hf
      refine Rt.path ok_M_isMandatory 1 [] rfl trivial ?_
      exact Rt.retZ ok_M_isMandatory (show (0 : Int) = 0 ∨ (0 : Int) = 1 by decide) rfl rfl
def f_M_isMandatory_50 (a1 : Int) (a2 : Int) (g : G2) : Option (Int × G2) :=
  l_M_isMandatory_50 20000 0 a1 a2 0 g
set_option maxHeartbeats 4000000 in
set_option maxRecDepth 100000 in
theorem c_M_isMandatory_50 (d : Nat) (a1 : Int) (a2 : Int) (g : G2) (r : Int) (g' : G2) (hf : f_M_isMandatory_50 a1 a2 g = some (r, g')) : C2 d m_M_isMandatory [vR 50, vI a1, vI a2] g (some (vI r)) g' := by
  unfold f_M_isMandatory_50 at hf
  refine C2.of rfl rfl rfl (Nat.le_of_ble_eq_true rfl) ?_
  refine Rt.path ok_M_isMandatory 2 [] rfl trivial ?_
  exact Rt.weak ((rl_M_isMandatory_50 d _ _ _ _ _ _ _) hf) ⟨rfl, rfl, rfl, rfl, trivial⟩
def b_M_readListed_50_0 (L : Nat → Int → Int → G2 → Option (G2)) (i1 : Int) (i2 : Int) (g : G2) : Option (G2) :=
  if ir (rI g 49 6) then
  if (rI g 49 6) = 0 then
    bd (f_M_needName_50 g) fun r3 g3 =>
    if ir r3 then
    if r3 = 0 then
      some g3
    else
      bd (f_M_isWord_50 41 g3) fun r6 g6 =>
      if ir r6 then
      if r6 = 0 then
        bd (f_M_lookUp_50 g6) fun r9 g9 =>
        if ir r9 then
        if r9 < 0 then
          L 1 i1 r9 g9
        else
          bd (f_M_isMandatory_50 i1 r9 g9) fun r12 g12 =>
          if ir r12 then
          if r12 = 0 then
            L 1 i1 r9 g12
          else
            (f_M_fail_50 (-8) (rI g12 49 5) g12).bind fun g15 =>
            L 3 i1 0 g15
          else none
        else none
      else
        some (gI g6 49 5 ((rI g6 49 5) + 1))
      else none
    else none
  else
    some g
  else none
def b_M_readListed_50_1 (L : Nat → Int → Int → G2 → Option (G2)) (i1 : Int) (i2 : Int) (g : G2) : Option (G2) :=
  if ir i2 then
  if i2 < 0 then
    L 2 i1 i2 g
  else
    if ir (rI g 49 53) then
    if (rI g 49 53) = 20 then
      (f_M_fail_50 (-7) (rI g 49 5) g).bind fun g20 =>
      L 3 i1 0 g20
    else
      L 2 i1 i2 g
    else none
  else none
def b_M_readListed_50_2 (L : Nat → Int → Int → G2 → Option (G2)) (i1 : Int) (i2 : Int) (g : G2) : Option (G2) :=
  if ir i2 then
  if i2 < 0 then
    L 3 i1 0 g
  else
    if 0 ≤ (rI g 49 53) ∧ (rI g 49 53) < 20 then
    L 3 i1 0 (gI (gA g 88 (rI g 49 53) i2) 49 53 ((rI g 49 53) + 1))
    else none
  else none
def b_M_readListed_50_3 (L : Nat → Int → Int → G2 → Option (G2)) (i1 : Int) (i2 : Int) (g : G2) : Option (G2) :=
  L 0 i1 0 (gI g 49 5 ((rI g 49 5) + 1))
def l_M_readListed_50 : Nat → Nat → Int → Int → G2 → Option (G2)
  | 0 => fun _ _ _ _ => none
  | n + 1 => fun t i1 i2 g => match t with
    | 0 => b_M_readListed_50_0 (l_M_readListed_50 n) i1 i2 g
    | 1 => b_M_readListed_50_1 (l_M_readListed_50 n) i1 i2 g
    | 2 => b_M_readListed_50_2 (l_M_readListed_50 n) i1 i2 g
    | _ => b_M_readListed_50_3 (l_M_readListed_50 n) i1 i2 g
set_option maxHeartbeats 4000000 in
set_option maxRecDepth 100000 in
theorem rl_M_readListed_50 (d : Nat) : ∀ (n : Nat) (i1 : Int) (i2 : Int) (g : G2) (g' : G2), (l_M_readListed_50 n 0 i1 i2 g = some g' → Rt (d + 5) m_M_readListed 5 [some (vR 50), some (vI i1), none] [] g none g') ∧ (l_M_readListed_50 n 1 i1 i2 g = some g' → Rt (d + 5) m_M_readListed 71 [some (vR 50), some (vI i1), some (vI i2)] [] g none g') ∧ (l_M_readListed_50 n 2 i1 i2 g = some g' → Rt (d + 5) m_M_readListed 97 [some (vR 50), some (vI i1), some (vI i2)] [] g none g') ∧ (l_M_readListed_50 n 3 i1 i2 g = some g' → Rt (d + 5) m_M_readListed 121 [some (vR 50), some (vI i1), none] [] g none g') := by
  intro n
  induction n with
  | zero => intro i1 i2 g g'; exact ⟨fun hf => (by cases hf), fun hf => (by cases hf), fun hf => (by cases hf), fun hf => (by cases hf)⟩
  | succ n ih =>
    intro i1 i2 g g'
    refine ⟨?_, ?_, ?_, ?_⟩
    · intro hf
      replace hf : b_M_readListed_50_0 (l_M_readListed_50 n) i1 i2 g = some g' := hf
      unfold b_M_readListed_50_0 at hf
      have h1 : ir (rI g 49 6) := by
        by_cases q : ir (rI g 49 6)
        · exact q
        · rw [if_neg q] at hf; cases hf
      rw [if_pos h1] at hf
      by_cases h2 : (rI g 49 6) = 0
      · rw [if_pos h2] at hf
        refine Rt.path ok_M_readListed 3 [0] rfl ⟨⟨h1, h2⟩, trivial⟩ ?_
        obtain ⟨r3, g3, e3, hf⟩ := bd_inv hf
        refine Rt.path ok_M_readListed 1 [] rfl trivial ?_
        refine Rt.callV ok_M_readListed rfl ml_M_213 [] cf_M_needName rfl rfl (c_M_needName_50 d _ _ _ e3) (Nat.le_of_ble_eq_true rfl) ?_
        have h4 : ir r3 := by
          by_cases q : ir r3
          · exact q
          · rw [if_neg q] at hf; cases hf
        rw [if_pos h4] at hf
        by_cases h5 : r3 = 0
        · rw [if_pos h5] at hf
          refine Rt.path ok_M_readListed 1 [0] rfl ⟨⟨h4, h5⟩, trivial⟩ ?_
          cases hf
          exact Rt.retV ok_M_readListed rfl rfl
        · rw [if_neg h5] at hf
          refine Rt.path ok_M_readListed 1 [1] rfl ⟨⟨h4, h5⟩, trivial⟩ ?_
          obtain ⟨r6, g6, e6, hf⟩ := bd_inv hf
          refine Rt.path ok_M_readListed 2 [] rfl trivial ?_
          refine Rt.callV ok_M_readListed rfl ml_M_290 [vI _] cf_M_isWord rfl rfl (c_M_isWord_50 (d + 3) _ _ _ _ e6) (Nat.le_of_ble_eq_true rfl) ?_
          have h7 : ir r6 := by
            by_cases q : ir r6
            · exact q
            · rw [if_neg q] at hf; cases hf
          rw [if_pos h7] at hf
          by_cases h8 : r6 = 0
          · rw [if_pos h8] at hf
            refine Rt.path ok_M_readListed 1 [1] rfl ⟨⟨h7, h8⟩, trivial⟩ ?_
            obtain ⟨r9, g9, e9, hf⟩ := bd_inv hf
            refine Rt.path ok_M_readListed 1 [] rfl trivial ?_
            refine Rt.callV ok_M_readListed rfl ml_M_305 [] cf_M_lookUp rfl rfl (c_M_lookUp_50 (d + 1) _ _ _ e9) (Nat.le_of_ble_eq_true rfl) ?_
            have h10 : ir r9 := by
              by_cases q : ir r9
              · exact q
              · rw [if_neg q] at hf; cases hf
            rw [if_pos h10] at hf
            by_cases h11 : r9 < 0
            · rw [if_pos h11] at hf
              refine Rt.path ok_M_readListed 3 [1] rfl ⟨⟨h10, h11⟩, trivial⟩ ?_
              exact Rt.weak ((ih _ _ _ _).2.1 hf) ⟨rfl, rfl, rfl, trivial⟩
            · rw [if_neg h11] at hf
              refine Rt.path ok_M_readListed 3 [0] rfl ⟨⟨h10, (Int.not_lt.mp h11)⟩, trivial⟩ ?_
              obtain ⟨r12, g12, e12, hf⟩ := bd_inv hf
              refine Rt.path ok_M_readListed 3 [] rfl trivial ?_
              refine Rt.callV ok_M_readListed rfl ml_M_314 [vI _, vI _] cf_M_isMandatory rfl rfl (c_M_isMandatory_50 (d + 4) _ _ _ _ _ e12) (Nat.le_of_ble_eq_true rfl) ?_
              have h13 : ir r12 := by
                by_cases q : ir r12
                · exact q
                · rw [if_neg q] at hf; cases hf
              rw [if_pos h13] at hf
              by_cases h14 : r12 = 0
              · rw [if_pos h14] at hf
                refine Rt.path ok_M_readListed 1 [1] rfl ⟨⟨h13, h14⟩, trivial⟩ ?_
                exact Rt.weak ((ih _ _ _ _).2.1 hf) ⟨rfl, rfl, rfl, trivial⟩
              · rw [if_neg h14] at hf
                refine Rt.path ok_M_readListed 1 [0] rfl ⟨⟨h13, h14⟩, trivial⟩ ?_
                obtain ⟨g15, e15, hf⟩ := Option.bind_eq_some_iff.mp hf
                refine Rt.path ok_M_readListed 4 [] rfl trivial ?_
                refine Rt.callV ok_M_readListed rfl ml_M_157 [vI _, vI _] cf_M_fail rfl rfl (c_M_fail_50 (d + 4) _ _ _ _ e15) (Nat.le_of_ble_eq_true rfl) ?_
                refine Rt.path ok_M_readListed 1 [] rfl trivial ?_
                exact Rt.weak ((ih _ _ _ _).2.2.2 hf) ⟨rfl, rfl, trivial⟩
          · rw [if_neg h8] at hf
            refine Rt.path ok_M_readListed 1 [0] rfl ⟨⟨h7, h8⟩, trivial⟩ ?_
            cases hf
            refine Rt.path ok_M_readListed 6 [] rfl trivial ?_
            exact Rt.retV ok_M_readListed rfl rfl
      · rw [if_neg h2] at hf
        refine Rt.path ok_M_readListed 3 [1] rfl ⟨⟨h1, h2⟩, trivial⟩ ?_
        cases hf
        exact Rt.retV ok_M_readListed rfl rfl
    · intro hf
      replace hf : b_M_readListed_50_1 (l_M_readListed_50 n) i1 i2 g = some g' := hf
      unfold b_M_readListed_50_1 at hf
      have h16 : ir i2 := by
        by_cases q : ir i2
        · exact q
        · rw [if_neg q] at hf; cases hf
      rw [if_pos h16] at hf
      by_cases h17 : i2 < 0
      · rw [if_pos h17] at hf
        refine Rt.path ok_M_readListed 2 [1] rfl ⟨⟨h16, h17⟩, trivial⟩ ?_
        exact Rt.weak ((ih _ _ _ _).2.2.1 hf) ⟨rfl, rfl, rfl, trivial⟩
      · rw [if_neg h17] at hf
        refine Rt.path ok_M_readListed 2 [0] rfl ⟨⟨h16, (Int.not_lt.mp h17)⟩, trivial⟩ ?_
        have h18 : ir (rI g 49 53) := by
          by_cases q : ir (rI g 49 53)
          · exact q
          · rw [if_neg q] at hf; cases hf
        rw [if_pos h18] at hf
        by_cases h19 : (rI g 49 53) = 20
        · rw [if_pos h19] at hf
          refine Rt.path ok_M_readListed 4 [0] rfl ⟨⟨⟨h18, (show ir 20 by decide)⟩, h19⟩, trivial⟩ ?_
          obtain ⟨g20, e20, hf⟩ := Option.bind_eq_some_iff.mp hf
          refine Rt.path ok_M_readListed 4 [] rfl trivial ?_
          refine Rt.callV ok_M_readListed rfl ml_M_157 [vI _, vI _] cf_M_fail rfl rfl (c_M_fail_50 (d + 4) _ _ _ _ e20) (Nat.le_of_ble_eq_true rfl) ?_
          refine Rt.path ok_M_readListed 1 [] rfl trivial ?_
          exact Rt.weak ((ih _ _ _ _).2.2.2 hf) ⟨rfl, rfl, trivial⟩
        · rw [if_neg h19] at hf
          refine Rt.path ok_M_readListed 4 [1] rfl ⟨⟨⟨h18, (show ir 20 by decide)⟩, h19⟩, trivial⟩ ?_
          exact Rt.weak ((ih _ _ _ _).2.2.1 hf) ⟨rfl, rfl, rfl, trivial⟩
    · intro hf
      replace hf : b_M_readListed_50_2 (l_M_readListed_50 n) i1 i2 g = some g' := hf
      unfold b_M_readListed_50_2 at hf
      have h21 : ir i2 := by
        by_cases q : ir i2
        · exact q
        · rw [if_neg q] at hf; cases hf
      rw [if_pos h21] at hf
      by_cases h22 : i2 < 0
      · rw [if_pos h22] at hf
        refine Rt.path ok_M_readListed 2 [1] rfl ⟨⟨h21, h22⟩, trivial⟩ ?_
        exact Rt.weak ((ih _ _ _ _).2.2.2 hf) ⟨rfl, rfl, trivial⟩
      · rw [if_neg h22] at hf
        refine Rt.path ok_M_readListed 2 [0] rfl ⟨⟨h21, (Int.not_lt.mp h22)⟩, trivial⟩ ?_
        have h23 : 0 ≤ (rI g 49 53) ∧ (rI g 49 53) < 20 := by
          by_cases q : 0 ≤ (rI g 49 53) ∧ (rI g 49 53) < 20
          · exact q
          · rw [if_neg q] at hf; cases hf
        rw [if_pos h23] at hf
        refine Rt.path ok_M_readListed 12 [] rfl ⟨(ix_20 h23), trivial⟩ ?_
        exact Rt.weak ((ih _ _ _ _).2.2.2 hf) ⟨rfl, rfl, trivial⟩
    · intro hf
      replace hf : b_M_readListed_50_3 (l_M_readListed_50 n) i1 i2 g = some g' := hf
      unfold b_M_readListed_50_3 at hf
      refine Rt.path ok_M_readListed 7 [] rfl trivial ?_
      exact Rt.weak ((ih _ _ _ _).1 hf) ⟨rfl, rfl, trivial⟩
def f_M_readListed_50 (a1 : Int) (g : G2) : Option (G2) :=
  l_M_readListed_50 20000 0 a1 0 (gI g 49 53 0)
set_option maxHeartbeats 4000000 in
set_option maxRecDepth 100000 in
theorem c_M_readListed_50 (d : Nat) (a1 : Int) (g : G2) (g' : G2) (hf : f_M_readListed_50 a1 g = some g') : C2 (d + 5) m_M_readListed [vR 50, vI a1] g none g' := by
  unfold f_M_readListed_50 at hf
  refine C2.of rfl rfl rfl (Nat.le_of_ble_eq_true rfl) ?_
  refine Rt.path ok_M_readListed 3 [] rfl trivial ?_
  exact Rt.weak ((rl_M_readListed_50 d _ _ _ _ _).1 hf) ⟨rfl, rfl, trivial⟩
def b_M_isLetters_50_0 (L : Nat → Int → G2 → Option (Int × G2)) (i1 : Int) (g : G2) : Option (Int × G2) :=
  if 0 ≤ (rI g 49 5) ∧ (rI g 49 5) < 801 then
  if ir i1 then
  if ir (rA g 52 (rI g 49 5)) then
  if i1 < (rA g 52 (rI g 49 5)) then
    bd (f_M_letter_50 (rI g 49 5) i1 g) fun r5 g5 =>
    if ir r5 then
    if r5 = 63 then
      L 0 (i1 + 1) g5
    else
      if r5 < 65 then
        some (0, g5)
      else
        if 90 < r5 then
          some (0, g5)
        else
          L 0 (i1 + 1) g5
    else none
  else
    some (1, g)
  else none
  else none
  else none
def l_M_isLetters_50 : Nat → Nat → Int → G2 → Option (Int × G2)
  | 0 => fun _ _ _ => none
  | n + 1 => fun t i1 g => match t with
    | _ => b_M_isLetters_50_0 (l_M_isLetters_50 n) i1 g
set_option maxHeartbeats 4000000 in
set_option maxRecDepth 100000 in
theorem rl_M_isLetters_50 (d : Nat) : ∀ (n : Nat) (i1 : Int) (g : G2) (r : Int) (g' : G2), (l_M_isLetters_50 n 0 i1 g = some (r, g') → Rt (d + 1) m_M_isLetters 2 [some (vR 50), some (vI i1), none] [] g (some (vI r)) g') := by
  intro n
  induction n with
  | zero => intro i1 g r g'; exact fun hf => by cases hf
  | succ n ih =>
    intro i1 g r g'
    intro hf
    replace hf : b_M_isLetters_50_0 (l_M_isLetters_50 n) i1 g = some (r, g') := hf
    unfold b_M_isLetters_50_0 at hf
    have h1 : 0 ≤ (rI g 49 5) ∧ (rI g 49 5) < 801 := by
      by_cases q : 0 ≤ (rI g 49 5) ∧ (rI g 49 5) < 801
      · exact q
      · rw [if_neg q] at hf; cases hf
    rw [if_pos h1] at hf
    have h2 : ir i1 := by
      by_cases q : ir i1
      · exact q
      · rw [if_neg q] at hf; cases hf
    rw [if_pos h2] at hf
    have h3 : ir (rA g 52 (rI g 49 5)) := by
      by_cases q : ir (rA g 52 (rI g 49 5))
      · exact q
      · rw [if_neg q] at hf; cases hf
    rw [if_pos h3] at hf
    by_cases h4 : i1 < (rA g 52 (rI g 49 5))
    · rw [if_pos h4] at hf
      refine Rt.path ok_M_isLetters 7 [0] rfl ⟨(ix_801 h1), ⟨⟨h2, h3⟩, h4⟩, trivial⟩ ?_
      obtain ⟨r5, g5, e5, hf⟩ := bd_inv hf
      refine Rt.path ok_M_isLetters 4 [] rfl trivial ?_
      refine Rt.callV ok_M_isLetters rfl ml_M_141 [vI _, vI _] cf_M_letter rfl rfl (c_M_letter_50 d _ _ _ _ _ e5) (Nat.le_of_ble_eq_true rfl) ?_
      have h6 : ir r5 := by
        by_cases q : ir r5
        · exact q
        · rw [if_neg q] at hf; cases hf
      rw [if_pos h6] at hf
      by_cases h7 : r5 = 63
      · rw [if_pos h7] at hf
        refine Rt.path ok_M_isLetters 4 [1] rfl ⟨⟨⟨h6, (show ir 63 by decide)⟩, h7⟩, trivial⟩ ?_
        refine Rt.path ok_M_isLetters 2 [] rfl trivial ?_
        exact Rt.weak ((ih _ _ _ _) hf) ⟨rfl, rfl, trivial⟩
      · rw [if_neg h7] at hf
        refine Rt.path ok_M_isLetters 4 [0] rfl ⟨⟨⟨h6, (show ir 63 by decide)⟩, h7⟩, trivial⟩ ?_
        by_cases h8 : r5 < 65
        · rw [if_pos h8] at hf
          refine Rt.path ok_M_isLetters 3 [1] rfl ⟨⟨⟨h6, (show ir 65 by decide)⟩, h8⟩, trivial⟩ ?_
          cases hf
          refine Rt.path ok_M_isLetters 1 [] rfl trivial ?_
          exact Rt.retZ ok_M_isLetters (show (0 : Int) = 0 ∨ (0 : Int) = 1 by decide) rfl rfl
        · rw [if_neg h8] at hf
          refine Rt.path ok_M_isLetters 3 [0] rfl ⟨⟨⟨h6, (show ir 65 by decide)⟩, (Int.not_lt.mp h8)⟩, trivial⟩ ?_
          by_cases h9 : 90 < r5
          · rw [if_pos h9] at hf
            refine Rt.path ok_M_isLetters 3 [0] rfl ⟨⟨⟨h6, (show ir 90 by decide)⟩, h9⟩, trivial⟩ ?_
            cases hf
            refine Rt.path ok_M_isLetters 1 [] rfl trivial ?_
            exact Rt.retZ ok_M_isLetters (show (0 : Int) = 0 ∨ (0 : Int) = 1 by decide) rfl rfl
          · rw [if_neg h9] at hf
            refine Rt.path ok_M_isLetters 3 [1] rfl ⟨⟨⟨h6, (show ir 90 by decide)⟩, (Int.not_lt.mp h9)⟩, trivial⟩ ?_
            refine Rt.path ok_M_isLetters 2 [] rfl trivial ?_
            exact Rt.weak ((ih _ _ _ _) hf) ⟨rfl, rfl, trivial⟩
    · rw [if_neg h4] at hf
      refine Rt.path ok_M_isLetters 7 [1] rfl ⟨(ix_801 h1), ⟨⟨h2, h3⟩, (Int.not_lt.mp h4)⟩, trivial⟩ ?_
      cases hf
      refine Rt.path ok_M_isLetters 1 [] rfl trivial ?_
      exact Rt.retZ ok_M_isLetters (show (1 : Int) = 0 ∨ (1 : Int) = 1 by decide) rfl rfl
def f_M_isLetters_50  (g : G2) : Option (Int × G2) :=
  l_M_isLetters_50 20000 0 0 g
set_option maxHeartbeats 4000000 in
set_option maxRecDepth 100000 in
theorem c_M_isLetters_50 (d : Nat)  (g : G2) (r : Int) (g' : G2) (hf : f_M_isLetters_50 g = some (r, g')) : C2 (d + 1) m_M_isLetters [vR 50] g (some (vI r)) g' := by
  unfold f_M_isLetters_50 at hf
  refine C2.of rfl rfl rfl (Nat.le_of_ble_eq_true rfl) ?_
  refine Rt.path ok_M_isLetters 2 [] rfl trivial ?_
  exact Rt.weak ((rl_M_isLetters_50 d _ _ _ _ _) hf) ⟨rfl, rfl, trivial⟩
def b_M_tag_50_0 (L : Nat → Int → G2 → Option (G2)) (i1 : Int) (g : G2) : Option (G2) :=
  if ir (rI g 49 51) then
  if (rI g 49 51) = 0 then
    if 0 ≤ ((rI g 49 45) - 1) ∧ ((rI g 49 45) - 1) < 16 then
    if ir i1 then
    if ir (rA g 83 ((rI g 49 45) - 1)) then
    if i1 < (rA g 83 ((rI g 49 45) - 1)) then
      if 0 ≤ ((24 * ((rI g 49 45) - 1)) + i1) ∧ ((24 * ((rI g 49 45) - 1)) + i1) < 384 then
      if 0 ≤ ((24 * (rI g 49 48)) + i1) ∧ ((24 * (rI g 49 48)) + i1) < 384 then
      L 0 (i1 + 1) (gA g 84 ((24 * (rI g 49 48)) + i1) (rA g 82 ((24 * ((rI g 49 45) - 1)) + i1)))
      else none
      else none
    else
      if (rI g 49 51) = 0 then
        if 0 ≤ (rI g 49 48) ∧ (rI g 49 48) < 16 then
        some (gI (gA g 85 (rI g 49 48) (rA g 83 ((rI g 49 45) - 1))) 49 48 ((rI g 49 48) + 1))
        else none
      else
        if 0 ≤ (rI g 49 48) ∧ (rI g 49 48) < 16 then
        some (gI (gA g 85 (rI g 49 48) 0) 49 48 ((rI g 49 48) + 1))
        else none
    else none
    else none
    else none
  else
    if (rI g 49 51) = 0 then
      if 0 ≤ ((rI g 49 45) - 1) ∧ ((rI g 49 45) - 1) < 16 then
      if 0 ≤ (rI g 49 48) ∧ (rI g 49 48) < 16 then
      some (gI (gA g 85 (rI g 49 48) (rA g 83 ((rI g 49 45) - 1))) 49 48 ((rI g 49 48) + 1))
      else none
      else none
    else
      if 0 ≤ (rI g 49 48) ∧ (rI g 49 48) < 16 then
      some (gI (gA g 85 (rI g 49 48) 0) 49 48 ((rI g 49 48) + 1))
      else none
  else none
def l_M_tag_50 : Nat → Nat → Int → G2 → Option (G2)
  | 0 => fun _ _ _ => none
  | n + 1 => fun t i1 g => match t with
    | _ => b_M_tag_50_0 (l_M_tag_50 n) i1 g
set_option maxHeartbeats 4000000 in
set_option maxRecDepth 100000 in
theorem rl_M_tag_50 (d : Nat) : ∀ (n : Nat) (i1 : Int) (g : G2) (g' : G2), (l_M_tag_50 n 0 i1 g = some g' → Rt d m_M_tag 2 [some (vR 50), some (vI i1)] [] g none g') := by
  intro n
  induction n with
  | zero => intro i1 g g'; exact fun hf => by cases hf
  | succ n ih =>
    intro i1 g g'
    intro hf
    replace hf : b_M_tag_50_0 (l_M_tag_50 n) i1 g = some g' := hf
    unfold b_M_tag_50_0 at hf
    have h1 : ir (rI g 49 51) := by
      by_cases q : ir (rI g 49 51)
      · exact q
      · rw [if_neg q] at hf; cases hf
    rw [if_pos h1] at hf
    by_cases h2 : (rI g 49 51) = 0
    · rw [if_pos h2] at hf
      refine Rt.path ok_M_tag 3 [0] rfl ⟨⟨h1, h2⟩, trivial⟩ ?_
      have h3 : 0 ≤ ((rI g 49 45) - 1) ∧ ((rI g 49 45) - 1) < 16 := by
        by_cases q : 0 ≤ ((rI g 49 45) - 1) ∧ ((rI g 49 45) - 1) < 16
        · exact q
        · rw [if_neg q] at hf; cases hf
      rw [if_pos h3] at hf
      have h4 : ir i1 := by
        by_cases q : ir i1
        · exact q
        · rw [if_neg q] at hf; cases hf
      rw [if_pos h4] at hf
      have h5 : ir (rA g 83 ((rI g 49 45) - 1)) := by
        by_cases q : ir (rA g 83 ((rI g 49 45) - 1))
        · exact q
        · rw [if_neg q] at hf; cases hf
      rw [if_pos h5] at hf
      by_cases h6 : i1 < (rA g 83 ((rI g 49 45) - 1))
      · rw [if_pos h6] at hf
        refine Rt.path ok_M_tag 9 [0] rfl ⟨(ix_16 h3), ⟨⟨h4, h5⟩, h6⟩, trivial⟩ ?_
        have h7 : 0 ≤ ((24 * ((rI g 49 45) - 1)) + i1) ∧ ((24 * ((rI g 49 45) - 1)) + i1) < 384 := by
          by_cases q : 0 ≤ ((24 * ((rI g 49 45) - 1)) + i1) ∧ ((24 * ((rI g 49 45) - 1)) + i1) < 384
          · exact q
          · rw [if_neg q] at hf; cases hf
        rw [if_pos h7] at hf
        have h8 : 0 ≤ ((24 * (rI g 49 48)) + i1) ∧ ((24 * (rI g 49 48)) + i1) < 384 := by
          by_cases q : 0 ≤ ((24 * (rI g 49 48)) + i1) ∧ ((24 * (rI g 49 48)) + i1) < 384
          · exact q
          · rw [if_neg q] at hf; cases hf
        rw [if_pos h8] at hf
        refine Rt.path ok_M_tag 22 [] rfl ⟨(ix_384 h7), (ix_384 h8), trivial⟩ ?_
        exact Rt.weak ((ih _ _ _) hf) ⟨rfl, rfl, trivial⟩
      · rw [if_neg h6] at hf
        refine Rt.path ok_M_tag 9 [1] rfl ⟨(ix_16 h3), ⟨⟨h4, h5⟩, (Int.not_lt.mp h6)⟩, trivial⟩ ?_
        by_cases h9 : (rI g 49 51) = 0
        · rw [if_pos h9] at hf
          refine Rt.path ok_M_tag 7 [1] rfl ⟨⟨h1, h9⟩, trivial⟩ ?_
          have h10 : 0 ≤ (rI g 49 48) ∧ (rI g 49 48) < 16 := by
            by_cases q : 0 ≤ (rI g 49 48) ∧ (rI g 49 48) < 16
            · exact q
            · rw [if_neg q] at hf; cases hf
          rw [if_pos h10] at hf
          cases hf
          refine Rt.path ok_M_tag 14 [] rfl ⟨(ix_16 h3), (ix_16 h10), trivial⟩ ?_
          exact Rt.retV ok_M_tag rfl rfl
        · rw [if_neg h9] at hf
          refine Rt.path ok_M_tag 7 [0] rfl ⟨⟨h1, h9⟩, trivial⟩ ?_
          have h11 : 0 ≤ (rI g 49 48) ∧ (rI g 49 48) < 16 := by
            by_cases q : 0 ≤ (rI g 49 48) ∧ (rI g 49 48) < 16
            · exact q
            · rw [if_neg q] at hf; cases hf
          rw [if_pos h11] at hf
          cases hf
          refine Rt.path ok_M_tag 9 [] rfl ⟨(ix_16 h11), trivial⟩ ?_
          exact Rt.retV ok_M_tag rfl rfl
    · rw [if_neg h2] at hf
      refine Rt.path ok_M_tag 3 [1] rfl ⟨⟨h1, h2⟩, trivial⟩ ?_
      by_cases h12 : (rI g 49 51) = 0
      · rw [if_pos h12] at hf
        refine Rt.path ok_M_tag 7 [1] rfl ⟨⟨h1, h12⟩, trivial⟩ ?_
        have h13 : 0 ≤ ((rI g 49 45) - 1) ∧ ((rI g 49 45) - 1) < 16 := by
          by_cases q : 0 ≤ ((rI g 49 45) - 1) ∧ ((rI g 49 45) - 1) < 16
          · exact q
          · rw [if_neg q] at hf; cases hf
        rw [if_pos h13] at hf
        have h14 : 0 ≤ (rI g 49 48) ∧ (rI g 49 48) < 16 := by
          by_cases q : 0 ≤ (rI g 49 48) ∧ (rI g 49 48) < 16
          · exact q
          · rw [if_neg q] at hf; cases hf
        rw [if_pos h14] at hf
        cases hf
        refine Rt.path ok_M_tag 14 [] rfl ⟨(ix_16 h13), (ix_16 h14), trivial⟩ ?_
        exact Rt.retV ok_M_tag rfl rfl
      · rw [if_neg h12] at hf
        refine Rt.path ok_M_tag 7 [0] rfl ⟨⟨h1, h12⟩, trivial⟩ ?_
        have h15 : 0 ≤ (rI g 49 48) ∧ (rI g 49 48) < 16 := by
          by_cases q : 0 ≤ (rI g 49 48) ∧ (rI g 49 48) < 16
          · exact q
          · rw [if_neg q] at hf; cases hf
        rw [if_pos h15] at hf
        cases hf
        refine Rt.path ok_M_tag 9 [] rfl ⟨(ix_16 h15), trivial⟩ ?_
        exact Rt.retV ok_M_tag rfl rfl
def f_M_tag_50  (g : G2) : Option (G2) :=
  l_M_tag_50 20000 0 0 g
set_option maxHeartbeats 4000000 in
set_option maxRecDepth 100000 in
theorem c_M_tag_50 (d : Nat)  (g : G2) (g' : G2) (hf : f_M_tag_50 g = some g') : C2 d m_M_tag [vR 50] g none g' := by
  unfold f_M_tag_50 at hf
  refine C2.of rfl rfl rfl (Nat.le_of_ble_eq_true rfl) ?_
  refine Rt.path ok_M_tag 2 [] rfl trivial ?_
  exact Rt.weak ((rl_M_tag_50 d _ _ _ _) hf) ⟨rfl, rfl, trivial⟩
def b_M_pushTagged_50_0 (L : Nat → Int → Int → G2 → Option (G2)) (i1 : Int) (i2 : Int) (g : G2) : Option (G2) :=
  if 0 ≤ i1 ∧ i1 < 16 then
  if ir i2 then
  if ir (rA g 85 i1) then
  if i2 < (rA g 85 i1) then
    if 0 ≤ ((24 * i1) + i2) ∧ ((24 * i1) + i2) < 384 then
    if 0 ≤ ((24 * (rI g 49 45)) + i2) ∧ ((24 * (rI g 49 45)) + i2) < 384 then
    L 0 i1 (i2 + 1) (gA g 82 ((24 * (rI g 49 45)) + i2) (rA g 84 ((24 * i1) + i2)))
    else none
    else none
  else
    if 0 ≤ (rI g 49 45) ∧ (rI g 49 45) < 16 then
    some (gI (gA g 83 (rI g 49 45) (rA g 85 i1)) 49 45 ((rI g 49 45) + 1))
    else none
  else none
  else none
  else none
def l_M_pushTagged_50 : Nat → Nat → Int → Int → G2 → Option (G2)
  | 0 => fun _ _ _ _ => none
  | n + 1 => fun t i1 i2 g => match t with
    | _ => b_M_pushTagged_50_0 (l_M_pushTagged_50 n) i1 i2 g
set_option maxHeartbeats 4000000 in
set_option maxRecDepth 100000 in
theorem rl_M_pushTagged_50 (d : Nat) : ∀ (n : Nat) (i1 : Int) (i2 : Int) (g : G2) (g' : G2), (l_M_pushTagged_50 n 0 i1 i2 g = some g' → Rt (d + 2) m_M_pushTagged 9 [some (vR 50), some (vI i1), some (vI i2)] [] g none g') := by
  intro n
  induction n with
  | zero => intro i1 i2 g g'; exact fun hf => by cases hf
  | succ n ih =>
    intro i1 i2 g g'
    intro hf
    replace hf : b_M_pushTagged_50_0 (l_M_pushTagged_50 n) i1 i2 g = some g' := hf
    unfold b_M_pushTagged_50_0 at hf
    have h4 : 0 ≤ i1 ∧ i1 < 16 := by
      by_cases q : 0 ≤ i1 ∧ i1 < 16
      · exact q
      · rw [if_neg q] at hf; cases hf
    rw [if_pos h4] at hf
    have h5 : ir i2 := by
      by_cases q : ir i2
      · exact q
      · rw [if_neg q] at hf; cases hf
    rw [if_pos h5] at hf
    have h6 : ir (rA g 85 i1) := by
      by_cases q : ir (rA g 85 i1)
      · exact q
      · rw [if_neg q] at hf; cases hf
    rw [if_pos h6] at hf
    by_cases h7 : i2 < (rA g 85 i1)
    · rw [if_pos h7] at hf
      refine Rt.path ok_M_pushTagged 6 [0] rfl ⟨(ix_16 h4), ⟨⟨h5, h6⟩, h7⟩, trivial⟩ ?_
      have h8 : 0 ≤ ((24 * i1) + i2) ∧ ((24 * i1) + i2) < 384 := by
        by_cases q : 0 ≤ ((24 * i1) + i2) ∧ ((24 * i1) + i2) < 384
        · exact q
        · rw [if_neg q] at hf; cases hf
      rw [if_pos h8] at hf
      have h9 : 0 ≤ ((24 * (rI g 49 45)) + i2) ∧ ((24 * (rI g 49 45)) + i2) < 384 := by
        by_cases q : 0 ≤ ((24 * (rI g 49 45)) + i2) ∧ ((24 * (rI g 49 45)) + i2) < 384
        · exact q
        · rw [if_neg q] at hf; cases hf
      rw [if_pos h9] at hf
      refine Rt.path ok_M_pushTagged 19 [] rfl ⟨(ix_384 h8), (ix_384 h9), trivial⟩ ?_
      exact Rt.weak ((ih _ _ _ _) hf) ⟨rfl, rfl, rfl, trivial⟩
    · rw [if_neg h7] at hf
      refine Rt.path ok_M_pushTagged 6 [1] rfl ⟨(ix_16 h4), ⟨⟨h5, h6⟩, (Int.not_lt.mp h7)⟩, trivial⟩ ?_
      have h10 : 0 ≤ (rI g 49 45) ∧ (rI g 49 45) < 16 := by
        by_cases q : 0 ≤ (rI g 49 45) ∧ (rI g 49 45) < 16
        · exact q
        · rw [if_neg q] at hf; cases hf
      rw [if_pos h10] at hf
      cases hf
      refine Rt.path ok_M_pushTagged 15 [] rfl ⟨(ix_16 h4), (ix_16 h10), trivial⟩ ?_
      exact Rt.retV ok_M_pushTagged rfl rfl
def f_M_pushTagged_50 (a1 : Int) (g : G2) : Option (G2) :=
  bd (f_M_hasRoom_50 g) fun r1 g1 =>
  if ir r1 then
  if r1 = 0 then
    some g1
  else
    l_M_pushTagged_50 20000 0 a1 0 g1
  else none
set_option maxHeartbeats 4000000 in
set_option maxRecDepth 100000 in
theorem c_M_pushTagged_50 (d : Nat) (a1 : Int) (g : G2) (g' : G2) (hf : f_M_pushTagged_50 a1 g = some g') : C2 (d + 2) m_M_pushTagged [vR 50, vI a1] g none g' := by
  unfold f_M_pushTagged_50 at hf
  refine C2.of rfl rfl rfl (Nat.le_of_ble_eq_true rfl) ?_
  obtain ⟨r1, g1, e1, hf⟩ := bd_inv hf
  refine Rt.path ok_M_pushTagged 1 [] rfl trivial ?_
  refine Rt.callV ok_M_pushTagged rfl ml_M_266 [] cf_M_hasRoom rfl rfl (c_M_hasRoom_50 d _ _ _ e1) (Nat.le_of_ble_eq_true rfl) ?_
  have h2 : ir r1 := by
    by_cases q : ir r1
    · exact q
    · rw [if_neg q] at hf; cases hf
  rw [if_pos h2] at hf
  by_cases h3 : r1 = 0
  · rw [if_pos h3] at hf
    refine Rt.path ok_M_pushTagged 1 [1] rfl ⟨⟨h2, h3⟩, trivial⟩ ?_
    cases hf
    exact Rt.retV ok_M_pushTagged rfl rfl
  · rw [if_neg h3] at hf
    refine Rt.path ok_M_pushTagged 1 [0] rfl ⟨⟨h2, h3⟩, trivial⟩ ?_
    refine Rt.path ok_M_pushTagged 2 [] rfl trivial ?_
    exact Rt.weak ((rl_M_pushTagged_50 d _ _ _ _ _) hf) ⟨rfl, rfl, rfl, trivial⟩
def f_M_stepWith_50 (a1 : Int) (a2 : Int) (g : G2) : Option (G2) :=
  if 0 ≤ a1 ∧ a1 < 41 then
  if ir a2 then
  if ir (rA g 70 a1) then
  if (rA g 70 a1) < a2 then
    if ir ((rA g 70 a1) + (rI g 49 53)) then
    if ((rA g 70 a1) + (rI g 49 53)) < a2 then
      if ir (((rA g 70 a1) + (rI g 49 53)) + (rI g 49 48)) then
      if (((rA g 70 a1) + (rI g 49 53)) + (rI g 49 48)) < a2 then
        (f_M_fail_50 (-8) (rI g 49 5) g).bind fun g9 =>
        some g9
      else
        if ir (rI g 49 51) then
        if (rI g 49 51) = 0 then
          (f_M_pushTagged_50 (((a2 - (rA g 70 a1)) - (rI g 49 53)) - 1) g).bind fun g12 =>
          (f_M_tally_50 a1 g12).bind fun g13 =>
          some g13
        else
          some g
        else none
      else none
    else
      if 0 ≤ ((a2 - (rA g 70 a1)) - 1) ∧ ((a2 - (rA g 70 a1)) - 1) < 20 then
      (f_M_step_50 a1 (rA g 88 ((a2 - (rA g 70 a1)) - 1)) g).bind fun g15 =>
      some g15
      else none
    else none
  else
    if 0 ≤ (((40 * a1) + a2) - 1) ∧ (((40 * a1) + a2) - 1) < 1640 then
    (f_M_step_50 a1 (rA g 69 (((40 * a1) + a2) - 1)) g).bind fun g17 =>
    some g17
    else none
  else none
  else none
  else none
set_option maxHeartbeats 4000000 in
set_option maxRecDepth 100000 in
theorem c_M_stepWith_50 (d : Nat) (a1 : Int) (a2 : Int) (g : G2) (g' : G2) (hf : f_M_stepWith_50 a1 a2 g = some g') : C2 (d + 4) m_M_stepWith [vR 50, vI a1, vI a2] g none g' := by
  unfold f_M_stepWith_50 at hf
  refine C2.of rfl rfl rfl (Nat.le_of_ble_eq_true rfl) ?_
  have h1 : 0 ≤ a1 ∧ a1 < 41 := by
    by_cases q : 0 ≤ a1 ∧ a1 < 41
    · exact q
    · rw [if_neg q] at hf; cases hf
  rw [if_pos h1] at hf
  have h2 : ir a2 := by
    by_cases q : ir a2
    · exact q
    · rw [if_neg q] at hf; cases hf
  rw [if_pos h2] at hf
  have h3 : ir (rA g 70 a1) := by
    by_cases q : ir (rA g 70 a1)
    · exact q
    · rw [if_neg q] at hf; cases hf
  rw [if_pos h3] at hf
  by_cases h4 : (rA g 70 a1) < a2
  · rw [if_pos h4] at hf
    refine Rt.path ok_M_stepWith 6 [1] rfl ⟨(ix_41 h1), ⟨⟨h2, h3⟩, h4⟩, trivial⟩ ?_
    have h5 : ir ((rA g 70 a1) + (rI g 49 53)) := by
      by_cases q : ir ((rA g 70 a1) + (rI g 49 53))
      · exact q
      · rw [if_neg q] at hf; cases hf
    rw [if_pos h5] at hf
    by_cases h6 : ((rA g 70 a1) + (rI g 49 53)) < a2
    · rw [if_pos h6] at hf
      refine Rt.path ok_M_stepWith 9 [1] rfl ⟨(ix_41 h1), ⟨⟨h2, h5⟩, h6⟩, trivial⟩ ?_
      have h7 : ir (((rA g 70 a1) + (rI g 49 53)) + (rI g 49 48)) := by
        by_cases q : ir (((rA g 70 a1) + (rI g 49 53)) + (rI g 49 48))
        · exact q
        · rw [if_neg q] at hf; cases hf
      rw [if_pos h7] at hf
      by_cases h8 : (((rA g 70 a1) + (rI g 49 53)) + (rI g 49 48)) < a2
      · rw [if_pos h8] at hf
        refine Rt.path ok_M_stepWith 12 [1] rfl ⟨(ix_41 h1), ⟨⟨h2, h7⟩, h8⟩, trivial⟩ ?_
        obtain ⟨g9, e9, hf⟩ := Option.bind_eq_some_iff.mp hf
        refine Rt.path ok_M_stepWith 4 [] rfl trivial ?_
        refine Rt.callV ok_M_stepWith rfl ml_M_157 [vI _, vI _] cf_M_fail rfl rfl (c_M_fail_50 (d + 3) _ _ _ _ e9) (Nat.le_of_ble_eq_true rfl) ?_
        cases hf
        exact Rt.retV ok_M_stepWith rfl rfl
      · rw [if_neg h8] at hf
        refine Rt.path ok_M_stepWith 12 [0] rfl ⟨(ix_41 h1), ⟨⟨h2, h7⟩, (Int.not_lt.mp h8)⟩, trivial⟩ ?_
        have h10 : ir (rI g 49 51) := by
          by_cases q : ir (rI g 49 51)
          · exact q
          · rw [if_neg q] at hf; cases hf
        rw [if_pos h10] at hf
        by_cases h11 : (rI g 49 51) = 0
        · rw [if_pos h11] at hf
          refine Rt.path ok_M_stepWith 3 [0] rfl ⟨⟨h10, h11⟩, trivial⟩ ?_
          obtain ⟨g12, e12, hf⟩ := Option.bind_eq_some_iff.mp hf
          refine Rt.path ok_M_stepWith 12 [] rfl ⟨(ix_41 h1), trivial⟩ ?_
          refine Rt.callV ok_M_stepWith rfl ml_M_338 [vI _] cf_M_pushTagged rfl rfl (c_M_pushTagged_50 (d + 1) _ _ _ e12) (Nat.le_of_ble_eq_true rfl) ?_
          obtain ⟨g13, e13, hf⟩ := Option.bind_eq_some_iff.mp hf
          refine Rt.path ok_M_stepWith 2 [] rfl trivial ?_
          refine Rt.callV ok_M_stepWith rfl ml_M_287 [vI _] cf_M_tally rfl rfl (c_M_tally_50 (d + 3) _ _ _ e13) (Nat.le_of_ble_eq_true rfl) ?_
          cases hf
          refine Rt.path ok_M_stepWith 1 [] rfl trivial ?_
          exact Rt.retV ok_M_stepWith rfl rfl
        · rw [if_neg h11] at hf
          refine Rt.path ok_M_stepWith 3 [1] rfl ⟨⟨h10, h11⟩, trivial⟩ ?_
          cases hf
          exact Rt.retV ok_M_stepWith rfl rfl
    · rw [if_neg h6] at hf
      refine Rt.path ok_M_stepWith 9 [0] rfl ⟨(ix_41 h1), ⟨⟨h2, h5⟩, (Int.not_lt.mp h6)⟩, trivial⟩ ?_
      have h14 : 0 ≤ ((a2 - (rA g 70 a1)) - 1) ∧ ((a2 - (rA g 70 a1)) - 1) < 20 := by
        by_cases q : 0 ≤ ((a2 - (rA g 70 a1)) - 1) ∧ ((a2 - (rA g 70 a1)) - 1) < 20
        · exact q
        · rw [if_neg q] at hf; cases hf
      rw [if_pos h14] at hf
      obtain ⟨g15, e15, hf⟩ := Option.bind_eq_some_iff.mp hf
      refine Rt.path ok_M_stepWith 13 [] rfl ⟨(ix_41 h1), (ix_20 h14), trivial⟩ ?_
      refine Rt.callV ok_M_stepWith rfl ml_M_308 [vI _, vI _] cf_M_step rfl rfl (c_M_step_50 d _ _ _ _ e15) (Nat.le_of_ble_eq_true rfl) ?_
      cases hf
      refine Rt.path ok_M_stepWith 1 [] rfl trivial ?_
      exact Rt.retV ok_M_stepWith rfl rfl
  · rw [if_neg h4] at hf
    refine Rt.path ok_M_stepWith 6 [0] rfl ⟨(ix_41 h1), ⟨⟨h2, h3⟩, (Int.not_lt.mp h4)⟩, trivial⟩ ?_
    have h16 : 0 ≤ (((40 * a1) + a2) - 1) ∧ (((40 * a1) + a2) - 1) < 1640 := by
      by_cases q : 0 ≤ (((40 * a1) + a2) - 1) ∧ (((40 * a1) + a2) - 1) < 1640
      · exact q
      · rw [if_neg q] at hf; cases hf
    rw [if_pos h16] at hf
    obtain ⟨g17, e17, hf⟩ := Option.bind_eq_some_iff.mp hf
    refine Rt.path ok_M_stepWith 12 [] rfl ⟨(ix_1640 h16), trivial⟩ ?_
    refine Rt.callV ok_M_stepWith rfl ml_M_308 [vI _, vI _] cf_M_step rfl rfl (c_M_step_50 d _ _ _ _ e17) (Nat.le_of_ble_eq_true rfl) ?_
    cases hf
    refine Rt.path ok_M_stepWith 1 [] rfl trivial ?_
    exact Rt.retV ok_M_stepWith rfl rfl
def b_M_readLetter_50_0 (L : Nat → G2 → Option (G2))  (g : G2) : Option (G2) :=
  L 2 (gI (gI g 49 51 1) 49 56 0)
def b_M_readLetter_50_1 (L : Nat → G2 → Option (G2))  (g : G2) : Option (G2) :=
  L 2 (gI g 49 56 0)
def b_M_readLetter_50_2 (L : Nat → G2 → Option (G2))  (g : G2) : Option (G2) :=
  some g
def l_M_readLetter_50 : Nat → Nat → G2 → Option (G2)
  | 0 => fun _ _ => none
  | n + 1 => fun t g => match t with
    | 0 => b_M_readLetter_50_0 (l_M_readLetter_50 n) g
    | 1 => b_M_readLetter_50_1 (l_M_readLetter_50 n) g
    | _ => b_M_readLetter_50_2 (l_M_readLetter_50 n) g
set_option maxHeartbeats 4000000 in
set_option maxRecDepth 100000 in
theorem rl_M_readLetter_50 (d : Nat) : ∀ (n : Nat)  (g : G2) (g' : G2), (l_M_readLetter_50 n 0 g = some g' → Rt (d + 5) m_M_readLetter 23 [some (vR 50), none, none, none] [] g none g') ∧ (l_M_readLetter_50 n 1 g = some g' → Rt (d + 5) m_M_readLetter 88 [some (vR 50), none, none, none] [] g none g') ∧ (l_M_readLetter_50 n 2 g = some g' → Rt (d + 5) m_M_readLetter 205 [none, none, none, none] [] g none g') := by
  intro n
  induction n with
  | zero => intro  g g'; exact ⟨fun hf => (by cases hf), fun hf => (by cases hf), fun hf => (by cases hf)⟩
  | succ n ih =>
    intro  g g'
    refine ⟨?_, ?_, ?_⟩
    · intro hf
      replace hf : b_M_readLetter_50_0 (l_M_readLetter_50 n) g = some g' := hf
      unfold b_M_readLetter_50_0 at hf
      refine Rt.path ok_M_readLetter 7 [] rfl ⟨(show (1 : Int) = 0 ∨ (1 : Int) = 1 by decide), (show (0 : Int) = 0 ∨ (0 : Int) = 1 by decide), trivial⟩ ?_
      exact Rt.weak ((ih _ _).2.2 hf) trivial
    · intro hf
      replace hf : b_M_readLetter_50_1 (l_M_readLetter_50 n) g = some g' := hf
      unfold b_M_readLetter_50_1 at hf
      refine Rt.path ok_M_readLetter 4 [] rfl ⟨(show (0 : Int) = 0 ∨ (0 : Int) = 1 by decide), trivial⟩ ?_
      exact Rt.weak ((ih _ _).2.2 hf) trivial
    · intro hf
      replace hf : b_M_readLetter_50_2 (l_M_readLetter_50 n) g = some g' := hf
      unfold b_M_readLetter_50_2 at hf
      cases hf
      exact Rt.retV ok_M_readLetter rfl rfl
def f_M_readLetter_50 (a1 : Int) (a2 : Int) (g : G2) : Option (G2) :=
  if ir a2 then
  if a2 = 63 then
    if ir (rI g 49 55) then
    if (rI g 49 55) = 0 then
      l_M_readLetter_50 20000 0 g
    else
      (f_M_fail_50 (-8) (rI g 49 5) g).bind fun g5 =>
      l_M_readLetter_50 20000 0 g5
    else none
  else
    if a2 = 90 then
      if ir (rI g 49 56) then
      if (rI g 49 56) = 0 then
        (f_M_fail_50 (-8) (rI g 49 5) g).bind fun g9 =>
        l_M_readLetter_50 20000 1 g9
      else
        if ir (rI g 49 48) then
        if (rI g 49 48) = 16 then
          (f_M_fail_50 (-7) (rI g 49 5) g).bind fun g12 =>
          l_M_readLetter_50 20000 1 g12
        else
          (f_M_tag_50 g).bind fun g13 =>
          l_M_readLetter_50 20000 1 g13
        else none
      else none
    else
      if a2 < 85 then
        if ir ((((20 * (rI g 49 54)) + a2) - 65) + 1) then
        if 9999 < ((((20 * (rI g 49 54)) + a2) - 65) + 1) then
          (f_M_fail_50 (-7) (rI g 49 5) (gI (gI (gI g 49 54 ((((20 * (rI g 49 54)) + a2) - 65) + 1)) 49 55 0) 49 56 1)).bind fun g17 =>
          l_M_readLetter_50 20000 2 g17
        else
          (f_M_stepWith_50 a1 ((((20 * (rI g 49 54)) + a2) - 65) + 1) (gI (gI (gI g 49 54 ((((20 * (rI g 49 54)) + a2) - 65) + 1)) 49 55 0) 49 56 1)).bind fun g18 =>
          l_M_readLetter_50 20000 2 (gI g18 49 54 0)
        else none
      else
        if ir ((((5 * (rI g 49 54)) + a2) - 85) + 1) then
        if 9999 < ((((5 * (rI g 49 54)) + a2) - 85) + 1) then
          (f_M_fail_50 (-7) (rI g 49 5) (gI (gI (gI g 49 54 ((((5 * (rI g 49 54)) + a2) - 85) + 1)) 49 55 1) 49 56 0)).bind fun g21 =>
          l_M_readLetter_50 20000 2 g21
        else
          l_M_readLetter_50 20000 2 (gI (gI (gI g 49 54 ((((5 * (rI g 49 54)) + a2) - 85) + 1)) 49 55 1) 49 56 0)
        else none
  else none
set_option maxHeartbeats 4000000 in
set_option maxRecDepth 100000 in
theorem c_M_readLetter_50 (d : Nat) (a1 : Int) (a2 : Int) (g : G2) (g' : G2) (hf : f_M_readLetter_50 a1 a2 g = some g') : C2 (d + 5) m_M_readLetter [vR 50, vI a1, vI a2] g none g' := by
  unfold f_M_readLetter_50 at hf
  refine C2.of rfl rfl rfl (Nat.le_of_ble_eq_true rfl) ?_
  have h1 : ir a2 := by
    by_cases q : ir a2
    · exact q
    · rw [if_neg q] at hf; cases hf
  rw [if_pos h1] at hf
  by_cases h2 : a2 = 63
  · rw [if_pos h2] at hf
    refine Rt.path ok_M_readLetter 3 [0] rfl ⟨⟨⟨h1, (show ir 63 by decide)⟩, h2⟩, trivial⟩ ?_
    have h3 : ir (rI g 49 55) := by
      by_cases q : ir (rI g 49 55)
      · exact q
      · rw [if_neg q] at hf; cases hf
    rw [if_pos h3] at hf
    by_cases h4 : (rI g 49 55) = 0
    · rw [if_pos h4] at hf
      refine Rt.path ok_M_readLetter 3 [1] rfl ⟨⟨h3, h4⟩, trivial⟩ ?_
      exact Rt.weak ((rl_M_readLetter_50 d _ _ _).1 hf) ⟨rfl, trivial⟩
    · rw [if_neg h4] at hf
      refine Rt.path ok_M_readLetter 3 [0] rfl ⟨⟨h3, h4⟩, trivial⟩ ?_
      obtain ⟨g5, e5, hf⟩ := Option.bind_eq_some_iff.mp hf
      refine Rt.path ok_M_readLetter 4 [] rfl trivial ?_
      refine Rt.callV ok_M_readLetter rfl ml_M_157 [vI _, vI _] cf_M_fail rfl rfl (c_M_fail_50 (d + 4) _ _ _ _ e5) (Nat.le_of_ble_eq_true rfl) ?_
      exact Rt.weak ((rl_M_readLetter_50 d _ _ _).1 hf) ⟨rfl, trivial⟩
  · rw [if_neg h2] at hf
    refine Rt.path ok_M_readLetter 3 [1] rfl ⟨⟨⟨h1, (show ir 63 by decide)⟩, h2⟩, trivial⟩ ?_
    by_cases h6 : a2 = 90
    · rw [if_pos h6] at hf
      refine Rt.path ok_M_readLetter 3 [0] rfl ⟨⟨⟨h1, (show ir 90 by decide)⟩, h6⟩, trivial⟩ ?_
      have h7 : ir (rI g 49 56) := by
        by_cases q : ir (rI g 49 56)
        · exact q
        · rw [if_neg q] at hf; cases hf
      rw [if_pos h7] at hf
      by_cases h8 : (rI g 49 56) = 0
      · rw [if_pos h8] at hf
        refine Rt.path ok_M_readLetter 3 [0] rfl ⟨⟨h7, h8⟩, trivial⟩ ?_
        obtain ⟨g9, e9, hf⟩ := Option.bind_eq_some_iff.mp hf
        refine Rt.path ok_M_readLetter 4 [] rfl trivial ?_
        refine Rt.callV ok_M_readLetter rfl ml_M_157 [vI _, vI _] cf_M_fail rfl rfl (c_M_fail_50 (d + 4) _ _ _ _ e9) (Nat.le_of_ble_eq_true rfl) ?_
        refine Rt.path ok_M_readLetter 1 [] rfl trivial ?_
        exact Rt.weak ((rl_M_readLetter_50 d _ _ _).2.1 hf) ⟨rfl, trivial⟩
      · rw [if_neg h8] at hf
        refine Rt.path ok_M_readLetter 3 [1] rfl ⟨⟨h7, h8⟩, trivial⟩ ?_
        have h10 : ir (rI g 49 48) := by
          by_cases q : ir (rI g 49 48)
          · exact q
          · rw [if_neg q] at hf; cases hf
        rw [if_pos h10] at hf
        by_cases h11 : (rI g 49 48) = 16
        · rw [if_pos h11] at hf
          refine Rt.path ok_M_readLetter 4 [0] rfl ⟨⟨⟨h10, (show ir 16 by decide)⟩, h11⟩, trivial⟩ ?_
          obtain ⟨g12, e12, hf⟩ := Option.bind_eq_some_iff.mp hf
          refine Rt.path ok_M_readLetter 4 [] rfl trivial ?_
          refine Rt.callV ok_M_readLetter rfl ml_M_157 [vI _, vI _] cf_M_fail rfl rfl (c_M_fail_50 (d + 4) _ _ _ _ e12) (Nat.le_of_ble_eq_true rfl) ?_
          refine Rt.path ok_M_readLetter 1 [] rfl trivial ?_
          exact Rt.weak ((rl_M_readLetter_50 d _ _ _).2.1 hf) ⟨rfl, trivial⟩
        · rw [if_neg h11] at hf
          refine Rt.path ok_M_readLetter 4 [1] rfl ⟨⟨⟨h10, (show ir 16 by decide)⟩, h11⟩, trivial⟩ ?_
          obtain ⟨g13, e13, hf⟩ := Option.bind_eq_some_iff.mp hf
          refine Rt.path ok_M_readLetter 1 [] rfl trivial ?_
          refine Rt.callV ok_M_readLetter rfl ml_M_332 [] cf_M_tag rfl rfl (c_M_tag_50 (d + 4) _ _ e13) (Nat.le_of_ble_eq_true rfl) ?_
          exact Rt.weak ((rl_M_readLetter_50 d _ _ _).2.1 hf) ⟨rfl, trivial⟩
    · rw [if_neg h6] at hf
      refine Rt.path ok_M_readLetter 3 [1] rfl ⟨⟨⟨h1, (show ir 90 by decide)⟩, h6⟩, trivial⟩ ?_
      by_cases h14 : a2 < 85
      · rw [if_pos h14] at hf
        refine Rt.path ok_M_readLetter 3 [1] rfl ⟨⟨⟨h1, (show ir 85 by decide)⟩, h14⟩, trivial⟩ ?_
        have h15 : ir ((((20 * (rI g 49 54)) + a2) - 65) + 1) := by
          by_cases q : ir ((((20 * (rI g 49 54)) + a2) - 65) + 1)
          · exact q
          · rw [if_neg q] at hf; cases hf
        rw [if_pos h15] at hf
        by_cases h16 : 9999 < ((((20 * (rI g 49 54)) + a2) - 65) + 1)
        · rw [if_pos h16] at hf
          refine Rt.path ok_M_readLetter 29 [1, 0, 0] rfl ⟨⟨(show ir 0 by decide), (show (0 : Int) = (0 : Int) by decide)⟩, (show (0 : Int) = 0 ∨ (0 : Int) = 1 by decide), ⟨(show ir 0 by decide), (show (0 : Int) = (0 : Int) by decide)⟩, (show (1 : Int) = 0 ∨ (1 : Int) = 1 by decide), ⟨⟨h15, (show ir 9999 by decide)⟩, h16⟩, trivial⟩ ?_
          obtain ⟨g17, e17, hf⟩ := Option.bind_eq_some_iff.mp hf
          refine Rt.path ok_M_readLetter 4 [] rfl trivial ?_
          refine Rt.callV ok_M_readLetter rfl ml_M_157 [vI _, vI _] cf_M_fail rfl rfl (c_M_fail_50 (d + 4) _ _ _ _ e17) (Nat.le_of_ble_eq_true rfl) ?_
          refine Rt.path ok_M_readLetter 1 [] rfl trivial ?_
          exact Rt.weak ((rl_M_readLetter_50 d _ _ _).2.2 hf) trivial
        · rw [if_neg h16] at hf
          refine Rt.path ok_M_readLetter 29 [1, 0, 1] rfl ⟨⟨(show ir 0 by decide), (show (0 : Int) = (0 : Int) by decide)⟩, (show (0 : Int) = 0 ∨ (0 : Int) = 1 by decide), ⟨(show ir 0 by decide), (show (0 : Int) = (0 : Int) by decide)⟩, (show (1 : Int) = 0 ∨ (1 : Int) = 1 by decide), ⟨⟨h15, (show ir 9999 by decide)⟩, (Int.not_lt.mp h16)⟩, trivial⟩ ?_
          obtain ⟨g18, e18, hf⟩ := Option.bind_eq_some_iff.mp hf
          refine Rt.path ok_M_readLetter 6 [0] rfl ⟨⟨(show ir 0 by decide), (show (0 : Int) = (0 : Int) by decide)⟩, trivial⟩ ?_
          refine Rt.callV ok_M_readLetter rfl ml_M_335 [vI _, vI _] cf_M_stepWith rfl rfl (c_M_stepWith_50 d _ _ _ _ e18) (Nat.le_of_ble_eq_true rfl) ?_
          refine Rt.path ok_M_readLetter 3 [] rfl trivial ?_
          exact Rt.weak ((rl_M_readLetter_50 d _ _ _).2.2 hf) trivial
      · rw [if_neg h14] at hf
        refine Rt.path ok_M_readLetter 3 [0] rfl ⟨⟨⟨h1, (show ir 85 by decide)⟩, (Int.not_lt.mp h14)⟩, trivial⟩ ?_
        have h19 : ir ((((5 * (rI g 49 54)) + a2) - 85) + 1) := by
          by_cases q : ir ((((5 * (rI g 49 54)) + a2) - 85) + 1)
          · exact q
          · rw [if_neg q] at hf; cases hf
        rw [if_pos h19] at hf
        by_cases h20 : 9999 < ((((5 * (rI g 49 54)) + a2) - 85) + 1)
        · rw [if_pos h20] at hf
          refine Rt.path ok_M_readLetter 30 [0, 1, 0] rfl ⟨⟨(show ir 1 by decide), (show ¬ (1 : Int) = (0 : Int) by decide)⟩, (show (1 : Int) = 0 ∨ (1 : Int) = 1 by decide), ⟨(show ir 1 by decide), (show ¬ (1 : Int) = (0 : Int) by decide)⟩, (show (0 : Int) = 0 ∨ (0 : Int) = 1 by decide), ⟨⟨h19, (show ir 9999 by decide)⟩, h20⟩, trivial⟩ ?_
          obtain ⟨g21, e21, hf⟩ := Option.bind_eq_some_iff.mp hf
          refine Rt.path ok_M_readLetter 4 [] rfl trivial ?_
          refine Rt.callV ok_M_readLetter rfl ml_M_157 [vI _, vI _] cf_M_fail rfl rfl (c_M_fail_50 (d + 4) _ _ _ _ e21) (Nat.le_of_ble_eq_true rfl) ?_
          refine Rt.path ok_M_readLetter 1 [] rfl trivial ?_
          exact Rt.weak ((rl_M_readLetter_50 d _ _ _).2.2 hf) trivial
        · rw [if_neg h20] at hf
          refine Rt.path ok_M_readLetter 30 [0, 1, 1] rfl ⟨⟨(show ir 1 by decide), (show ¬ (1 : Int) = (0 : Int) by decide)⟩, (show (1 : Int) = 0 ∨ (1 : Int) = 1 by decide), ⟨(show ir 1 by decide), (show ¬ (1 : Int) = (0 : Int) by decide)⟩, (show (0 : Int) = 0 ∨ (0 : Int) = 1 by decide), ⟨⟨h19, (show ir 9999 by decide)⟩, (Int.not_lt.mp h20)⟩, trivial⟩ ?_
          refine Rt.path ok_M_readLetter 2 [1] rfl ⟨⟨(show ir 1 by decide), (show ¬ (1 : Int) = (0 : Int) by decide)⟩, trivial⟩ ?_
          exact Rt.weak ((rl_M_readLetter_50 d _ _ _).2.2 hf) trivial
