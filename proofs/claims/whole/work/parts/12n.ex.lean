def b_M_readVariables_50_0 (L : Nat → Int → Int → Int → G2 → Option (G2)) (i1 : Int) (i2 : Int) (i3 : Int) (g : G2) : Option (G2) :=
  if ir (rI g 49 6) then
  if (rI g 49 6) = 0 then
    bd (f_M_need_50 g) fun r3 g3 =>
    if ir r3 then
    if r3 = 9 then
      if ir i1 then
      if 0 < i1 then
        some (gI g3 49 5 ((rI g3 49 5) + 1))
      else
        L 1 i1 r3 0 g3
      else none
    else
      L 1 i1 r3 0 g3
    else none
  else
    some g
  else none
def b_M_readVariables_50_1 (L : Nat → Int → Int → Int → G2 → Option (G2)) (i1 : Int) (i2 : Int) (i3 : Int) (g : G2) : Option (G2) :=
  if ir i2 then
  if i2 = 0 then
    bd (f_M_findWord_50 g) fun r10 g10 =>
    if ir r10 then
    if r10 < 0 then
      L 3 i1 0 r10 g10
    else
      if 0 ≤ r10 ∧ r10 < 60 then
      if ir (rA g10 54 r10) then
      if (rA g10 54 r10) = 2 then
        if ir (rA g10 55 r10) then
        if (rA g10 55 r10) = 0 then
          L 3 i1 0 r10 g10
        else
          L 2 i1 0 0 g10
        else none
      else
        L 2 i1 0 0 g10
      else none
      else none
    else none
  else
    (f_M_fail_50 (-3) (rI g 49 5) g).bind fun g18 =>
    some g18
  else none
def b_M_readVariables_50_2 (L : Nat → Int → Int → Int → G2 → Option (G2)) (i1 : Int) (i2 : Int) (i3 : Int) (g : G2) : Option (G2) :=
  (f_M_fail_50 (-4) (rI g 49 5) g).bind fun g24 =>
  L 5 i1 0 0 g24
def b_M_readVariables_50_3 (L : Nat → Int → Int → Int → G2 → Option (G2)) (i1 : Int) (i2 : Int) (i3 : Int) (g : G2) : Option (G2) :=
  if ir i3 then
  if i3 < 0 then
    if ir (rI g 49 8) then
    if (rI g 49 8) = 60 then
      (f_M_fail_50 (-7) (rI g 49 5) g).bind fun g23 =>
      L 5 i1 0 0 g23
    else
      L 4 i1 0 i3 g
    else none
  else
    L 4 i1 0 i3 g
  else none
def b_M_readVariables_50_4 (L : Nat → Int → Int → Int → G2 → Option (G2)) (i1 : Int) (i2 : Int) (i3 : Int) (g : G2) : Option (G2) :=
  if ir i3 then
  if i3 < 0 then
    bd (f_M_codeOf_50 (rI g 49 5) g) fun r27 g27 =>
    bd (f_M_addName_50 r27 g27) fun r28 g28 =>
    if 0 ≤ r28 ∧ r28 < 60 then
    L 5 i1 0 0 (gA (gA (gA g28 54 r28 2) 55 r28 1) 56 r28 (rI g28 49 14))
    else none
  else
    if 0 ≤ i3 ∧ i3 < 60 then
    L 5 i1 0 0 (gA (gA (gA g 54 i3 2) 55 i3 1) 56 i3 (rI g 49 14))
    else none
  else none
def b_M_readVariables_50_5 (L : Nat → Int → Int → Int → G2 → Option (G2)) (i1 : Int) (i2 : Int) (i3 : Int) (g : G2) : Option (G2) :=
  L 0 (i1 + 1) 0 0 (gI g 49 5 ((rI g 49 5) + 1))
def l_M_readVariables_50 : Nat → Nat → Int → Int → Int → G2 → Option (G2)
  | 0 => fun _ _ _ _ _ => none
  | n + 1 => fun t i1 i2 i3 g => match t with
    | 0 => b_M_readVariables_50_0 (l_M_readVariables_50 n) i1 i2 i3 g
    | 1 => b_M_readVariables_50_1 (l_M_readVariables_50 n) i1 i2 i3 g
    | 2 => b_M_readVariables_50_2 (l_M_readVariables_50 n) i1 i2 i3 g
    | 3 => b_M_readVariables_50_3 (l_M_readVariables_50 n) i1 i2 i3 g
    | 4 => b_M_readVariables_50_4 (l_M_readVariables_50 n) i1 i2 i3 g
    | _ => b_M_readVariables_50_5 (l_M_readVariables_50 n) i1 i2 i3 g
set_option maxHeartbeats 4000000 in
set_option maxRecDepth 100000 in
theorem rl_M_readVariables_50 (d : Nat) : ∀ (n : Nat) (i1 : Int) (i2 : Int) (i3 : Int) (g : G2) (g' : G2), (l_M_readVariables_50 n 0 i1 i2 i3 g = some g' → Rt (d + 4) m_M_readVariables 12 [some (vR 50), some (vI i1), none, none] [] g none g') ∧ (l_M_readVariables_50 n 1 i1 i2 i3 g = some g' → Rt (d + 4) m_M_readVariables 45 [some (vR 50), some (vI i1), some (vI i2), none] [] g none g') ∧ (l_M_readVariables_50 n 2 i1 i2 i3 g = some g' → Rt (d + 4) m_M_readVariables 88 [some (vR 50), some (vI i1), none, none] [] g none g') ∧ (l_M_readVariables_50 n 3 i1 i2 i3 g = some g' → Rt (d + 4) m_M_readVariables 101 [some (vR 50), some (vI i1), none, some (vI i3)] [] g none g') ∧ (l_M_readVariables_50 n 4 i1 i2 i3 g = some g' → Rt (d + 4) m_M_readVariables 127 [some (vR 50), some (vI i1), none, some (vI i3)] [] g none g') ∧ (l_M_readVariables_50 n 5 i1 i2 i3 g = some g' → Rt (d + 4) m_M_readVariables 172 [some (vR 50), some (vI i1), none, none] [] g none g') := by
  intro n
  induction n with
  | zero => intro i1 i2 i3 g g'; exact ⟨fun hf => (by cases hf), fun hf => (by cases hf), fun hf => (by cases hf), fun hf => (by cases hf), fun hf => (by cases hf), fun hf => (by cases hf)⟩
  | succ n ih =>
    intro i1 i2 i3 g g'
    refine ⟨?_, ?_, ?_, ?_, ?_, ?_⟩
    · intro hf
      replace hf : b_M_readVariables_50_0 (l_M_readVariables_50 n) i1 i2 i3 g = some g' := hf
      unfold b_M_readVariables_50_0 at hf
      have h1 : ir (rI g 49 6) := by
        by_cases q : ir (rI g 49 6)
        · exact q
        · rw [if_neg q] at hf; cases hf
      rw [if_pos h1] at hf
      by_cases h2 : (rI g 49 6) = 0
      · rw [if_pos h2] at hf
        refine Rt.path ok_M_readVariables 3 [0] rfl ⟨⟨h1, h2⟩, trivial⟩ ?_
        obtain ⟨r3, g3, e3, hf⟩ := bd_inv hf
        refine Rt.path ok_M_readVariables 1 [] rfl trivial ?_
        refine Rt.callV ok_M_readVariables rfl ml_M_169 [] cf_M_need rfl rfl (c_M_need_50 d _ _ _ e3) (Nat.le_of_ble_eq_true rfl) ?_
        have h4 : ir r3 := by
          by_cases q : ir r3
          · exact q
          · rw [if_neg q] at hf; cases hf
        rw [if_pos h4] at hf
        by_cases h5 : r3 = 9
        · rw [if_pos h5] at hf
          refine Rt.path ok_M_readVariables 4 [0] rfl ⟨⟨⟨h4, (show ir 9 by decide)⟩, h5⟩, trivial⟩ ?_
          have h6 : ir i1 := by
            by_cases q : ir i1
            · exact q
            · rw [if_neg q] at hf; cases hf
          rw [if_pos h6] at hf
          by_cases h7 : 0 < i1
          · rw [if_pos h7] at hf
            refine Rt.path ok_M_readVariables 2 [0] rfl ⟨⟨h6, h7⟩, trivial⟩ ?_
            cases hf
            refine Rt.path ok_M_readVariables 6 [] rfl trivial ?_
            exact Rt.retV ok_M_readVariables rfl rfl
          · rw [if_neg h7] at hf
            refine Rt.path ok_M_readVariables 2 [1] rfl ⟨⟨h6, (Int.not_lt.mp h7)⟩, trivial⟩ ?_
            exact Rt.weak ((ih _ _ _ _ _).2.1 hf) ⟨rfl, rfl, rfl, trivial⟩
        · rw [if_neg h5] at hf
          refine Rt.path ok_M_readVariables 4 [1] rfl ⟨⟨⟨h4, (show ir 9 by decide)⟩, h5⟩, trivial⟩ ?_
          exact Rt.weak ((ih _ _ _ _ _).2.1 hf) ⟨rfl, rfl, rfl, trivial⟩
      · rw [if_neg h2] at hf
        refine Rt.path ok_M_readVariables 3 [1] rfl ⟨⟨h1, h2⟩, trivial⟩ ?_
        cases hf
        exact Rt.retV ok_M_readVariables rfl rfl
    · intro hf
      replace hf : b_M_readVariables_50_1 (l_M_readVariables_50 n) i1 i2 i3 g = some g' := hf
      unfold b_M_readVariables_50_1 at hf
      have h8 : ir i2 := by
        by_cases q : ir i2
        · exact q
        · rw [if_neg q] at hf; cases hf
      rw [if_pos h8] at hf
      by_cases h9 : i2 = 0
      · rw [if_pos h9] at hf
        refine Rt.path ok_M_readVariables 2 [1] rfl ⟨⟨h8, h9⟩, trivial⟩ ?_
        obtain ⟨r10, g10, e10, hf⟩ := bd_inv hf
        refine Rt.path ok_M_readVariables 1 [] rfl trivial ?_
        refine Rt.callV ok_M_readVariables rfl ml_M_190 [] cf_M_findWord rfl rfl (c_M_findWord_50 (d + 1) _ _ _ e10) (Nat.le_of_ble_eq_true rfl) ?_
        have h11 : ir r10 := by
          by_cases q : ir r10
          · exact q
          · rw [if_neg q] at hf; cases hf
        rw [if_pos h11] at hf
        by_cases h12 : r10 < 0
        · rw [if_pos h12] at hf
          refine Rt.path ok_M_readVariables 3 [1] rfl ⟨⟨h11, h12⟩, trivial⟩ ?_
          exact Rt.weak ((ih _ _ _ _ _).2.2.2.1 hf) ⟨rfl, rfl, rfl, trivial⟩
        · rw [if_neg h12] at hf
          refine Rt.path ok_M_readVariables 3 [0] rfl ⟨⟨h11, (Int.not_lt.mp h12)⟩, trivial⟩ ?_
          have h13 : 0 ≤ r10 ∧ r10 < 60 := by
            by_cases q : 0 ≤ r10 ∧ r10 < 60
            · exact q
            · rw [if_neg q] at hf; cases hf
          rw [if_pos h13] at hf
          have h14 : ir (rA g10 54 r10) := by
            by_cases q : ir (rA g10 54 r10)
            · exact q
            · rw [if_neg q] at hf; cases hf
          rw [if_pos h14] at hf
          by_cases h15 : (rA g10 54 r10) = 2
          · rw [if_pos h15] at hf
            refine Rt.path ok_M_readVariables 6 [0] rfl ⟨(ix_60 h13), ⟨⟨h14, (show ir 2 by decide)⟩, h15⟩, trivial⟩ ?_
            have h16 : ir (rA g10 55 r10) := by
              by_cases q : ir (rA g10 55 r10)
              · exact q
              · rw [if_neg q] at hf; cases hf
            rw [if_pos h16] at hf
            by_cases h17 : (rA g10 55 r10) = 0
            · rw [if_pos h17] at hf
              refine Rt.path ok_M_readVariables 5 [1] rfl ⟨(ix_60 h13), ⟨h16, h17⟩, trivial⟩ ?_
              exact Rt.weak ((ih _ _ _ _ _).2.2.2.1 hf) ⟨rfl, rfl, rfl, trivial⟩
            · rw [if_neg h17] at hf
              refine Rt.path ok_M_readVariables 5 [0] rfl ⟨(ix_60 h13), ⟨h16, h17⟩, trivial⟩ ?_
              exact Rt.weak ((ih _ _ _ _ _).2.2.1 hf) ⟨rfl, rfl, trivial⟩
          · rw [if_neg h15] at hf
            refine Rt.path ok_M_readVariables 6 [1] rfl ⟨(ix_60 h13), ⟨⟨h14, (show ir 2 by decide)⟩, h15⟩, trivial⟩ ?_
            exact Rt.weak ((ih _ _ _ _ _).2.2.1 hf) ⟨rfl, rfl, trivial⟩
      · rw [if_neg h9] at hf
        refine Rt.path ok_M_readVariables 2 [0] rfl ⟨⟨h8, h9⟩, trivial⟩ ?_
        obtain ⟨g18, e18, hf⟩ := Option.bind_eq_some_iff.mp hf
        refine Rt.path ok_M_readVariables 4 [] rfl trivial ?_
        refine Rt.callV ok_M_readVariables rfl ml_M_157 [vI _, vI _] cf_M_fail rfl rfl (c_M_fail_50 (d + 3) _ _ _ _ e18) (Nat.le_of_ble_eq_true rfl) ?_
        cases hf
        exact Rt.retV ok_M_readVariables rfl rfl
    · intro hf
      replace hf : b_M_readVariables_50_2 (l_M_readVariables_50 n) i1 i2 i3 g = some g' := hf
      unfold b_M_readVariables_50_2 at hf
      obtain ⟨g24, e24, hf⟩ := Option.bind_eq_some_iff.mp hf
      refine Rt.path ok_M_readVariables 4 [] rfl trivial ?_
      refine Rt.callV ok_M_readVariables rfl ml_M_157 [vI _, vI _] cf_M_fail rfl rfl (c_M_fail_50 (d + 3) _ _ _ _ e24) (Nat.le_of_ble_eq_true rfl) ?_
      refine Rt.path ok_M_readVariables 1 [] rfl trivial ?_
      exact Rt.weak ((ih _ _ _ _ _).2.2.2.2.2 hf) ⟨rfl, rfl, trivial⟩
    · intro hf
      replace hf : b_M_readVariables_50_3 (l_M_readVariables_50 n) i1 i2 i3 g = some g' := hf
      unfold b_M_readVariables_50_3 at hf
      have h19 : ir i3 := by
        by_cases q : ir i3
        · exact q
        · rw [if_neg q] at hf; cases hf
      rw [if_pos h19] at hf
      by_cases h20 : i3 < 0
      · rw [if_pos h20] at hf
        refine Rt.path ok_M_readVariables 2 [0] rfl ⟨⟨h19, h20⟩, trivial⟩ ?_
        have h21 : ir (rI g 49 8) := by
          by_cases q : ir (rI g 49 8)
          · exact q
          · rw [if_neg q] at hf; cases hf
        rw [if_pos h21] at hf
        by_cases h22 : (rI g 49 8) = 60
        · rw [if_pos h22] at hf
          refine Rt.path ok_M_readVariables 4 [0] rfl ⟨⟨⟨h21, (show ir 60 by decide)⟩, h22⟩, trivial⟩ ?_
          obtain ⟨g23, e23, hf⟩ := Option.bind_eq_some_iff.mp hf
          refine Rt.path ok_M_readVariables 4 [] rfl trivial ?_
          refine Rt.callV ok_M_readVariables rfl ml_M_157 [vI _, vI _] cf_M_fail rfl rfl (c_M_fail_50 (d + 3) _ _ _ _ e23) (Nat.le_of_ble_eq_true rfl) ?_
          refine Rt.path ok_M_readVariables 1 [] rfl trivial ?_
          exact Rt.weak ((ih _ _ _ _ _).2.2.2.2.2 hf) ⟨rfl, rfl, trivial⟩
        · rw [if_neg h22] at hf
          refine Rt.path ok_M_readVariables 4 [1] rfl ⟨⟨⟨h21, (show ir 60 by decide)⟩, h22⟩, trivial⟩ ?_
          exact Rt.weak ((ih _ _ _ _ _).2.2.2.2.1 hf) ⟨rfl, rfl, rfl, trivial⟩
      · rw [if_neg h20] at hf
        refine Rt.path ok_M_readVariables 2 [1] rfl ⟨⟨h19, (Int.not_lt.mp h20)⟩, trivial⟩ ?_
        exact Rt.weak ((ih _ _ _ _ _).2.2.2.2.1 hf) ⟨rfl, rfl, rfl, trivial⟩
    · intro hf
      replace hf : b_M_readVariables_50_4 (l_M_readVariables_50 n) i1 i2 i3 g = some g' := hf
      unfold b_M_readVariables_50_4 at hf
      have h25 : ir i3 := by
        by_cases q : ir i3
        · exact q
        · rw [if_neg q] at hf; cases hf
      rw [if_pos h25] at hf
      by_cases h26 : i3 < 0
      · rw [if_pos h26] at hf
        refine Rt.path ok_M_readVariables 2 [0] rfl ⟨⟨h25, h26⟩, trivial⟩ ?_
        obtain ⟨r27, g27, e27, hf⟩ := bd_inv hf
        refine Rt.path ok_M_readVariables 4 [] rfl trivial ?_
        refine Rt.callV ok_M_readVariables rfl ml_M_176 [vI _] cf_M_codeOf rfl rfl (c_M_codeOf_50 (d + 2) _ _ _ _ e27) (Nat.le_of_ble_eq_true rfl) ?_
        obtain ⟨r28, g28, e28, hf⟩ := bd_inv hf
        refine Rt.callV ok_M_readVariables rfl ml_M_193 [vL _] cf_M_addName rfl rfl (c_M_addName_50 (d + 3) _ _ _ _ e28) (Nat.le_of_ble_eq_true rfl) ?_
        have h29 : 0 ≤ r28 ∧ r28 < 60 := by
          by_cases q : 0 ≤ r28 ∧ r28 < 60
          · exact q
          · rw [if_neg q] at hf; cases hf
        rw [if_pos h29] at hf
        refine Rt.path ok_M_readVariables 18 [] rfl ⟨(ix_60 h29), ⟨(ix_60 h29), (show (1 : Int) = 0 ∨ (1 : Int) = 1 by decide)⟩, (ix_60 h29), trivial⟩ ?_
        exact Rt.weak ((ih _ _ _ _ _).2.2.2.2.2 hf) ⟨rfl, rfl, trivial⟩
      · rw [if_neg h26] at hf
        refine Rt.path ok_M_readVariables 2 [1] rfl ⟨⟨h25, (Int.not_lt.mp h26)⟩, trivial⟩ ?_
        have h30 : 0 ≤ i3 ∧ i3 < 60 := by
          by_cases q : 0 ≤ i3 ∧ i3 < 60
          · exact q
          · rw [if_neg q] at hf; cases hf
        rw [if_pos h30] at hf
        refine Rt.path ok_M_readVariables 18 [] rfl ⟨(ix_60 h30), ⟨(ix_60 h30), (show (1 : Int) = 0 ∨ (1 : Int) = 1 by decide)⟩, (ix_60 h30), trivial⟩ ?_
        exact Rt.weak ((ih _ _ _ _ _).2.2.2.2.2 hf) ⟨rfl, rfl, trivial⟩
    · intro hf
      replace hf : b_M_readVariables_50_5 (l_M_readVariables_50 n) i1 i2 i3 g = some g' := hf
      unfold b_M_readVariables_50_5 at hf
      refine Rt.path ok_M_readVariables 8 [] rfl trivial ?_
      exact Rt.weak ((ih _ _ _ _ _).1 hf) ⟨rfl, rfl, trivial⟩
def f_M_readVariables_50  (g : G2) : Option (G2) :=
  l_M_readVariables_50 20000 0 0 0 0 (gI g 49 5 ((rI g 49 5) + 1))
set_option maxHeartbeats 4000000 in
set_option maxRecDepth 100000 in
theorem c_M_readVariables_50 (d : Nat)  (g : G2) (g' : G2) (hf : f_M_readVariables_50 g = some g') : C2 (d + 4) m_M_readVariables [vR 50] g none g' := by
  unfold f_M_readVariables_50 at hf
  refine C2.of rfl rfl rfl (Nat.le_of_ble_eq_true rfl) ?_
  refine Rt.path ok_M_readVariables 8 [] rfl trivial ?_
  exact Rt.weak ((rl_M_readVariables_50 d _ _ _ _ _ _).1 hf) ⟨rfl, rfl, trivial⟩
def b_M_stoodBefore_50_0 (L : Nat → Int → Int → Int → G2 → Option (Int × G2)) (i1 : Int) (i2 : Int) (i3 : Int) (g : G2) : Option (Int × G2) :=
  if ir i3 then
  if ir i2 then
  if i3 < i2 then
    if 0 ≤ i3 ∧ i3 < 60 then
    if ir (rA g 81 i3) then
    if ir i1 then
    if (rA g 81 i3) = i1 then
      some (1, g)
    else
      L 0 i1 i2 (i3 + 1) g
    else none
    else none
    else none
  else
    some (0, g)
  else none
  else none
def l_M_stoodBefore_50 : Nat → Nat → Int → Int → Int → G2 → Option (Int × G2)
  | 0 => fun _ _ _ _ _ => none
  | n + 1 => fun t i1 i2 i3 g => match t with
    | _ => b_M_stoodBefore_50_0 (l_M_stoodBefore_50 n) i1 i2 i3 g
set_option maxHeartbeats 4000000 in
set_option maxRecDepth 100000 in
theorem rl_M_stoodBefore_50 (d : Nat) : ∀ (n : Nat) (i1 : Int) (i2 : Int) (i3 : Int) (g : G2) (r : Int) (g' : G2), (l_M_stoodBefore_50 n 0 i1 i2 i3 g = some (r, g') → Rt d m_M_stoodBefore 2 [some (vR 50), some (vI i1), some (vI i2), some (vI i3)] [] g (some (vI r)) g') := by
  intro n
  induction n with
  | zero => intro i1 i2 i3 g r g'; exact fun hf => by cases hf
  | succ n ih =>
    intro i1 i2 i3 g r g'
    intro hf
    replace hf : b_M_stoodBefore_50_0 (l_M_stoodBefore_50 n) i1 i2 i3 g = some (r, g') := hf
    unfold b_M_stoodBefore_50_0 at hf
    have h1 : ir i3 := by
      by_cases q : ir i3
      · exact q
      · rw [if_neg q] at hf; cases hf
    rw [if_pos h1] at hf
    have h2 : ir i2 := by
      by_cases q : ir i2
      · exact q
      · rw [if_neg q] at hf; cases hf
    rw [if_pos h2] at hf
    by_cases h3 : i3 < i2
    · rw [if_pos h3] at hf
      refine Rt.path ok_M_stoodBefore 3 [0] rfl ⟨⟨⟨h1, h2⟩, h3⟩, trivial⟩ ?_
      have h4 : 0 ≤ i3 ∧ i3 < 60 := by
        by_cases q : 0 ≤ i3 ∧ i3 < 60
        · exact q
        · rw [if_neg q] at hf; cases hf
      rw [if_pos h4] at hf
      have h5 : ir (rA g 81 i3) := by
        by_cases q : ir (rA g 81 i3)
        · exact q
        · rw [if_neg q] at hf; cases hf
      rw [if_pos h5] at hf
      have h6 : ir i1 := by
        by_cases q : ir i1
        · exact q
        · rw [if_neg q] at hf; cases hf
      rw [if_pos h6] at hf
      by_cases h7 : (rA g 81 i3) = i1
      · rw [if_pos h7] at hf
        refine Rt.path ok_M_stoodBefore 6 [0] rfl ⟨(ix_60 h4), ⟨⟨h5, h6⟩, h7⟩, trivial⟩ ?_
        cases hf
        refine Rt.path ok_M_stoodBefore 1 [] rfl trivial ?_
        exact Rt.retZ ok_M_stoodBefore (show (1 : Int) = 0 ∨ (1 : Int) = 1 by decide) rfl rfl
      · rw [if_neg h7] at hf
        refine Rt.path ok_M_stoodBefore 6 [1] rfl ⟨(ix_60 h4), ⟨⟨h5, h6⟩, h7⟩, trivial⟩ ?_
        refine Rt.path ok_M_stoodBefore 2 [] rfl trivial ?_
        exact Rt.weak ((ih _ _ _ _ _ _) hf) ⟨rfl, rfl, rfl, rfl, trivial⟩
    · rw [if_neg h3] at hf
      refine Rt.path ok_M_stoodBefore 3 [1] rfl ⟨⟨⟨h1, h2⟩, (Int.not_lt.mp h3)⟩, trivial⟩ ?_
      cases hf
      refine Rt.path ok_M_stoodBefore 1 [] rfl trivial ?_
      exact Rt.retZ ok_M_stoodBefore (show (0 : Int) = 0 ∨ (0 : Int) = 1 by decide) rfl rfl
def f_M_stoodBefore_50 (a1 : Int) (a2 : Int) (g : G2) : Option (Int × G2) :=
  l_M_stoodBefore_50 20000 0 a1 a2 0 g
set_option maxHeartbeats 4000000 in
set_option maxRecDepth 100000 in
theorem c_M_stoodBefore_50 (d : Nat) (a1 : Int) (a2 : Int) (g : G2) (r : Int) (g' : G2) (hf : f_M_stoodBefore_50 a1 a2 g = some (r, g')) : C2 d m_M_stoodBefore [vR 50, vI a1, vI a2] g (some (vI r)) g' := by
  unfold f_M_stoodBefore_50 at hf
  refine C2.of rfl rfl rfl (Nat.le_of_ble_eq_true rfl) ?_
  refine Rt.path ok_M_stoodBefore 2 [] rfl trivial ?_
  exact Rt.weak ((rl_M_stoodBefore_50 d _ _ _ _ _ _ _) hf) ⟨rfl, rfl, rfl, rfl, trivial⟩
def b_M_readApart_50_0 (L : Nat → Int → Int → Int → Int → G2 → Option (G2)) (i1 : Int) (i2 : Int) (i3 : Int) (i4 : Int) (g : G2) : Option (G2) :=
  if ir (rI g 49 6) then
  if (rI g 49 6) = 0 then
    bd (f_M_need_50 g) fun r3 g3 =>
    if ir r3 then
    if r3 = 9 then
      if ir i1 then
      if 1 < i1 then
        some (gI g3 49 5 ((rI g3 49 5) + 1))
      else
        L 1 i1 r3 0 0 g3
      else none
    else
      L 1 i1 r3 0 0 g3
    else none
  else
    some g
  else none
def b_M_readApart_50_1 (L : Nat → Int → Int → Int → Int → G2 → Option (G2)) (i1 : Int) (i2 : Int) (i3 : Int) (i4 : Int) (g : G2) : Option (G2) :=
  if ir i2 then
  if i2 = 0 then
    bd (f_M_findWord_50 g) fun r10 g10 =>
    bd (f_M_isConstant_50 r10 g10) fun r11 g11 =>
    if ir r11 then
    if r11 = 0 then
      bd (f_M_isLive_50 r10 g11) fun r14 g14 =>
      if ir r14 then
      if r14 = 0 then
        (f_M_fail_50 (-4) (rI g14 49 5) g14).bind fun g17 =>
        L 3 i1 0 r10 0 g17
      else
        L 2 i1 0 r10 0 g14
      else none
    else
      L 2 i1 0 r10 0 g11
    else none
  else
    (f_M_fail_50 (-3) (rI g 49 5) g).bind fun g18 =>
    some g18
  else none
def b_M_readApart_50_2 (L : Nat → Int → Int → Int → Int → G2 → Option (G2)) (i1 : Int) (i2 : Int) (i3 : Int) (i4 : Int) (g : G2) : Option (G2) :=
  bd (f_M_isConstant_50 i3 g) fun r19 g19 =>
  if ir r19 then
  if r19 = 0 then
    bd (f_M_stoodBefore_50 i3 i1 g19) fun r22 g22 =>
    if ir r22 then
    if r22 = 0 then
      L 3 i1 0 i3 0 g22
    else
      (f_M_fail_50 (-4) (rI g22 49 5) g22).bind fun g25 =>
      L 3 i1 0 i3 0 g25
    else none
  else
    (f_M_fail_50 (-6) (rI g19 49 5) g19).bind fun g26 =>
    L 3 i1 0 i3 0 g26
  else none
def b_M_readApart_50_3 (L : Nat → Int → Int → Int → Int → G2 → Option (G2)) (i1 : Int) (i2 : Int) (i3 : Int) (i4 : Int) (g : G2) : Option (G2) :=
  L 4 i1 0 i3 0 g
def b_M_readApart_50_4 (L : Nat → Int → Int → Int → Int → G2 → Option (G2)) (i1 : Int) (i2 : Int) (i3 : Int) (i4 : Int) (g : G2) : Option (G2) :=
  if ir i4 then
  if ir i1 then
  if i4 < i1 then
    if ir (rI g 49 6) then
    if (rI g 49 6) = 0 then
      if ir (rI g 49 23) then
      if (rI g 49 23) = 40 then
        (f_M_fail_50 (-7) (rI g 49 5) g).bind fun g34 =>
        L 5 i1 0 i3 i4 g34
      else
        if 0 ≤ i4 ∧ i4 < 60 then
        if 0 ≤ (rI g 49 23) ∧ (rI g 49 23) < 40 then
        L 5 i1 0 i3 i4 (gI (gA (gA (gA g 65 (rI g 49 23) (rA g 81 i4)) 66 (rI g 49 23) i3) 67 (rI g 49 23) (rI g 49 14)) 49 23 ((rI g 49 23) + 1))
        else none
        else none
      else none
    else
      L 6 i1 0 i3 0 g
    else none
  else
    L 6 i1 0 i3 0 g
  else none
  else none
def b_M_readApart_50_5 (L : Nat → Int → Int → Int → Int → G2 → Option (G2)) (i1 : Int) (i2 : Int) (i3 : Int) (i4 : Int) (g : G2) : Option (G2) :=
  L 4 i1 0 i3 (i4 + 1) g
def b_M_readApart_50_6 (L : Nat → Int → Int → Int → Int → G2 → Option (G2)) (i1 : Int) (i2 : Int) (i3 : Int) (i4 : Int) (g : G2) : Option (G2) :=
  if 0 ≤ i1 ∧ i1 < 60 then
  L 0 (i1 + 1) 0 0 0 (gI (gA g 81 i1 i3) 49 5 ((rI g 49 5) + 1))
  else none
def l_M_readApart_50 : Nat → Nat → Int → Int → Int → Int → G2 → Option (G2)
  | 0 => fun _ _ _ _ _ _ => none
  | n + 1 => fun t i1 i2 i3 i4 g => match t with
    | 0 => b_M_readApart_50_0 (l_M_readApart_50 n) i1 i2 i3 i4 g
    | 1 => b_M_readApart_50_1 (l_M_readApart_50 n) i1 i2 i3 i4 g
    | 2 => b_M_readApart_50_2 (l_M_readApart_50 n) i1 i2 i3 i4 g
    | 3 => b_M_readApart_50_3 (l_M_readApart_50 n) i1 i2 i3 i4 g
    | 4 => b_M_readApart_50_4 (l_M_readApart_50 n) i1 i2 i3 i4 g
    | 5 => b_M_readApart_50_5 (l_M_readApart_50 n) i1 i2 i3 i4 g
    | _ => b_M_readApart_50_6 (l_M_readApart_50 n) i1 i2 i3 i4 g
set_option maxHeartbeats 4000000 in
set_option maxRecDepth 100000 in
theorem rl_M_readApart_50 (d : Nat) : ∀ (n : Nat) (i1 : Int) (i2 : Int) (i3 : Int) (i4 : Int) (g : G2) (g' : G2), (l_M_readApart_50 n 0 i1 i2 i3 i4 g = some g' → Rt (d + 4) m_M_readApart 12 [some (vR 50), some (vI i1), none, none, none] [] g none g') ∧ (l_M_readApart_50 n 1 i1 i2 i3 i4 g = some g' → Rt (d + 4) m_M_readApart 46 [some (vR 50), some (vI i1), some (vI i2), none, none] [] g none g') ∧ (l_M_readApart_50 n 2 i1 i2 i3 i4 g = some g' → Rt (d + 4) m_M_readApart 95 [some (vR 50), some (vI i1), none, some (vI i3), none] [] g none g') ∧ (l_M_readApart_50 n 3 i1 i2 i3 i4 g = some g' → Rt (d + 4) m_M_readApart 135 [some (vR 50), some (vI i1), none, some (vI i3), none] [] g none g') ∧ (l_M_readApart_50 n 4 i1 i2 i3 i4 g = some g' → Rt (d + 4) m_M_readApart 138 [some (vR 50), some (vI i1), none, some (vI i3), some (vI i4)] [] g none g') ∧ (l_M_readApart_50 n 5 i1 i2 i3 i4 g = some g' → Rt (d + 4) m_M_readApart 222 [some (vR 50), some (vI i1), none, some (vI i3), some (vI i4)] [] g none g') ∧ (l_M_readApart_50 n 6 i1 i2 i3 i4 g = some g' → Rt (d + 4) m_M_readApart 228 [some (vR 50), some (vI i1), none, some (vI i3), none] [] g none g') := by
  intro n
  induction n with
  | zero => intro i1 i2 i3 i4 g g'; exact ⟨fun hf => (by cases hf), fun hf => (by cases hf), fun hf => (by cases hf), fun hf => (by cases hf), fun hf => (by cases hf), fun hf => (by cases hf), fun hf => (by cases hf)⟩
  | succ n ih =>
    intro i1 i2 i3 i4 g g'
    refine ⟨?_, ?_, ?_, ?_, ?_, ?_, ?_⟩
    · intro hf
      replace hf : b_M_readApart_50_0 (l_M_readApart_50 n) i1 i2 i3 i4 g = some g' := hf
      unfold b_M_readApart_50_0 at hf
      have h1 : ir (rI g 49 6) := by
        by_cases q : ir (rI g 49 6)
        · exact q
        · rw [if_neg q] at hf; cases hf
      rw [if_pos h1] at hf
      by_cases h2 : (rI g 49 6) = 0
      · rw [if_pos h2] at hf
        refine Rt.path ok_M_readApart 3 [0] rfl ⟨⟨h1, h2⟩, trivial⟩ ?_
        obtain ⟨r3, g3, e3, hf⟩ := bd_inv hf
        refine Rt.path ok_M_readApart 1 [] rfl trivial ?_
        refine Rt.callV ok_M_readApart rfl ml_M_169 [] cf_M_need rfl rfl (c_M_need_50 d _ _ _ e3) (Nat.le_of_ble_eq_true rfl) ?_
        have h4 : ir r3 := by
          by_cases q : ir r3
          · exact q
          · rw [if_neg q] at hf; cases hf
        rw [if_pos h4] at hf
        by_cases h5 : r3 = 9
        · rw [if_pos h5] at hf
          refine Rt.path ok_M_readApart 4 [0] rfl ⟨⟨⟨h4, (show ir 9 by decide)⟩, h5⟩, trivial⟩ ?_
          have h6 : ir i1 := by
            by_cases q : ir i1
            · exact q
            · rw [if_neg q] at hf; cases hf
          rw [if_pos h6] at hf
          by_cases h7 : 1 < i1
          · rw [if_pos h7] at hf
            refine Rt.path ok_M_readApart 3 [0] rfl ⟨⟨⟨h6, (show ir 1 by decide)⟩, h7⟩, trivial⟩ ?_
            cases hf
            refine Rt.path ok_M_readApart 6 [] rfl trivial ?_
            exact Rt.retV ok_M_readApart rfl rfl
          · rw [if_neg h7] at hf
            refine Rt.path ok_M_readApart 3 [1] rfl ⟨⟨⟨h6, (show ir 1 by decide)⟩, (Int.not_lt.mp h7)⟩, trivial⟩ ?_
            exact Rt.weak ((ih _ _ _ _ _ _).2.1 hf) ⟨rfl, rfl, rfl, trivial⟩
        · rw [if_neg h5] at hf
          refine Rt.path ok_M_readApart 4 [1] rfl ⟨⟨⟨h4, (show ir 9 by decide)⟩, h5⟩, trivial⟩ ?_
          exact Rt.weak ((ih _ _ _ _ _ _).2.1 hf) ⟨rfl, rfl, rfl, trivial⟩
      · rw [if_neg h2] at hf
        refine Rt.path ok_M_readApart 3 [1] rfl ⟨⟨h1, h2⟩, trivial⟩ ?_
        cases hf
        exact Rt.retV ok_M_readApart rfl rfl
    · intro hf
      replace hf : b_M_readApart_50_1 (l_M_readApart_50 n) i1 i2 i3 i4 g = some g' := hf
      unfold b_M_readApart_50_1 at hf
      have h8 : ir i2 := by
        by_cases q : ir i2
        · exact q
        · rw [if_neg q] at hf; cases hf
      rw [if_pos h8] at hf
      by_cases h9 : i2 = 0
      · rw [if_pos h9] at hf
        refine Rt.path ok_M_readApart 2 [1] rfl ⟨⟨h8, h9⟩, trivial⟩ ?_
        obtain ⟨r10, g10, e10, hf⟩ := bd_inv hf
        refine Rt.path ok_M_readApart 1 [] rfl trivial ?_
        refine Rt.callV ok_M_readApart rfl ml_M_190 [] cf_M_findWord rfl rfl (c_M_findWord_50 (d + 1) _ _ _ e10) (Nat.le_of_ble_eq_true rfl) ?_
        obtain ⟨r11, g11, e11, hf⟩ := bd_inv hf
        refine Rt.path ok_M_readApart 3 [] rfl trivial ?_
        refine Rt.callV ok_M_readApart rfl ml_M_196 [vI _] cf_M_isConstant rfl rfl (c_M_isConstant_50 (d + 3) _ _ _ _ e11) (Nat.le_of_ble_eq_true rfl) ?_
        have h12 : ir r11 := by
          by_cases q : ir r11
          · exact q
          · rw [if_neg q] at hf; cases hf
        rw [if_pos h12] at hf
        by_cases h13 : r11 = 0
        · rw [if_pos h13] at hf
          refine Rt.path ok_M_readApart 1 [0] rfl ⟨⟨h12, h13⟩, trivial⟩ ?_
          obtain ⟨r14, g14, e14, hf⟩ := bd_inv hf
          refine Rt.path ok_M_readApart 2 [] rfl trivial ?_
          refine Rt.callV ok_M_readApart rfl ml_M_200 [vI _] cf_M_isLive rfl rfl (c_M_isLive_50 (d + 3) _ _ _ _ e14) (Nat.le_of_ble_eq_true rfl) ?_
          have h15 : ir r14 := by
            by_cases q : ir r14
            · exact q
            · rw [if_neg q] at hf; cases hf
          rw [if_pos h15] at hf
          by_cases h16 : r14 = 0
          · rw [if_pos h16] at hf
            refine Rt.path ok_M_readApart 1 [0] rfl ⟨⟨h15, h16⟩, trivial⟩ ?_
            obtain ⟨g17, e17, hf⟩ := Option.bind_eq_some_iff.mp hf
            refine Rt.path ok_M_readApart 4 [] rfl trivial ?_
            refine Rt.callV ok_M_readApart rfl ml_M_157 [vI _, vI _] cf_M_fail rfl rfl (c_M_fail_50 (d + 3) _ _ _ _ e17) (Nat.le_of_ble_eq_true rfl) ?_
            refine Rt.path ok_M_readApart 1 [] rfl trivial ?_
            exact Rt.weak ((ih _ _ _ _ _ _).2.2.2.1 hf) ⟨rfl, rfl, rfl, trivial⟩
          · rw [if_neg h16] at hf
            refine Rt.path ok_M_readApart 1 [1] rfl ⟨⟨h15, h16⟩, trivial⟩ ?_
            exact Rt.weak ((ih _ _ _ _ _ _).2.2.1 hf) ⟨rfl, rfl, rfl, trivial⟩
        · rw [if_neg h13] at hf
          refine Rt.path ok_M_readApart 1 [1] rfl ⟨⟨h12, h13⟩, trivial⟩ ?_
          exact Rt.weak ((ih _ _ _ _ _ _).2.2.1 hf) ⟨rfl, rfl, rfl, trivial⟩
      · rw [if_neg h9] at hf
        refine Rt.path ok_M_readApart 2 [0] rfl ⟨⟨h8, h9⟩, trivial⟩ ?_
        obtain ⟨g18, e18, hf⟩ := Option.bind_eq_some_iff.mp hf
        refine Rt.path ok_M_readApart 4 [] rfl trivial ?_
        refine Rt.callV ok_M_readApart rfl ml_M_157 [vI _, vI _] cf_M_fail rfl rfl (c_M_fail_50 (d + 3) _ _ _ _ e18) (Nat.le_of_ble_eq_true rfl) ?_
        cases hf
        exact Rt.retV ok_M_readApart rfl rfl
    · intro hf
      replace hf : b_M_readApart_50_2 (l_M_readApart_50 n) i1 i2 i3 i4 g = some g' := hf
      unfold b_M_readApart_50_2 at hf
      obtain ⟨r19, g19, e19, hf⟩ := bd_inv hf
      refine Rt.path ok_M_readApart 2 [] rfl trivial ?_
      refine Rt.callV ok_M_readApart rfl ml_M_196 [vI _] cf_M_isConstant rfl rfl (c_M_isConstant_50 (d + 3) _ _ _ _ e19) (Nat.le_of_ble_eq_true rfl) ?_
      have h20 : ir r19 := by
        by_cases q : ir r19
        · exact q
        · rw [if_neg q] at hf; cases hf
      rw [if_pos h20] at hf
      by_cases h21 : r19 = 0
      · rw [if_pos h21] at hf
        refine Rt.path ok_M_readApart 1 [1] rfl ⟨⟨h20, h21⟩, trivial⟩ ?_
        obtain ⟨r22, g22, e22, hf⟩ := bd_inv hf
        refine Rt.path ok_M_readApart 3 [] rfl trivial ?_
        refine Rt.callV ok_M_readApart rfl ml_M_203 [vI _, vI _] cf_M_stoodBefore rfl rfl (c_M_stoodBefore_50 (d + 3) _ _ _ _ _ e22) (Nat.le_of_ble_eq_true rfl) ?_
        have h23 : ir r22 := by
          by_cases q : ir r22
          · exact q
          · rw [if_neg q] at hf; cases hf
        rw [if_pos h23] at hf
        by_cases h24 : r22 = 0
        · rw [if_pos h24] at hf
          refine Rt.path ok_M_readApart 1 [1] rfl ⟨⟨h23, h24⟩, trivial⟩ ?_
          exact Rt.weak ((ih _ _ _ _ _ _).2.2.2.1 hf) ⟨rfl, rfl, rfl, trivial⟩
        · rw [if_neg h24] at hf
          refine Rt.path ok_M_readApart 1 [0] rfl ⟨⟨h23, h24⟩, trivial⟩ ?_
          obtain ⟨g25, e25, hf⟩ := Option.bind_eq_some_iff.mp hf
          refine Rt.path ok_M_readApart 4 [] rfl trivial ?_
          refine Rt.callV ok_M_readApart rfl ml_M_157 [vI _, vI _] cf_M_fail rfl rfl (c_M_fail_50 (d + 3) _ _ _ _ e25) (Nat.le_of_ble_eq_true rfl) ?_
          exact Rt.weak ((ih _ _ _ _ _ _).2.2.2.1 hf) ⟨rfl, rfl, rfl, trivial⟩
      · rw [if_neg h21] at hf
        refine Rt.path ok_M_readApart 1 [0] rfl ⟨⟨h20, h21⟩, trivial⟩ ?_
        obtain ⟨g26, e26, hf⟩ := Option.bind_eq_some_iff.mp hf
        refine Rt.path ok_M_readApart 4 [] rfl trivial ?_
        refine Rt.callV ok_M_readApart rfl ml_M_157 [vI _, vI _] cf_M_fail rfl rfl (c_M_fail_50 (d + 3) _ _ _ _ e26) (Nat.le_of_ble_eq_true rfl) ?_
        refine Rt.path ok_M_readApart 1 [] rfl trivial ?_
        exact Rt.weak ((ih _ _ _ _ _ _).2.2.2.1 hf) ⟨rfl, rfl, rfl, trivial⟩
    · intro hf
      replace hf : b_M_readApart_50_3 (l_M_readApart_50 n) i1 i2 i3 i4 g = some g' := hf
      unfold b_M_readApart_50_3 at hf
      refine Rt.path ok_M_readApart 2 [] rfl trivial ?_
      exact Rt.weak ((ih _ _ _ _ _ _).2.2.2.2.1 hf) ⟨rfl, rfl, rfl, rfl, trivial⟩
    · intro hf
      replace hf : b_M_readApart_50_4 (l_M_readApart_50 n) i1 i2 i3 i4 g = some g' := hf
      unfold b_M_readApart_50_4 at hf
      have h27 : ir i4 := by
        by_cases q : ir i4
        · exact q
        · rw [if_neg q] at hf; cases hf
      rw [if_pos h27] at hf
      have h28 : ir i1 := by
        by_cases q : ir i1
        · exact q
        · rw [if_neg q] at hf; cases hf
      rw [if_pos h28] at hf
      by_cases h29 : i4 < i1
      · rw [if_pos h29] at hf
        refine Rt.path ok_M_readApart 3 [0] rfl ⟨⟨⟨h27, h28⟩, h29⟩, trivial⟩ ?_
        have h30 : ir (rI g 49 6) := by
          by_cases q : ir (rI g 49 6)
          · exact q
          · rw [if_neg q] at hf; cases hf
        rw [if_pos h30] at hf
        by_cases h31 : (rI g 49 6) = 0
        · rw [if_pos h31] at hf
          refine Rt.path ok_M_readApart 3 [0] rfl ⟨⟨h30, h31⟩, trivial⟩ ?_
          have h32 : ir (rI g 49 23) := by
            by_cases q : ir (rI g 49 23)
            · exact q
            · rw [if_neg q] at hf; cases hf
          rw [if_pos h32] at hf
          by_cases h33 : (rI g 49 23) = 40
          · rw [if_pos h33] at hf
            refine Rt.path ok_M_readApart 4 [0] rfl ⟨⟨⟨h32, (show ir 40 by decide)⟩, h33⟩, trivial⟩ ?_
            obtain ⟨g34, e34, hf⟩ := Option.bind_eq_some_iff.mp hf
            refine Rt.path ok_M_readApart 4 [] rfl trivial ?_
            refine Rt.callV ok_M_readApart rfl ml_M_157 [vI _, vI _] cf_M_fail rfl rfl (c_M_fail_50 (d + 3) _ _ _ _ e34) (Nat.le_of_ble_eq_true rfl) ?_
            refine Rt.path ok_M_readApart 1 [] rfl trivial ?_
            exact Rt.weak ((ih _ _ _ _ _ _).2.2.2.2.2.1 hf) ⟨rfl, rfl, rfl, rfl, trivial⟩
          · rw [if_neg h33] at hf
            refine Rt.path ok_M_readApart 4 [1] rfl ⟨⟨⟨h32, (show ir 40 by decide)⟩, h33⟩, trivial⟩ ?_
            have h35 : 0 ≤ i4 ∧ i4 < 60 := by
              by_cases q : 0 ≤ i4 ∧ i4 < 60
              · exact q
              · rw [if_neg q] at hf; cases hf
            rw [if_pos h35] at hf
            have h36 : 0 ≤ (rI g 49 23) ∧ (rI g 49 23) < 40 := by
              by_cases q : 0 ≤ (rI g 49 23) ∧ (rI g 49 23) < 40
              · exact q
              · rw [if_neg q] at hf; cases hf
            rw [if_pos h36] at hf
            refine Rt.path ok_M_readApart 28 [] rfl ⟨(ix_60 h35), (ix_40 h36), (ix_40 h36), (ix_40 h36), trivial⟩ ?_
            exact Rt.weak ((ih _ _ _ _ _ _).2.2.2.2.2.1 hf) ⟨rfl, rfl, rfl, rfl, trivial⟩
        · rw [if_neg h31] at hf
          refine Rt.path ok_M_readApart 3 [1] rfl ⟨⟨h30, h31⟩, trivial⟩ ?_
          exact Rt.weak ((ih _ _ _ _ _ _).2.2.2.2.2.2 hf) ⟨rfl, rfl, rfl, trivial⟩
      · rw [if_neg h29] at hf
        refine Rt.path ok_M_readApart 3 [1] rfl ⟨⟨⟨h27, h28⟩, (Int.not_lt.mp h29)⟩, trivial⟩ ?_
        exact Rt.weak ((ih _ _ _ _ _ _).2.2.2.2.2.2 hf) ⟨rfl, rfl, rfl, trivial⟩
    · intro hf
      replace hf : b_M_readApart_50_5 (l_M_readApart_50 n) i1 i2 i3 i4 g = some g' := hf
      unfold b_M_readApart_50_5 at hf
      refine Rt.path ok_M_readApart 2 [] rfl trivial ?_
      exact Rt.weak ((ih _ _ _ _ _ _).2.2.2.2.1 hf) ⟨rfl, rfl, rfl, rfl, trivial⟩
    · intro hf
      replace hf : b_M_readApart_50_6 (l_M_readApart_50 n) i1 i2 i3 i4 g = some g' := hf
      unfold b_M_readApart_50_6 at hf
      have h37 : 0 ≤ i1 ∧ i1 < 60 := by
        by_cases q : 0 ≤ i1 ∧ i1 < 60
        · exact q
        · rw [if_neg q] at hf; cases hf
      rw [if_pos h37] at hf
      refine Rt.path ok_M_readApart 13 [] rfl ⟨(ix_60 h37), trivial⟩ ?_
      exact Rt.weak ((ih _ _ _ _ _ _).1 hf) ⟨rfl, rfl, trivial⟩
def f_M_readApart_50  (g : G2) : Option (G2) :=
  l_M_readApart_50 20000 0 0 0 0 0 (gI g 49 5 ((rI g 49 5) + 1))
set_option maxHeartbeats 4000000 in
set_option maxRecDepth 100000 in
theorem c_M_readApart_50 (d : Nat)  (g : G2) (g' : G2) (hf : f_M_readApart_50 g = some g') : C2 (d + 4) m_M_readApart [vR 50] g none g' := by
  unfold f_M_readApart_50 at hf
  refine C2.of rfl rfl rfl (Nat.le_of_ble_eq_true rfl) ?_
  refine Rt.path ok_M_readApart 8 [] rfl trivial ?_
  exact Rt.weak ((rl_M_readApart_50 d _ _ _ _ _ _ _).1 hf) ⟨rfl, rfl, trivial⟩
def b_M_closeScope_50_0 (L : Nat → Int → G2 → Option (G2)) (i1 : Int) (g : G2) : Option (G2) :=
  if ir i1 then
  if ir (rI g 49 8) then
  if i1 < (rI g 49 8) then
    if 0 ≤ i1 ∧ i1 < 60 then
    if ir (rA g 55 i1) then
    if (rA g 55 i1) = 0 then
      L 0 (i1 + 1) (gA g 55 i1 0)
    else
      if ir (rA g 56 i1) then
      if ir (rI g 49 14) then
      if (rA g 56 i1) < (rI g 49 14) then
        L 0 (i1 + 1) (gA g 55 i1 1)
      else
        L 0 (i1 + 1) (gA g 55 i1 0)
      else none
      else none
    else none
    else none
  else
    L 1 0 g
  else none
  else none
def b_M_closeScope_50_1 (L : Nat → Int → G2 → Option (G2)) (i1 : Int) (g : G2) : Option (G2) :=
  if ir i1 then
  if ir (rI g 49 15) then
  if i1 < (rI g 49 15) then
    if 0 ≤ i1 ∧ i1 < 40 then
    if ir (rA g 62 i1) then
    if (rA g 62 i1) = 0 then
      L 1 (i1 + 1) (gA g 62 i1 0)
    else
      if ir (rA g 63 i1) then
      if ir (rI g 49 14) then
      if (rA g 63 i1) < (rI g 49 14) then
        L 1 (i1 + 1) (gA g 62 i1 1)
      else
        L 1 (i1 + 1) (gA g 62 i1 0)
      else none
      else none
    else none
    else none
  else
    L 2 0 g
  else none
  else none
def b_M_closeScope_50_2 (L : Nat → Int → G2 → Option (G2)) (i1 : Int) (g : G2) : Option (G2) :=
  if ir (rI g 49 23) then
  if 0 < (rI g 49 23) then
    if 0 ≤ ((rI g 49 23) - 1) ∧ ((rI g 49 23) - 1) < 40 then
    if ir (rA g 67 ((rI g 49 23) - 1)) then
    if ir (rI g 49 14) then
    if (rA g 67 ((rI g 49 23) - 1)) = (rI g 49 14) then
      L 2 0 (gI g 49 23 ((rI g 49 23) - 1))
    else
      L 3 0 g
    else none
    else none
    else none
  else
    L 3 0 g
  else none
def b_M_closeScope_50_3 (L : Nat → Int → G2 → Option (G2)) (i1 : Int) (g : G2) : Option (G2) :=
  some (gI g 49 14 ((rI g 49 14) - 1))
def l_M_closeScope_50 : Nat → Nat → Int → G2 → Option (G2)
  | 0 => fun _ _ _ => none
  | n + 1 => fun t i1 g => match t with
    | 0 => b_M_closeScope_50_0 (l_M_closeScope_50 n) i1 g
    | 1 => b_M_closeScope_50_1 (l_M_closeScope_50 n) i1 g
    | 2 => b_M_closeScope_50_2 (l_M_closeScope_50 n) i1 g
    | _ => b_M_closeScope_50_3 (l_M_closeScope_50 n) i1 g
set_option maxHeartbeats 4000000 in
set_option maxRecDepth 100000 in
theorem rl_M_closeScope_50 (d : Nat) : ∀ (n : Nat) (i1 : Int) (g : G2) (g' : G2), (l_M_closeScope_50 n 0 i1 g = some g' → Rt d m_M_closeScope 2 [some (vR 50), some (vI i1)] [] g none g') ∧ (l_M_closeScope_50 n 1 i1 g = some g' → Rt d m_M_closeScope 51 [some (vR 50), some (vI i1)] [] g none g') ∧ (l_M_closeScope_50 n 2 i1 g = some g' → Rt d m_M_closeScope 98 [some (vR 50), none] [] g none g') ∧ (l_M_closeScope_50 n 3 i1 g = some g' → Rt d m_M_closeScope 136 [some (vR 50), none] [] g none g') := by
  intro n
  induction n with
  | zero => intro i1 g g'; exact ⟨fun hf => (by cases hf), fun hf => (by cases hf), fun hf => (by cases hf), fun hf => (by cases hf)⟩
  | succ n ih =>
    intro i1 g g'
    refine ⟨?_, ?_, ?_, ?_⟩
    · intro hf
      replace hf : b_M_closeScope_50_0 (l_M_closeScope_50 n) i1 g = some g' := hf
      unfold b_M_closeScope_50_0 at hf
      have h1 : ir i1 := by
        by_cases q : ir i1
        · exact q
        · rw [if_neg q] at hf; cases hf
      rw [if_pos h1] at hf
      have h2 : ir (rI g 49 8) := by
        by_cases q : ir (rI g 49 8)
        · exact q
        · rw [if_neg q] at hf; cases hf
      rw [if_pos h2] at hf
      by_cases h3 : i1 < (rI g 49 8)
      · rw [if_pos h3] at hf
        refine Rt.path ok_M_closeScope 4 [0] rfl ⟨⟨⟨h1, h2⟩, h3⟩, trivial⟩ ?_
        have h4 : 0 ≤ i1 ∧ i1 < 60 := by
          by_cases q : 0 ≤ i1 ∧ i1 < 60
          · exact q
          · rw [if_neg q] at hf; cases hf
        rw [if_pos h4] at hf
        have h5 : ir (rA g 55 i1) := by
          by_cases q : ir (rA g 55 i1)
          · exact q
          · rw [if_neg q] at hf; cases hf
        rw [if_pos h5] at hf
        by_cases h6 : (rA g 55 i1) = 0
        · rw [if_pos h6] at hf
          refine Rt.path ok_M_closeScope 8 [1] rfl ⟨(ix_60 h4), ⟨h5, h6⟩, trivial⟩ ?_
          refine Rt.path ok_M_closeScope 4 [] rfl ⟨⟨(ix_60 h4), (show (0 : Int) = 0 ∨ (0 : Int) = 1 by decide)⟩, trivial⟩ ?_
          exact Rt.weak ((ih _ _ _).1 hf) ⟨rfl, rfl, trivial⟩
        · rw [if_neg h6] at hf
          refine Rt.path ok_M_closeScope 8 [0] rfl ⟨(ix_60 h4), ⟨h5, h6⟩, trivial⟩ ?_
          have h7 : ir (rA g 56 i1) := by
            by_cases q : ir (rA g 56 i1)
            · exact q
            · rw [if_neg q] at hf; cases hf
          rw [if_pos h7] at hf
          have h8 : ir (rI g 49 14) := by
            by_cases q : ir (rI g 49 14)
            · exact q
            · rw [if_neg q] at hf; cases hf
          rw [if_pos h8] at hf
          by_cases h9 : (rA g 56 i1) < (rI g 49 14)
          · rw [if_pos h9] at hf
            refine Rt.path ok_M_closeScope 7 [0] rfl ⟨(ix_60 h4), ⟨⟨h7, h8⟩, h9⟩, trivial⟩ ?_
            refine Rt.path ok_M_closeScope 5 [] rfl ⟨⟨(ix_60 h4), (show (1 : Int) = 0 ∨ (1 : Int) = 1 by decide)⟩, trivial⟩ ?_
            exact Rt.weak ((ih _ _ _).1 hf) ⟨rfl, rfl, trivial⟩
          · rw [if_neg h9] at hf
            refine Rt.path ok_M_closeScope 7 [1] rfl ⟨(ix_60 h4), ⟨⟨h7, h8⟩, (Int.not_lt.mp h9)⟩, trivial⟩ ?_
            refine Rt.path ok_M_closeScope 4 [] rfl ⟨⟨(ix_60 h4), (show (0 : Int) = 0 ∨ (0 : Int) = 1 by decide)⟩, trivial⟩ ?_
            exact Rt.weak ((ih _ _ _).1 hf) ⟨rfl, rfl, trivial⟩
      · rw [if_neg h3] at hf
        refine Rt.path ok_M_closeScope 4 [1] rfl ⟨⟨⟨h1, h2⟩, (Int.not_lt.mp h3)⟩, trivial⟩ ?_
        refine Rt.path ok_M_closeScope 2 [] rfl trivial ?_
        exact Rt.weak ((ih _ _ _).2.1 hf) ⟨rfl, rfl, trivial⟩
    · intro hf
      replace hf : b_M_closeScope_50_1 (l_M_closeScope_50 n) i1 g = some g' := hf
      unfold b_M_closeScope_50_1 at hf
      have h10 : ir i1 := by
        by_cases q : ir i1
        · exact q
        · rw [if_neg q] at hf; cases hf
      rw [if_pos h10] at hf
      have h11 : ir (rI g 49 15) := by
        by_cases q : ir (rI g 49 15)
        · exact q
        · rw [if_neg q] at hf; cases hf
      rw [if_pos h11] at hf
      by_cases h12 : i1 < (rI g 49 15)
      · rw [if_pos h12] at hf
        refine Rt.path ok_M_closeScope 4 [0] rfl ⟨⟨⟨h10, h11⟩, h12⟩, trivial⟩ ?_
        have h13 : 0 ≤ i1 ∧ i1 < 40 := by
          by_cases q : 0 ≤ i1 ∧ i1 < 40
          · exact q
          · rw [if_neg q] at hf; cases hf
        rw [if_pos h13] at hf
        have h14 : ir (rA g 62 i1) := by
          by_cases q : ir (rA g 62 i1)
          · exact q
          · rw [if_neg q] at hf; cases hf
        rw [if_pos h14] at hf
        by_cases h15 : (rA g 62 i1) = 0
        · rw [if_pos h15] at hf
          refine Rt.path ok_M_closeScope 8 [1] rfl ⟨(ix_40 h13), ⟨h14, h15⟩, trivial⟩ ?_
          refine Rt.path ok_M_closeScope 4 [] rfl ⟨⟨(ix_40 h13), (show (0 : Int) = 0 ∨ (0 : Int) = 1 by decide)⟩, trivial⟩ ?_
          exact Rt.weak ((ih _ _ _).2.1 hf) ⟨rfl, rfl, trivial⟩
        · rw [if_neg h15] at hf
          refine Rt.path ok_M_closeScope 8 [0] rfl ⟨(ix_40 h13), ⟨h14, h15⟩, trivial⟩ ?_
          have h16 : ir (rA g 63 i1) := by
            by_cases q : ir (rA g 63 i1)
            · exact q
            · rw [if_neg q] at hf; cases hf
          rw [if_pos h16] at hf
          have h17 : ir (rI g 49 14) := by
            by_cases q : ir (rI g 49 14)
            · exact q
            · rw [if_neg q] at hf; cases hf
          rw [if_pos h17] at hf
          by_cases h18 : (rA g 63 i1) < (rI g 49 14)
          · rw [if_pos h18] at hf
            refine Rt.path ok_M_closeScope 7 [0] rfl ⟨(ix_40 h13), ⟨⟨h16, h17⟩, h18⟩, trivial⟩ ?_
            refine Rt.path ok_M_closeScope 5 [] rfl ⟨⟨(ix_40 h13), (show (1 : Int) = 0 ∨ (1 : Int) = 1 by decide)⟩, trivial⟩ ?_
            exact Rt.weak ((ih _ _ _).2.1 hf) ⟨rfl, rfl, trivial⟩
          · rw [if_neg h18] at hf
            refine Rt.path ok_M_closeScope 7 [1] rfl ⟨(ix_40 h13), ⟨⟨h16, h17⟩, (Int.not_lt.mp h18)⟩, trivial⟩ ?_
            refine Rt.path ok_M_closeScope 4 [] rfl ⟨⟨(ix_40 h13), (show (0 : Int) = 0 ∨ (0 : Int) = 1 by decide)⟩, trivial⟩ ?_
            exact Rt.weak ((ih _ _ _).2.1 hf) ⟨rfl, rfl, trivial⟩
      · rw [if_neg h12] at hf
        refine Rt.path ok_M_closeScope 4 [1] rfl ⟨⟨⟨h10, h11⟩, (Int.not_lt.mp h12)⟩, trivial⟩ ?_
        exact Rt.weak ((ih _ _ _).2.2.1 hf) ⟨rfl, trivial⟩
    · intro hf
      replace hf : b_M_closeScope_50_2 (l_M_closeScope_50 n) i1 g = some g' := hf
      unfold b_M_closeScope_50_2 at hf
      have h19 : ir (rI g 49 23) := by
        by_cases q : ir (rI g 49 23)
        · exact q
        · rw [if_neg q] at hf; cases hf
      rw [if_pos h19] at hf
      by_cases h20 : 0 < (rI g 49 23)
      · rw [if_pos h20] at hf
        refine Rt.path ok_M_closeScope 3 [0] rfl ⟨⟨h19, h20⟩, trivial⟩ ?_
        have h21 : 0 ≤ ((rI g 49 23) - 1) ∧ ((rI g 49 23) - 1) < 40 := by
          by_cases q : 0 ≤ ((rI g 49 23) - 1) ∧ ((rI g 49 23) - 1) < 40
          · exact q
          · rw [if_neg q] at hf; cases hf
        rw [if_pos h21] at hf
        have h22 : ir (rA g 67 ((rI g 49 23) - 1)) := by
          by_cases q : ir (rA g 67 ((rI g 49 23) - 1))
          · exact q
          · rw [if_neg q] at hf; cases hf
        rw [if_pos h22] at hf
        have h23 : ir (rI g 49 14) := by
          by_cases q : ir (rI g 49 14)
          · exact q
          · rw [if_neg q] at hf; cases hf
        rw [if_pos h23] at hf
        by_cases h24 : (rA g 67 ((rI g 49 23) - 1)) = (rI g 49 14)
        · rw [if_pos h24] at hf
          refine Rt.path ok_M_closeScope 10 [0] rfl ⟨(ix_40 h21), ⟨⟨h22, h23⟩, h24⟩, trivial⟩ ?_
          refine Rt.path ok_M_closeScope 7 [] rfl trivial ?_
          exact Rt.weak ((ih _ _ _).2.2.1 hf) ⟨rfl, trivial⟩
        · rw [if_neg h24] at hf
          refine Rt.path ok_M_closeScope 10 [1] rfl ⟨(ix_40 h21), ⟨⟨h22, h23⟩, h24⟩, trivial⟩ ?_
          exact Rt.weak ((ih _ _ _).2.2.2 hf) ⟨rfl, trivial⟩
      · rw [if_neg h20] at hf
        refine Rt.path ok_M_closeScope 3 [1] rfl ⟨⟨h19, (Int.not_lt.mp h20)⟩, trivial⟩ ?_
        exact Rt.weak ((ih _ _ _).2.2.2 hf) ⟨rfl, trivial⟩
    · intro hf
      replace hf : b_M_closeScope_50_3 (l_M_closeScope_50 n) i1 g = some g' := hf
      unfold b_M_closeScope_50_3 at hf
      cases hf
      refine Rt.path ok_M_closeScope 6 [] rfl trivial ?_
      exact Rt.retV ok_M_closeScope rfl rfl
def f_M_closeScope_50  (g : G2) : Option (G2) :=
  l_M_closeScope_50 20000 0 0 g
set_option maxHeartbeats 4000000 in
set_option maxRecDepth 100000 in
theorem c_M_closeScope_50 (d : Nat)  (g : G2) (g' : G2) (hf : f_M_closeScope_50 g = some g') : C2 d m_M_closeScope [vR 50] g none g' := by
  unfold f_M_closeScope_50 at hf
  refine C2.of rfl rfl rfl (Nat.le_of_ble_eq_true rfl) ?_
  refine Rt.path ok_M_closeScope 2 [] rfl trivial ?_
  exact Rt.weak ((rl_M_closeScope_50 d _ _ _ _).1 hf) ⟨rfl, rfl, trivial⟩
def b_M_readStatement_50_0 (L : Nat → G2 → Option (G2))  (g : G2) : Option (G2) :=
  some g
def b_M_readStatement_50_1 (L : Nat → G2 → Option (G2))  (g : G2) : Option (G2) :=
  some g
def l_M_readStatement_50 : Nat → Nat → G2 → Option (G2)
  | 0 => fun _ _ => none
  | n + 1 => fun t g => match t with
    | 0 => b_M_readStatement_50_0 (l_M_readStatement_50 n) g
    | _ => b_M_readStatement_50_1 (l_M_readStatement_50 n) g
set_option maxHeartbeats 4000000 in
set_option maxRecDepth 100000 in
theorem rl_M_readStatement_50 (d : Nat) : ∀ (n : Nat)  (g : G2) (g' : G2), (l_M_readStatement_50 n 0 g = some g' → Rt (d + 9) m_M_readStatement 134 [none] [] g none g') ∧ (l_M_readStatement_50 n 1 g = some g' → Rt (d + 9) m_M_readStatement 169 [none] [] g none g') := by
  intro n
  induction n with
  | zero => intro  g g'; exact ⟨fun hf => (by cases hf), fun hf => (by cases hf)⟩
  | succ n ih =>
    intro  g g'
    refine ⟨?_, ?_⟩
    · intro hf
      replace hf : b_M_readStatement_50_0 (l_M_readStatement_50 n) g = some g' := hf
      unfold b_M_readStatement_50_0 at hf
      cases hf
      exact Rt.retV ok_M_readStatement rfl rfl
    · intro hf
      replace hf : b_M_readStatement_50_1 (l_M_readStatement_50 n) g = some g' := hf
      unfold b_M_readStatement_50_1 at hf
      cases hf
      exact Rt.retV ok_M_readStatement rfl rfl
def f_M_readStatement_50  (g : G2) : Option (G2) :=
  bd (f_M_whatIs_50 (rI g 49 5) g) fun r1 g1 =>
  if ir r1 then
  if r1 = 0 then
    (f_M_readLabelled_50 g1).bind fun g3 =>
    some g3
  else
  if r1 = 1 then
    (f_M_readConstants_50 g1).bind fun g4 =>
    some g4
  else
  if r1 = 2 then
    (f_M_readVariables_50 g1).bind fun g5 =>
    some g5
  else
  if r1 = 3 then
    (f_M_readApart_50 g1).bind fun g6 =>
    some g6
  else
  if r1 = 4 then
    (f_M_fail_50 (-3) (rI g1 49 5) g1).bind fun g7 =>
    some g7
  else
  if r1 = 5 then
    (f_M_fail_50 (-3) (rI g1 49 5) g1).bind fun g8 =>
    some g8
  else
  if r1 = 6 then
    (f_M_fail_50 (-3) (rI g1 49 5) g1).bind fun g9 =>
    some g9
  else
  if r1 = 7 then
    (f_M_fail_50 (-3) (rI g1 49 5) g1).bind fun g10 =>
    some g10
  else
  if r1 = 8 then
    (f_M_fail_50 (-3) (rI g1 49 5) g1).bind fun g11 =>
    some g11
  else
  if r1 = 9 then
    (f_M_fail_50 (-3) (rI g1 49 5) g1).bind fun g12 =>
    some g12
  else
  if r1 = 10 then
    if ir (rI g1 49 14) then
    if (rI g1 49 14) = 6 then
      (f_M_fail_50 (-7) (rI g1 49 5) g1).bind fun g15 =>
      l_M_readStatement_50 20000 0 g15
    else
      l_M_readStatement_50 20000 0 (gI (gI g1 49 14 ((rI g1 49 14) + 1)) 49 5 ((rI g1 49 5) + 1))
    else none
  else
  if r1 = 11 then
    if ir (rI g1 49 14) then
    if (rI g1 49 14) = 0 then
      (f_M_fail_50 (-5) (rI g1 49 5) g1).bind fun g18 =>
      l_M_readStatement_50 20000 1 g18
    else
      (f_M_closeScope_50 g1).bind fun g19 =>
      l_M_readStatement_50 20000 1 (gI g19 49 5 ((rI g19 49 5) + 1))
    else none
  else
    (f_M_fail_50 (-3) (rI g1 49 5) g1).bind fun g20 =>
    some g20
  else none
set_option maxHeartbeats 4000000 in
set_option maxRecDepth 100000 in
theorem c_M_readStatement_50 (d : Nat)  (g : G2) (g' : G2) (hf : f_M_readStatement_50 g = some g') : C2 (d + 9) m_M_readStatement [vR 50] g none g' := by
  unfold f_M_readStatement_50 at hf
  refine C2.of rfl rfl rfl (Nat.le_of_ble_eq_true rfl) ?_
  obtain ⟨r1, g1, e1, hf⟩ := bd_inv hf
  refine Rt.path ok_M_readStatement 3 [] rfl trivial ?_
  refine Rt.callV ok_M_readStatement rfl ml_M_165 [vI _] cf_M_whatIs rfl rfl (c_M_whatIs_50 (d + 7) _ _ _ _ e1) (Nat.le_of_ble_eq_true rfl) ?_
  have h2 : ir r1 := by
    by_cases q : ir r1
    · exact q
    · rw [if_neg q] at hf; cases hf
  rw [if_pos h2] at hf
  by_cases h21_0 : r1 = 0
  · rw [if_pos h21_0] at hf
    refine Rt.path ok_M_readStatement 1 [0] rfl ⟨⟨h2, (show r1 = 0 + ((0 : Nat) : Int) by omega), (show r1 ≤ 11 by omega), by decide⟩, trivial⟩ ?_
    obtain ⟨g3, e3, hf⟩ := Option.bind_eq_some_iff.mp hf
    refine Rt.path ok_M_readStatement 1 [] rfl trivial ?_
    refine Rt.callV ok_M_readStatement rfl ml_M_341 [] cf_M_readLabelled rfl rfl (c_M_readLabelled_50 d _ _ e3) (Nat.le_of_ble_eq_true rfl) ?_
    cases hf
    exact Rt.retV ok_M_readStatement rfl rfl
  · rw [if_neg h21_0] at hf
    by_cases h21_1 : r1 = 1
    · rw [if_pos h21_1] at hf
      refine Rt.path ok_M_readStatement 1 [1] rfl ⟨⟨h2, (show r1 = 0 + ((1 : Nat) : Int) by omega), (show r1 ≤ 11 by omega), by decide⟩, trivial⟩ ?_
      obtain ⟨g4, e4, hf⟩ := Option.bind_eq_some_iff.mp hf
      refine Rt.path ok_M_readStatement 1 [] rfl trivial ?_
      refine Rt.callV ok_M_readStatement rfl ml_M_344 [] cf_M_readConstants rfl rfl (c_M_readConstants_50 (d + 4) _ _ e4) (Nat.le_of_ble_eq_true rfl) ?_
      cases hf
      exact Rt.retV ok_M_readStatement rfl rfl
    · rw [if_neg h21_1] at hf
      by_cases h21_2 : r1 = 2
      · rw [if_pos h21_2] at hf
        refine Rt.path ok_M_readStatement 1 [2] rfl ⟨⟨h2, (show r1 = 0 + ((2 : Nat) : Int) by omega), (show r1 ≤ 11 by omega), by decide⟩, trivial⟩ ?_
        obtain ⟨g5, e5, hf⟩ := Option.bind_eq_some_iff.mp hf
        refine Rt.path ok_M_readStatement 1 [] rfl trivial ?_
        refine Rt.callV ok_M_readStatement rfl ml_M_347 [] cf_M_readVariables rfl rfl (c_M_readVariables_50 (d + 4) _ _ e5) (Nat.le_of_ble_eq_true rfl) ?_
        cases hf
        exact Rt.retV ok_M_readStatement rfl rfl
      · rw [if_neg h21_2] at hf
        by_cases h21_3 : r1 = 3
        · rw [if_pos h21_3] at hf
          refine Rt.path ok_M_readStatement 1 [3] rfl ⟨⟨h2, (show r1 = 0 + ((3 : Nat) : Int) by omega), (show r1 ≤ 11 by omega), by decide⟩, trivial⟩ ?_
          obtain ⟨g6, e6, hf⟩ := Option.bind_eq_some_iff.mp hf
          refine Rt.path ok_M_readStatement 1 [] rfl trivial ?_
          refine Rt.callV ok_M_readStatement rfl ml_M_350 [] cf_M_readApart rfl rfl (c_M_readApart_50 (d + 4) _ _ e6) (Nat.le_of_ble_eq_true rfl) ?_
          cases hf
          exact Rt.retV ok_M_readStatement rfl rfl
        · rw [if_neg h21_3] at hf
          by_cases h21_4 : r1 = 4
          · rw [if_pos h21_4] at hf
            refine Rt.path ok_M_readStatement 1 [4] rfl ⟨⟨h2, (show r1 = 0 + ((4 : Nat) : Int) by omega), (show r1 ≤ 11 by omega), by decide⟩, trivial⟩ ?_
            obtain ⟨g7, e7, hf⟩ := Option.bind_eq_some_iff.mp hf
            refine Rt.path ok_M_readStatement 4 [] rfl trivial ?_
            refine Rt.callV ok_M_readStatement rfl ml_M_157 [vI _, vI _] cf_M_fail rfl rfl (c_M_fail_50 (d + 8) _ _ _ _ e7) (Nat.le_of_ble_eq_true rfl) ?_
            cases hf
            exact Rt.retV ok_M_readStatement rfl rfl
          · rw [if_neg h21_4] at hf
            by_cases h21_5 : r1 = 5
            · rw [if_pos h21_5] at hf
              refine Rt.path ok_M_readStatement 1 [5] rfl ⟨⟨h2, (show r1 = 0 + ((5 : Nat) : Int) by omega), (show r1 ≤ 11 by omega), by decide⟩, trivial⟩ ?_
              obtain ⟨g8, e8, hf⟩ := Option.bind_eq_some_iff.mp hf
              refine Rt.path ok_M_readStatement 4 [] rfl trivial ?_
              refine Rt.callV ok_M_readStatement rfl ml_M_157 [vI _, vI _] cf_M_fail rfl rfl (c_M_fail_50 (d + 8) _ _ _ _ e8) (Nat.le_of_ble_eq_true rfl) ?_
              cases hf
              exact Rt.retV ok_M_readStatement rfl rfl
            · rw [if_neg h21_5] at hf
              by_cases h21_6 : r1 = 6
              · rw [if_pos h21_6] at hf
                refine Rt.path ok_M_readStatement 1 [6] rfl ⟨⟨h2, (show r1 = 0 + ((6 : Nat) : Int) by omega), (show r1 ≤ 11 by omega), by decide⟩, trivial⟩ ?_
                obtain ⟨g9, e9, hf⟩ := Option.bind_eq_some_iff.mp hf
                refine Rt.path ok_M_readStatement 4 [] rfl trivial ?_
                refine Rt.callV ok_M_readStatement rfl ml_M_157 [vI _, vI _] cf_M_fail rfl rfl (c_M_fail_50 (d + 8) _ _ _ _ e9) (Nat.le_of_ble_eq_true rfl) ?_
                cases hf
                exact Rt.retV ok_M_readStatement rfl rfl
              · rw [if_neg h21_6] at hf
                by_cases h21_7 : r1 = 7
                · rw [if_pos h21_7] at hf
                  refine Rt.path ok_M_readStatement 1 [7] rfl ⟨⟨h2, (show r1 = 0 + ((7 : Nat) : Int) by omega), (show r1 ≤ 11 by omega), by decide⟩, trivial⟩ ?_
                  obtain ⟨g10, e10, hf⟩ := Option.bind_eq_some_iff.mp hf
                  refine Rt.path ok_M_readStatement 4 [] rfl trivial ?_
                  refine Rt.callV ok_M_readStatement rfl ml_M_157 [vI _, vI _] cf_M_fail rfl rfl (c_M_fail_50 (d + 8) _ _ _ _ e10) (Nat.le_of_ble_eq_true rfl) ?_
                  cases hf
                  exact Rt.retV ok_M_readStatement rfl rfl
                · rw [if_neg h21_7] at hf
                  by_cases h21_8 : r1 = 8
                  · rw [if_pos h21_8] at hf
                    refine Rt.path ok_M_readStatement 1 [8] rfl ⟨⟨h2, (show r1 = 0 + ((8 : Nat) : Int) by omega), (show r1 ≤ 11 by omega), by decide⟩, trivial⟩ ?_
                    obtain ⟨g11, e11, hf⟩ := Option.bind_eq_some_iff.mp hf
                    refine Rt.path ok_M_readStatement 4 [] rfl trivial ?_
                    refine Rt.callV ok_M_readStatement rfl ml_M_157 [vI _, vI _] cf_M_fail rfl rfl (c_M_fail_50 (d + 8) _ _ _ _ e11) (Nat.le_of_ble_eq_true rfl) ?_
                    cases hf
                    exact Rt.retV ok_M_readStatement rfl rfl
                  · rw [if_neg h21_8] at hf
                    by_cases h21_9 : r1 = 9
                    · rw [if_pos h21_9] at hf
                      refine Rt.path ok_M_readStatement 1 [9] rfl ⟨⟨h2, (show r1 = 0 + ((9 : Nat) : Int) by omega), (show r1 ≤ 11 by omega), by decide⟩, trivial⟩ ?_
                      obtain ⟨g12, e12, hf⟩ := Option.bind_eq_some_iff.mp hf
                      refine Rt.path ok_M_readStatement 4 [] rfl trivial ?_
                      refine Rt.callV ok_M_readStatement rfl ml_M_157 [vI _, vI _] cf_M_fail rfl rfl (c_M_fail_50 (d + 8) _ _ _ _ e12) (Nat.le_of_ble_eq_true rfl) ?_
                      cases hf
                      exact Rt.retV ok_M_readStatement rfl rfl
                    · rw [if_neg h21_9] at hf
                      by_cases h21_10 : r1 = 10
                      · rw [if_pos h21_10] at hf
                        refine Rt.path ok_M_readStatement 1 [10] rfl ⟨⟨h2, (show r1 = 0 + ((10 : Nat) : Int) by omega), (show r1 ≤ 11 by omega), by decide⟩, trivial⟩ ?_
                        have h13 : ir (rI g1 49 14) := by
                          by_cases q : ir (rI g1 49 14)
                          · exact q
                          · rw [if_neg q] at hf; cases hf
                        rw [if_pos h13] at hf
                        by_cases h14 : (rI g1 49 14) = 6
                        · rw [if_pos h14] at hf
                          refine Rt.path ok_M_readStatement 4 [0] rfl ⟨⟨⟨h13, (show ir 6 by decide)⟩, h14⟩, trivial⟩ ?_
                          obtain ⟨g15, e15, hf⟩ := Option.bind_eq_some_iff.mp hf
                          refine Rt.path ok_M_readStatement 4 [] rfl trivial ?_
                          refine Rt.callV ok_M_readStatement rfl ml_M_157 [vI _, vI _] cf_M_fail rfl rfl (c_M_fail_50 (d + 8) _ _ _ _ e15) (Nat.le_of_ble_eq_true rfl) ?_
                          refine Rt.path ok_M_readStatement 1 [] rfl trivial ?_
                          exact Rt.weak ((rl_M_readStatement_50 d _ _ _).1 hf) trivial
                        · rw [if_neg h14] at hf
                          refine Rt.path ok_M_readStatement 4 [1] rfl ⟨⟨⟨h13, (show ir 6 by decide)⟩, h14⟩, trivial⟩ ?_
                          refine Rt.path ok_M_readStatement 12 [] rfl trivial ?_
                          exact Rt.weak ((rl_M_readStatement_50 d _ _ _).1 hf) trivial
                      · rw [if_neg h21_10] at hf
                        by_cases h21_11 : r1 = 11
                        · rw [if_pos h21_11] at hf
                          refine Rt.path ok_M_readStatement 1 [11] rfl ⟨⟨h2, (show r1 = 0 + ((11 : Nat) : Int) by omega), (show r1 ≤ 11 by omega), by decide⟩, trivial⟩ ?_
                          have h16 : ir (rI g1 49 14) := by
                            by_cases q : ir (rI g1 49 14)
                            · exact q
                            · rw [if_neg q] at hf; cases hf
                          rw [if_pos h16] at hf
                          by_cases h17 : (rI g1 49 14) = 0
                          · rw [if_pos h17] at hf
                            refine Rt.path ok_M_readStatement 3 [0] rfl ⟨⟨h16, h17⟩, trivial⟩ ?_
                            obtain ⟨g18, e18, hf⟩ := Option.bind_eq_some_iff.mp hf
                            refine Rt.path ok_M_readStatement 4 [] rfl trivial ?_
                            refine Rt.callV ok_M_readStatement rfl ml_M_157 [vI _, vI _] cf_M_fail rfl rfl (c_M_fail_50 (d + 8) _ _ _ _ e18) (Nat.le_of_ble_eq_true rfl) ?_
                            refine Rt.path ok_M_readStatement 1 [] rfl trivial ?_
                            exact Rt.weak ((rl_M_readStatement_50 d _ _ _).2 hf) trivial
                          · rw [if_neg h17] at hf
                            refine Rt.path ok_M_readStatement 3 [1] rfl ⟨⟨h16, h17⟩, trivial⟩ ?_
                            obtain ⟨g19, e19, hf⟩ := Option.bind_eq_some_iff.mp hf
                            refine Rt.path ok_M_readStatement 1 [] rfl trivial ?_
                            refine Rt.callV ok_M_readStatement rfl ml_M_353 [] cf_M_closeScope rfl rfl (c_M_closeScope_50 (d + 8) _ _ e19) (Nat.le_of_ble_eq_true rfl) ?_
                            refine Rt.path ok_M_readStatement 6 [] rfl trivial ?_
                            exact Rt.weak ((rl_M_readStatement_50 d _ _ _).2 hf) trivial
                        · rw [if_neg h21_11] at hf
                          refine Rt.path ok_M_readStatement 1 [12] rfl ⟨⟨h2, (show r1 < 0 ∨ 11 < r1 by omega), by decide⟩, trivial⟩ ?_
                          obtain ⟨g20, e20, hf⟩ := Option.bind_eq_some_iff.mp hf
                          refine Rt.path ok_M_readStatement 4 [] rfl trivial ?_
                          refine Rt.callV ok_M_readStatement rfl ml_M_157 [vI _, vI _] cf_M_fail rfl rfl (c_M_fail_50 (d + 8) _ _ _ _ e20) (Nat.le_of_ble_eq_true rfl) ?_
                          cases hf
                          exact Rt.retV ok_M_readStatement rfl rfl
