def f_Reader_declareConstant_26 (a1 : Int64) (g : G2) : Option (Int × G2) :=
  (f_Names_find_4 a1 g).bind fun q1 =>
  if ir q1.1 then
  if q1.1 = (-1) then
    (f_Names_isFull_4 q1.2).bind fun q4 =>
    if ir q4.1 then
    if q4.1 = 0 then
      (f_Names_add_4 a1 0 q4.2).bind fun q7 =>
      some (0, (gI q7.2 25 7 ((rI q7.2 25 7) + 1)))
    else
      some ((-7), q4.2)
    else none
  else
    some ((-4), q1.2)
  else none
set_option maxHeartbeats 4000000 in
set_option maxRecDepth 100000 in
theorem c_Reader_declareConstant_26 (d : Nat) (a1 : Int64) (g : G2) (r : Int) (g' : G2) (hf : f_Reader_declareConstant_26 a1 g = some (r, g')) : C2 (d + 1) m_Reader_declareConstant [vR 26, vL a1] g (some (vI r)) g' := by
  unfold f_Reader_declareConstant_26 at hf
  refine C2.of rfl rfl rfl (Nat.le_of_ble_eq_true rfl) ?_
  obtain ⟨q1, e1, hf⟩ := Option.bind_eq_some_iff.mp hf
  refine Rt.path ok_Reader_declareConstant 3 [] rfl trivial ?_
  refine Rt.callV ok_Reader_declareConstant rfl ml_Reader_118 [vL _] cf_Names_find rfl rfl (c_Names_find_4 d _ _ _ _ e1) (Nat.le_of_ble_eq_true rfl) ?_
  have h2 : ir q1.1 := by
    by_cases q : ir q1.1
    · exact q
    · rw [if_neg q] at hf; cases hf
  rw [if_pos h2] at hf
  by_cases h3 : q1.1 = (-1)
  · rw [if_pos h3] at hf
    refine Rt.path ok_Reader_declareConstant 2 [1] rfl ⟨⟨⟨h2, (show ir (-1) by decide)⟩, h3⟩, trivial⟩ ?_
    obtain ⟨q4, e4, hf⟩ := Option.bind_eq_some_iff.mp hf
    refine Rt.path ok_Reader_declareConstant 2 [] rfl trivial ?_
    refine Rt.callV ok_Reader_declareConstant rfl ml_Reader_161 [] cf_Names_isFull rfl rfl (c_Names_isFull_4 d _ _ _ e4) (Nat.le_of_ble_eq_true rfl) ?_
    have h5 : ir q4.1 := by
      by_cases q : ir q4.1
      · exact q
      · rw [if_neg q] at hf; cases hf
    rw [if_pos h5] at hf
    by_cases h6 : q4.1 = 0
    · rw [if_pos h6] at hf
      refine Rt.path ok_Reader_declareConstant 1 [1] rfl ⟨⟨h5, h6⟩, trivial⟩ ?_
      obtain ⟨q7, e7, hf⟩ := Option.bind_eq_some_iff.mp hf
      refine Rt.path ok_Reader_declareConstant 4 [] rfl trivial ?_
      refine Rt.callV ok_Reader_declareConstant rfl ml_Reader_164 [vL _, vI _] cf_Names_add rfl rfl (c_Names_add_4 d _ _ _ _ _ e7) (Nat.le_of_ble_eq_true rfl) ?_
      cases hf
      refine Rt.path ok_Reader_declareConstant 8 [] rfl trivial ?_
      exact Rt.retI ok_Reader_declareConstant rfl rfl
    · rw [if_neg h6] at hf
      refine Rt.path ok_Reader_declareConstant 1 [0] rfl ⟨⟨h5, h6⟩, trivial⟩ ?_
      cases hf
      refine Rt.path ok_Reader_declareConstant 1 [] rfl trivial ?_
      exact Rt.retI ok_Reader_declareConstant rfl rfl
  · rw [if_neg h3] at hf
    refine Rt.path ok_Reader_declareConstant 2 [0] rfl ⟨⟨⟨h2, (show ir (-1) by decide)⟩, h3⟩, trivial⟩ ?_
    cases hf
    refine Rt.path ok_Reader_declareConstant 1 [] rfl trivial ?_
    exact Rt.retI ok_Reader_declareConstant rfl rfl
def f_Reader_isActive_26 (a1 : Int) (g : G2) : Option (Int × G2) :=
  if ((am_ushr (rJ g 26 0) a1) &&& (Int64.ofNat 1)) = (Int64.ofNat 0) then
    some (0, g)
  else
    some (1, g)
set_option maxHeartbeats 4000000 in
set_option maxRecDepth 100000 in
theorem c_Reader_isActive_26 (d : Nat) (a1 : Int) (g : G2) (r : Int) (g' : G2) (hf : f_Reader_isActive_26 a1 g = some (r, g')) : C2 d m_Reader_isActive [vR 26, vI a1] g (some (vI r)) g' := by
  unfold f_Reader_isActive_26 at hf
  refine C2.of rfl rfl rfl (Nat.le_of_ble_eq_true rfl) ?_
  by_cases h1 : ((am_ushr (rJ g 26 0) a1) &&& (Int64.ofNat 1)) = (Int64.ofNat 0)
  · rw [if_pos h1] at hf
    refine Rt.path ok_Reader_isActive 10 [1] rfl ⟨⟨(am_cmpIn _ _), (am_cmp0.mpr h1)⟩, trivial⟩ ?_
    cases hf
    refine Rt.path ok_Reader_isActive 1 [] rfl trivial ?_
    exact Rt.retZ ok_Reader_isActive (show (0 : Int) = 0 ∨ (0 : Int) = 1 by decide) rfl rfl
  · rw [if_neg h1] at hf
    refine Rt.path ok_Reader_isActive 10 [0] rfl ⟨⟨(am_cmpIn _ _), (fun q => h1 (am_cmp0.mp q))⟩, trivial⟩ ?_
    cases hf
    refine Rt.path ok_Reader_isActive 2 [] rfl trivial ?_
    exact Rt.retZ ok_Reader_isActive (show (1 : Int) = 0 ∨ (1 : Int) = 1 by decide) rfl rfl
def f_Reader_declareVariable_26 (a1 : Int64) (g : G2) : Option (Int × G2) :=
  (f_Names_find_4 a1 g).bind fun q1 =>
  if ir q1.1 then
  if q1.1 = (-1) then
    (f_Names_isFull_4 q1.2).bind fun q4 =>
    if ir q4.1 then
    if q4.1 = 0 then
      if q1.1 = (-1) then
        (f_Names_add_4 a1 1 q4.2).bind fun q8 =>
        some (0, (gI (gJ q8.2 26 0 ((rJ q8.2 26 0) ||| (am_shl (Int64.ofNat 1) q8.1))) 25 7 ((rI q8.2 25 7) + 1)))
      else
        if 0 ≤ q1.1 ∧ q1.1 < 60 then
        if ir (rA q4.2 5 q1.1) then
        if (rA q4.2 5 q1.1) = 1 then
          (f_Reader_isActive_26 q1.1 q4.2).bind fun q12 =>
          if ir q12.1 then
          if q12.1 = 0 then
            some (0, (gI (gJ q12.2 26 0 ((rJ q12.2 26 0) ||| (am_shl (Int64.ofNat 1) q1.1))) 25 7 ((rI q12.2 25 7) + 1)))
          else
            some ((-4), q12.2)
          else none
        else
          some ((-4), q4.2)
        else none
        else none
    else
      some ((-7), q4.2)
    else none
  else
    if q1.1 = (-1) then
      (f_Names_add_4 a1 1 q1.2).bind fun q16 =>
      some (0, (gI (gJ q16.2 26 0 ((rJ q16.2 26 0) ||| (am_shl (Int64.ofNat 1) q16.1))) 25 7 ((rI q16.2 25 7) + 1)))
    else
      if 0 ≤ q1.1 ∧ q1.1 < 60 then
      if ir (rA q1.2 5 q1.1) then
      if (rA q1.2 5 q1.1) = 1 then
        (f_Reader_isActive_26 q1.1 q1.2).bind fun q20 =>
        if ir q20.1 then
        if q20.1 = 0 then
          some (0, (gI (gJ q20.2 26 0 ((rJ q20.2 26 0) ||| (am_shl (Int64.ofNat 1) q1.1))) 25 7 ((rI q20.2 25 7) + 1)))
        else
          some ((-4), q20.2)
        else none
      else
        some ((-4), q1.2)
      else none
      else none
  else none
set_option maxHeartbeats 4000000 in
set_option maxRecDepth 100000 in
theorem c_Reader_declareVariable_26 (d : Nat) (a1 : Int64) (g : G2) (r : Int) (g' : G2) (hf : f_Reader_declareVariable_26 a1 g = some (r, g')) : C2 (d + 1) m_Reader_declareVariable [vR 26, vL a1] g (some (vI r)) g' := by
  unfold f_Reader_declareVariable_26 at hf
  refine C2.of rfl rfl rfl (Nat.le_of_ble_eq_true rfl) ?_
  obtain ⟨q1, e1, hf⟩ := Option.bind_eq_some_iff.mp hf
  refine Rt.path ok_Reader_declareVariable 3 [] rfl trivial ?_
  refine Rt.callV ok_Reader_declareVariable rfl ml_Reader_118 [vL _] cf_Names_find rfl rfl (c_Names_find_4 d _ _ _ _ e1) (Nat.le_of_ble_eq_true rfl) ?_
  have h2 : ir q1.1 := by
    by_cases q : ir q1.1
    · exact q
    · rw [if_neg q] at hf; cases hf
  rw [if_pos h2] at hf
  by_cases h3 : q1.1 = (-1)
  · rw [if_pos h3] at hf
    refine Rt.path ok_Reader_declareVariable 4 [0] rfl ⟨⟨⟨h2, (show ir (-1) by decide)⟩, h3⟩, trivial⟩ ?_
    obtain ⟨q4, e4, hf⟩ := Option.bind_eq_some_iff.mp hf
    refine Rt.path ok_Reader_declareVariable 2 [] rfl trivial ?_
    refine Rt.callV ok_Reader_declareVariable rfl ml_Reader_161 [] cf_Names_isFull rfl rfl (c_Names_isFull_4 d _ _ _ e4) (Nat.le_of_ble_eq_true rfl) ?_
    have h5 : ir q4.1 := by
      by_cases q : ir q4.1
      · exact q
      · rw [if_neg q] at hf; cases hf
    rw [if_pos h5] at hf
    by_cases h6 : q4.1 = 0
    · rw [if_pos h6] at hf
      refine Rt.path ok_Reader_declareVariable 1 [1] rfl ⟨⟨h5, h6⟩, trivial⟩ ?_
      by_cases h7 : q1.1 = (-1)
      · rw [if_pos h7] at hf
        refine Rt.path ok_Reader_declareVariable 3 [0] rfl ⟨⟨⟨h2, (show ir (-1) by decide)⟩, h7⟩, trivial⟩ ?_
        obtain ⟨q8, e8, hf⟩ := Option.bind_eq_some_iff.mp hf
        refine Rt.path ok_Reader_declareVariable 4 [] rfl trivial ?_
        refine Rt.callV ok_Reader_declareVariable rfl ml_Reader_164 [vL _, vI _] cf_Names_add rfl rfl (c_Names_add_4 d _ _ _ _ _ e8) (Nat.le_of_ble_eq_true rfl) ?_
        cases hf
        refine Rt.path ok_Reader_declareVariable 18 [] rfl trivial ?_
        exact Rt.retI ok_Reader_declareVariable rfl rfl
      · rw [if_neg h7] at hf
        refine Rt.path ok_Reader_declareVariable 3 [1] rfl ⟨⟨⟨h2, (show ir (-1) by decide)⟩, h7⟩, trivial⟩ ?_
        have h9 : 0 ≤ q1.1 ∧ q1.1 < 60 := by
          by_cases q : 0 ≤ q1.1 ∧ q1.1 < 60
          · exact q
          · rw [if_neg q] at hf; cases hf
        rw [if_pos h9] at hf
        have h10 : ir (rA q4.2 5 q1.1) := by
          by_cases q : ir (rA q4.2 5 q1.1)
          · exact q
          · rw [if_neg q] at hf; cases hf
        rw [if_pos h10] at hf
        by_cases h11 : (rA q4.2 5 q1.1) = 1
        · rw [if_pos h11] at hf
          refine Rt.path ok_Reader_declareVariable 7 [0] rfl ⟨(ix_60 h9), ⟨⟨h10, (show ir 1 by decide)⟩, h11⟩, trivial⟩ ?_
          obtain ⟨q12, e12, hf⟩ := Option.bind_eq_some_iff.mp hf
          refine Rt.path ok_Reader_declareVariable 2 [] rfl trivial ?_
          refine Rt.callV ok_Reader_declareVariable rfl ml_Reader_172 [vI _] cf_Reader_isActive rfl rfl (c_Reader_isActive_26 d _ _ _ _ e12) (Nat.le_of_ble_eq_true rfl) ?_
          have h13 : ir q12.1 := by
            by_cases q : ir q12.1
            · exact q
            · rw [if_neg q] at hf; cases hf
          rw [if_pos h13] at hf
          by_cases h14 : q12.1 = 0
          · rw [if_pos h14] at hf
            refine Rt.path ok_Reader_declareVariable 1 [1] rfl ⟨⟨h13, h14⟩, trivial⟩ ?_
            cases hf
            refine Rt.path ok_Reader_declareVariable 16 [] rfl trivial ?_
            exact Rt.retI ok_Reader_declareVariable rfl rfl
          · rw [if_neg h14] at hf
            refine Rt.path ok_Reader_declareVariable 1 [0] rfl ⟨⟨h13, h14⟩, trivial⟩ ?_
            cases hf
            refine Rt.path ok_Reader_declareVariable 1 [] rfl trivial ?_
            exact Rt.retI ok_Reader_declareVariable rfl rfl
        · rw [if_neg h11] at hf
          refine Rt.path ok_Reader_declareVariable 7 [1] rfl ⟨(ix_60 h9), ⟨⟨h10, (show ir 1 by decide)⟩, h11⟩, trivial⟩ ?_
          cases hf
          refine Rt.path ok_Reader_declareVariable 1 [] rfl trivial ?_
          exact Rt.retI ok_Reader_declareVariable rfl rfl
    · rw [if_neg h6] at hf
      refine Rt.path ok_Reader_declareVariable 1 [0] rfl ⟨⟨h5, h6⟩, trivial⟩ ?_
      cases hf
      refine Rt.path ok_Reader_declareVariable 1 [] rfl trivial ?_
      exact Rt.retI ok_Reader_declareVariable rfl rfl
  · rw [if_neg h3] at hf
    refine Rt.path ok_Reader_declareVariable 4 [1] rfl ⟨⟨⟨h2, (show ir (-1) by decide)⟩, h3⟩, trivial⟩ ?_
    by_cases h15 : q1.1 = (-1)
    · rw [if_pos h15] at hf
      refine Rt.path ok_Reader_declareVariable 3 [0] rfl ⟨⟨⟨h2, (show ir (-1) by decide)⟩, h15⟩, trivial⟩ ?_
      obtain ⟨q16, e16, hf⟩ := Option.bind_eq_some_iff.mp hf
      refine Rt.path ok_Reader_declareVariable 4 [] rfl trivial ?_
      refine Rt.callV ok_Reader_declareVariable rfl ml_Reader_164 [vL _, vI _] cf_Names_add rfl rfl (c_Names_add_4 d _ _ _ _ _ e16) (Nat.le_of_ble_eq_true rfl) ?_
      cases hf
      refine Rt.path ok_Reader_declareVariable 18 [] rfl trivial ?_
      exact Rt.retI ok_Reader_declareVariable rfl rfl
    · rw [if_neg h15] at hf
      refine Rt.path ok_Reader_declareVariable 3 [1] rfl ⟨⟨⟨h2, (show ir (-1) by decide)⟩, h15⟩, trivial⟩ ?_
      have h17 : 0 ≤ q1.1 ∧ q1.1 < 60 := by
        by_cases q : 0 ≤ q1.1 ∧ q1.1 < 60
        · exact q
        · rw [if_neg q] at hf; cases hf
      rw [if_pos h17] at hf
      have h18 : ir (rA q1.2 5 q1.1) := by
        by_cases q : ir (rA q1.2 5 q1.1)
        · exact q
        · rw [if_neg q] at hf; cases hf
      rw [if_pos h18] at hf
      by_cases h19 : (rA q1.2 5 q1.1) = 1
      · rw [if_pos h19] at hf
        refine Rt.path ok_Reader_declareVariable 7 [0] rfl ⟨(ix_60 h17), ⟨⟨h18, (show ir 1 by decide)⟩, h19⟩, trivial⟩ ?_
        obtain ⟨q20, e20, hf⟩ := Option.bind_eq_some_iff.mp hf
        refine Rt.path ok_Reader_declareVariable 2 [] rfl trivial ?_
        refine Rt.callV ok_Reader_declareVariable rfl ml_Reader_172 [vI _] cf_Reader_isActive rfl rfl (c_Reader_isActive_26 d _ _ _ _ e20) (Nat.le_of_ble_eq_true rfl) ?_
        have h21 : ir q20.1 := by
          by_cases q : ir q20.1
          · exact q
          · rw [if_neg q] at hf; cases hf
        rw [if_pos h21] at hf
        by_cases h22 : q20.1 = 0
        · rw [if_pos h22] at hf
          refine Rt.path ok_Reader_declareVariable 1 [1] rfl ⟨⟨h21, h22⟩, trivial⟩ ?_
          cases hf
          refine Rt.path ok_Reader_declareVariable 16 [] rfl trivial ?_
          exact Rt.retI ok_Reader_declareVariable rfl rfl
        · rw [if_neg h22] at hf
          refine Rt.path ok_Reader_declareVariable 1 [0] rfl ⟨⟨h21, h22⟩, trivial⟩ ?_
          cases hf
          refine Rt.path ok_Reader_declareVariable 1 [] rfl trivial ?_
          exact Rt.retI ok_Reader_declareVariable rfl rfl
      · rw [if_neg h19] at hf
        refine Rt.path ok_Reader_declareVariable 7 [1] rfl ⟨(ix_60 h17), ⟨⟨h18, (show ir 1 by decide)⟩, h19⟩, trivial⟩ ?_
        cases hf
        refine Rt.path ok_Reader_declareVariable 1 [] rfl trivial ?_
        exact Rt.retI ok_Reader_declareVariable rfl rfl
def f_Reader_meaningOf_26 (a1 : Int) (g : G2) : Option (Int × G2) :=
  if ir a1 then
  if a1 = (-1) then
    some ((-1), g)
  else
    if 0 ≤ a1 ∧ a1 < 60 then
    if ir (rA g 5 a1) then
    if (rA g 5 a1) = 0 then
      some (0, g)
    else
      (f_Reader_isActive_26 a1 g).bind fun q6 =>
      if ir q6.1 then
      if q6.1 = 0 then
        some ((-1), q6.2)
      else
        some (1, q6.2)
      else none
    else none
    else none
  else none
set_option maxHeartbeats 4000000 in
set_option maxRecDepth 100000 in
theorem c_Reader_meaningOf_26 (d : Nat) (a1 : Int) (g : G2) (r : Int) (g' : G2) (hf : f_Reader_meaningOf_26 a1 g = some (r, g')) : C2 (d + 1) m_Reader_meaningOf [vR 26, vI a1] g (some (vI r)) g' := by
  unfold f_Reader_meaningOf_26 at hf
  refine C2.of rfl rfl rfl (Nat.le_of_ble_eq_true rfl) ?_
  have h1 : ir a1 := by
    by_cases q : ir a1
    · exact q
    · rw [if_neg q] at hf; cases hf
  rw [if_pos h1] at hf
  by_cases h2 : a1 = (-1)
  · rw [if_pos h2] at hf
    refine Rt.path ok_Reader_meaningOf 3 [0] rfl ⟨⟨⟨h1, (show ir (-1) by decide)⟩, h2⟩, trivial⟩ ?_
    cases hf
    refine Rt.path ok_Reader_meaningOf 1 [] rfl trivial ?_
    exact Rt.retI ok_Reader_meaningOf rfl rfl
  · rw [if_neg h2] at hf
    refine Rt.path ok_Reader_meaningOf 3 [1] rfl ⟨⟨⟨h1, (show ir (-1) by decide)⟩, h2⟩, trivial⟩ ?_
    have h3 : 0 ≤ a1 ∧ a1 < 60 := by
      by_cases q : 0 ≤ a1 ∧ a1 < 60
      · exact q
      · rw [if_neg q] at hf; cases hf
    rw [if_pos h3] at hf
    have h4 : ir (rA g 5 a1) := by
      by_cases q : ir (rA g 5 a1)
      · exact q
      · rw [if_neg q] at hf; cases hf
    rw [if_pos h4] at hf
    by_cases h5 : (rA g 5 a1) = 0
    · rw [if_pos h5] at hf
      refine Rt.path ok_Reader_meaningOf 6 [0] rfl ⟨(ix_60 h3), ⟨h4, h5⟩, trivial⟩ ?_
      cases hf
      refine Rt.path ok_Reader_meaningOf 1 [] rfl trivial ?_
      exact Rt.retI ok_Reader_meaningOf rfl rfl
    · rw [if_neg h5] at hf
      refine Rt.path ok_Reader_meaningOf 6 [1] rfl ⟨(ix_60 h3), ⟨h4, h5⟩, trivial⟩ ?_
      obtain ⟨q6, e6, hf⟩ := Option.bind_eq_some_iff.mp hf
      refine Rt.path ok_Reader_meaningOf 2 [] rfl trivial ?_
      refine Rt.callV ok_Reader_meaningOf rfl ml_Reader_172 [vI _] cf_Reader_isActive rfl rfl (c_Reader_isActive_26 d _ _ _ _ e6) (Nat.le_of_ble_eq_true rfl) ?_
      have h7 : ir q6.1 := by
        by_cases q : ir q6.1
        · exact q
        · rw [if_neg q] at hf; cases hf
      rw [if_pos h7] at hf
      by_cases h8 : q6.1 = 0
      · rw [if_pos h8] at hf
        refine Rt.path ok_Reader_meaningOf 1 [1] rfl ⟨⟨h7, h8⟩, trivial⟩ ?_
        cases hf
        refine Rt.path ok_Reader_meaningOf 1 [] rfl trivial ?_
        exact Rt.retI ok_Reader_meaningOf rfl rfl
      · rw [if_neg h8] at hf
        refine Rt.path ok_Reader_meaningOf 1 [0] rfl ⟨⟨h7, h8⟩, trivial⟩ ?_
        cases hf
        refine Rt.path ok_Reader_meaningOf 2 [] rfl trivial ?_
        exact Rt.retI ok_Reader_meaningOf rfl rfl
def b_Reader_takeApart_26_0 (L : Nat → Int → Int → G2 → Option (Int × G2)) (i1 : Int) (i3 : Int) (g : G2) : Option (Int × G2) :=
  if ir i3 then
  if ir (rI g 3 3) then
  if i3 < (rI g 3 3) then
    if ((am_ushr (rJ g 25 8) i3) &&& (Int64.ofNat 1)) = (Int64.ofNat 0) then
      L 0 i1 (i3 + 1) g
    else
      (f_Context_addPair_27 i3 i1 g).bind fun q12 =>
      L 0 i1 (i3 + 1) q12
  else
    some (0, (gI (gJ g 25 8 ((rJ g 25 8) ||| (am_shl (Int64.ofNat 1) i1))) 25 7 ((rI g 25 7) + 1)))
  else none
  else none
def l_Reader_takeApart_26 : Nat → Nat → Int → Int → G2 → Option (Int × G2)
  | 0 => fun _ _ _ _ => none
  | n + 1 => fun t i1 i3 g => match t with
    | _ => b_Reader_takeApart_26_0 (l_Reader_takeApart_26 n) i1 i3 g
set_option maxHeartbeats 4000000 in
set_option maxRecDepth 100000 in
theorem rl_Reader_takeApart_26 (d : Nat) : ∀ (n : Nat) (i1 : Int) (i3 : Int) (g : G2) (r : Int) (g' : G2), (l_Reader_takeApart_26 n 0 i1 i3 g = some (r, g') → Rt (d + 2) m_Reader_takeApart 62 [some (vR 26), some (vI i1), none, some (vI i3)] [] g (some (vI r)) g') := by
  intro n
  induction n with
  | zero => intro i1 i3 g r g'; exact fun hf => by cases hf
  | succ n ih =>
    intro i1 i3 g r g'
    intro hf
    replace hf : b_Reader_takeApart_26_0 (l_Reader_takeApart_26 n) i1 i3 g = some (r, g') := hf
    unfold b_Reader_takeApart_26_0 at hf
    have h8 : ir i3 := by
      by_cases q : ir i3
      · exact q
      · rw [if_neg q] at hf; cases hf
    rw [if_pos h8] at hf
    have h9 : ir (rI g 3 3) := by
      by_cases q : ir (rI g 3 3)
      · exact q
      · rw [if_neg q] at hf; cases hf
    rw [if_pos h9] at hf
    by_cases h10 : i3 < (rI g 3 3)
    · rw [if_pos h10] at hf
      refine Rt.path ok_Reader_takeApart 5 [0] rfl ⟨⟨⟨h8, h9⟩, h10⟩, trivial⟩ ?_
      by_cases h11 : ((am_ushr (rJ g 25 8) i3) &&& (Int64.ofNat 1)) = (Int64.ofNat 0)
      · rw [if_pos h11] at hf
        refine Rt.path ok_Reader_takeApart 9 [1] rfl ⟨⟨(am_cmpIn _ _), (am_cmp0.mpr h11)⟩, trivial⟩ ?_
        refine Rt.path ok_Reader_takeApart 2 [] rfl trivial ?_
        exact Rt.weak ((ih _ _ _ _ _) hf) ⟨rfl, rfl, rfl, trivial⟩
      · rw [if_neg h11] at hf
        refine Rt.path ok_Reader_takeApart 9 [0] rfl ⟨⟨(am_cmpIn _ _), (fun q => h11 (am_cmp0.mp q))⟩, trivial⟩ ?_
        obtain ⟨q12, e12, hf⟩ := Option.bind_eq_some_iff.mp hf
        refine Rt.path ok_Reader_takeApart 4 [] rfl trivial ?_
        refine Rt.callV ok_Reader_takeApart rfl ml_Reader_189 [vI _, vI _] cf_Context_addPair rfl rfl (c_Context_addPair_27 d _ _ _ _ e12) (Nat.le_of_ble_eq_true rfl) ?_
        refine Rt.path ok_Reader_takeApart 2 [] rfl trivial ?_
        exact Rt.weak ((ih _ _ _ _ _) hf) ⟨rfl, rfl, rfl, trivial⟩
    · rw [if_neg h10] at hf
      refine Rt.path ok_Reader_takeApart 5 [1] rfl ⟨⟨⟨h8, h9⟩, (Int.not_lt.mp h10)⟩, trivial⟩ ?_
      cases hf
      refine Rt.path ok_Reader_takeApart 15 [] rfl trivial ?_
      exact Rt.retI ok_Reader_takeApart rfl rfl
def f_Reader_takeApart_26 (a1 : Int) (g : G2) : Option (Int × G2) :=
  (f_Reader_meaningOf_26 a1 g).bind fun q1 =>
  if ir q1.1 then
  if q1.1 = 1 then
    if ((am_ushr (rJ q1.2 25 8) a1) &&& (Int64.ofNat 1)) = (Int64.ofNat 0) then
      if ir ((rI q1.2 26 4) + (rI q1.2 25 7)) then
      if 40 < ((rI q1.2 26 4) + (rI q1.2 25 7)) then
        some ((-7), q1.2)
      else
        l_Reader_takeApart_26 20000 0 a1 0 q1.2
      else none
    else
      some ((-4), q1.2)
  else
    if q1.1 = (-1) then
      some ((-4), q1.2)
    else
      some ((-6), q1.2)
  else none
set_option maxHeartbeats 4000000 in
set_option maxRecDepth 100000 in
theorem c_Reader_takeApart_26 (d : Nat) (a1 : Int) (g : G2) (r : Int) (g' : G2) (hf : f_Reader_takeApart_26 a1 g = some (r, g')) : C2 (d + 2) m_Reader_takeApart [vR 26, vI a1] g (some (vI r)) g' := by
  unfold f_Reader_takeApart_26 at hf
  refine C2.of rfl rfl rfl (Nat.le_of_ble_eq_true rfl) ?_
  obtain ⟨q1, e1, hf⟩ := Option.bind_eq_some_iff.mp hf
  refine Rt.path ok_Reader_takeApart 2 [] rfl trivial ?_
  refine Rt.callV ok_Reader_takeApart rfl ml_Reader_182 [vI _] cf_Reader_meaningOf rfl rfl (c_Reader_meaningOf_26 d _ _ _ _ e1) (Nat.le_of_ble_eq_true rfl) ?_
  have h2 : ir q1.1 := by
    by_cases q : ir q1.1
    · exact q
    · rw [if_neg q] at hf; cases hf
  rw [if_pos h2] at hf
  by_cases h3 : q1.1 = 1
  · rw [if_pos h3] at hf
    refine Rt.path ok_Reader_takeApart 4 [1] rfl ⟨⟨⟨h2, (show ir 1 by decide)⟩, h3⟩, trivial⟩ ?_
    by_cases h4 : ((am_ushr (rJ q1.2 25 8) a1) &&& (Int64.ofNat 1)) = (Int64.ofNat 0)
    · rw [if_pos h4] at hf
      refine Rt.path ok_Reader_takeApart 9 [1] rfl ⟨⟨(am_cmpIn _ _), (am_cmp0.mpr h4)⟩, trivial⟩ ?_
      have h5 : ir ((rI q1.2 26 4) + (rI q1.2 25 7)) := by
        by_cases q : ir ((rI q1.2 26 4) + (rI q1.2 25 7))
        · exact q
        · rw [if_neg q] at hf; cases hf
      rw [if_pos h5] at hf
      by_cases h6 : 40 < ((rI q1.2 26 4) + (rI q1.2 25 7))
      · rw [if_pos h6] at hf
        refine Rt.path ok_Reader_takeApart 8 [0] rfl ⟨⟨⟨h5, (show ir 40 by decide)⟩, h6⟩, trivial⟩ ?_
        cases hf
        refine Rt.path ok_Reader_takeApart 1 [] rfl trivial ?_
        exact Rt.retI ok_Reader_takeApart rfl rfl
      · rw [if_neg h6] at hf
        refine Rt.path ok_Reader_takeApart 8 [1] rfl ⟨⟨⟨h5, (show ir 40 by decide)⟩, (Int.not_lt.mp h6)⟩, trivial⟩ ?_
        refine Rt.path ok_Reader_takeApart 2 [] rfl trivial ?_
        exact Rt.weak ((rl_Reader_takeApart_26 d _ _ _ _ _ _) hf) ⟨rfl, rfl, rfl, trivial⟩
    · rw [if_neg h4] at hf
      refine Rt.path ok_Reader_takeApart 9 [0] rfl ⟨⟨(am_cmpIn _ _), (fun q => h4 (am_cmp0.mp q))⟩, trivial⟩ ?_
      cases hf
      refine Rt.path ok_Reader_takeApart 1 [] rfl trivial ?_
      exact Rt.retI ok_Reader_takeApart rfl rfl
  · rw [if_neg h3] at hf
    refine Rt.path ok_Reader_takeApart 4 [0] rfl ⟨⟨⟨h2, (show ir 1 by decide)⟩, h3⟩, trivial⟩ ?_
    by_cases h7 : q1.1 = (-1)
    · rw [if_pos h7] at hf
      refine Rt.path ok_Reader_takeApart 3 [0] rfl ⟨⟨⟨h2, (show ir (-1) by decide)⟩, h7⟩, trivial⟩ ?_
      cases hf
      refine Rt.path ok_Reader_takeApart 2 [] rfl trivial ?_
      exact Rt.retI ok_Reader_takeApart rfl rfl
    · rw [if_neg h7] at hf
      refine Rt.path ok_Reader_takeApart 3 [1] rfl ⟨⟨⟨h2, (show ir (-1) by decide)⟩, h7⟩, trivial⟩ ?_
      cases hf
      refine Rt.path ok_Reader_takeApart 1 [] rfl trivial ?_
      exact Rt.retI ok_Reader_takeApart rfl rfl
def f_Expressions_append_11 (a1 : Int) (a2 : Int) (g : G2) : Option (G2) :=
  if 0 ≤ (rI g 10 4) ∧ (rI g 10 4) < 40 then
  if 0 ≤ (((rI g 10 4) * 24) + (rA g 12 (rI g 10 4))) ∧ (((rI g 10 4) * 24) + (rA g 12 (rI g 10 4))) < 960 then
  if ir a2 then
  if a2 = 0 then
    some (gA (gA g 11 (((rI g 10 4) * 24) + (rA g 12 (rI g 10 4))) a1) 12 (rI g 10 4) ((rA g 12 (rI g 10 4)) + 1))
  else
    some (gB (gA (gA g 11 (((rI g 10 4) * 24) + (rA g 12 (rI g 10 4))) a1) 12 (rI g 10 4) ((rA g 12 (rI g 10 4)) + 1)) 13 (rI g 10 4) ((rB g 13 (rI g 10 4)) ||| (am_shl (Int64.ofNat 1) a1)))
  else none
  else none
  else none
set_option maxHeartbeats 4000000 in
set_option maxRecDepth 100000 in
theorem c_Expressions_append_11 (d : Nat) (a1 : Int) (a2 : Int) (g : G2) (g' : G2) (hf : f_Expressions_append_11 a1 a2 g = some g') : C2 d m_Expressions_append [vR 11, vI a1, vI a2] g none g' := by
  unfold f_Expressions_append_11 at hf
  refine C2.of rfl rfl rfl (Nat.le_of_ble_eq_true rfl) ?_
  have h1 : 0 ≤ (rI g 10 4) ∧ (rI g 10 4) < 40 := by
    by_cases q : 0 ≤ (rI g 10 4) ∧ (rI g 10 4) < 40
    · exact q
    · rw [if_neg q] at hf; cases hf
  rw [if_pos h1] at hf
  have h2 : 0 ≤ (((rI g 10 4) * 24) + (rA g 12 (rI g 10 4))) ∧ (((rI g 10 4) * 24) + (rA g 12 (rI g 10 4))) < 960 := by
    by_cases q : 0 ≤ (((rI g 10 4) * 24) + (rA g 12 (rI g 10 4))) ∧ (((rI g 10 4) * 24) + (rA g 12 (rI g 10 4))) < 960
    · exact q
    · rw [if_neg q] at hf; cases hf
  rw [if_pos h2] at hf
  have h3 : ir a2 := by
    by_cases q : ir a2
    · exact q
    · rw [if_neg q] at hf; cases hf
  rw [if_pos h3] at hf
  by_cases h4 : a2 = 0
  · rw [if_pos h4] at hf
    refine Rt.path ok_Expressions_append 25 [1] rfl ⟨(ix_40 h1), (ix_960 h2), (ix_40 h1), (ix_40 h1), ⟨h3, h4⟩, trivial⟩ ?_
    cases hf
    exact Rt.retV ok_Expressions_append rfl rfl
  · rw [if_neg h4] at hf
    refine Rt.path ok_Expressions_append 25 [0] rfl ⟨(ix_40 h1), (ix_960 h2), (ix_40 h1), (ix_40 h1), ⟨h3, h4⟩, trivial⟩ ?_
    cases hf
    refine Rt.path ok_Expressions_append 11 [] rfl ⟨(ix_40 h1), (ix_40 h1), trivial⟩ ?_
    exact Rt.retV ok_Expressions_append rfl rfl
def f_Reader_takeType_26 (a1 : Int) (g : G2) : Option (Int × G2) :=
  (f_Reader_meaningOf_26 a1 g).bind fun q1 =>
  if ir q1.1 then
  if q1.1 = 0 then
    (f_Expressions_append_11 a1 0 q1.2).bind fun q4 =>
    if ir (rI q4 25 6) then
    if (rI q4 25 6) = 5 then
      some (0, (gI q4 25 6 6))
    else
      some (0, (gI q4 25 6 9))
    else none
  else
    if q1.1 = (-1) then
      some ((-4), q1.2)
    else
      some ((-6), q1.2)
  else none
set_option maxHeartbeats 4000000 in
set_option maxRecDepth 100000 in
theorem c_Reader_takeType_26 (d : Nat) (a1 : Int) (g : G2) (r : Int) (g' : G2) (hf : f_Reader_takeType_26 a1 g = some (r, g')) : C2 (d + 2) m_Reader_takeType [vR 26, vI a1] g (some (vI r)) g' := by
  unfold f_Reader_takeType_26 at hf
  refine C2.of rfl rfl rfl (Nat.le_of_ble_eq_true rfl) ?_
  obtain ⟨q1, e1, hf⟩ := Option.bind_eq_some_iff.mp hf
  refine Rt.path ok_Reader_takeType 2 [] rfl trivial ?_
  refine Rt.callV ok_Reader_takeType rfl ml_Reader_182 [vI _] cf_Reader_meaningOf rfl rfl (c_Reader_meaningOf_26 d _ _ _ _ e1) (Nat.le_of_ble_eq_true rfl) ?_
  have h2 : ir q1.1 := by
    by_cases q : ir q1.1
    · exact q
    · rw [if_neg q] at hf; cases hf
  rw [if_pos h2] at hf
  by_cases h3 : q1.1 = 0
  · rw [if_pos h3] at hf
    refine Rt.path ok_Reader_takeType 3 [1] rfl ⟨⟨h2, h3⟩, trivial⟩ ?_
    obtain ⟨q4, e4, hf⟩ := Option.bind_eq_some_iff.mp hf
    refine Rt.path ok_Reader_takeType 5 [] rfl trivial ?_
    refine Rt.callV ok_Reader_takeType rfl ml_Reader_201 [vI _, vI _] cf_Expressions_append rfl rfl (c_Expressions_append_11 (d + 1) _ _ _ _ e4) (Nat.le_of_ble_eq_true rfl) ?_
    have h5 : ir (rI q4 25 6) := by
      by_cases q : ir (rI q4 25 6)
      · exact q
      · rw [if_neg q] at hf; cases hf
    rw [if_pos h5] at hf
    by_cases h6 : (rI q4 25 6) = 5
    · rw [if_pos h6] at hf
      refine Rt.path ok_Reader_takeType 5 [0] rfl ⟨⟨⟨h5, (show ir 5 by decide)⟩, h6⟩, trivial⟩ ?_
      cases hf
      refine Rt.path ok_Reader_takeType 4 [] rfl trivial ?_
      exact Rt.retI ok_Reader_takeType rfl rfl
    · rw [if_neg h6] at hf
      refine Rt.path ok_Reader_takeType 5 [1] rfl ⟨⟨⟨h5, (show ir 5 by decide)⟩, h6⟩, trivial⟩ ?_
      cases hf
      refine Rt.path ok_Reader_takeType 3 [] rfl trivial ?_
      exact Rt.retI ok_Reader_takeType rfl rfl
  · rw [if_neg h3] at hf
    refine Rt.path ok_Reader_takeType 3 [0] rfl ⟨⟨h2, h3⟩, trivial⟩ ?_
    by_cases h7 : q1.1 = (-1)
    · rw [if_pos h7] at hf
      refine Rt.path ok_Reader_takeType 3 [0] rfl ⟨⟨⟨h2, (show ir (-1) by decide)⟩, h7⟩, trivial⟩ ?_
      cases hf
      refine Rt.path ok_Reader_takeType 2 [] rfl trivial ?_
      exact Rt.retI ok_Reader_takeType rfl rfl
    · rw [if_neg h7] at hf
      refine Rt.path ok_Reader_takeType 3 [1] rfl ⟨⟨⟨h2, (show ir (-1) by decide)⟩, h7⟩, trivial⟩ ?_
      cases hf
      refine Rt.path ok_Reader_takeType 1 [] rfl trivial ?_
      exact Rt.retI ok_Reader_takeType rfl rfl
def f_Reader_isTyped_26 (a1 : Int) (g : G2) : Option (Int × G2) :=
  if ((am_ushr (rJ g 26 1) a1) &&& (Int64.ofNat 1)) = (Int64.ofNat 0) then
    some (0, g)
  else
    some (1, g)
set_option maxHeartbeats 4000000 in
set_option maxRecDepth 100000 in
theorem c_Reader_isTyped_26 (d : Nat) (a1 : Int) (g : G2) (r : Int) (g' : G2) (hf : f_Reader_isTyped_26 a1 g = some (r, g')) : C2 d m_Reader_isTyped [vR 26, vI a1] g (some (vI r)) g' := by
  unfold f_Reader_isTyped_26 at hf
  refine C2.of rfl rfl rfl (Nat.le_of_ble_eq_true rfl) ?_
  by_cases h1 : ((am_ushr (rJ g 26 1) a1) &&& (Int64.ofNat 1)) = (Int64.ofNat 0)
  · rw [if_pos h1] at hf
    refine Rt.path ok_Reader_isTyped 10 [1] rfl ⟨⟨(am_cmpIn _ _), (am_cmp0.mpr h1)⟩, trivial⟩ ?_
    cases hf
    refine Rt.path ok_Reader_isTyped 1 [] rfl trivial ?_
    exact Rt.retZ ok_Reader_isTyped (show (0 : Int) = 0 ∨ (0 : Int) = 1 by decide) rfl rfl
  · rw [if_neg h1] at hf
    refine Rt.path ok_Reader_isTyped 10 [0] rfl ⟨⟨(am_cmpIn _ _), (fun q => h1 (am_cmp0.mp q))⟩, trivial⟩ ?_
    cases hf
    refine Rt.path ok_Reader_isTyped 2 [] rfl trivial ?_
    exact Rt.retZ ok_Reader_isTyped (show (1 : Int) = 0 ∨ (1 : Int) = 1 by decide) rfl rfl
def f_Reader_takeFloating_26 (a1 : Int) (g : G2) : Option (Int × G2) :=
  (f_Reader_meaningOf_26 a1 g).bind fun q1 =>
  if ir q1.1 then
  if q1.1 = 1 then
    (f_Reader_isTyped_26 a1 q1.2).bind fun q4 =>
    if ir q4.1 then
    if q4.1 = 0 then
      (f_Expressions_append_11 a1 1 q4.2).bind fun q7 =>
      some (0, (gI q7 25 6 7))
    else
      some ((-4), q4.2)
    else none
  else
    if q1.1 = (-1) then
      some ((-4), q1.2)
    else
      some ((-6), q1.2)
  else none
set_option maxHeartbeats 4000000 in
set_option maxRecDepth 100000 in
theorem c_Reader_takeFloating_26 (d : Nat) (a1 : Int) (g : G2) (r : Int) (g' : G2) (hf : f_Reader_takeFloating_26 a1 g = some (r, g')) : C2 (d + 2) m_Reader_takeFloating [vR 26, vI a1] g (some (vI r)) g' := by
  unfold f_Reader_takeFloating_26 at hf
  refine C2.of rfl rfl rfl (Nat.le_of_ble_eq_true rfl) ?_
  obtain ⟨q1, e1, hf⟩ := Option.bind_eq_some_iff.mp hf
  refine Rt.path ok_Reader_takeFloating 2 [] rfl trivial ?_
  refine Rt.callV ok_Reader_takeFloating rfl ml_Reader_182 [vI _] cf_Reader_meaningOf rfl rfl (c_Reader_meaningOf_26 d _ _ _ _ e1) (Nat.le_of_ble_eq_true rfl) ?_
  have h2 : ir q1.1 := by
    by_cases q : ir q1.1
    · exact q
    · rw [if_neg q] at hf; cases hf
  rw [if_pos h2] at hf
  by_cases h3 : q1.1 = 1
  · rw [if_pos h3] at hf
    refine Rt.path ok_Reader_takeFloating 4 [1] rfl ⟨⟨⟨h2, (show ir 1 by decide)⟩, h3⟩, trivial⟩ ?_
    obtain ⟨q4, e4, hf⟩ := Option.bind_eq_some_iff.mp hf
    refine Rt.path ok_Reader_takeFloating 2 [] rfl trivial ?_
    refine Rt.callV ok_Reader_takeFloating rfl ml_Reader_205 [vI _] cf_Reader_isTyped rfl rfl (c_Reader_isTyped_26 (d + 1) _ _ _ _ e4) (Nat.le_of_ble_eq_true rfl) ?_
    have h5 : ir q4.1 := by
      by_cases q : ir q4.1
      · exact q
      · rw [if_neg q] at hf; cases hf
    rw [if_pos h5] at hf
    by_cases h6 : q4.1 = 0
    · rw [if_pos h6] at hf
      refine Rt.path ok_Reader_takeFloating 1 [1] rfl ⟨⟨h5, h6⟩, trivial⟩ ?_
      obtain ⟨q7, e7, hf⟩ := Option.bind_eq_some_iff.mp hf
      refine Rt.path ok_Reader_takeFloating 5 [] rfl trivial ?_
      refine Rt.callV ok_Reader_takeFloating rfl ml_Reader_201 [vI _, vI _] cf_Expressions_append rfl rfl (c_Expressions_append_11 (d + 1) _ _ _ _ e7) (Nat.le_of_ble_eq_true rfl) ?_
      cases hf
      refine Rt.path ok_Reader_takeFloating 4 [] rfl trivial ?_
      exact Rt.retI ok_Reader_takeFloating rfl rfl
    · rw [if_neg h6] at hf
      refine Rt.path ok_Reader_takeFloating 1 [0] rfl ⟨⟨h5, h6⟩, trivial⟩ ?_
      cases hf
      refine Rt.path ok_Reader_takeFloating 1 [] rfl trivial ?_
      exact Rt.retI ok_Reader_takeFloating rfl rfl
  · rw [if_neg h3] at hf
    refine Rt.path ok_Reader_takeFloating 4 [0] rfl ⟨⟨⟨h2, (show ir 1 by decide)⟩, h3⟩, trivial⟩ ?_
    by_cases h8 : q1.1 = (-1)
    · rw [if_pos h8] at hf
      refine Rt.path ok_Reader_takeFloating 3 [0] rfl ⟨⟨⟨h2, (show ir (-1) by decide)⟩, h8⟩, trivial⟩ ?_
      cases hf
      refine Rt.path ok_Reader_takeFloating 2 [] rfl trivial ?_
      exact Rt.retI ok_Reader_takeFloating rfl rfl
    · rw [if_neg h8] at hf
      refine Rt.path ok_Reader_takeFloating 3 [1] rfl ⟨⟨⟨h2, (show ir (-1) by decide)⟩, h8⟩, trivial⟩ ?_
      cases hf
      refine Rt.path ok_Reader_takeFloating 1 [] rfl trivial ?_
      exact Rt.retI ok_Reader_takeFloating rfl rfl
def f_Expressions_rowHasRoom_11 (a1 : Int) (g : G2) : Option (Int × G2) :=
  if 0 ≤ (rI g 10 4) ∧ (rI g 10 4) < 40 then
  if ir ((rA g 12 (rI g 10 4)) + a1) then
  if 24 < ((rA g 12 (rI g 10 4)) + a1) then
    some (0, g)
  else
    some (1, g)
  else none
  else none
set_option maxHeartbeats 4000000 in
set_option maxRecDepth 100000 in
theorem c_Expressions_rowHasRoom_11 (d : Nat) (a1 : Int) (g : G2) (r : Int) (g' : G2) (hf : f_Expressions_rowHasRoom_11 a1 g = some (r, g')) : C2 d m_Expressions_rowHasRoom [vR 11, vI a1] g (some (vI r)) g' := by
  unfold f_Expressions_rowHasRoom_11 at hf
  refine C2.of rfl rfl rfl (Nat.le_of_ble_eq_true rfl) ?_
  have h1 : 0 ≤ (rI g 10 4) ∧ (rI g 10 4) < 40 := by
    by_cases q : 0 ≤ (rI g 10 4) ∧ (rI g 10 4) < 40
    · exact q
    · rw [if_neg q] at hf; cases hf
  rw [if_pos h1] at hf
  have h2 : ir ((rA g 12 (rI g 10 4)) + a1) := by
    by_cases q : ir ((rA g 12 (rI g 10 4)) + a1)
    · exact q
    · rw [if_neg q] at hf; cases hf
  rw [if_pos h2] at hf
  by_cases h3 : 24 < ((rA g 12 (rI g 10 4)) + a1)
  · rw [if_pos h3] at hf
    refine Rt.path ok_Expressions_rowHasRoom 9 [1] rfl ⟨(ix_40 h1), ⟨⟨h2, (show ir 24 by decide)⟩, h3⟩, trivial⟩ ?_
    cases hf
    refine Rt.path ok_Expressions_rowHasRoom 1 [] rfl trivial ?_
    exact Rt.retZ ok_Expressions_rowHasRoom (show (0 : Int) = 0 ∨ (0 : Int) = 1 by decide) rfl rfl
  · rw [if_neg h3] at hf
    refine Rt.path ok_Expressions_rowHasRoom 9 [0] rfl ⟨(ix_40 h1), ⟨⟨h2, (show ir 24 by decide)⟩, (Int.not_lt.mp h3)⟩, trivial⟩ ?_
    cases hf
    refine Rt.path ok_Expressions_rowHasRoom 2 [] rfl trivial ?_
    exact Rt.retZ ok_Expressions_rowHasRoom (show (1 : Int) = 0 ∨ (1 : Int) = 1 by decide) rfl rfl
def f_Reader_takeSymbol_26 (a1 : Int) (g : G2) : Option (Int × G2) :=
  (f_Reader_meaningOf_26 a1 g).bind fun q1 =>
  if ir q1.1 then
  if q1.1 = (-1) then
    some ((-4), q1.2)
  else
    if q1.1 = 1 then
      (f_Reader_isTyped_26 a1 q1.2).bind fun q5 =>
      if ir q5.1 then
      if q5.1 = 0 then
        some ((-4), q5.2)
      else
        (f_Expressions_rowHasRoom_11 1 q5.2).bind fun q8 =>
        if ir q8.1 then
        if q8.1 = 0 then
          some ((-7), q8.2)
        else
          if q1.1 = 1 then
            (f_Expressions_append_11 a1 1 q8.2).bind fun q12 =>
            some (0, q12)
          else
            (f_Expressions_append_11 a1 0 q8.2).bind fun q13 =>
            some (0, q13)
        else none
      else none
    else
      (f_Expressions_rowHasRoom_11 1 q1.2).bind fun q14 =>
      if ir q14.1 then
      if q14.1 = 0 then
        some ((-7), q14.2)
      else
        if q1.1 = 1 then
          (f_Expressions_append_11 a1 1 q14.2).bind fun q18 =>
          some (0, q18)
        else
          (f_Expressions_append_11 a1 0 q14.2).bind fun q19 =>
          some (0, q19)
      else none
  else none
set_option maxHeartbeats 4000000 in
set_option maxRecDepth 100000 in
theorem c_Reader_takeSymbol_26 (d : Nat) (a1 : Int) (g : G2) (r : Int) (g' : G2) (hf : f_Reader_takeSymbol_26 a1 g = some (r, g')) : C2 (d + 2) m_Reader_takeSymbol [vR 26, vI a1] g (some (vI r)) g' := by
  unfold f_Reader_takeSymbol_26 at hf
  refine C2.of rfl rfl rfl (Nat.le_of_ble_eq_true rfl) ?_
  obtain ⟨q1, e1, hf⟩ := Option.bind_eq_some_iff.mp hf
  refine Rt.path ok_Reader_takeSymbol 2 [] rfl trivial ?_
  refine Rt.callV ok_Reader_takeSymbol rfl ml_Reader_182 [vI _] cf_Reader_meaningOf rfl rfl (c_Reader_meaningOf_26 d _ _ _ _ e1) (Nat.le_of_ble_eq_true rfl) ?_
  have h2 : ir q1.1 := by
    by_cases q : ir q1.1
    · exact q
    · rw [if_neg q] at hf; cases hf
  rw [if_pos h2] at hf
  by_cases h3 : q1.1 = (-1)
  · rw [if_pos h3] at hf
    refine Rt.path ok_Reader_takeSymbol 4 [1] rfl ⟨⟨⟨h2, (show ir (-1) by decide)⟩, h3⟩, trivial⟩ ?_
    cases hf
    refine Rt.path ok_Reader_takeSymbol 1 [] rfl trivial ?_
    exact Rt.retI ok_Reader_takeSymbol rfl rfl
  · rw [if_neg h3] at hf
    refine Rt.path ok_Reader_takeSymbol 4 [0] rfl ⟨⟨⟨h2, (show ir (-1) by decide)⟩, h3⟩, trivial⟩ ?_
    by_cases h4 : q1.1 = 1
    · rw [if_pos h4] at hf
      refine Rt.path ok_Reader_takeSymbol 3 [0] rfl ⟨⟨⟨h2, (show ir 1 by decide)⟩, h4⟩, trivial⟩ ?_
      obtain ⟨q5, e5, hf⟩ := Option.bind_eq_some_iff.mp hf
      refine Rt.path ok_Reader_takeSymbol 2 [] rfl trivial ?_
      refine Rt.callV ok_Reader_takeSymbol rfl ml_Reader_205 [vI _] cf_Reader_isTyped rfl rfl (c_Reader_isTyped_26 (d + 1) _ _ _ _ e5) (Nat.le_of_ble_eq_true rfl) ?_
      have h6 : ir q5.1 := by
        by_cases q : ir q5.1
        · exact q
        · rw [if_neg q] at hf; cases hf
      rw [if_pos h6] at hf
      by_cases h7 : q5.1 = 0
      · rw [if_pos h7] at hf
        refine Rt.path ok_Reader_takeSymbol 1 [0] rfl ⟨⟨h6, h7⟩, trivial⟩ ?_
        cases hf
        refine Rt.path ok_Reader_takeSymbol 1 [] rfl trivial ?_
        exact Rt.retI ok_Reader_takeSymbol rfl rfl
      · rw [if_neg h7] at hf
        refine Rt.path ok_Reader_takeSymbol 1 [1] rfl ⟨⟨h6, h7⟩, trivial⟩ ?_
        obtain ⟨q8, e8, hf⟩ := Option.bind_eq_some_iff.mp hf
        refine Rt.path ok_Reader_takeSymbol 4 [] rfl trivial ?_
        refine Rt.callV ok_Reader_takeSymbol rfl ml_Reader_208 [vI _] cf_Expressions_rowHasRoom rfl rfl (c_Expressions_rowHasRoom_11 (d + 1) _ _ _ _ e8) (Nat.le_of_ble_eq_true rfl) ?_
        have h9 : ir q8.1 := by
          by_cases q : ir q8.1
          · exact q
          · rw [if_neg q] at hf; cases hf
        rw [if_pos h9] at hf
        by_cases h10 : q8.1 = 0
        · rw [if_pos h10] at hf
          refine Rt.path ok_Reader_takeSymbol 1 [0] rfl ⟨⟨h9, h10⟩, trivial⟩ ?_
          cases hf
          refine Rt.path ok_Reader_takeSymbol 1 [] rfl trivial ?_
          exact Rt.retI ok_Reader_takeSymbol rfl rfl
        · rw [if_neg h10] at hf
          refine Rt.path ok_Reader_takeSymbol 1 [1] rfl ⟨⟨h9, h10⟩, trivial⟩ ?_
          by_cases h11 : q1.1 = 1
          · rw [if_pos h11] at hf
            refine Rt.path ok_Reader_takeSymbol 7 [0] rfl ⟨⟨⟨h2, (show ir 1 by decide)⟩, h11⟩, trivial⟩ ?_
            obtain ⟨q12, e12, hf⟩ := Option.bind_eq_some_iff.mp hf
            refine Rt.path ok_Reader_takeSymbol 2 [] rfl trivial ?_
            refine Rt.callV ok_Reader_takeSymbol rfl ml_Reader_201 [vI _, vI _] cf_Expressions_append rfl rfl (c_Expressions_append_11 (d + 1) _ _ _ _ e12) (Nat.le_of_ble_eq_true rfl) ?_
            cases hf
            refine Rt.path ok_Reader_takeSymbol 1 [] rfl trivial ?_
            exact Rt.retI ok_Reader_takeSymbol rfl rfl
          · rw [if_neg h11] at hf
            refine Rt.path ok_Reader_takeSymbol 7 [1] rfl ⟨⟨⟨h2, (show ir 1 by decide)⟩, h11⟩, trivial⟩ ?_
            obtain ⟨q13, e13, hf⟩ := Option.bind_eq_some_iff.mp hf
            refine Rt.path ok_Reader_takeSymbol 1 [] rfl trivial ?_
            refine Rt.callV ok_Reader_takeSymbol rfl ml_Reader_201 [vI _, vI _] cf_Expressions_append rfl rfl (c_Expressions_append_11 (d + 1) _ _ _ _ e13) (Nat.le_of_ble_eq_true rfl) ?_
            cases hf
            refine Rt.path ok_Reader_takeSymbol 1 [] rfl trivial ?_
            exact Rt.retI ok_Reader_takeSymbol rfl rfl
    · rw [if_neg h4] at hf
      refine Rt.path ok_Reader_takeSymbol 3 [1] rfl ⟨⟨⟨h2, (show ir 1 by decide)⟩, h4⟩, trivial⟩ ?_
      obtain ⟨q14, e14, hf⟩ := Option.bind_eq_some_iff.mp hf
      refine Rt.path ok_Reader_takeSymbol 4 [] rfl trivial ?_
      refine Rt.callV ok_Reader_takeSymbol rfl ml_Reader_208 [vI _] cf_Expressions_rowHasRoom rfl rfl (c_Expressions_rowHasRoom_11 (d + 1) _ _ _ _ e14) (Nat.le_of_ble_eq_true rfl) ?_
      have h15 : ir q14.1 := by
        by_cases q : ir q14.1
        · exact q
        · rw [if_neg q] at hf; cases hf
      rw [if_pos h15] at hf
      by_cases h16 : q14.1 = 0
      · rw [if_pos h16] at hf
        refine Rt.path ok_Reader_takeSymbol 1 [0] rfl ⟨⟨h15, h16⟩, trivial⟩ ?_
        cases hf
        refine Rt.path ok_Reader_takeSymbol 1 [] rfl trivial ?_
        exact Rt.retI ok_Reader_takeSymbol rfl rfl
      · rw [if_neg h16] at hf
        refine Rt.path ok_Reader_takeSymbol 1 [1] rfl ⟨⟨h15, h16⟩, trivial⟩ ?_
        by_cases h17 : q1.1 = 1
        · rw [if_pos h17] at hf
          refine Rt.path ok_Reader_takeSymbol 7 [0] rfl ⟨⟨⟨h2, (show ir 1 by decide)⟩, h17⟩, trivial⟩ ?_
          obtain ⟨q18, e18, hf⟩ := Option.bind_eq_some_iff.mp hf
          refine Rt.path ok_Reader_takeSymbol 2 [] rfl trivial ?_
          refine Rt.callV ok_Reader_takeSymbol rfl ml_Reader_201 [vI _, vI _] cf_Expressions_append rfl rfl (c_Expressions_append_11 (d + 1) _ _ _ _ e18) (Nat.le_of_ble_eq_true rfl) ?_
          cases hf
          refine Rt.path ok_Reader_takeSymbol 1 [] rfl trivial ?_
          exact Rt.retI ok_Reader_takeSymbol rfl rfl
        · rw [if_neg h17] at hf
          refine Rt.path ok_Reader_takeSymbol 7 [1] rfl ⟨⟨⟨h2, (show ir 1 by decide)⟩, h17⟩, trivial⟩ ?_
          obtain ⟨q19, e19, hf⟩ := Option.bind_eq_some_iff.mp hf
          refine Rt.path ok_Reader_takeSymbol 1 [] rfl trivial ?_
          refine Rt.callV ok_Reader_takeSymbol rfl ml_Reader_201 [vI _, vI _] cf_Expressions_append rfl rfl (c_Expressions_append_11 (d + 1) _ _ _ _ e19) (Nat.le_of_ble_eq_true rfl) ?_
          cases hf
          refine Rt.path ok_Reader_takeSymbol 1 [] rfl trivial ?_
          exact Rt.retI ok_Reader_takeSymbol rfl rfl
def f_Statements_isMandatory_8 (a1 : Int) (a2 : Int) (g : G2) : Option (Int × G2) :=
  if 0 ≤ a1 ∧ a1 < 40 then
  if ((am_ushr (rB g 14 a1) a2) &&& (Int64.ofNat 1)) = (Int64.ofNat 0) then
    some (0, g)
  else
    some (1, g)
  else none
set_option maxHeartbeats 4000000 in
set_option maxRecDepth 100000 in
theorem c_Statements_isMandatory_8 (d : Nat) (a1 : Int) (a2 : Int) (g : G2) (r : Int) (g' : G2) (hf : f_Statements_isMandatory_8 a1 a2 g = some (r, g')) : C2 d m_Statements_isMandatory [vR 8, vI a1, vI a2] g (some (vI r)) g' := by
  unfold f_Statements_isMandatory_8 at hf
  refine C2.of rfl rfl rfl (Nat.le_of_ble_eq_true rfl) ?_
  have h1 : 0 ≤ a1 ∧ a1 < 40 := by
    by_cases q : 0 ≤ a1 ∧ a1 < 40
    · exact q
    · rw [if_neg q] at hf; cases hf
  rw [if_pos h1] at hf
  by_cases h2 : ((am_ushr (rB g 14 a1) a2) &&& (Int64.ofNat 1)) = (Int64.ofNat 0)
  · rw [if_pos h2] at hf
    refine Rt.path ok_Statements_isMandatory 11 [1] rfl ⟨(ix_40 h1), ⟨(am_cmpIn _ _), (am_cmp0.mpr h2)⟩, trivial⟩ ?_
    cases hf
    refine Rt.path ok_Statements_isMandatory 1 [] rfl trivial ?_
    exact Rt.retZ ok_Statements_isMandatory (show (0 : Int) = 0 ∨ (0 : Int) = 1 by decide) rfl rfl
  · rw [if_neg h2] at hf
    refine Rt.path ok_Statements_isMandatory 11 [0] rfl ⟨(ix_40 h1), ⟨(am_cmpIn _ _), (fun q => h2 (am_cmp0.mp q))⟩, trivial⟩ ?_
    cases hf
    refine Rt.path ok_Statements_isMandatory 2 [] rfl trivial ?_
    exact Rt.retZ ok_Statements_isMandatory (show (1 : Int) = 0 ∨ (1 : Int) = 1 by decide) rfl rfl
def b_Letters_begin_44_0 (L : Nat → Int → Int → G2 → Option (G2)) (i1 : Int) (i2 : Int) (g : G2) : Option (G2) :=
  if ir i2 then
  if ir i1 then
  if i2 < i1 then
    (f_Statements_isMandatory_8 i1 i2 g).bind fun q4 =>
    if ir q4.1 then
    if q4.1 = 0 then
      L 0 i1 (i2 + 1) q4.2
    else
      if 0 ≤ (rI q4.2 43 3) ∧ (rI q4.2 43 3) < 60 then
      L 0 i1 (i2 + 1) (gI (gA q4.2 44 (rI q4.2 43 3) i2) 43 3 ((rI q4.2 43 3) + 1))
      else none
    else none
  else
    some (gI (gI (gI (gI (gI g 43 4 0) 45 4 0) 43 6 0) 43 8 0) 43 9 0)
  else none
  else none
def l_Letters_begin_44 : Nat → Nat → Int → Int → G2 → Option (G2)
  | 0 => fun _ _ _ _ => none
  | n + 1 => fun t i1 i2 g => match t with
    | _ => b_Letters_begin_44_0 (l_Letters_begin_44 n) i1 i2 g
set_option maxHeartbeats 4000000 in
set_option maxRecDepth 100000 in
theorem rl_Letters_begin_44 (d : Nat) : ∀ (n : Nat) (i1 : Int) (i2 : Int) (g : G2) (g' : G2), (l_Letters_begin_44 n 0 i1 i2 g = some g' → Rt (d + 1) m_Letters_begin 7 [some (vR 44), some (vI i1), some (vI i2)] [] g none g') := by
  intro n
  induction n with
  | zero => intro i1 i2 g g'; exact fun hf => by cases hf
  | succ n ih =>
    intro i1 i2 g g'
    intro hf
    replace hf : b_Letters_begin_44_0 (l_Letters_begin_44 n) i1 i2 g = some g' := hf
    unfold b_Letters_begin_44_0 at hf
    have h1 : ir i2 := by
      by_cases q : ir i2
      · exact q
      · rw [if_neg q] at hf; cases hf
    rw [if_pos h1] at hf
    have h2 : ir i1 := by
      by_cases q : ir i1
      · exact q
      · rw [if_neg q] at hf; cases hf
    rw [if_pos h2] at hf
    by_cases h3 : i2 < i1
    · rw [if_pos h3] at hf
      refine Rt.path ok_Letters_begin 3 [0] rfl ⟨⟨⟨h1, h2⟩, h3⟩, trivial⟩ ?_
      obtain ⟨q4, e4, hf⟩ := Option.bind_eq_some_iff.mp hf
      refine Rt.path ok_Letters_begin 4 [] rfl trivial ?_
      refine Rt.callV ok_Letters_begin rfl ml_Letters_38 [vI _, vI _] cf_Statements_isMandatory rfl rfl (c_Statements_isMandatory_8 d _ _ _ _ _ e4) (Nat.le_of_ble_eq_true rfl) ?_
      have h5 : ir q4.1 := by
        by_cases q : ir q4.1
        · exact q
        · rw [if_neg q] at hf; cases hf
      rw [if_pos h5] at hf
      by_cases h6 : q4.1 = 0
      · rw [if_pos h6] at hf
        refine Rt.path ok_Letters_begin 1 [1] rfl ⟨⟨h5, h6⟩, trivial⟩ ?_
        refine Rt.path ok_Letters_begin 2 [] rfl trivial ?_
        exact Rt.weak ((ih _ _ _ _) hf) ⟨rfl, rfl, rfl, trivial⟩
      · rw [if_neg h6] at hf
        refine Rt.path ok_Letters_begin 1 [0] rfl ⟨⟨h5, h6⟩, trivial⟩ ?_
        have h7 : 0 ≤ (rI q4.2 43 3) ∧ (rI q4.2 43 3) < 60 := by
          by_cases q : 0 ≤ (rI q4.2 43 3) ∧ (rI q4.2 43 3) < 60
          · exact q
          · rw [if_neg q] at hf; cases hf
        rw [if_pos h7] at hf
        refine Rt.path ok_Letters_begin 14 [] rfl ⟨(ix_60 h7), trivial⟩ ?_
        exact Rt.weak ((ih _ _ _ _) hf) ⟨rfl, rfl, rfl, trivial⟩
    · rw [if_neg h3] at hf
      refine Rt.path ok_Letters_begin 3 [1] rfl ⟨⟨⟨h1, h2⟩, (Int.not_lt.mp h3)⟩, trivial⟩ ?_
      cases hf
      refine Rt.path ok_Letters_begin 16 [] rfl ⟨(show (0 : Int) = 0 ∨ (0 : Int) = 1 by decide), (show (0 : Int) = 0 ∨ (0 : Int) = 1 by decide), trivial⟩ ?_
      exact Rt.retV ok_Letters_begin rfl rfl
def f_Letters_begin_44 (a1 : Int) (g : G2) : Option (G2) :=
  l_Letters_begin_44 20000 0 a1 0 (gI g 43 3 0)
set_option maxHeartbeats 4000000 in
set_option maxRecDepth 100000 in
theorem c_Letters_begin_44 (d : Nat) (a1 : Int) (g : G2) (g' : G2) (hf : f_Letters_begin_44 a1 g = some g') : C2 (d + 1) m_Letters_begin [vR 44, vI a1] g none g' := by
  unfold f_Letters_begin_44 at hf
  refine C2.of rfl rfl rfl (Nat.le_of_ble_eq_true rfl) ?_
  refine Rt.path ok_Letters_begin 5 [] rfl trivial ?_
  exact Rt.weak ((rl_Letters_begin_44 d _ _ _ _ _) hf) ⟨rfl, rfl, rfl, trivial⟩
def f_Assertions_noteGap_17  (g : G2) : Option (G2) :=
  if 0 ≤ (rI g 16 8) ∧ (rI g 16 8) < 40 then
  some (gA (gA g 23 (rI g 16 8) 1) 24 (rI g 16 8) 0)
  else none
set_option maxHeartbeats 4000000 in
set_option maxRecDepth 100000 in
theorem c_Assertions_noteGap_17 (d : Nat)  (g : G2) (g' : G2) (hf : f_Assertions_noteGap_17 g = some g') : C2 d m_Assertions_noteGap [vR 17] g none g' := by
  unfold f_Assertions_noteGap_17 at hf
  refine C2.of rfl rfl rfl (Nat.le_of_ble_eq_true rfl) ?_
  have h1 : 0 ≤ (rI g 16 8) ∧ (rI g 16 8) < 40 := by
    by_cases q : 0 ≤ (rI g 16 8) ∧ (rI g 16 8) < 40
    · exact q
    · rw [if_neg q] at hf; cases hf
  rw [if_pos h1] at hf
  cases hf
  refine Rt.path ok_Assertions_noteGap 12 [] rfl ⟨⟨(ix_40 h1), (show (1 : Int) = 0 ∨ (1 : Int) = 1 by decide)⟩, ⟨(ix_40 h1), (show (0 : Int) = 0 ∨ (0 : Int) = 1 by decide)⟩, trivial⟩ ?_
  exact Rt.retV ok_Assertions_noteGap rfl rfl
def f_Proof_leaveGap_34  (g : G2) : Option (G2) :=
  (f_Assertions_noteGap_17 (gI g 33 7 1)).bind fun q1 =>
  some q1
set_option maxHeartbeats 4000000 in
set_option maxRecDepth 100000 in
theorem c_Proof_leaveGap_34 (d : Nat)  (g : G2) (g' : G2) (hf : f_Proof_leaveGap_34 g = some g') : C2 (d + 1) m_Proof_leaveGap [vR 34] g none g' := by
  unfold f_Proof_leaveGap_34 at hf
  refine C2.of rfl rfl rfl (Nat.le_of_ble_eq_true rfl) ?_
  obtain ⟨q1, e1, hf⟩ := Option.bind_eq_some_iff.mp hf
  refine Rt.path ok_Proof_leaveGap 5 [] rfl ⟨(show (1 : Int) = 0 ∨ (1 : Int) = 1 by decide), trivial⟩ ?_
  refine Rt.callV ok_Proof_leaveGap rfl ml_Proof_53 [] cf_Assertions_noteGap rfl rfl (c_Assertions_noteGap_17 d _ _ e1) (Nat.le_of_ble_eq_true rfl) ?_
  cases hf
  exact Rt.retV ok_Proof_leaveGap rfl rfl
def f_Statements_isHypothesis_8 (a1 : Int) (g : G2) : Option (Int × G2) :=
  if 0 ≤ a1 ∧ a1 < 40 then
  if ir (rA g 9 a1) then
  if (rA g 9 a1) = 0 then
    some (1, g)
  else
    if (rA g 9 a1) = 1 then
      some (1, g)
    else
      some (0, g)
  else none
  else none
set_option maxHeartbeats 4000000 in
set_option maxRecDepth 100000 in
theorem c_Statements_isHypothesis_8 (d : Nat) (a1 : Int) (g : G2) (r : Int) (g' : G2) (hf : f_Statements_isHypothesis_8 a1 g = some (r, g')) : C2 d m_Statements_isHypothesis [vR 8, vI a1] g (some (vI r)) g' := by
  unfold f_Statements_isHypothesis_8 at hf
  refine C2.of rfl rfl rfl (Nat.le_of_ble_eq_true rfl) ?_
  have h1 : 0 ≤ a1 ∧ a1 < 40 := by
    by_cases q : 0 ≤ a1 ∧ a1 < 40
    · exact q
    · rw [if_neg q] at hf; cases hf
  rw [if_pos h1] at hf
  have h2 : ir (rA g 9 a1) := by
    by_cases q : ir (rA g 9 a1)
    · exact q
    · rw [if_neg q] at hf; cases hf
  rw [if_pos h2] at hf
  by_cases h3 : (rA g 9 a1) = 0
  · rw [if_pos h3] at hf
    refine Rt.path ok_Statements_isHypothesis 5 [1] rfl ⟨(ix_40 h1), ⟨h2, h3⟩, trivial⟩ ?_
    cases hf
    refine Rt.path ok_Statements_isHypothesis 2 [] rfl trivial ?_
    exact Rt.retZ ok_Statements_isHypothesis (show (1 : Int) = 0 ∨ (1 : Int) = 1 by decide) rfl rfl
  · rw [if_neg h3] at hf
    refine Rt.path ok_Statements_isHypothesis 5 [0] rfl ⟨(ix_40 h1), ⟨h2, h3⟩, trivial⟩ ?_
    by_cases h4 : (rA g 9 a1) = 1
    · rw [if_pos h4] at hf
      refine Rt.path ok_Statements_isHypothesis 6 [0] rfl ⟨(ix_40 h1), ⟨⟨h2, (show ir 1 by decide)⟩, h4⟩, trivial⟩ ?_
      cases hf
      refine Rt.path ok_Statements_isHypothesis 2 [] rfl trivial ?_
      exact Rt.retZ ok_Statements_isHypothesis (show (1 : Int) = 0 ∨ (1 : Int) = 1 by decide) rfl rfl
    · rw [if_neg h4] at hf
      refine Rt.path ok_Statements_isHypothesis 6 [1] rfl ⟨(ix_40 h1), ⟨⟨h2, (show ir 1 by decide)⟩, h4⟩, trivial⟩ ?_
      cases hf
      refine Rt.path ok_Statements_isHypothesis 1 [] rfl trivial ?_
      exact Rt.retZ ok_Statements_isHypothesis (show (0 : Int) = 0 ∨ (0 : Int) = 1 by decide) rfl rfl
def f_Reader_isActiveHypothesis_26 (a1 : Int) (g : G2) : Option (Int × G2) :=
  if ((am_ushr (rJ g 26 2) a1) &&& (Int64.ofNat 1)) = (Int64.ofNat 0) then
    some (0, g)
  else
    some (1, g)
set_option maxHeartbeats 4000000 in
set_option maxRecDepth 100000 in
theorem c_Reader_isActiveHypothesis_26 (d : Nat) (a1 : Int) (g : G2) (r : Int) (g' : G2) (hf : f_Reader_isActiveHypothesis_26 a1 g = some (r, g')) : C2 d m_Reader_isActiveHypothesis [vR 26, vI a1] g (some (vI r)) g' := by
  unfold f_Reader_isActiveHypothesis_26 at hf
  refine C2.of rfl rfl rfl (Nat.le_of_ble_eq_true rfl) ?_
  by_cases h1 : ((am_ushr (rJ g 26 2) a1) &&& (Int64.ofNat 1)) = (Int64.ofNat 0)
  · rw [if_pos h1] at hf
    refine Rt.path ok_Reader_isActiveHypothesis 10 [1] rfl ⟨⟨(am_cmpIn _ _), (am_cmp0.mpr h1)⟩, trivial⟩ ?_
    cases hf
    refine Rt.path ok_Reader_isActiveHypothesis 1 [] rfl trivial ?_
    exact Rt.retZ ok_Reader_isActiveHypothesis (show (0 : Int) = 0 ∨ (0 : Int) = 1 by decide) rfl rfl
  · rw [if_neg h1] at hf
    refine Rt.path ok_Reader_isActiveHypothesis 10 [0] rfl ⟨⟨(am_cmpIn _ _), (fun q => h1 (am_cmp0.mp q))⟩, trivial⟩ ?_
    cases hf
    refine Rt.path ok_Reader_isActiveHypothesis 2 [] rfl trivial ?_
    exact Rt.retZ ok_Reader_isActiveHypothesis (show (1 : Int) = 0 ∨ (1 : Int) = 1 by decide) rfl rfl
def f_Reader_findUsable_26 (a1 : Int64) (g : G2) : Option (Int × G2) :=
  (f_Names_find_4 a1 g).bind fun q1 =>
  if ir q1.1 then
  if q1.1 = (-1) then
    some ((-1), q1.2)
  else
    if 0 ≤ q1.1 ∧ q1.1 < 60 then
    if ir (rA q1.2 5 q1.1) then
    if (rA q1.2 5 q1.1) = 2 then
      (f_Statements_isHypothesis_8 (rA q1.2 6 q1.1) q1.2).bind fun q7 =>
      if ir q7.1 then
      if q7.1 = 0 then
        some ((rA q1.2 6 q1.1), q7.2)
      else
        (f_Reader_isActiveHypothesis_26 (rA q1.2 6 q1.1) q7.2).bind fun q10 =>
        if ir q10.1 then
        if q10.1 = 0 then
          some ((-1), q10.2)
        else
          some ((rA q1.2 6 q1.1), q10.2)
        else none
      else none
    else
      some ((-1), q1.2)
    else none
    else none
  else none
set_option maxHeartbeats 4000000 in
set_option maxRecDepth 100000 in
theorem c_Reader_findUsable_26 (d : Nat) (a1 : Int64) (g : G2) (r : Int) (g' : G2) (hf : f_Reader_findUsable_26 a1 g = some (r, g')) : C2 (d + 1) m_Reader_findUsable [vR 26, vL a1] g (some (vI r)) g' := by
  unfold f_Reader_findUsable_26 at hf
  refine C2.of rfl rfl rfl (Nat.le_of_ble_eq_true rfl) ?_
  obtain ⟨q1, e1, hf⟩ := Option.bind_eq_some_iff.mp hf
  refine Rt.path ok_Reader_findUsable 3 [] rfl trivial ?_
  refine Rt.callV ok_Reader_findUsable rfl ml_Reader_118 [vL _] cf_Names_find rfl rfl (c_Names_find_4 d _ _ _ _ e1) (Nat.le_of_ble_eq_true rfl) ?_
  have h2 : ir q1.1 := by
    by_cases q : ir q1.1
    · exact q
    · rw [if_neg q] at hf; cases hf
  rw [if_pos h2] at hf
  by_cases h3 : q1.1 = (-1)
  · rw [if_pos h3] at hf
    refine Rt.path ok_Reader_findUsable 4 [1] rfl ⟨⟨⟨h2, (show ir (-1) by decide)⟩, h3⟩, trivial⟩ ?_
    cases hf
    refine Rt.path ok_Reader_findUsable 1 [] rfl trivial ?_
    exact Rt.retI ok_Reader_findUsable rfl rfl
  · rw [if_neg h3] at hf
    refine Rt.path ok_Reader_findUsable 4 [0] rfl ⟨⟨⟨h2, (show ir (-1) by decide)⟩, h3⟩, trivial⟩ ?_
    have h4 : 0 ≤ q1.1 ∧ q1.1 < 60 := by
      by_cases q : 0 ≤ q1.1 ∧ q1.1 < 60
      · exact q
      · rw [if_neg q] at hf; cases hf
    rw [if_pos h4] at hf
    have h5 : ir (rA q1.2 5 q1.1) := by
      by_cases q : ir (rA q1.2 5 q1.1)
      · exact q
      · rw [if_neg q] at hf; cases hf
    rw [if_pos h5] at hf
    by_cases h6 : (rA q1.2 5 q1.1) = 2
    · rw [if_pos h6] at hf
      refine Rt.path ok_Reader_findUsable 7 [1] rfl ⟨(ix_60 h4), ⟨⟨h5, (show ir 2 by decide)⟩, h6⟩, trivial⟩ ?_
      obtain ⟨q7, e7, hf⟩ := Option.bind_eq_some_iff.mp hf
      refine Rt.path ok_Reader_findUsable 9 [] rfl ⟨(ix_60 h4), trivial⟩ ?_
      refine Rt.callV ok_Reader_findUsable rfl ml_Reader_211 [vI _] cf_Statements_isHypothesis rfl rfl (c_Statements_isHypothesis_8 d _ _ _ _ e7) (Nat.le_of_ble_eq_true rfl) ?_
      have h8 : ir q7.1 := by
        by_cases q : ir q7.1
        · exact q
        · rw [if_neg q] at hf; cases hf
      rw [if_pos h8] at hf
      by_cases h9 : q7.1 = 0
      · rw [if_pos h9] at hf
        refine Rt.path ok_Reader_findUsable 1 [1] rfl ⟨⟨h8, h9⟩, trivial⟩ ?_
        cases hf
        refine Rt.path ok_Reader_findUsable 1 [] rfl trivial ?_
        exact Rt.retI ok_Reader_findUsable rfl rfl
      · rw [if_neg h9] at hf
        refine Rt.path ok_Reader_findUsable 1 [0] rfl ⟨⟨h8, h9⟩, trivial⟩ ?_
        obtain ⟨q10, e10, hf⟩ := Option.bind_eq_some_iff.mp hf
        refine Rt.path ok_Reader_findUsable 2 [] rfl trivial ?_
        refine Rt.callV ok_Reader_findUsable rfl ml_Reader_233 [vI _] cf_Reader_isActiveHypothesis rfl rfl (c_Reader_isActiveHypothesis_26 d _ _ _ _ e10) (Nat.le_of_ble_eq_true rfl) ?_
        have h11 : ir q10.1 := by
          by_cases q : ir q10.1
          · exact q
          · rw [if_neg q] at hf; cases hf
        rw [if_pos h11] at hf
        by_cases h12 : q10.1 = 0
        · rw [if_pos h12] at hf
          refine Rt.path ok_Reader_findUsable 1 [0] rfl ⟨⟨h11, h12⟩, trivial⟩ ?_
          cases hf
          refine Rt.path ok_Reader_findUsable 2 [] rfl trivial ?_
          exact Rt.retI ok_Reader_findUsable rfl rfl
        · rw [if_neg h12] at hf
          refine Rt.path ok_Reader_findUsable 1 [1] rfl ⟨⟨h11, h12⟩, trivial⟩ ?_
          cases hf
          refine Rt.path ok_Reader_findUsable 1 [] rfl trivial ?_
          exact Rt.retI ok_Reader_findUsable rfl rfl
    · rw [if_neg h6] at hf
      refine Rt.path ok_Reader_findUsable 7 [0] rfl ⟨(ix_60 h4), ⟨⟨h5, (show ir 2 by decide)⟩, h6⟩, trivial⟩ ?_
      cases hf
      refine Rt.path ok_Reader_findUsable 1 [] rfl trivial ?_
      exact Rt.retI ok_Reader_findUsable rfl rfl
