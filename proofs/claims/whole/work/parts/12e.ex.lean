def f_Reader_takeName_26_2  (g : G2) : Option (Int × G2) :=
  bd (f_Text_isTooLong_2 g) fun r1 g1 =>
  if ir r1 then
  if r1 = 0 then
    if ir (rI g1 25 6) then
    if (rI g1 25 6) = 0 then
      bd (f_Reader_takeLabel_26 (rJ g1 1 5) g1) fun r5 g5 =>
      some (r5, g5)
    else
    if (rI g1 25 6) = 1 then
      bd (f_Reader_declareConstant_26 (rJ g1 1 5) g1) fun r6 g6 =>
      some (r6, g6)
    else
    if (rI g1 25 6) = 2 then
      bd (f_Reader_declareVariable_26 (rJ g1 1 5) g1) fun r7 g7 =>
      some (r7, g7)
    else
    if (rI g1 25 6) = 3 then
      bd (f_Names_find_4 (rJ g1 1 5) g1) fun r8 g8 =>
      bd (f_Reader_takeApart_26 r8 g8) fun r9 g9 =>
      some (r9, g9)
    else
    if (rI g1 25 6) = 4 then
      some ((-3), g1)
    else
    if (rI g1 25 6) = 5 then
      bd (f_Names_find_4 (rJ g1 1 5) g1) fun r10 g10 =>
      bd (f_Reader_takeType_26 r10 g10) fun r11 g11 =>
      some (r11, g11)
    else
    if (rI g1 25 6) = 6 then
      bd (f_Names_find_4 (rJ g1 1 5) g1) fun r12 g12 =>
      bd (f_Reader_takeFloating_26 r12 g12) fun r13 g13 =>
      some (r13, g13)
    else
    if (rI g1 25 6) = 7 then
      some ((-3), g1)
    else
    if (rI g1 25 6) = 8 then
      bd (f_Names_find_4 (rJ g1 1 5) g1) fun r14 g14 =>
      bd (f_Reader_takeType_26 r14 g14) fun r15 g15 =>
      some (r15, g15)
    else
    if (rI g1 25 6) = 9 then
      bd (f_Names_find_4 (rJ g1 1 5) g1) fun r16 g16 =>
      bd (f_Reader_takeSymbol_26 r16 g16) fun r17 g17 =>
      some (r17, g17)
    else
    if (rI g1 25 6) = 10 then
      bd (f_Reader_beginSteps_26 (rJ g1 1 5) g1) fun r18 g18 =>
      some (r18, g18)
    else
    if (rI g1 25 6) = 11 then
      bd (f_Reader_takeStep_26 (rJ g1 1 5) g1) fun r19 g19 =>
      some (r19, g19)
    else
    if (rI g1 25 6) = 12 then
      bd (f_Reader_takeListed_26 (rJ g1 1 5) g1) fun r20 g20 =>
      some (r20, g20)
    else
    if (rI g1 25 6) = 13 then
      bd (f_Letters_takeLetters_44_2 g1) fun r21 g21 =>
      some (r21, g21)
    else
      some ((-3), g1)
    else none
  else
    some ((-3), g1)
  else none
set_option maxHeartbeats 4000000 in
set_option maxRecDepth 100000 in
theorem c_Reader_takeName_26_2 (d : Nat)  (g : G2) (r : Int) (g' : G2) (hf : f_Reader_takeName_26_2 g = some (r, g')) : C2 (d + 6) m_Reader_takeName [vR 26, vR 2] g (some (vI r)) g' := by
  unfold f_Reader_takeName_26_2 at hf
  refine C2.of rfl rfl rfl (Nat.le_of_ble_eq_true rfl) ?_
  obtain ⟨r1, g1, e1, hf⟩ := bd_inv hf
  refine Rt.path ok_Reader_takeName 1 [] rfl trivial ?_
  refine Rt.callV ok_Reader_takeName rfl ml_Reader_100 [] cf_Text_isTooLong rfl rfl (c_Text_isTooLong_2 (d + 5) _ _ _ e1) (Nat.le_of_ble_eq_true rfl) ?_
  have h2 : ir r1 := by
    by_cases q : ir r1
    · exact q
    · rw [if_neg q] at hf; cases hf
  rw [if_pos h2] at hf
  by_cases h3 : r1 = 0
  · rw [if_pos h3] at hf
    refine Rt.path ok_Reader_takeName 1 [1] rfl ⟨⟨h2, h3⟩, trivial⟩ ?_
    have h4 : ir (rI g1 25 6) := by
      by_cases q : ir (rI g1 25 6)
      · exact q
      · rw [if_neg q] at hf; cases hf
    rw [if_pos h4] at hf
    by_cases h22_0 : (rI g1 25 6) = 0
    · rw [if_pos h22_0] at hf
      refine Rt.path ok_Reader_takeName 3 [0] rfl ⟨⟨h4, (show (rI g1 25 6) = 0 + ((0 : Nat) : Int) by omega), (show (rI g1 25 6) ≤ 13 by omega), by decide⟩, trivial⟩ ?_
      obtain ⟨r5, g5, e5, hf⟩ := bd_inv hf
      refine Rt.path ok_Reader_takeName 3 [] rfl trivial ?_
      refine Rt.callV ok_Reader_takeName rfl ml_Reader_108 [vL _] cf_Reader_takeLabel rfl rfl (c_Reader_takeLabel_26 (d + 3) _ _ _ _ e5) (Nat.le_of_ble_eq_true rfl) ?_
      cases hf
      exact Rt.retI ok_Reader_takeName rfl rfl
    · rw [if_neg h22_0] at hf
      by_cases h22_1 : (rI g1 25 6) = 1
      · rw [if_pos h22_1] at hf
        refine Rt.path ok_Reader_takeName 3 [1] rfl ⟨⟨h4, (show (rI g1 25 6) = 0 + ((1 : Nat) : Int) by omega), (show (rI g1 25 6) ≤ 13 by omega), by decide⟩, trivial⟩ ?_
        obtain ⟨r6, g6, e6, hf⟩ := bd_inv hf
        refine Rt.path ok_Reader_takeName 3 [] rfl trivial ?_
        refine Rt.callV ok_Reader_takeName rfl ml_Reader_112 [vL _] cf_Reader_declareConstant rfl rfl (c_Reader_declareConstant_26 (d + 4) _ _ _ _ e6) (Nat.le_of_ble_eq_true rfl) ?_
        cases hf
        exact Rt.retI ok_Reader_takeName rfl rfl
      · rw [if_neg h22_1] at hf
        by_cases h22_2 : (rI g1 25 6) = 2
        · rw [if_pos h22_2] at hf
          refine Rt.path ok_Reader_takeName 3 [2] rfl ⟨⟨h4, (show (rI g1 25 6) = 0 + ((2 : Nat) : Int) by omega), (show (rI g1 25 6) ≤ 13 by omega), by decide⟩, trivial⟩ ?_
          obtain ⟨r7, g7, e7, hf⟩ := bd_inv hf
          refine Rt.path ok_Reader_takeName 3 [] rfl trivial ?_
          refine Rt.callV ok_Reader_takeName rfl ml_Reader_115 [vL _] cf_Reader_declareVariable rfl rfl (c_Reader_declareVariable_26 (d + 4) _ _ _ _ e7) (Nat.le_of_ble_eq_true rfl) ?_
          cases hf
          exact Rt.retI ok_Reader_takeName rfl rfl
        · rw [if_neg h22_2] at hf
          by_cases h22_3 : (rI g1 25 6) = 3
          · rw [if_pos h22_3] at hf
            refine Rt.path ok_Reader_takeName 3 [3] rfl ⟨⟨h4, (show (rI g1 25 6) = 0 + ((3 : Nat) : Int) by omega), (show (rI g1 25 6) ≤ 13 by omega), by decide⟩, trivial⟩ ?_
            obtain ⟨r8, g8, e8, hf⟩ := bd_inv hf
            refine Rt.path ok_Reader_takeName 5 [] rfl trivial ?_
            refine Rt.callV ok_Reader_takeName rfl ml_Reader_118 [vL _] cf_Names_find rfl rfl (c_Names_find_4 (d + 5) _ _ _ _ e8) (Nat.le_of_ble_eq_true rfl) ?_
            obtain ⟨r9, g9, e9, hf⟩ := bd_inv hf
            refine Rt.callV ok_Reader_takeName rfl ml_Reader_121 [vI _] cf_Reader_takeApart rfl rfl (c_Reader_takeApart_26 (d + 3) _ _ _ _ e9) (Nat.le_of_ble_eq_true rfl) ?_
            cases hf
            exact Rt.retI ok_Reader_takeName rfl rfl
          · rw [if_neg h22_3] at hf
            by_cases h22_4 : (rI g1 25 6) = 4
            · rw [if_pos h22_4] at hf
              refine Rt.path ok_Reader_takeName 3 [4] rfl ⟨⟨h4, (show (rI g1 25 6) = 0 + ((4 : Nat) : Int) by omega), (show (rI g1 25 6) ≤ 13 by omega), by decide⟩, trivial⟩ ?_
              cases hf
              refine Rt.path ok_Reader_takeName 1 [] rfl trivial ?_
              exact Rt.retI ok_Reader_takeName rfl rfl
            · rw [if_neg h22_4] at hf
              by_cases h22_5 : (rI g1 25 6) = 5
              · rw [if_pos h22_5] at hf
                refine Rt.path ok_Reader_takeName 3 [5] rfl ⟨⟨h4, (show (rI g1 25 6) = 0 + ((5 : Nat) : Int) by omega), (show (rI g1 25 6) ≤ 13 by omega), by decide⟩, trivial⟩ ?_
                obtain ⟨r10, g10, e10, hf⟩ := bd_inv hf
                refine Rt.path ok_Reader_takeName 5 [] rfl trivial ?_
                refine Rt.callV ok_Reader_takeName rfl ml_Reader_118 [vL _] cf_Names_find rfl rfl (c_Names_find_4 (d + 5) _ _ _ _ e10) (Nat.le_of_ble_eq_true rfl) ?_
                obtain ⟨r11, g11, e11, hf⟩ := bd_inv hf
                refine Rt.callV ok_Reader_takeName rfl ml_Reader_124 [vI _] cf_Reader_takeType rfl rfl (c_Reader_takeType_26 (d + 3) _ _ _ _ e11) (Nat.le_of_ble_eq_true rfl) ?_
                cases hf
                exact Rt.retI ok_Reader_takeName rfl rfl
              · rw [if_neg h22_5] at hf
                by_cases h22_6 : (rI g1 25 6) = 6
                · rw [if_pos h22_6] at hf
                  refine Rt.path ok_Reader_takeName 3 [6] rfl ⟨⟨h4, (show (rI g1 25 6) = 0 + ((6 : Nat) : Int) by omega), (show (rI g1 25 6) ≤ 13 by omega), by decide⟩, trivial⟩ ?_
                  obtain ⟨r12, g12, e12, hf⟩ := bd_inv hf
                  refine Rt.path ok_Reader_takeName 5 [] rfl trivial ?_
                  refine Rt.callV ok_Reader_takeName rfl ml_Reader_118 [vL _] cf_Names_find rfl rfl (c_Names_find_4 (d + 5) _ _ _ _ e12) (Nat.le_of_ble_eq_true rfl) ?_
                  obtain ⟨r13, g13, e13, hf⟩ := bd_inv hf
                  refine Rt.callV ok_Reader_takeName rfl ml_Reader_127 [vI _] cf_Reader_takeFloating rfl rfl (c_Reader_takeFloating_26 (d + 3) _ _ _ _ e13) (Nat.le_of_ble_eq_true rfl) ?_
                  cases hf
                  exact Rt.retI ok_Reader_takeName rfl rfl
                · rw [if_neg h22_6] at hf
                  by_cases h22_7 : (rI g1 25 6) = 7
                  · rw [if_pos h22_7] at hf
                    refine Rt.path ok_Reader_takeName 3 [7] rfl ⟨⟨h4, (show (rI g1 25 6) = 0 + ((7 : Nat) : Int) by omega), (show (rI g1 25 6) ≤ 13 by omega), by decide⟩, trivial⟩ ?_
                    cases hf
                    refine Rt.path ok_Reader_takeName 1 [] rfl trivial ?_
                    exact Rt.retI ok_Reader_takeName rfl rfl
                  · rw [if_neg h22_7] at hf
                    by_cases h22_8 : (rI g1 25 6) = 8
                    · rw [if_pos h22_8] at hf
                      refine Rt.path ok_Reader_takeName 3 [8] rfl ⟨⟨h4, (show (rI g1 25 6) = 0 + ((8 : Nat) : Int) by omega), (show (rI g1 25 6) ≤ 13 by omega), by decide⟩, trivial⟩ ?_
                      obtain ⟨r14, g14, e14, hf⟩ := bd_inv hf
                      refine Rt.path ok_Reader_takeName 5 [] rfl trivial ?_
                      refine Rt.callV ok_Reader_takeName rfl ml_Reader_118 [vL _] cf_Names_find rfl rfl (c_Names_find_4 (d + 5) _ _ _ _ e14) (Nat.le_of_ble_eq_true rfl) ?_
                      obtain ⟨r15, g15, e15, hf⟩ := bd_inv hf
                      refine Rt.callV ok_Reader_takeName rfl ml_Reader_124 [vI _] cf_Reader_takeType rfl rfl (c_Reader_takeType_26 (d + 3) _ _ _ _ e15) (Nat.le_of_ble_eq_true rfl) ?_
                      cases hf
                      exact Rt.retI ok_Reader_takeName rfl rfl
                    · rw [if_neg h22_8] at hf
                      by_cases h22_9 : (rI g1 25 6) = 9
                      · rw [if_pos h22_9] at hf
                        refine Rt.path ok_Reader_takeName 3 [9] rfl ⟨⟨h4, (show (rI g1 25 6) = 0 + ((9 : Nat) : Int) by omega), (show (rI g1 25 6) ≤ 13 by omega), by decide⟩, trivial⟩ ?_
                        obtain ⟨r16, g16, e16, hf⟩ := bd_inv hf
                        refine Rt.path ok_Reader_takeName 5 [] rfl trivial ?_
                        refine Rt.callV ok_Reader_takeName rfl ml_Reader_118 [vL _] cf_Names_find rfl rfl (c_Names_find_4 (d + 5) _ _ _ _ e16) (Nat.le_of_ble_eq_true rfl) ?_
                        obtain ⟨r17, g17, e17, hf⟩ := bd_inv hf
                        refine Rt.callV ok_Reader_takeName rfl ml_Reader_130 [vI _] cf_Reader_takeSymbol rfl rfl (c_Reader_takeSymbol_26 (d + 3) _ _ _ _ e17) (Nat.le_of_ble_eq_true rfl) ?_
                        cases hf
                        exact Rt.retI ok_Reader_takeName rfl rfl
                      · rw [if_neg h22_9] at hf
                        by_cases h22_10 : (rI g1 25 6) = 10
                        · rw [if_pos h22_10] at hf
                          refine Rt.path ok_Reader_takeName 3 [10] rfl ⟨⟨h4, (show (rI g1 25 6) = 0 + ((10 : Nat) : Int) by omega), (show (rI g1 25 6) ≤ 13 by omega), by decide⟩, trivial⟩ ?_
                          obtain ⟨r18, g18, e18, hf⟩ := bd_inv hf
                          refine Rt.path ok_Reader_takeName 3 [] rfl trivial ?_
                          refine Rt.callV ok_Reader_takeName rfl ml_Reader_133 [vL _] cf_Reader_beginSteps rfl rfl (c_Reader_beginSteps_26 d _ _ _ _ e18) (Nat.le_of_ble_eq_true rfl) ?_
                          cases hf
                          exact Rt.retI ok_Reader_takeName rfl rfl
                        · rw [if_neg h22_10] at hf
                          by_cases h22_11 : (rI g1 25 6) = 11
                          · rw [if_pos h22_11] at hf
                            refine Rt.path ok_Reader_takeName 3 [11] rfl ⟨⟨h4, (show (rI g1 25 6) = 0 + ((11 : Nat) : Int) by omega), (show (rI g1 25 6) ≤ 13 by omega), by decide⟩, trivial⟩ ?_
                            obtain ⟨r19, g19, e19, hf⟩ := bd_inv hf
                            refine Rt.path ok_Reader_takeName 3 [] rfl trivial ?_
                            refine Rt.callV ok_Reader_takeName rfl ml_Reader_136 [vL _] cf_Reader_takeStep rfl rfl (c_Reader_takeStep_26 (d + 1) _ _ _ _ e19) (Nat.le_of_ble_eq_true rfl) ?_
                            cases hf
                            exact Rt.retI ok_Reader_takeName rfl rfl
                          · rw [if_neg h22_11] at hf
                            by_cases h22_12 : (rI g1 25 6) = 12
                            · rw [if_pos h22_12] at hf
                              refine Rt.path ok_Reader_takeName 3 [12] rfl ⟨⟨h4, (show (rI g1 25 6) = 0 + ((12 : Nat) : Int) by omega), (show (rI g1 25 6) ≤ 13 by omega), by decide⟩, trivial⟩ ?_
                              obtain ⟨r20, g20, e20, hf⟩ := bd_inv hf
                              refine Rt.path ok_Reader_takeName 3 [] rfl trivial ?_
                              refine Rt.callV ok_Reader_takeName rfl ml_Reader_139 [vL _] cf_Reader_takeListed rfl rfl (c_Reader_takeListed_26 (d + 3) _ _ _ _ e20) (Nat.le_of_ble_eq_true rfl) ?_
                              cases hf
                              exact Rt.retI ok_Reader_takeName rfl rfl
                            · rw [if_neg h22_12] at hf
                              by_cases h22_13 : (rI g1 25 6) = 13
                              · rw [if_pos h22_13] at hf
                                refine Rt.path ok_Reader_takeName 3 [13] rfl ⟨⟨h4, (show (rI g1 25 6) = 0 + ((13 : Nat) : Int) by omega), (show (rI g1 25 6) ≤ 13 by omega), by decide⟩, trivial⟩ ?_
                                obtain ⟨r21, g21, e21, hf⟩ := bd_inv hf
                                refine Rt.path ok_Reader_takeName 3 [] rfl trivial ?_
                                refine Rt.callV ok_Reader_takeName rfl ml_Reader_142 [vR 2] cf_Letters_takeLetters rfl rfl (c_Letters_takeLetters_44_2 d _ _ _ e21) (Nat.le_of_ble_eq_true rfl) ?_
                                cases hf
                                exact Rt.retI ok_Reader_takeName rfl rfl
                              · rw [if_neg h22_13] at hf
                                refine Rt.path ok_Reader_takeName 3 [14] rfl ⟨⟨h4, (show (rI g1 25 6) < 0 ∨ 13 < (rI g1 25 6) by omega), by decide⟩, trivial⟩ ?_
                                cases hf
                                refine Rt.path ok_Reader_takeName 1 [] rfl trivial ?_
                                exact Rt.retI ok_Reader_takeName rfl rfl
  · rw [if_neg h3] at hf
    refine Rt.path ok_Reader_takeName 1 [0] rfl ⟨⟨h2, h3⟩, trivial⟩ ?_
    cases hf
    refine Rt.path ok_Reader_takeName 1 [] rfl trivial ?_
    exact Rt.retI ok_Reader_takeName rfl rfl
def f_Reader_beginNames_26 (a1 : Int) (g : G2) : Option (Int × G2) :=
  some (0, (gJ (gI (gI g 25 6 a1) 25 7 0) 25 8 (Int64.ofNat 0)))
set_option maxHeartbeats 4000000 in
set_option maxRecDepth 100000 in
theorem c_Reader_beginNames_26 (d : Nat) (a1 : Int) (g : G2) (r : Int) (g' : G2) (hf : f_Reader_beginNames_26 a1 g = some (r, g')) : C2 d m_Reader_beginNames [vR 26, vI a1] g (some (vI r)) g' := by
  unfold f_Reader_beginNames_26 at hf
  refine C2.of rfl rfl rfl (Nat.le_of_ble_eq_true rfl) ?_
  cases hf
  refine Rt.path ok_Reader_beginNames 10 [] rfl trivial ?_
  exact Rt.retI ok_Reader_beginNames rfl rfl
def f_Context_openScope_27  (g : G2) : Option (Int × G2) :=
  if ir (rI g 26 6) then
  if (rI g 26 6) < 6 then
    if 0 ≤ (rI g 26 6) ∧ (rI g 26 6) < 6 then
    some (0, (gI (gA (gB (gB (gB g 29 (rI g 26 6) (rJ g 26 0)) 30 (rI g 26 6) (rJ g 26 1)) 31 (rI g 26 6) (rJ g 26 2)) 32 (rI g 26 6) (rI g 26 4)) 26 6 ((rI g 26 6) + 1)))
    else none
  else
    some ((-7), g)
  else none
set_option maxHeartbeats 4000000 in
set_option maxRecDepth 100000 in
theorem c_Context_openScope_27 (d : Nat)  (g : G2) (r : Int) (g' : G2) (hf : f_Context_openScope_27 g = some (r, g')) : C2 d m_Context_openScope [vR 27] g (some (vI r)) g' := by
  unfold f_Context_openScope_27 at hf
  refine C2.of rfl rfl rfl (Nat.le_of_ble_eq_true rfl) ?_
  have h1 : ir (rI g 26 6) := by
    by_cases q : ir (rI g 26 6)
    · exact q
    · rw [if_neg q] at hf; cases hf
  rw [if_pos h1] at hf
  by_cases h2 : (rI g 26 6) < 6
  · rw [if_pos h2] at hf
    refine Rt.path ok_Context_openScope 4 [1] rfl ⟨⟨⟨h1, (show ir 6 by decide)⟩, h2⟩, trivial⟩ ?_
    have h3 : 0 ≤ (rI g 26 6) ∧ (rI g 26 6) < 6 := by
      by_cases q : 0 ≤ (rI g 26 6) ∧ (rI g 26 6) < 6
      · exact q
      · rw [if_neg q] at hf; cases hf
    rw [if_pos h3] at hf
    cases hf
    refine Rt.path ok_Context_openScope 35 [] rfl ⟨(ix_6 h3), (ix_6 h3), (ix_6 h3), (ix_6 h3), trivial⟩ ?_
    exact Rt.retI ok_Context_openScope rfl rfl
  · rw [if_neg h2] at hf
    refine Rt.path ok_Context_openScope 4 [0] rfl ⟨⟨⟨h1, (show ir 6 by decide)⟩, (Int.not_lt.mp h2)⟩, trivial⟩ ?_
    cases hf
    refine Rt.path ok_Context_openScope 1 [] rfl trivial ?_
    exact Rt.retI ok_Context_openScope rfl rfl
def f_Context_closeScope_27  (g : G2) : Option (Int × G2) :=
  if ir (rI g 26 6) then
  if (rI g 26 6) = 0 then
    some ((-5), g)
  else
    if 0 ≤ ((rI g 26 6) - 1) ∧ ((rI g 26 6) - 1) < 6 then
    (f_Context_forgetPairs_27 (rA g 32 ((rI g 26 6) - 1)) (gJ (gJ (gJ (gI g 26 6 ((rI g 26 6) - 1)) 26 0 (rB g 29 ((rI g 26 6) - 1))) 26 1 (rB g 30 ((rI g 26 6) - 1))) 26 2 (rB g 31 ((rI g 26 6) - 1)))).bind fun g4 =>
    some (0, g4)
    else none
  else none
set_option maxHeartbeats 4000000 in
set_option maxRecDepth 100000 in
theorem c_Context_closeScope_27 (d : Nat)  (g : G2) (r : Int) (g' : G2) (hf : f_Context_closeScope_27 g = some (r, g')) : C2 (d + 3) m_Context_closeScope [vR 27] g (some (vI r)) g' := by
  unfold f_Context_closeScope_27 at hf
  refine C2.of rfl rfl rfl (Nat.le_of_ble_eq_true rfl) ?_
  have h1 : ir (rI g 26 6) := by
    by_cases q : ir (rI g 26 6)
    · exact q
    · rw [if_neg q] at hf; cases hf
  rw [if_pos h1] at hf
  by_cases h2 : (rI g 26 6) = 0
  · rw [if_pos h2] at hf
    refine Rt.path ok_Context_closeScope 3 [0] rfl ⟨⟨h1, h2⟩, trivial⟩ ?_
    cases hf
    refine Rt.path ok_Context_closeScope 1 [] rfl trivial ?_
    exact Rt.retI ok_Context_closeScope rfl rfl
  · rw [if_neg h2] at hf
    refine Rt.path ok_Context_closeScope 3 [1] rfl ⟨⟨h1, h2⟩, trivial⟩ ?_
    have h3 : 0 ≤ ((rI g 26 6) - 1) ∧ ((rI g 26 6) - 1) < 6 := by
      by_cases q : 0 ≤ ((rI g 26 6) - 1) ∧ ((rI g 26 6) - 1) < 6
      · exact q
      · rw [if_neg q] at hf; cases hf
    rw [if_pos h3] at hf
    obtain ⟨g4, e4, hf⟩ := Option.bind_eq_some_iff.mp hf
    refine Rt.path ok_Context_closeScope 33 [] rfl ⟨(ix_6 h3), (ix_6 h3), (ix_6 h3), (ix_6 h3), trivial⟩ ?_
    refine Rt.callV ok_Context_closeScope rfl ml_Context_47 [vI _] cf_Context_forgetPairs rfl rfl (c_Context_forgetPairs_27 d _ _ _ e4) (Nat.le_of_ble_eq_true rfl) ?_
    cases hf
    refine Rt.path ok_Context_closeScope 1 [] rfl trivial ?_
    exact Rt.retI ok_Context_closeScope rfl rfl
def f_Reader_beginUnlabelled_26 (a1 : Int) (g : G2) : Option (Int × G2) :=
  if ir a1 then
  if a1 = 99 then
    if ir (rI g 26 6) then
    if 0 < (rI g 26 6) then
      some ((-5), g)
    else
      bd (f_Reader_beginNames_26 1 g) fun r4 g4 =>
      some (r4, g4)
    else none
  else
  if a1 = 100 then
    bd (f_Reader_beginNames_26 3 g) fun r5 g5 =>
    some (r5, g5)
  else
  if a1 = 118 then
    bd (f_Reader_beginNames_26 2 g) fun r6 g6 =>
    some (r6, g6)
  else
  if a1 = 123 then
    bd (f_Context_openScope_27 g) fun r7 g7 =>
    some (r7, g7)
  else
  if a1 = 125 then
    bd (f_Context_closeScope_27 g) fun r8 g8 =>
    some (r8, g8)
  else
    some ((-3), g)
  else none
set_option maxHeartbeats 4000000 in
set_option maxRecDepth 100000 in
theorem c_Reader_beginUnlabelled_26 (d : Nat) (a1 : Int) (g : G2) (r : Int) (g' : G2) (hf : f_Reader_beginUnlabelled_26 a1 g = some (r, g')) : C2 (d + 4) m_Reader_beginUnlabelled [vR 26, vI a1] g (some (vI r)) g' := by
  unfold f_Reader_beginUnlabelled_26 at hf
  refine C2.of rfl rfl rfl (Nat.le_of_ble_eq_true rfl) ?_
  have h1 : ir a1 := by
    by_cases q : ir a1
    · exact q
    · rw [if_neg q] at hf; cases hf
  rw [if_pos h1] at hf
  by_cases h9_0 : a1 = 99
  · rw [if_pos h9_0] at hf
    refine Rt.path ok_Reader_beginUnlabelled 2 [0] rfl ⟨⟨h1, h9_0, by decide⟩, trivial⟩ ?_
    have h2 : ir (rI g 26 6) := by
      by_cases q : ir (rI g 26 6)
      · exact q
      · rw [if_neg q] at hf; cases hf
    rw [if_pos h2] at hf
    by_cases h3 : 0 < (rI g 26 6)
    · rw [if_pos h3] at hf
      refine Rt.path ok_Reader_beginUnlabelled 4 [0] rfl ⟨⟨h2, h3⟩, trivial⟩ ?_
      cases hf
      refine Rt.path ok_Reader_beginUnlabelled 2 [] rfl trivial ?_
      exact Rt.retI ok_Reader_beginUnlabelled rfl rfl
    · rw [if_neg h3] at hf
      refine Rt.path ok_Reader_beginUnlabelled 4 [1] rfl ⟨⟨h2, (Int.not_lt.mp h3)⟩, trivial⟩ ?_
      obtain ⟨r4, g4, e4, hf⟩ := bd_inv hf
      refine Rt.path ok_Reader_beginUnlabelled 2 [] rfl trivial ?_
      refine Rt.callV ok_Reader_beginUnlabelled rfl ml_Reader_152 [vI _] cf_Reader_beginNames rfl rfl (c_Reader_beginNames_26 (d + 3) _ _ _ _ e4) (Nat.le_of_ble_eq_true rfl) ?_
      cases hf
      exact Rt.retI ok_Reader_beginUnlabelled rfl rfl
  · rw [if_neg h9_0] at hf
    by_cases h9_1 : a1 = 100
    · rw [if_pos h9_1] at hf
      refine Rt.path ok_Reader_beginUnlabelled 2 [1] rfl ⟨⟨h1, ⟨h9_0, h9_1⟩, by decide⟩, trivial⟩ ?_
      obtain ⟨r5, g5, e5, hf⟩ := bd_inv hf
      refine Rt.path ok_Reader_beginUnlabelled 2 [] rfl trivial ?_
      refine Rt.callV ok_Reader_beginUnlabelled rfl ml_Reader_152 [vI _] cf_Reader_beginNames rfl rfl (c_Reader_beginNames_26 (d + 3) _ _ _ _ e5) (Nat.le_of_ble_eq_true rfl) ?_
      cases hf
      exact Rt.retI ok_Reader_beginUnlabelled rfl rfl
    · rw [if_neg h9_1] at hf
      by_cases h9_2 : a1 = 118
      · rw [if_pos h9_2] at hf
        refine Rt.path ok_Reader_beginUnlabelled 2 [2] rfl ⟨⟨h1, ⟨h9_0, ⟨h9_1, h9_2⟩⟩, by decide⟩, trivial⟩ ?_
        obtain ⟨r6, g6, e6, hf⟩ := bd_inv hf
        refine Rt.path ok_Reader_beginUnlabelled 2 [] rfl trivial ?_
        refine Rt.callV ok_Reader_beginUnlabelled rfl ml_Reader_152 [vI _] cf_Reader_beginNames rfl rfl (c_Reader_beginNames_26 (d + 3) _ _ _ _ e6) (Nat.le_of_ble_eq_true rfl) ?_
        cases hf
        exact Rt.retI ok_Reader_beginUnlabelled rfl rfl
      · rw [if_neg h9_2] at hf
        by_cases h9_3 : a1 = 123
        · rw [if_pos h9_3] at hf
          refine Rt.path ok_Reader_beginUnlabelled 2 [3] rfl ⟨⟨h1, ⟨h9_0, ⟨h9_1, ⟨h9_2, h9_3⟩⟩⟩, by decide⟩, trivial⟩ ?_
          obtain ⟨r7, g7, e7, hf⟩ := bd_inv hf
          refine Rt.path ok_Reader_beginUnlabelled 2 [] rfl trivial ?_
          refine Rt.callV ok_Reader_beginUnlabelled rfl ml_Reader_146 [] cf_Context_openScope rfl rfl (c_Context_openScope_27 (d + 3) _ _ _ e7) (Nat.le_of_ble_eq_true rfl) ?_
          cases hf
          exact Rt.retI ok_Reader_beginUnlabelled rfl rfl
        · rw [if_neg h9_3] at hf
          by_cases h9_4 : a1 = 125
          · rw [if_pos h9_4] at hf
            refine Rt.path ok_Reader_beginUnlabelled 2 [4] rfl ⟨⟨h1, ⟨h9_0, ⟨h9_1, ⟨h9_2, ⟨h9_3, h9_4⟩⟩⟩⟩, by decide⟩, trivial⟩ ?_
            obtain ⟨r8, g8, e8, hf⟩ := bd_inv hf
            refine Rt.path ok_Reader_beginUnlabelled 2 [] rfl trivial ?_
            refine Rt.callV ok_Reader_beginUnlabelled rfl ml_Reader_149 [] cf_Context_closeScope rfl rfl (c_Context_closeScope_27 d _ _ _ e8) (Nat.le_of_ble_eq_true rfl) ?_
            cases hf
            exact Rt.retI ok_Reader_beginUnlabelled rfl rfl
          · rw [if_neg h9_4] at hf
            refine Rt.path ok_Reader_beginUnlabelled 2 [5] rfl ⟨⟨h1, ⟨h9_0, ⟨h9_1, ⟨h9_2, ⟨h9_3, ⟨h9_4, trivial⟩⟩⟩⟩⟩, by decide⟩, trivial⟩ ?_
            cases hf
            refine Rt.path ok_Reader_beginUnlabelled 1 [] rfl trivial ?_
            exact Rt.retI ok_Reader_beginUnlabelled rfl rfl
def f_Reader_endNames_26 (a1 : Int) (g : G2) : Option (Int × G2) :=
  if ir (rI g 25 6) then
  if (rI g 25 6) = 3 then
    if ir a1 then
    if a1 = 46 then
      if ir (rI g 25 7) then
      if (rI g 25 7) < 2 then
        some ((-3), g)
      else
        some (0, (gI g 25 6 0))
      else none
    else
      some ((-3), g)
    else none
  else
    if ir a1 then
    if a1 = 46 then
      if ir (rI g 25 7) then
      if (rI g 25 7) < 1 then
        some ((-3), g)
      else
        some (0, (gI g 25 6 0))
      else none
    else
      some ((-3), g)
    else none
  else none
set_option maxHeartbeats 4000000 in
set_option maxRecDepth 100000 in
theorem c_Reader_endNames_26 (d : Nat) (a1 : Int) (g : G2) (r : Int) (g' : G2) (hf : f_Reader_endNames_26 a1 g = some (r, g')) : C2 d m_Reader_endNames [vR 26, vI a1] g (some (vI r)) g' := by
  unfold f_Reader_endNames_26 at hf
  refine C2.of rfl rfl rfl (Nat.le_of_ble_eq_true rfl) ?_
  have h1 : ir (rI g 25 6) := by
    by_cases q : ir (rI g 25 6)
    · exact q
    · rw [if_neg q] at hf; cases hf
  rw [if_pos h1] at hf
  by_cases h2 : (rI g 25 6) = 3
  · rw [if_pos h2] at hf
    refine Rt.path ok_Reader_endNames 4 [0] rfl ⟨⟨⟨h1, (show ir 3 by decide)⟩, h2⟩, trivial⟩ ?_
    have h3 : ir a1 := by
      by_cases q : ir a1
      · exact q
      · rw [if_neg q] at hf; cases hf
    rw [if_pos h3] at hf
    by_cases h4 : a1 = 46
    · rw [if_pos h4] at hf
      refine Rt.path ok_Reader_endNames 6 [0] rfl ⟨⟨⟨h3, (show ir 46 by decide)⟩, h4⟩, trivial⟩ ?_
      have h5 : ir (rI g 25 7) := by
        by_cases q : ir (rI g 25 7)
        · exact q
        · rw [if_neg q] at hf; cases hf
      rw [if_pos h5] at hf
      by_cases h6 : (rI g 25 7) < 2
      · rw [if_pos h6] at hf
        refine Rt.path ok_Reader_endNames 4 [0] rfl ⟨⟨⟨h5, (show ir 2 by decide)⟩, h6⟩, trivial⟩ ?_
        cases hf
        refine Rt.path ok_Reader_endNames 1 [] rfl trivial ?_
        exact Rt.retI ok_Reader_endNames rfl rfl
      · rw [if_neg h6] at hf
        refine Rt.path ok_Reader_endNames 4 [1] rfl ⟨⟨⟨h5, (show ir 2 by decide)⟩, (Int.not_lt.mp h6)⟩, trivial⟩ ?_
        cases hf
        refine Rt.path ok_Reader_endNames 4 [] rfl trivial ?_
        exact Rt.retI ok_Reader_endNames rfl rfl
    · rw [if_neg h4] at hf
      refine Rt.path ok_Reader_endNames 6 [1] rfl ⟨⟨⟨h3, (show ir 46 by decide)⟩, h4⟩, trivial⟩ ?_
      cases hf
      refine Rt.path ok_Reader_endNames 1 [] rfl trivial ?_
      exact Rt.retI ok_Reader_endNames rfl rfl
  · rw [if_neg h2] at hf
    refine Rt.path ok_Reader_endNames 4 [1] rfl ⟨⟨⟨h1, (show ir 3 by decide)⟩, h2⟩, trivial⟩ ?_
    have h7 : ir a1 := by
      by_cases q : ir a1
      · exact q
      · rw [if_neg q] at hf; cases hf
    rw [if_pos h7] at hf
    by_cases h8 : a1 = 46
    · rw [if_pos h8] at hf
      refine Rt.path ok_Reader_endNames 5 [0] rfl ⟨⟨⟨h7, (show ir 46 by decide)⟩, h8⟩, trivial⟩ ?_
      have h9 : ir (rI g 25 7) := by
        by_cases q : ir (rI g 25 7)
        · exact q
        · rw [if_neg q] at hf; cases hf
      rw [if_pos h9] at hf
      by_cases h10 : (rI g 25 7) < 1
      · rw [if_pos h10] at hf
        refine Rt.path ok_Reader_endNames 4 [0] rfl ⟨⟨⟨h9, (show ir 1 by decide)⟩, h10⟩, trivial⟩ ?_
        cases hf
        refine Rt.path ok_Reader_endNames 1 [] rfl trivial ?_
        exact Rt.retI ok_Reader_endNames rfl rfl
      · rw [if_neg h10] at hf
        refine Rt.path ok_Reader_endNames 4 [1] rfl ⟨⟨⟨h9, (show ir 1 by decide)⟩, (Int.not_lt.mp h10)⟩, trivial⟩ ?_
        cases hf
        refine Rt.path ok_Reader_endNames 4 [] rfl trivial ?_
        exact Rt.retI ok_Reader_endNames rfl rfl
    · rw [if_neg h8] at hf
      refine Rt.path ok_Reader_endNames 5 [1] rfl ⟨⟨⟨h7, (show ir 46 by decide)⟩, h8⟩, trivial⟩ ?_
      cases hf
      refine Rt.path ok_Reader_endNames 1 [] rfl trivial ?_
      exact Rt.retI ok_Reader_endNames rfl rfl
def f_Reader_takeKind_26 (a1 : Int) (g : G2) : Option (Int × G2) :=
  if ir a1 then
  if a1 = 97 then
    if 0 ≤ (rI g 10 4) ∧ (rI g 10 4) < 40 then
    if a1 = 102 then
      some (0, (gI (gA g 9 (rI g 10 4) 2) 25 6 5))
    else
      some (0, (gI (gA g 9 (rI g 10 4) 2) 25 6 8))
    else none
  else
  if a1 = 101 then
    if 0 ≤ (rI g 10 4) ∧ (rI g 10 4) < 40 then
    if a1 = 102 then
      some (0, (gI (gA g 9 (rI g 10 4) 1) 25 6 5))
    else
      some (0, (gI (gA g 9 (rI g 10 4) 1) 25 6 8))
    else none
  else
  if a1 = 102 then
    if 0 ≤ (rI g 10 4) ∧ (rI g 10 4) < 40 then
    if a1 = 102 then
      some (0, (gI (gA g 9 (rI g 10 4) 0) 25 6 5))
    else
      some (0, (gI (gA g 9 (rI g 10 4) 0) 25 6 8))
    else none
  else
  if a1 = 112 then
    if 0 ≤ (rI g 10 4) ∧ (rI g 10 4) < 40 then
    if a1 = 102 then
      some (0, (gI (gA g 9 (rI g 10 4) 3) 25 6 5))
    else
      some (0, (gI (gA g 9 (rI g 10 4) 3) 25 6 8))
    else none
  else
    some ((-3), g)
  else none
set_option maxHeartbeats 4000000 in
set_option maxRecDepth 100000 in
theorem c_Reader_takeKind_26 (d : Nat) (a1 : Int) (g : G2) (r : Int) (g' : G2) (hf : f_Reader_takeKind_26 a1 g = some (r, g')) : C2 d m_Reader_takeKind [vR 26, vI a1] g (some (vI r)) g' := by
  unfold f_Reader_takeKind_26 at hf
  refine C2.of rfl rfl rfl (Nat.le_of_ble_eq_true rfl) ?_
  have h1 : ir a1 := by
    by_cases q : ir a1
    · exact q
    · rw [if_neg q] at hf; cases hf
  rw [if_pos h1] at hf
  by_cases h10_0 : a1 = 97
  · rw [if_pos h10_0] at hf
    refine Rt.path ok_Reader_takeKind 7 [0] rfl ⟨⟨h1, h10_0, by decide⟩, trivial⟩ ?_
    have h2 : 0 ≤ (rI g 10 4) ∧ (rI g 10 4) < 40 := by
      by_cases q : 0 ≤ (rI g 10 4) ∧ (rI g 10 4) < 40
      · exact q
      · rw [if_neg q] at hf; cases hf
    rw [if_pos h2] at hf
    by_cases h3 : a1 = 102
    · rw [if_pos h3] at hf
      refine Rt.path ok_Reader_takeKind 11 [0] rfl ⟨(ix_40 h2), ⟨⟨h1, (show ir 102 by decide)⟩, h3⟩, trivial⟩ ?_
      cases hf
      refine Rt.path ok_Reader_takeKind 4 [] rfl trivial ?_
      exact Rt.retI ok_Reader_takeKind rfl rfl
    · rw [if_neg h3] at hf
      refine Rt.path ok_Reader_takeKind 11 [1] rfl ⟨(ix_40 h2), ⟨⟨h1, (show ir 102 by decide)⟩, h3⟩, trivial⟩ ?_
      cases hf
      refine Rt.path ok_Reader_takeKind 3 [] rfl trivial ?_
      exact Rt.retI ok_Reader_takeKind rfl rfl
  · rw [if_neg h10_0] at hf
    by_cases h10_1 : a1 = 101
    · rw [if_pos h10_1] at hf
      refine Rt.path ok_Reader_takeKind 7 [1] rfl ⟨⟨h1, ⟨h10_0, h10_1⟩, by decide⟩, trivial⟩ ?_
      have h4 : 0 ≤ (rI g 10 4) ∧ (rI g 10 4) < 40 := by
        by_cases q : 0 ≤ (rI g 10 4) ∧ (rI g 10 4) < 40
        · exact q
        · rw [if_neg q] at hf; cases hf
      rw [if_pos h4] at hf
      by_cases h5 : a1 = 102
      · rw [if_pos h5] at hf
        refine Rt.path ok_Reader_takeKind 11 [0] rfl ⟨(ix_40 h4), ⟨⟨h1, (show ir 102 by decide)⟩, h5⟩, trivial⟩ ?_
        cases hf
        refine Rt.path ok_Reader_takeKind 4 [] rfl trivial ?_
        exact Rt.retI ok_Reader_takeKind rfl rfl
      · rw [if_neg h5] at hf
        refine Rt.path ok_Reader_takeKind 11 [1] rfl ⟨(ix_40 h4), ⟨⟨h1, (show ir 102 by decide)⟩, h5⟩, trivial⟩ ?_
        cases hf
        refine Rt.path ok_Reader_takeKind 3 [] rfl trivial ?_
        exact Rt.retI ok_Reader_takeKind rfl rfl
    · rw [if_neg h10_1] at hf
      by_cases h10_2 : a1 = 102
      · rw [if_pos h10_2] at hf
        refine Rt.path ok_Reader_takeKind 7 [2] rfl ⟨⟨h1, ⟨h10_0, ⟨h10_1, h10_2⟩⟩, by decide⟩, trivial⟩ ?_
        have h6 : 0 ≤ (rI g 10 4) ∧ (rI g 10 4) < 40 := by
          by_cases q : 0 ≤ (rI g 10 4) ∧ (rI g 10 4) < 40
          · exact q
          · rw [if_neg q] at hf; cases hf
        rw [if_pos h6] at hf
        by_cases h7 : a1 = 102
        · rw [if_pos h7] at hf
          refine Rt.path ok_Reader_takeKind 11 [0] rfl ⟨(ix_40 h6), ⟨⟨h1, (show ir 102 by decide)⟩, h7⟩, trivial⟩ ?_
          cases hf
          refine Rt.path ok_Reader_takeKind 4 [] rfl trivial ?_
          exact Rt.retI ok_Reader_takeKind rfl rfl
        · rw [if_neg h7] at hf
          refine Rt.path ok_Reader_takeKind 11 [1] rfl ⟨(ix_40 h6), ⟨⟨h1, (show ir 102 by decide)⟩, h7⟩, trivial⟩ ?_
          cases hf
          refine Rt.path ok_Reader_takeKind 3 [] rfl trivial ?_
          exact Rt.retI ok_Reader_takeKind rfl rfl
      · rw [if_neg h10_2] at hf
        by_cases h10_3 : a1 = 112
        · rw [if_pos h10_3] at hf
          refine Rt.path ok_Reader_takeKind 7 [3] rfl ⟨⟨h1, ⟨h10_0, ⟨h10_1, ⟨h10_2, h10_3⟩⟩⟩, by decide⟩, trivial⟩ ?_
          have h8 : 0 ≤ (rI g 10 4) ∧ (rI g 10 4) < 40 := by
            by_cases q : 0 ≤ (rI g 10 4) ∧ (rI g 10 4) < 40
            · exact q
            · rw [if_neg q] at hf; cases hf
          rw [if_pos h8] at hf
          by_cases h9 : a1 = 102
          · rw [if_pos h9] at hf
            refine Rt.path ok_Reader_takeKind 11 [0] rfl ⟨(ix_40 h8), ⟨⟨h1, (show ir 102 by decide)⟩, h9⟩, trivial⟩ ?_
            cases hf
            refine Rt.path ok_Reader_takeKind 4 [] rfl trivial ?_
            exact Rt.retI ok_Reader_takeKind rfl rfl
          · rw [if_neg h9] at hf
            refine Rt.path ok_Reader_takeKind 11 [1] rfl ⟨(ix_40 h8), ⟨⟨h1, (show ir 102 by decide)⟩, h9⟩, trivial⟩ ?_
            cases hf
            refine Rt.path ok_Reader_takeKind 3 [] rfl trivial ?_
            exact Rt.retI ok_Reader_takeKind rfl rfl
        · rw [if_neg h10_3] at hf
          refine Rt.path ok_Reader_takeKind 7 [4] rfl ⟨⟨h1, ⟨h10_0, ⟨h10_1, ⟨h10_2, ⟨h10_3, trivial⟩⟩⟩⟩, by decide⟩, trivial⟩ ?_
          cases hf
          refine Rt.path ok_Reader_takeKind 1 [] rfl trivial ?_
          exact Rt.retI ok_Reader_takeKind rfl rfl
def f_Reader_declare_26  (g : G2) : Option (Int × G2) :=
  if 0 ≤ (rI g 10 4) ∧ (rI g 10 4) < 40 then
  bd (f_Names_add_4 (rB g 8 (rI g 10 4)) 2 g) fun r2 g2 =>
  if 0 ≤ r2 ∧ r2 < 60 then
  bd (f_Statements_isHypothesis_8 (rI g 10 4) (gA g2 6 r2 (rI g 10 4))) fun r4 g4 =>
  if ir r4 then
  if r4 = 0 then
    if ir (rA g4 9 (rI g 10 4)) then
    if (rA g4 9 (rI g 10 4)) = 0 then
      some (0, (gI (gI (gJ (gI g4 16 8 ((rI g4 16 8) + 1)) 26 1 ((rJ g4 26 1) ||| (rB g4 13 (rI g 10 4)))) 10 4 ((rI g4 10 4) + 1)) 25 6 0))
    else
      some (0, (gI (gI (gI g4 16 8 ((rI g4 16 8) + 1)) 10 4 ((rI g4 10 4) + 1)) 25 6 0))
    else none
  else
    if ir (rA g4 9 (rI g 10 4)) then
    if (rA g4 9 (rI g 10 4)) = 0 then
      some (0, (gI (gI (gJ (gJ g4 26 2 ((rJ g4 26 2) ||| (am_shl (Int64.ofNat 1) (rI g 10 4)))) 26 1 ((rJ g4 26 1) ||| (rB g4 13 (rI g 10 4)))) 10 4 ((rI g4 10 4) + 1)) 25 6 0))
    else
      some (0, (gI (gI (gJ g4 26 2 ((rJ g4 26 2) ||| (am_shl (Int64.ofNat 1) (rI g 10 4)))) 10 4 ((rI g4 10 4) + 1)) 25 6 0))
    else none
  else none
  else none
  else none
set_option maxHeartbeats 4000000 in
set_option maxRecDepth 100000 in
theorem c_Reader_declare_26 (d : Nat)  (g : G2) (r : Int) (g' : G2) (hf : f_Reader_declare_26 g = some (r, g')) : C2 (d + 1) m_Reader_declare [vR 26] g (some (vI r)) g' := by
  unfold f_Reader_declare_26 at hf
  refine C2.of rfl rfl rfl (Nat.le_of_ble_eq_true rfl) ?_
  have h1 : 0 ≤ (rI g 10 4) ∧ (rI g 10 4) < 40 := by
    by_cases q : 0 ≤ (rI g 10 4) ∧ (rI g 10 4) < 40
    · exact q
    · rw [if_neg q] at hf; cases hf
  rw [if_pos h1] at hf
  obtain ⟨r2, g2, e2, hf⟩ := bd_inv hf
  refine Rt.path ok_Reader_declare 13 [] rfl ⟨(ix_40 h1), trivial⟩ ?_
  refine Rt.callV ok_Reader_declare rfl ml_Reader_164 [vL _, vI _] cf_Names_add rfl rfl (c_Names_add_4 d _ _ _ _ _ e2) (Nat.le_of_ble_eq_true rfl) ?_
  have h3 : 0 ≤ r2 ∧ r2 < 60 := by
    by_cases q : 0 ≤ r2 ∧ r2 < 60
    · exact q
    · rw [if_neg q] at hf; cases hf
  rw [if_pos h3] at hf
  obtain ⟨r4, g4, e4, hf⟩ := bd_inv hf
  refine Rt.path ok_Reader_declare 10 [] rfl ⟨(ix_60 h3), trivial⟩ ?_
  refine Rt.callV ok_Reader_declare rfl ml_Reader_211 [vI _] cf_Statements_isHypothesis rfl rfl (c_Statements_isHypothesis_8 d _ _ _ _ e4) (Nat.le_of_ble_eq_true rfl) ?_
  have h5 : ir r4 := by
    by_cases q : ir r4
    · exact q
    · rw [if_neg q] at hf; cases hf
  rw [if_pos h5] at hf
  by_cases h6 : r4 = 0
  · rw [if_pos h6] at hf
    refine Rt.path ok_Reader_declare 1 [1] rfl ⟨⟨h5, h6⟩, trivial⟩ ?_
    have h7 : ir (rA g4 9 (rI g 10 4)) := by
      by_cases q : ir (rA g4 9 (rI g 10 4))
      · exact q
      · rw [if_neg q] at hf; cases hf
    rw [if_pos h7] at hf
    by_cases h8 : (rA g4 9 (rI g 10 4)) = 0
    · rw [if_pos h8] at hf
      refine Rt.path ok_Reader_declare 13 [0] rfl ⟨(ix_40 h1), ⟨h7, h8⟩, trivial⟩ ?_
      cases hf
      refine Rt.path ok_Reader_declare 24 [] rfl ⟨(ix_40 h1), trivial⟩ ?_
      exact Rt.retI ok_Reader_declare rfl rfl
    · rw [if_neg h8] at hf
      refine Rt.path ok_Reader_declare 13 [1] rfl ⟨(ix_40 h1), ⟨h7, h8⟩, trivial⟩ ?_
      cases hf
      refine Rt.path ok_Reader_declare 12 [] rfl trivial ?_
      exact Rt.retI ok_Reader_declare rfl rfl
  · rw [if_neg h6] at hf
    refine Rt.path ok_Reader_declare 1 [0] rfl ⟨⟨h5, h6⟩, trivial⟩ ?_
    have h9 : ir (rA g4 9 (rI g 10 4)) := by
      by_cases q : ir (rA g4 9 (rI g 10 4))
      · exact q
      · rw [if_neg q] at hf; cases hf
    rw [if_pos h9] at hf
    by_cases h10 : (rA g4 9 (rI g 10 4)) = 0
    · rw [if_pos h10] at hf
      refine Rt.path ok_Reader_declare 16 [0] rfl ⟨(ix_40 h1), ⟨h9, h10⟩, trivial⟩ ?_
      cases hf
      refine Rt.path ok_Reader_declare 24 [] rfl ⟨(ix_40 h1), trivial⟩ ?_
      exact Rt.retI ok_Reader_declare rfl rfl
    · rw [if_neg h10] at hf
      refine Rt.path ok_Reader_declare 16 [1] rfl ⟨(ix_40 h1), ⟨h9, h10⟩, trivial⟩ ?_
      cases hf
      refine Rt.path ok_Reader_declare 12 [] rfl trivial ?_
      exact Rt.retI ok_Reader_declare rfl rfl
def b_Assertions_start_17_0 (L : Nat → Int → G2 → Option (G2)) (i2 : Int) (g : G2) : Option (G2) :=
  if ir i2 then
  if i2 < 40 then
    if 0 ≤ (((rI g 16 8) * 40) + i2) ∧ (((rI g 16 8) * 40) + i2) < 1600 then
    L 0 (i2 + 1) (gA g 22 (((rI g 16 8) * 40) + i2) 0)
    else none
  else
    some g
  else none
def l_Assertions_start_17 : Nat → Nat → Int → G2 → Option (G2)
  | 0 => fun _ _ _ => none
  | n + 1 => fun t i2 g => match t with
    | _ => b_Assertions_start_17_0 (l_Assertions_start_17 n) i2 g
set_option maxHeartbeats 4000000 in
set_option maxRecDepth 100000 in
theorem rl_Assertions_start_17 (d : Nat) : ∀ (n : Nat) (i2 : Int) (g : G2) (g' : G2), (l_Assertions_start_17 n 0 i2 g = some g' → Rt d m_Assertions_start 62 [some (vR 17), none, some (vI i2)] [] g none g') := by
  intro n
  induction n with
  | zero => intro i2 g g'; exact fun hf => by cases hf
  | succ n ih =>
    intro i2 g g'
    intro hf
    replace hf : b_Assertions_start_17_0 (l_Assertions_start_17 n) i2 g = some g' := hf
    unfold b_Assertions_start_17_0 at hf
    have h2 : ir i2 := by
      by_cases q : ir i2
      · exact q
      · rw [if_neg q] at hf; cases hf
    rw [if_pos h2] at hf
    by_cases h3 : i2 < 40
    · rw [if_pos h3] at hf
      refine Rt.path ok_Assertions_start 3 [0] rfl ⟨⟨⟨h2, (show ir 40 by decide)⟩, h3⟩, trivial⟩ ?_
      have h4 : 0 ≤ (((rI g 16 8) * 40) + i2) ∧ (((rI g 16 8) * 40) + i2) < 1600 := by
        by_cases q : 0 ≤ (((rI g 16 8) * 40) + i2) ∧ (((rI g 16 8) * 40) + i2) < 1600
        · exact q
        · rw [if_neg q] at hf; cases hf
      rw [if_pos h4] at hf
      refine Rt.path ok_Assertions_start 12 [] rfl ⟨(ix_1600 h4), trivial⟩ ?_
      exact Rt.weak ((ih _ _ _) hf) ⟨rfl, rfl, trivial⟩
    · rw [if_neg h3] at hf
      refine Rt.path ok_Assertions_start 3 [1] rfl ⟨⟨⟨h2, (show ir 40 by decide)⟩, (Int.not_lt.mp h3)⟩, trivial⟩ ?_
      cases hf
      exact Rt.retV ok_Assertions_start rfl rfl
def f_Assertions_start_17 (a1 : Int) (g : G2) : Option (G2) :=
  if 0 ≤ (rI g 16 8) ∧ (rI g 16 8) < 40 then
  l_Assertions_start_17 20000 0 0 (gA (gA (gA (gA (gA (gA g 17 (rI g 16 8) a1) 18 (rI g 16 8) 0) 20 (rI g 16 8) 0) 21 (rI g 16 8) 0) 23 (rI g 16 8) 0) 24 (rI g 16 8) 1)
  else none
set_option maxHeartbeats 4000000 in
set_option maxRecDepth 100000 in
theorem c_Assertions_start_17 (d : Nat) (a1 : Int) (g : G2) (g' : G2) (hf : f_Assertions_start_17 a1 g = some g') : C2 d m_Assertions_start [vR 17, vI a1] g none g' := by
  unfold f_Assertions_start_17 at hf
  refine C2.of rfl rfl rfl (Nat.le_of_ble_eq_true rfl) ?_
  have h1 : 0 ≤ (rI g 16 8) ∧ (rI g 16 8) < 40 := by
    by_cases q : 0 ≤ (rI g 16 8) ∧ (rI g 16 8) < 40
    · exact q
    · rw [if_neg q] at hf; cases hf
  rw [if_pos h1] at hf
  refine Rt.path ok_Assertions_start 38 [] rfl ⟨(ix_40 h1), (ix_40 h1), (ix_40 h1), (ix_40 h1), ⟨(ix_40 h1), (show (0 : Int) = 0 ∨ (0 : Int) = 1 by decide)⟩, ⟨(ix_40 h1), (show (1 : Int) = 0 ∨ (1 : Int) = 1 by decide)⟩, trivial⟩ ?_
  exact Rt.weak ((rl_Assertions_start_17 d _ _ _ _) hf) ⟨rfl, rfl, trivial⟩
def b_Reader_mandatoryVariables_26_0 (L : Nat → Int → Int64 → Int → G2 → Option (Int64 × G2)) (i1 : Int) (l2 : Int64) (i4 : Int) (g : G2) : Option (Int64 × G2) :=
  if ir i4 then
  if ir i1 then
  if i4 < i1 then
    bd (f_Reader_isActiveHypothesis_26 i4 g) fun r5 g5 =>
    if ir r5 then
    if r5 = 0 then
      L 0 i1 l2 (i4 + 1) g5
    else
      if 0 ≤ i4 ∧ i4 < 40 then
      if ir (rA g5 9 i4) then
      if (rA g5 9 i4) = 1 then
        L 0 i1 (l2 ||| (rB g5 13 i4)) (i4 + 1) g5
      else
        L 0 i1 l2 (i4 + 1) g5
      else none
      else none
    else none
  else
    some (l2, g)
  else none
  else none
def l_Reader_mandatoryVariables_26 : Nat → Nat → Int → Int64 → Int → G2 → Option (Int64 × G2)
  | 0 => fun _ _ _ _ _ => none
  | n + 1 => fun t i1 l2 i4 g => match t with
    | _ => b_Reader_mandatoryVariables_26_0 (l_Reader_mandatoryVariables_26 n) i1 l2 i4 g
set_option maxHeartbeats 4000000 in
set_option maxRecDepth 100000 in
theorem rl_Reader_mandatoryVariables_26 (d : Nat) : ∀ (n : Nat) (i1 : Int) (l2 : Int64) (i4 : Int) (g : G2) (r : Int64) (g' : G2), (l_Reader_mandatoryVariables_26 n 0 i1 l2 i4 g = some (r, g') → Rt (d + 1) m_Reader_mandatoryVariables 16 [some (vR 26), some (vI i1), some (vL l2), none, some (vI i4)] [] g (some (vL r)) g') := by
  intro n
  induction n with
  | zero => intro i1 l2 i4 g r g'; exact fun hf => by cases hf
  | succ n ih =>
    intro i1 l2 i4 g r g'
    intro hf
    replace hf : b_Reader_mandatoryVariables_26_0 (l_Reader_mandatoryVariables_26 n) i1 l2 i4 g = some (r, g') := hf
    unfold b_Reader_mandatoryVariables_26_0 at hf
    have h2 : ir i4 := by
      by_cases q : ir i4
      · exact q
      · rw [if_neg q] at hf; cases hf
    rw [if_pos h2] at hf
    have h3 : ir i1 := by
      by_cases q : ir i1
      · exact q
      · rw [if_neg q] at hf; cases hf
    rw [if_pos h3] at hf
    by_cases h4 : i4 < i1
    · rw [if_pos h4] at hf
      refine Rt.path ok_Reader_mandatoryVariables 3 [0] rfl ⟨⟨⟨h2, h3⟩, h4⟩, trivial⟩ ?_
      obtain ⟨r5, g5, e5, hf⟩ := bd_inv hf
      refine Rt.path ok_Reader_mandatoryVariables 2 [] rfl trivial ?_
      refine Rt.callV ok_Reader_mandatoryVariables rfl ml_Reader_233 [vI _] cf_Reader_isActiveHypothesis rfl rfl (c_Reader_isActiveHypothesis_26 d _ _ _ _ e5) (Nat.le_of_ble_eq_true rfl) ?_
      have h6 : ir r5 := by
        by_cases q : ir r5
        · exact q
        · rw [if_neg q] at hf; cases hf
      rw [if_pos h6] at hf
      by_cases h7 : r5 = 0
      · rw [if_pos h7] at hf
        refine Rt.path ok_Reader_mandatoryVariables 1 [1] rfl ⟨⟨h6, h7⟩, trivial⟩ ?_
        refine Rt.path ok_Reader_mandatoryVariables 2 [] rfl trivial ?_
        exact Rt.weak ((ih _ _ _ _ _ _) hf) ⟨rfl, rfl, rfl, rfl, trivial⟩
      · rw [if_neg h7] at hf
        refine Rt.path ok_Reader_mandatoryVariables 1 [0] rfl ⟨⟨h6, h7⟩, trivial⟩ ?_
        have h8 : 0 ≤ i4 ∧ i4 < 40 := by
          by_cases q : 0 ≤ i4 ∧ i4 < 40
          · exact q
          · rw [if_neg q] at hf; cases hf
        rw [if_pos h8] at hf
        have h9 : ir (rA g5 9 i4) := by
          by_cases q : ir (rA g5 9 i4)
          · exact q
          · rw [if_neg q] at hf; cases hf
        rw [if_pos h9] at hf
        by_cases h10 : (rA g5 9 i4) = 1
        · rw [if_pos h10] at hf
          refine Rt.path ok_Reader_mandatoryVariables 7 [0] rfl ⟨(ix_40 h8), ⟨⟨h9, (show ir 1 by decide)⟩, h10⟩, trivial⟩ ?_
          refine Rt.path ok_Reader_mandatoryVariables 11 [] rfl ⟨(ix_40 h8), trivial⟩ ?_
          exact Rt.weak ((ih _ _ _ _ _ _) hf) ⟨rfl, rfl, rfl, rfl, trivial⟩
        · rw [if_neg h10] at hf
          refine Rt.path ok_Reader_mandatoryVariables 7 [1] rfl ⟨(ix_40 h8), ⟨⟨h9, (show ir 1 by decide)⟩, h10⟩, trivial⟩ ?_
          refine Rt.path ok_Reader_mandatoryVariables 2 [] rfl trivial ?_
          exact Rt.weak ((ih _ _ _ _ _ _) hf) ⟨rfl, rfl, rfl, rfl, trivial⟩
    · rw [if_neg h4] at hf
      refine Rt.path ok_Reader_mandatoryVariables 3 [1] rfl ⟨⟨⟨h2, h3⟩, (Int.not_lt.mp h4)⟩, trivial⟩ ?_
      cases hf
      refine Rt.path ok_Reader_mandatoryVariables 1 [] rfl trivial ?_
      exact Rt.retL ok_Reader_mandatoryVariables rfl rfl
def f_Reader_mandatoryVariables_26 (a1 : Int) (g : G2) : Option (Int64 × G2) :=
  if 0 ≤ a1 ∧ a1 < 40 then
  l_Reader_mandatoryVariables_26 20000 0 a1 (rB g 13 a1) 0 g
  else none
set_option maxHeartbeats 4000000 in
set_option maxRecDepth 100000 in
theorem c_Reader_mandatoryVariables_26 (d : Nat) (a1 : Int) (g : G2) (r : Int64) (g' : G2) (hf : f_Reader_mandatoryVariables_26 a1 g = some (r, g')) : C2 (d + 1) m_Reader_mandatoryVariables [vR 26, vI a1] g (some (vL r)) g' := by
  unfold f_Reader_mandatoryVariables_26 at hf
  refine C2.of rfl rfl rfl (Nat.le_of_ble_eq_true rfl) ?_
  have h1 : 0 ≤ a1 ∧ a1 < 40 := by
    by_cases q : 0 ≤ a1 ∧ a1 < 40
    · exact q
    · rw [if_neg q] at hf; cases hf
  rw [if_pos h1] at hf
  refine Rt.path ok_Reader_mandatoryVariables 9 [] rfl ⟨(ix_40 h1), trivial⟩ ?_
  exact Rt.weak ((rl_Reader_mandatoryVariables_26 d _ _ _ _ _ _ _) hf) ⟨rfl, rfl, rfl, rfl, trivial⟩
def f_Assertions_addPair_17 (a1 : Int) (g : G2) : Option (G2) :=
  if 0 ≤ (rI g 16 8) ∧ (rI g 16 8) < 40 then
  if 0 ≤ (((rI g 16 8) * 40) + (rA g 18 (rI g 16 8))) ∧ (((rI g 16 8) * 40) + (rA g 18 (rI g 16 8))) < 1600 then
  some (gA (gA g 19 (((rI g 16 8) * 40) + (rA g 18 (rI g 16 8))) a1) 18 (rI g 16 8) ((rA g 18 (rI g 16 8)) + 1))
  else none
  else none
set_option maxHeartbeats 4000000 in
set_option maxRecDepth 100000 in
theorem c_Assertions_addPair_17 (d : Nat) (a1 : Int) (g : G2) (g' : G2) (hf : f_Assertions_addPair_17 a1 g = some g') : C2 d m_Assertions_addPair [vR 17, vI a1] g none g' := by
  unfold f_Assertions_addPair_17 at hf
  refine C2.of rfl rfl rfl (Nat.le_of_ble_eq_true rfl) ?_
  have h1 : 0 ≤ (rI g 16 8) ∧ (rI g 16 8) < 40 := by
    by_cases q : 0 ≤ (rI g 16 8) ∧ (rI g 16 8) < 40
    · exact q
    · rw [if_neg q] at hf; cases hf
  rw [if_pos h1] at hf
  have h2 : 0 ≤ (((rI g 16 8) * 40) + (rA g 18 (rI g 16 8))) ∧ (((rI g 16 8) * 40) + (rA g 18 (rI g 16 8))) < 1600 := by
    by_cases q : 0 ≤ (((rI g 16 8) * 40) + (rA g 18 (rI g 16 8))) ∧ (((rI g 16 8) * 40) + (rA g 18 (rI g 16 8))) < 1600
    · exact q
    · rw [if_neg q] at hf; cases hf
  rw [if_pos h2] at hf
  cases hf
  refine Rt.path ok_Assertions_addPair 23 [] rfl ⟨(ix_40 h1), (ix_1600 h2), (ix_40 h1), (ix_40 h1), trivial⟩ ?_
  exact Rt.retV ok_Assertions_addPair rfl rfl
def b_Reader_keepPairs_26_0 (L : Nat → Int64 → Int → Int64 → Int → G2 → Option (G2)) (l1 : Int64) (i3 : Int) (l4 : Int64) (i6 : Int) (g : G2) : Option (G2) :=
  if ir i3 then
  if ir (rI g 3 3) then
  if i3 < (rI g 3 3) then
    if ((am_ushr l1 i3) &&& (Int64.ofNat 1)) = (Int64.ofNat 0) then
      L 1 l1 i3 (Int64.ofNat 0) (i3 + 1) g
    else
      if 0 ≤ i3 ∧ i3 < 60 then
      L 1 l1 i3 ((rB g 28 i3) &&& l1) (i3 + 1) g
      else none
  else
    some g
  else none
  else none
def b_Reader_keepPairs_26_1 (L : Nat → Int64 → Int → Int64 → Int → G2 → Option (G2)) (l1 : Int64) (i3 : Int) (l4 : Int64) (i6 : Int) (g : G2) : Option (G2) :=
  if ir i6 then
  if ir (rI g 3 3) then
  if i6 < (rI g 3 3) then
    if l4 = (Int64.ofNat 0) then
      L 0 l1 (i3 + 1) 0 0 g
    else
      if ((am_ushr l4 i6) &&& (Int64.ofNat 1)) = (Int64.ofNat 0) then
        L 1 l1 i3 l4 (i6 + 1) g
      else
        bd (f_Context_pairOf i3 i6 g) fun r11 g11 =>
        (f_Assertions_addPair_17 r11 g11).bind fun g12 =>
        L 1 l1 i3 l4 (i6 + 1) g12
  else
    L 0 l1 (i3 + 1) 0 0 g
  else none
  else none
def l_Reader_keepPairs_26 : Nat → Nat → Int64 → Int → Int64 → Int → G2 → Option (G2)
  | 0 => fun _ _ _ _ _ _ => none
  | n + 1 => fun t l1 i3 l4 i6 g => match t with
    | 0 => b_Reader_keepPairs_26_0 (l_Reader_keepPairs_26 n) l1 i3 l4 i6 g
    | _ => b_Reader_keepPairs_26_1 (l_Reader_keepPairs_26 n) l1 i3 l4 i6 g
set_option maxHeartbeats 4000000 in
set_option maxRecDepth 100000 in
theorem rl_Reader_keepPairs_26 (d : Nat) : ∀ (n : Nat) (l1 : Int64) (i3 : Int) (l4 : Int64) (i6 : Int) (g : G2) (g' : G2), (l_Reader_keepPairs_26 n 0 l1 i3 l4 i6 g = some g' → Rt (d + 1) m_Reader_keepPairs 2 [some (vR 26), some (vL l1), none, some (vI i3), none, none, none] [] g none g') ∧ (l_Reader_keepPairs_26 n 1 l1 i3 l4 i6 g = some g' → Rt (d + 1) m_Reader_keepPairs 45 [some (vR 26), some (vL l1), none, some (vI i3), some (vL l4), none, some (vI i6)] [] g none g') := by
  intro n
  induction n with
  | zero => intro l1 i3 l4 i6 g g'; exact ⟨fun hf => (by cases hf), fun hf => (by cases hf)⟩
  | succ n ih =>
    intro l1 i3 l4 i6 g g'
    refine ⟨?_, ?_⟩
    · intro hf
      replace hf : b_Reader_keepPairs_26_0 (l_Reader_keepPairs_26 n) l1 i3 l4 i6 g = some g' := hf
      unfold b_Reader_keepPairs_26_0 at hf
      have h1 : ir i3 := by
        by_cases q : ir i3
        · exact q
        · rw [if_neg q] at hf; cases hf
      rw [if_pos h1] at hf
      have h2 : ir (rI g 3 3) := by
        by_cases q : ir (rI g 3 3)
        · exact q
        · rw [if_neg q] at hf; cases hf
      rw [if_pos h2] at hf
      by_cases h3 : i3 < (rI g 3 3)
      · rw [if_pos h3] at hf
        refine Rt.path ok_Reader_keepPairs 5 [0] rfl ⟨⟨⟨h1, h2⟩, h3⟩, trivial⟩ ?_
        by_cases h4 : ((am_ushr l1 i3) &&& (Int64.ofNat 1)) = (Int64.ofNat 0)
        · rw [if_pos h4] at hf
          refine Rt.path ok_Reader_keepPairs 8 [1] rfl ⟨⟨(am_cmpIn _ _), (am_cmp0.mpr h4)⟩, trivial⟩ ?_
          refine Rt.path ok_Reader_keepPairs 6 [] rfl trivial ?_
          exact Rt.weak ((ih _ _ _ _ _ _).2 hf) ⟨rfl, rfl, rfl, rfl, rfl, trivial⟩
        · rw [if_neg h4] at hf
          refine Rt.path ok_Reader_keepPairs 8 [0] rfl ⟨⟨(am_cmpIn _ _), (fun q => h4 (am_cmp0.mp q))⟩, trivial⟩ ?_
          have h5 : 0 ≤ i3 ∧ i3 < 60 := by
            by_cases q : 0 ≤ i3 ∧ i3 < 60
            · exact q
            · rw [if_neg q] at hf; cases hf
          rw [if_pos h5] at hf
          refine Rt.path ok_Reader_keepPairs 13 [] rfl ⟨(ix_60 h5), trivial⟩ ?_
          exact Rt.weak ((ih _ _ _ _ _ _).2 hf) ⟨rfl, rfl, rfl, rfl, rfl, trivial⟩
      · rw [if_neg h3] at hf
        refine Rt.path ok_Reader_keepPairs 5 [1] rfl ⟨⟨⟨h1, h2⟩, (Int.not_lt.mp h3)⟩, trivial⟩ ?_
        cases hf
        exact Rt.retV ok_Reader_keepPairs rfl rfl
    · intro hf
      replace hf : b_Reader_keepPairs_26_1 (l_Reader_keepPairs_26 n) l1 i3 l4 i6 g = some g' := hf
      unfold b_Reader_keepPairs_26_1 at hf
      have h6 : ir i6 := by
        by_cases q : ir i6
        · exact q
        · rw [if_neg q] at hf; cases hf
      rw [if_pos h6] at hf
      have h7 : ir (rI g 3 3) := by
        by_cases q : ir (rI g 3 3)
        · exact q
        · rw [if_neg q] at hf; cases hf
      rw [if_pos h7] at hf
      by_cases h8 : i6 < (rI g 3 3)
      · rw [if_pos h8] at hf
        refine Rt.path ok_Reader_keepPairs 5 [0] rfl ⟨⟨⟨h6, h7⟩, h8⟩, trivial⟩ ?_
        by_cases h9 : l4 = (Int64.ofNat 0)
        · rw [if_pos h9] at hf
          refine Rt.path ok_Reader_keepPairs 4 [1] rfl ⟨⟨(am_cmpIn _ _), (am_cmp0.mpr h9)⟩, trivial⟩ ?_
          refine Rt.path ok_Reader_keepPairs 2 [] rfl trivial ?_
          exact Rt.weak ((ih _ _ _ _ _ _).1 hf) ⟨rfl, rfl, rfl, trivial⟩
        · rw [if_neg h9] at hf
          refine Rt.path ok_Reader_keepPairs 4 [0] rfl ⟨⟨(am_cmpIn _ _), (fun q => h9 (am_cmp0.mp q))⟩, trivial⟩ ?_
          by_cases h10 : ((am_ushr l4 i6) &&& (Int64.ofNat 1)) = (Int64.ofNat 0)
          · rw [if_pos h10] at hf
            refine Rt.path ok_Reader_keepPairs 8 [1] rfl ⟨⟨(am_cmpIn _ _), (am_cmp0.mpr h10)⟩, trivial⟩ ?_
            refine Rt.path ok_Reader_keepPairs 2 [] rfl trivial ?_
            exact Rt.weak ((ih _ _ _ _ _ _).2 hf) ⟨rfl, rfl, rfl, rfl, rfl, trivial⟩
          · rw [if_neg h10] at hf
            refine Rt.path ok_Reader_keepPairs 8 [0] rfl ⟨⟨(am_cmpIn _ _), (fun q => h10 (am_cmp0.mp q))⟩, trivial⟩ ?_
            obtain ⟨r11, g11, e11, hf⟩ := bd_inv hf
            refine Rt.path ok_Reader_keepPairs 4 [] rfl trivial ?_
            refine Rt.callS ok_Reader_keepPairs rfl ml_Reader_245 [vI _, vI _] cf_Context_pairOf (c_Context_pairOf d _ _ _ _ _ e11) (Nat.le_of_ble_eq_true rfl) ?_
            obtain ⟨g12, e12, hf⟩ := Option.bind_eq_some_iff.mp hf
            refine Rt.callV ok_Reader_keepPairs rfl ml_Reader_249 [vI _] cf_Assertions_addPair rfl rfl (c_Assertions_addPair_17 d _ _ _ e12) (Nat.le_of_ble_eq_true rfl) ?_
            refine Rt.path ok_Reader_keepPairs 2 [] rfl trivial ?_
            exact Rt.weak ((ih _ _ _ _ _ _).2 hf) ⟨rfl, rfl, rfl, rfl, rfl, trivial⟩
      · rw [if_neg h8] at hf
        refine Rt.path ok_Reader_keepPairs 5 [1] rfl ⟨⟨⟨h6, h7⟩, (Int.not_lt.mp h8)⟩, trivial⟩ ?_
        refine Rt.path ok_Reader_keepPairs 2 [] rfl trivial ?_
        exact Rt.weak ((ih _ _ _ _ _ _).1 hf) ⟨rfl, rfl, rfl, trivial⟩
def f_Reader_keepPairs_26 (a1 : Int64) (g : G2) : Option (G2) :=
  l_Reader_keepPairs_26 20000 0 a1 0 0 0 g
set_option maxHeartbeats 4000000 in
set_option maxRecDepth 100000 in
theorem c_Reader_keepPairs_26 (d : Nat) (a1 : Int64) (g : G2) (g' : G2) (hf : f_Reader_keepPairs_26 a1 g = some g') : C2 (d + 1) m_Reader_keepPairs [vR 26, vL a1] g none g' := by
  unfold f_Reader_keepPairs_26 at hf
  refine C2.of rfl rfl rfl (Nat.le_of_ble_eq_true rfl) ?_
  refine Rt.path ok_Reader_keepPairs 2 [] rfl trivial ?_
  exact Rt.weak ((rl_Reader_keepPairs_26 d _ _ _ _ _ _ _).1 hf) ⟨rfl, rfl, rfl, trivial⟩
